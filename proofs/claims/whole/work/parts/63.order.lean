/-! PURE 24: the order in which endings are tried doesn't matter, if none stands ahead of one that it ends -/
def okB : List (List Int32 × List Int32) → Bool
  | [] => true
  | p :: l => l.all (fun q => !sfx q.1 p.1) && okB l
theorem first_spec {a : Nat} {w : List Int32} : ∀ l : List (List Int32 × List Int32), okB l = true → (firstF a l w = w ∧ ∀ q ∈ l, sfx w q.1 = false) ∨ ∃ p ∈ l, sfx w p.1 = true ∧ firstF a l w = tryF w p.1 p.2 a ∧ ∀ q ∈ l, sfx w q.1 = true → q = p ∨ q.1.length < p.1.length := by
  intro l
  induction l with
  | nil => intro _; exact Or.inl ⟨rfl, fun q h => absurd h List.not_mem_nil⟩
  | cons p l ih =>
    intro ho
    rw [okB, Bool.and_eq_true, List.all_eq_true] at ho
    obtain ⟨e, r⟩ := p
    rw [firstF]
    by_cases z : sfx w e = true
    · refine Or.inr ⟨(e, r), List.mem_cons_self, z, by rw [if_pos z], fun q hq hs => ?_⟩
      rcases List.mem_cons.mp hq with y | y
      · exact Or.inl y
      · right
        rcases Nat.lt_or_ge q.1.length e.length with u | u
        · exact u
        · have := ho.1 q y
          rw [sfx_two z hs u] at this
          cases this
    · rw [if_neg z]
      rcases ih ho.2 with ⟨h1, h2⟩ | ⟨p, h1, h2, h3, h4⟩
      · exact Or.inl ⟨h1, fun q hq => by
          rcases List.mem_cons.mp hq with y | y
          · rw [y]; simpa using z
          · exact h2 q y⟩
      · exact Or.inr ⟨p, List.mem_cons_of_mem _ h1, h2, h3, fun q hq hs => by
          rcases List.mem_cons.mp hq with y | y
          · rw [y] at hs; exact absurd hs z
          · exact h4 q y hs⟩
theorem first_perm {a : Nat} {w : List Int32} {l m : List (List Int32 × List Int32)} (hl : okB l = true) (hm : okB m = true) (h1 : ∀ q ∈ l, q ∈ m) (h2 : ∀ q ∈ m, q ∈ l) : firstF a l w = firstF a m w := by
  rcases first_spec (a := a) (w := w) l hl with ⟨a1, a2⟩ | ⟨p, a1, a2, a3, a4⟩
  · rcases first_spec (a := a) (w := w) m hm with ⟨b1, b2⟩ | ⟨q, b1, b2, b3, b4⟩
    · rw [a1, b1]
    · have := a2 q (h2 q b1); rw [b2] at this; cases this
  · rcases first_spec (a := a) (w := w) m hm with ⟨b1, b2⟩ | ⟨q, b1, b2, b3, b4⟩
    · have := b2 p (h1 p a1); rw [a2] at this; cases this
    · rcases a4 q (h2 q b1) b2 with y | y
      · rw [a3, b3, y]
      · rcases b4 p (h1 p a1) a2 with u | u
        · rw [a3, b3, u]
        · omega
