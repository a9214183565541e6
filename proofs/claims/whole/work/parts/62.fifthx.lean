/-! PURE 23: step 5 of the class -/
theorem kx_5b {post : Int32 → (Nat → Int32) → (Nat → Int32) → Prop} {f v : Nat → Int32} {w : List Int32} (hw : w.length ≤ 30) (hf : rW f w) (hv : rV v w) (h : ∀ f' v', rW f' (step5b w) → rV v' (step5b w) → post (nI (step5b w).length) f' v') : wjX4_fifthStep_49 post (nI w.length) f v := by
  refine kx_ends (by decide) hw hf ?_
  rw [sB_103]
  refine b_ifz (fun z => ?_) (fun z => ?_)
  · rw [step5b, if_neg (fun c => by rw [z] at c; cases c.1)] at h; exact h f v hf hv
  · have hl : 2 ≤ w.length := by have := sfx_len z; simp [eLL] at this; omega
    rw [nI_m1 (by omega)]
    refine kx_meas hw (by omega) hv ?_
    have hm := meas_le (w := w) (n := w.length - 1) (by omega)
    rw [show (nI (meas w (w.length - 1)) ≤ (1 : Int32)) = (meas w (w.length - 1) ≤ 1) from propext (nI_leI (b := 1) (by omega) (by decide))]
    refine ⟨fun q => ?_, fun q => ?_⟩
    · rw [step5b, if_neg (fun c => by omega)] at h; exact h f v hf hv
    · rw [step5b, if_pos ⟨z, by omega⟩, take_len (by omega)] at h
      exact kx_cutTo hw (by omega) hf hv h
theorem kx_fifth {post : Int32 → (Nat → Int32) → (Nat → Int32) → Prop} {f v : Nat → Int32} {w : List Int32} (hw : w.length ≤ 30) (hf : rW f w) (hv : rV v w) (h : ∀ f' v', rW f' (step5b (step5a w)) → rV v' (step5b (step5a w)) → post (nI (step5b (step5a w)).length) f' v') : wpX4_fifthStep post (nI w.length) f v := by
  have stay : step5a w = w → wjX4_fifthStep_49 post (nI w.length) f v := fun e => by
    rw [e] at h; exact kx_5b hw hf hv h
  intro x ex
  refine kx_ends (by decide) hw hf ?_
  rw [sB_71]
  refine b_ifz (fun z => stay (by rw [step5a, if_neg (fun c => by rw [z] at c; cases c.1)])) (fun z => ?_)
  have hl : 1 ≤ w.length := by have := sfx_len z; simp [eE] at this; omega
  rw [nI_m1 hl] at ex
  subst ex
  have go : step5a w = w.take (w.length - 1) → wjX4_fifthStep_42 post (nI w.length) f v (nI (w.length - 1)) := fun e => by
    rw [e] at h
    refine kx_cutTo hw (by omega) hf hv (fun f' v' h1 h2 => ?_)
    have := kx_5b (w := w.take (w.length - 1)) (by rw [take_len (by omega)]; omega) h1 h2 h
    rw [take_len (by omega)] at this
    exact this
  refine kx_meas hw (by omega) hv ?_
  have hm := meas_le (w := w) (n := w.length - 1) (by omega)
  rw [show ((1 : Int32) < nI (meas w (w.length - 1))) = (1 < meas w (w.length - 1)) from propext (nI_ltI (a := 1) (by decide) (by omega))]
  refine ⟨fun q => go (by rw [step5a, if_pos ⟨z, Or.inl q⟩]), fun q => kx_meas hw (by omega) hv ?_⟩
  rw [show (nI (meas w (w.length - 1)) = (1 : Int32)) = (meas w (w.length - 1) = 1) from propext (nI_eq (b := 1) (by omega) (by decide))]
  refine ⟨fun q2 => stay (by rw [step5a, if_neg (fun c => by rcases c.2 with y | y; exact q y; exact q2 y.1)]), fun q2 => kx_cvc hw (by omega) hf hv (b_if (fun y => stay (by rw [step5a, if_neg (fun c => by rcases c.2 with u | u; exact q u; rw [y] at u; cases u.2)])) (fun y => go (by rw [step5a, if_pos ⟨z, Or.inr ⟨q2, y⟩⟩])))⟩
/-- the endings of a step, with what they turn into: the first that the word has counts -/
def firstF (a : Nat) : List (List Int32 × List Int32) → List Int32 → List Int32
  | [], w => w
  | (e, r) :: l, w => if sfx w e = true then tryF w e r a else firstF a l w
theorem firstF_le {a : Nat} : ∀ (l : List (List Int32 × List Int32)) (w : List Int32), (∀ q ∈ l, q.2.length ≤ q.1.length) → (firstF a l w).length ≤ w.length := by
  intro l
  induction l with
  | nil => intro w _; exact Nat.le_refl _
  | cons q l ih =>
    intro w h
    obtain ⟨e, r⟩ := q
    rw [firstF]
    by_cases z : sfx w e = true
    · rw [if_pos z]; exact tryF_le z (h (e, r) List.mem_cons_self)
    · rw [if_neg z]; exact ih w (fun q hq => h q (List.mem_cons_of_mem _ hq))
/-- a word that has two endings: the shorter one is the end of the longer one -/
theorem sfx_two {w d e : List Int32} (h1 : sfx w d = true) (h2 : sfx w e = true) (hl : d.length ≤ e.length) : sfx e d = true := by
  have a := of_decide_eq_true h1
  have b := of_decide_eq_true h2
  refine decide_eq_true ⟨hl, fun k hk => ?_⟩
  have q1 := a.2 k hk
  have q2 := b.2 (e.length - d.length + k) (by omega)
  rw [show w.length - e.length + (e.length - d.length + k) = w.length - d.length + k by have := b.1; omega] at q2
  rw [← q2, q1]
