/-! PURE 35: pieces stand one behind the other -/
def srt (T : List (Nat × Nat × Nat × Bool)) (k : Nat) : Prop := T.Pairwise (fun x y => x.2.2.2 = false → y.2.2.2 = false → x.2.1 ≤ y.1) ∧ (∀ x ∈ T, x.2.2.2 = false → x.2.1 ≤ k) ∧ okT T
theorem srt_le {T : List (Nat × Nat × Nat × Bool)} {k m : Nat} (h : srt T k) (hk : k ≤ m) : srt T m := ⟨h.1, fun x hx hf => Nat.le_trans (h.2.1 x hx hf) hk, h.2.2⟩
theorem srt_piece {T : List (Nat × Nat × Nat × Bool)} {k s P : Nat} (h : srt T k) (hs : k < s) (h15 : s ≤ 1500) : srt (T ++ [(k, s, P, false)]) s := by
  refine ⟨List.pairwise_append.mpr ⟨h.1, List.pairwise_singleton _ _, fun x hx y hy hf _ => ?_⟩, fun x hx hf => ?_, okT_snoc h.2.2 hs h15⟩
  · rw [List.mem_singleton] at hy; subst hy
    exact h.2.1 x hx hf
  · rcases List.mem_append.mp hx with q | q
    · exact Nat.le_trans (h.2.1 x q hf) (by omega)
    · rw [List.mem_singleton] at q; subst q; exact Nat.le_refl _
theorem srt_addr {T : List (Nat × Nat × Nat × Bool)} {k b e P : Nat} (h : srt T k) (hs : b < e) (h15 : e ≤ 1500) : srt (T ++ [(b, e, P, true)]) k := by
  refine ⟨List.pairwise_append.mpr ⟨h.1, List.pairwise_singleton _ _, fun x hx y hy _ hf => ?_⟩, fun x hx hf => ?_, okT_snoc h.2.2 hs h15⟩
  · rw [List.mem_singleton] at hy; subst hy; cases hf
  · rcases List.mem_append.mp hx with q | q
    · exact h.2.1 x q hf
    · rw [List.mem_singleton] at q; subst q; cases hf
theorem srt_row {t : Nat → Int32} {b e : Nat} (he : e ≤ 1500) (hb : b < e) : ∀ (g k : Nat) (T : List (Nat × Nat × Nat × Bool)) (P : Nat), e - k ≤ g → RS t e k → srt T k → srt (rowT t b e k T P).1 e := by
  intro g
  induction g with
  | zero => intro k T P hg hR _; exact absurd hR.1 (by omega)
  | succ g ih =>
    intro k T P hg hR hS
    obtain ⟨s1, s2, s3, s4⟩ := RS_step hR
    rw [rowT_lt hR.1]
    have h1 : srt (T ++ newT t b e k P) (pieceEnd t e k) := by
      rw [newT]
      split
      · have := srt_addr (b := b) (e := e) (P := P) (srt_piece (P := P) hS s1 (by omega)) hb he
        rw [List.append_assoc] at this
        exact this
      · exact srt_piece hS s1 (by omega)
    rcases s4 with q | ⟨q1, q2, q3⟩
    · rw [rowT_ge (by omega)]; rw [q] at h1; exact h1
    · exact ih _ _ _ (by omega) q3 (srt_le h1 (by omega))
theorem srt_cut {t : Nat → Int32} {e : Nat} (he : e ≤ 1500) : ∀ (g k : Nat) (T : List (Nat × Nat × Nat × Bool)) (P : Nat), e - k ≤ g → k ≤ e → srt T k → srt (cutR t e k T P).1 e := by
  intro g
  induction g with
  | zero => intro k T P hg hk hS; rw [cutR_stop (by omega)]; exact srt_le hS hk
  | succ g ih =>
    intro k T P hg hk hS
    by_cases q : k < e ∧ P < 300
    · by_cases w : cWord (t k) = true
      · obtain ⟨r1, r2, r3, r4, r5⟩ := RS_of (t := t) q.1 w
        rw [cutR_w q.1 q.2 w]
        exact ih _ _ _ (by omega) r3 (srt_row (by omega) r2 _ _ _ _ (Nat.le_refl _) r1 hS)
      · have w : cWord (t k) = false := by simpa using w
        rw [cutR_n q.1 w]
        exact ih _ _ _ (by omega) (by omega) (srt_le hS (by omega))
    · rw [cutR_stop q]; exact srt_le hS hk
theorem srt_lines {t : Nat → Int32} {n L : Nat} {pl : Bool} (hn : n ≤ 1500) (hc : cntL t n L) : ∀ i, i ≤ L → srt (linesS t n pl i).1 (bO t n i) := by
  intro i
  induction i with
  | zero => intro _; exact ⟨List.Pairwise.nil, fun x hx => absurd hx List.not_mem_nil, fun x hx => absurd hx List.not_mem_nil⟩
  | succ i ih =>
    intro hi
    obtain ⟨l1, l2, l3, l4⟩ := bO_line (t := t) i (hc.2 i (by omega))
    have I := ih (by omega)
    rw [linesS]
    show srt _ (eO t n i + 1)
    split
    · exact srt_le (srt_cut (by omega) _ _ _ _ (Nat.le_refl _) l1 I) (by omega)
    · exact srt_le I (by omega)
theorem pw_get {α : Type} {d : α} {R : α → α → Prop} : ∀ {l : List α}, l.Pairwise R → ∀ i j, i < j → j < l.length → R (l.getD i d) (l.getD j d) := by
  intro l h i j hij hj
  rw [List.getD_eq_getElem?_getD, List.getElem?_eq_getElem (by omega : i < l.length), List.getD_eq_getElem?_getD, List.getElem?_eq_getElem hj]
  exact List.pairwise_iff_getElem.mp h i j _ _ hij
/-- of two pieces the later one begins behind the earlier one's letters -/
def sepD (D : List (Nat × Nat × Bool × List Int32 × List Int32)) : Prop := ∀ i j, i < j → j < D.length → (D.getD i entD).2.2.1 = false → (D.getD j entD).2.2.1 = false → (D.getD i entD).1 + (D.getD i entD).2.2.2.1.length ≤ (D.getD j entD).1
theorem srt_sep {t : Nat → Int32} {T : List (Nat × Nat × Nat × Bool)} {k : Nat} (h : srt T k) : sepD (T.map (ent t)) := by
  intro i j hij hj
  rw [List.length_map] at hj
  rw [gD_map (d := tokD) (show i < T.length by omega), gD_map (d := tokD) hj]
  intro a1 a2
  have h1 := pw_get (d := tokD) h.1 i j hij hj a1 a2
  have h2 := (h.2.2 _ (gD_mem (d := tokD) (show i < T.length by omega))).1
  have h3 := wrd_len t (T.getD i tokD)
  show (T.getD i tokD).1 + (wrd t (T.getD i tokD)).length ≤ (T.getD j tokD).1
  omega
