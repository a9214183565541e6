/-! PURE 22: the reference's first(); step 5 of both sides -/
theorem step1a_le (w : List Int32) : (step1a w).length ≤ w.length := by
  rw [step1a]; repeat' split
  all_goals first | exact Nat.le_refl _ | (rw [List.length_take]; omega)
theorem km_1a {post : Int32 → (Nat → Int32) → Prop} {f : Nat → Int32} {w : List Int32} (hw : w.length ≤ 30) (hf : rW f w) (h : ∀ f', rW f' (step1a w) → wjX8_first_63 post (nI (step1a w).length) f') : wpX8_first post (nI w.length) f := by
  have two : (sfx w eSSES || sfx w eIES) = true → wjX8_first_20 post (nI w.length) f := by
    intro z
    have hl : 2 ≤ w.length := by
      rcases Bool.or_eq_true _ _ |>.mp z with y | y
      · have := sfx_len y; simp [eSSES] at this; omega
      · have := sfx_len y; simp [eIES] at this; omega
    rw [step1a, if_pos z, take_len (by omega)] at h
    intro m em
    rw [em, nI_m2 hl]
    exact h f (rW_take hf)
  refine km_has (bs := eSSES) hw hf (by decide +kernel) (b_if (fun z => two (by rw [z]; rfl)) (fun z => km_has (bs := eIES) hw hf (by decide +kernel) (b_ifz (fun z2 => km_has (bs := eSS) hw hf (by decide +kernel) (b_if (fun z4 => ?_) (fun z4 => km_has (bs := eS) hw hf (by decide +kernel) (b_ifz (fun z3 => ?_) (fun z3 m em => ?_))))) (fun z2 => two (by rw [z2, Bool.or_true])))))
  · rw [step1a, if_neg (by rw [z, z2]; decide), if_neg (by rw [z4]; simp)] at h; exact h f hf
  · rw [step1a, if_neg (by rw [z, z2]; decide), if_neg (by rw [z3]; simp)] at h; exact h f hf
  · have hl : 1 ≤ w.length := by have := sfx_len z3; simp [eS] at this; omega
    rw [step1a, if_neg (by rw [z, z2]; decide), if_pos (by rw [z3, z4]; rfl), take_len (by omega)] at h
    rw [em, nI_m1 hl]
    exact h f (rW_take hf)
theorem mendF_le (w : List Int32) : (mendF w).length ≤ w.length + 1 := by
  rw [mendF]; repeat' split
  all_goals first | (rw [List.length_append]; exact Nat.le_refl _) | omega | (rw [List.length_take]; omega)
theorem step1b_le (w : List Int32) : (step1b w).length ≤ w.length := by
  rw [step1b]
  by_cases a : sfx w eEED = true
  · rw [if_pos a]; exact tryF_le a (by decide)
  · rw [if_neg a]
    by_cases b : sfx w eED = true
    · have hl : 2 ≤ w.length := by have := sfx_len b; simp [eED] at this; omega
      rw [if_pos b]
      split
      · have := mendF_le (w.take (w.length - 2)); rw [take_len (by omega)] at this; omega
      · exact Nat.le_refl _
    · rw [if_neg b]
      by_cases c : sfx w eING = true
      · have hl : 3 ≤ w.length := by have := sfx_len c; simp [eING] at this; omega
        rw [if_pos c]
        split
        · have := mendF_le (w.take (w.length - 3)); rw [take_len (by omega)] at this; omega
        · exact Nat.le_refl _
      · rw [if_neg c]; exact Nat.le_refl _
theorem step1c_le (w : List Int32) : (step1c w).length ≤ w.length := by
  rw [step1c]
  split
  · rename_i h
    have hl : 1 ≤ w.length := by have := sfx_len (Bool.and_eq_true _ _ |>.mp h).1; simp [eY] at this; omega
    rw [List.length_append, take_len (by omega)]
    show w.length - 1 + 1 ≤ w.length
    omega
  · exact Nat.le_refl _
theorem km_first {post : Int32 → (Nat → Int32) → Prop} {f : Nat → Int32} {w : List Int32} (hw : w.length ≤ 30) (hf : rW f w) (h : ∀ f', rW f' (step1c (step1b (step1a w))) → post (nI (step1c (step1b (step1a w))).length) f') : wpX8_first post (nI w.length) f := by
  have l1 := step1a_le w
  have l2 := step1b_le (step1a w)
  exact km_1a hw hf (fun f1 h1 => km_1b (by omega) h1 (fun f2 h2 => km_1c (by omega) h2 h))
def eE : List Int32 := [101]
def eLL : List Int32 := [108, 108]
theorem sB_71 : sB 71 = eE := by decide
theorem sB_103 : sB 103 = eLL := by decide
def step5a (w : List Int32) : List Int32 := if sfx w eE = true ∧ (1 < meas w (w.length - 1) ∨ (meas w (w.length - 1) = 1 ∧ cvcL w (w.length - 1) = false)) then w.take (w.length - 1) else w
def step5b (w : List Int32) : List Int32 := if sfx w eLL = true ∧ 1 < meas w (w.length - 1) then w.take (w.length - 1) else w
theorem meas_le {w : List Int32} {n : Nat} (h : n ≤ 30) : meas w n ≤ 30 := by have := mL_le w n n 1; rw [meas]; omega
theorem km_5b {post : Int32 → Prop} {f : Nat → Int32} {w : List Int32} (hw : w.length ≤ 30) (hf : rW f w) (h : post (nI (step5b w).length)) : wjX8_fifth_54 post f (nI w.length) := by
  refine km_has (bs := eLL) hw hf (by decide +kernel) (b_ifz (fun z => ?_) (fun z => ?_))
  · rw [step5b, if_neg (fun c => by rw [z] at c; cases c.1)] at h; exact h
  · have hl : 2 ≤ w.length := by have := sfx_len z; simp [eLL] at this; omega
    rw [nI_m1 (by omega)]
    refine km_meas hw (by omega) hf ?_
    have hm := meas_le (w := w) (n := w.length - 1) (by omega)
    rw [show (nI (meas w (w.length - 1)) ≤ (1 : Int32)) = (meas w (w.length - 1) ≤ 1) from propext (nI_leI (b := 1) (by omega) (by decide))]
    refine ⟨fun q => ?_, fun q m em => ?_⟩
    · rw [step5b, if_neg (fun c => by omega)] at h; exact h
    · rw [step5b, if_pos ⟨z, by omega⟩, take_len (by omega)] at h
      rw [em]; exact h
theorem km_fifth {post : Int32 → Prop} {f : Nat → Int32} {w : List Int32} (hw : w.length ≤ 30) (hf : rW f w) (h : post (nI (step5b (step5a w)).length)) : wpX8_fifth post (nI w.length) f := by
  have stay : step5a w = w → wjX8_fifth_54 post f (nI w.length) := fun e => by
    rw [e] at h; exact km_5b hw hf h
  refine km_has (bs := eE) hw hf (by decide +kernel) (b_ifz (fun z => stay (by rw [step5a, if_neg (fun c => by rw [z] at c; cases c.1)])) (fun z => ?_))
  have hl : 1 ≤ w.length := by have := sfx_len z; simp [eE] at this; omega
  have go : step5a w = w.take (w.length - 1) → wjX8_fifth_44 post f (nI w.length) := fun e m em => by
    rw [e] at h
    have := km_5b (w := w.take (w.length - 1)) (by rw [take_len (by omega)]; omega) (rW_take hf) h
    rw [take_len (by omega)] at this
    rw [em, nI_m1 hl]; exact this
  rw [nI_m1 hl]
  refine km_meas hw (by omega) hf ?_
  have hm := meas_le (w := w) (n := w.length - 1) (by omega)
  rw [show ((1 : Int32) < nI (meas w (w.length - 1))) = (1 < meas w (w.length - 1)) from propext (nI_ltI (a := 1) (by decide) (by omega)), show (nI (meas w (w.length - 1)) = (1 : Int32)) = (meas w (w.length - 1) = 1) from propext (nI_eq (b := 1) (by omega) (by decide))]
  refine ⟨fun q => go (by rw [step5a, if_pos ⟨z, Or.inl q⟩]), fun q => ⟨fun q2 => stay (by rw [step5a, if_neg (fun c => by rcases c.2 with y | y; exact q y; exact q2 y.1)]), fun q2 => km_cvc hw (by omega) hf (b_if (fun y => stay (by rw [step5a, if_neg (fun c => by rcases c.2 with u | u; exact q u; rw [y] at u; cases u.2)])) (fun y => go (by rw [step5a, if_pos ⟨z, Or.inr ⟨q2, y⟩⟩])))⟩⟩
