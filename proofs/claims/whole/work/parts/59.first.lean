/-! PURE 20: step 1b of the class; the reference's first three steps -/
theorem kx_1b {post : Int32 → (Nat → Int32) → (Nat → Int32) → Prop} {f v : Nat → Int32} {w : List Int32} (hw : w.length ≤ 30) (hf : rW f w) (hv : rV v w) (h : ∀ f' v', rW f' (step1b w) → rV v' (step1b w) → post (nI (step1b w).length) f' v') : wpX4_endOfPast post (nI w.length) f v := by
  refine kx_tries (i := 43) (j := 44) (a := 0) (by decide) (by decide) (by omega) hw (by decide) hf hv (fun z => ⟨fun _ => kx_ends (by decide) hw hf ?_, fun q => absurd rfl q⟩) (fun z f' v' h1 h2 => ⟨fun q => absurd q (by decide), fun _ => ?_⟩)
  · rw [sB_43] at z
    rw [step1b, if_neg (by rw [z]; decide)] at h
    rw [sB_45]
    refine b_ifz (fun z2 => kx_ends (by decide) hw hf ?_) (fun z2 => ?_)
    · rw [if_neg (by rw [z2]; decide)] at h
      rw [sB_46]
      refine b_ifz (fun z3 => ?_) (fun z3 => ?_)
      · rw [if_neg (by rw [z3]; decide)] at h
        exact ⟨1, ⟨fun _ => ⟨fun q => absurd rfl q, fun _ => h f v hf hv⟩, fun q => absurd (by decide) q⟩⟩
      · have hl : 3 ≤ w.length := by have := sfx_len z3; simp [eING] at this; omega
        rw [if_pos z3] at h
        rw [nI_m3 hl]
        refine kx_past hw (by omega) hf hv (fun y => ?_) (fun y => ?_)
        · rw [if_pos y] at h; exact h
        · rw [if_neg (by rw [y]; decide)] at h; exact h f v hf hv
    · have hl : 2 ≤ w.length := by have := sfx_len z2; simp [eED] at this; omega
      rw [if_pos z2] at h
      rw [nI_m2 hl]
      refine kx_past hw (by omega) hf hv (fun y => ?_) (fun y => ?_)
      · rw [if_pos y] at h; exact h
      · rw [if_neg (by rw [y]; decide)] at h; exact h f v hf hv
  · rw [sB_43, sB_44] at h1 h2 ⊢
    rw [sB_43] at z
    rw [step1b, if_pos z] at h
    exact h f' v' h1 h2
theorem km_addE {post : Int32 → (Nat → Int32) → Prop} {f : Nat → Int32} {w : List Int32} (hw : w.length < 30) (hf : rW f w) (h : ∀ f', rW f' (w ++ [101]) → post (nI (w ++ [101]).length) f') : wpX8_append post (nI w.length) f 101 :=
  km_append (bs := [101]) (by show w.length + 1 ≤ 30; omega) (by decide +kernel) hf (fun f' h1 => by
    have := h f' h1
    rw [List.length_append] at this
    exact this)
theorem rW_take {f : Nat → Int32} {w : List Int32} {a : Nat} (hf : rW f w) : rW f (w.take a) := fun k hk => by
  rw [List.length_take] at hk
  rw [getD_take (by omega)]; exact hf k (by omega)
theorem sfx_1 {u : List Int32} {c : Int32} (h : 1 ≤ u.length) : sfx u [c] = decide (u.getD (u.length - 1) 0 = c) := by
  rw [sfx]
  by_cases q : u.getD (u.length - 1) 0 = c
  · rw [decide_eq_true q, decide_eq_true]
    refine ⟨h, fun k hk => ?_⟩
    rw [show k = 0 by simpa using hk]; exact q
  · rw [decide_eq_false q, decide_eq_false]
    exact fun z => q (z.2 0 (Nat.zero_lt_one))
theorem km_mend {post : Int32 → (Nat → Int32) → Prop} {f : Nat → Int32} {u : List Int32} (hl : u.length < 30) (h0 : 1 ≤ u.length) (hf : rW f u) (h : ∀ f', rW f' (mendF u) → post (nI (mendF u).length) f') : wpX8_mend post (nI u.length) f := by
  have hl30 : u.length ≤ 30 := by omega
  unfold wpX8_mend
  rw [nI_m1 h0, nI_clamp (by omega), hf _ (by omega)]
  refine ⟨vp_in_nI (by omega) (by omega), fun c ec => ?_⟩
  subst ec
  have addE : (sfx u eAT || sfx u eBL || sfx u eIZ) = true → wjX8_mend_42 post (nI u.length) f := by
    intro y
    rw [mendF, if_pos y] at h
    exact km_addE hl hf h
  refine km_has (bs := eAT) hl30 hf (by decide +kernel) (b_if (fun y1 => addE (by rw [y1]; rfl)) (fun y1 => km_has (bs := eBL) hl30 hf (by decide +kernel) (b_if (fun y2 => addE (by rw [y2]; simp)) (fun y2 => km_has (bs := eIZ) hl30 hf (by decide +kernel) (b_ifz (fun y3 => ?_) (fun y3 => addE (by rw [y3]; simp)))))))
  rw [mendF, if_neg (by rw [y1, y2, y3]; decide)] at h
  have e119 : twoL u = false → wjX8_mend_119 post (nI u.length) f := by
    intro y4
    rw [if_neg (by rw [y4]; decide)] at h
    refine km_meas hl30 (Nat.le_refl _) hf ?_
    have hm : meas u u.length ≤ 30 := by have := mL_le u u.length u.length 1; rw [meas]; omega
    rw [show (nI (meas u u.length) = (1 : Int32)) = (meas u u.length = 1) from propext (nI_eq (b := 1) (by omega) (by decide))]
    refine ⟨fun q => ?_, fun q => km_cvc hl30 (Nat.le_refl _) hf (b_ifz (fun y5 => ?_) (fun y5 => ?_))⟩
    · rw [if_neg (fun c => q c.1)] at h; exact h f hf
    · rw [if_neg (fun c => by rw [y5] at c; cases c.2)] at h; exact h f hf
    · rw [if_pos ⟨q, y5⟩] at h
      exact km_addE hl hf h
  rw [show (nI u.length ≤ (1 : Int32)) = (u.length ≤ 1) from propext (nI_leI (b := 1) (by omega) (by decide))]
  refine ⟨fun q => e119 (by rw [twoL, decide_eq_false (by omega)]; rfl), fun q => ?_⟩
  rw [nI_m2 (by omega), nI_clamp (by omega), hf _ (by omega)]
  refine ⟨vp_in_nI (by omega) (by omega), fun q2 => e119 (by rw [twoL, decide_eq_false (fun c => q2 c.2)]; rfl), fun q2 => km_isVowel hl30 (by omega) hf (b_if (fun y5 => e119 (by rw [twoL, y5]; simp)) (fun y5 => ?_))⟩
  have y4 : twoL u = true := by rw [twoL, y5, decide_eq_true ⟨by omega, q2⟩]; rfl
  rw [if_pos y4] at h
  have e1 := sfx_1 (u := u) (c := 108) h0
  have e2 := sfx_1 (u := u) (c := 115) h0
  have e3 := sfx_1 (u := u) (c := 122) h0
  have keep : (sfx u eL || sfx u eS || sfx u eZ) = true → post (nI u.length) f := fun y => by
    rw [if_pos y] at h; exact h f hf
  refine ⟨fun c1 => keep (by rw [show sfx u eL = true from by rw [show eL = [108] from rfl, e1]; exact decide_eq_true c1]; rfl), fun c1 => ⟨fun c2 => keep (by rw [show sfx u eS = true from by rw [show eS = [115] from rfl, e2]; exact decide_eq_true c2]; simp), fun c2 => ⟨fun c3 => keep (by rw [show sfx u eZ = true from by rw [show eZ = [122] from rfl, e3]; exact decide_eq_true c3]; simp), fun c3 m em => ?_⟩⟩⟩
  rw [if_neg (by
    rw [show sfx u eL = false from by rw [show eL = [108] from rfl, e1]; exact decide_eq_false c1, show sfx u eS = false from by rw [show eS = [115] from rfl, e2]; exact decide_eq_false c2, show sfx u eZ = false from by rw [show eZ = [122] from rfl, e3]; exact decide_eq_false c3]
    decide), take_len (by omega)] at h
  rw [em]
  exact h f (rW_take hf)
