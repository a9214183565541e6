/-! PURE 17: consonant, vowel, consonant; two alike -/
theorem nI_m1 {k : Nat} (h : 1 ≤ k) : nI k - 1 = nI (k - 1) := pk_sub (b := 1) h
theorem nI_m2 {k : Nat} (h : 2 ≤ k) : nI k - 2 = nI (k - 2) := pk_sub (b := 2) h
theorem nI_m3 {k : Nat} (h : 3 ≤ k) : nI k - 3 = nI (k - 3) := pk_sub (b := 3) h
theorem kx_cvc {post : Int32 → Prop} {f v : Nat → Int32} {w : List Int32} {n : Nat} (hw : w.length ≤ 30) (hn : n ≤ w.length) (hf : rW f w) (hv : rV v w) (h : post (b2i (cvcL w n))) : wpX4_isCvc post (nI w.length) f v (nI n) := by
  intro x ex
  rw [show (nI n < (3 : Int32)) = (n < 3) from propext (nI_ltI (b := 3) (by omega) (by decide))]
  refine ⟨fun q => ?_, fun q => ?_⟩
  · rw [cvcL, decide_eq_false (by omega)] at h; exact h
  · rw [nI_m1 (by omega)] at ex
    subst ex
    rw [nI_m2 (by omega), nI_m1 (show 1 ≤ n - 1 by omega), show n - 1 - 2 = n - 3 by omega, show n - 1 - 1 = n - 2 by omega]
    rw [cvcL, decide_eq_true (show 3 ≤ n by omega), Bool.true_and] at h
    refine kx_isVowel hw (by omega) hv (b_if (fun z => ?_) (fun z => kx_isVowel hw (by omega) hv (b_ifz (fun z2 => ?_) (fun z2 => kx_isVowel hw (by omega) hv (b_if (fun z3 => ?_) (fun z3 => kx_isLetter4 hw (by omega) hf (b_if (fun y => ?_) (fun y => kx_isLetter4 hw (by omega) hf (b_if (fun y2 => ?_) (fun y2 => kx_isLetter4 hw (by omega) hf (b_if (fun y3 => ?_) (fun y3 => ?_)))))))))))) 
    · rw [z] at h; exact h
    · rw [z, z2] at h; exact h
    · rw [z, z2, z3] at h; exact h
    · rw [z, z2, z3, decide_eq_true (Or.inl (of_decide_eq_true y))] at h; exact h
    · rw [z, z2, z3, decide_eq_true (Or.inr (Or.inl (of_decide_eq_true y2)))] at h; exact h
    · rw [z, z2, z3, decide_eq_true (Or.inr (Or.inr (of_decide_eq_true y3)))] at h; exact h
    · rw [z, z2, z3, decide_eq_false (fun u => by
        rcases u with u | u | u
        · exact of_decide_eq_false y u
        · exact of_decide_eq_false y2 u
        · exact of_decide_eq_false y3 u)] at h; exact h
theorem km_cvc {post : Int32 → Prop} {f : Nat → Int32} {w : List Int32} {n : Nat} (hw : w.length ≤ 30) (hn : n ≤ w.length) (hf : rW f w) (h : post (b2i (cvcL w n))) : wpX8_cvc post f (nI n) := by
  unfold wpX8_cvc
  rw [show (nI n < (3 : Int32)) = (n < 3) from propext (nI_ltI (b := 3) (by omega) (by decide))]
  refine ⟨fun q => ?_, fun q => ?_⟩
  · rw [cvcL, decide_eq_false (by omega)] at h; exact h
  · rw [nI_m1 (by omega), nI_m2 (by omega), nI_m3 (by omega), nI_clamp (by omega), hf (n - 1) (by omega)]
    rw [cvcL, decide_eq_true (show 3 ≤ n by omega), Bool.true_and] at h
    have hin : vp_in (nI (n - 1)) 32 := vp_in_nI (by omega) (by omega)
    refine km_isVowel hw (by omega) hf (b_if (fun z => ?_) (fun z => km_isVowel hw (by omega) hf (b_ifz (fun z2 => ?_) (fun z2 => km_isVowel hw (by omega) hf (b_ifz (fun z3 => ⟨hin, fun y => ?_, fun y => ⟨hin, fun y2 => ?_, fun y2 => ⟨hin, fun y3 => ?_, fun y3 => ?_⟩⟩⟩) (fun z3 => ?_))))))
    · rw [z] at h; exact h
    · rw [z, z2] at h; exact h
    · rw [z, z2, z3, decide_eq_true (Or.inl y)] at h; exact h
    · rw [z, z2, z3, decide_eq_true (Or.inr (Or.inl y2))] at h; exact h
    · rw [z, z2, z3, decide_eq_true (Or.inr (Or.inr y3))] at h; exact h
    · rw [z, z2, z3, decide_eq_false (fun u => by
        rcases u with u | u | u
        · exact y u
        · exact y2 u
        · exact y3 u)] at h; exact h
    · rw [z, z2, z3] at h; exact h
/-- two alike at the end, the last of which is no vowel -/
def twoL (w : List Int32) : Bool := decide (2 ≤ w.length ∧ w.getD (w.length - 1) 0 = w.getD (w.length - 2) 0) && !vL w (w.length - 1)
theorem kx_two {post : Int32 → Prop} {f v : Nat → Int32} {w : List Int32} (hw : w.length ≤ 30) (hf : rW f w) (hv : rV v w) (h : post (b2i (twoL w))) : wpX4_hasTwoAlike post (nI w.length) f v := by
  unfold wpX4_hasTwoAlike
  rw [show (nI w.length < (2 : Int32)) = (w.length < 2) from propext (nI_ltI (b := 2) (by omega) (by decide))]
  refine ⟨fun q => ?_, fun q => ?_⟩
  · rw [twoL, decide_eq_false (fun z => absurd z.1 (by omega))] at h; exact h
  · rw [nI_m1 (by omega), nI_m2 (by omega), nI_clamp (by omega), nI_clamp (by omega), hf _ (by omega), hf _ (by omega)]
    refine ⟨vp_in_nI (by omega) (by omega), vp_in_nI (by omega) (by omega), fun q2 => ?_, fun q2 => kx_isVowel hw (by omega) hv (b_if (fun z => ?_) (fun z => ?_))⟩
    · rw [twoL, decide_eq_false (fun z => q2 z.2)] at h; exact h
    · rw [twoL, z] at h; simp only [Bool.not_true, Bool.and_false] at h; exact h
    · rw [twoL, z, decide_eq_true ⟨by omega, q2⟩] at h; exact h
