/-! PURE 2: a character made small -/
def cSmall (c : Int32) : Int32 :=
  if (65 ≤ c.toInt ∧ c.toInt ≤ 90) ∨ (192 ≤ c.toInt ∧ c.toInt ≤ 222 ∧ c.toInt ≠ 215) ∨ (913 ≤ c.toInt ∧ c.toInt ≤ 939 ∧ c.toInt ≠ 930) ∨ (1040 ≤ c.toInt ∧ c.toInt ≤ 1071) then c + 32
  else if (1024 ≤ c.toInt ∧ c.toInt ≤ 1039) then c + 80
  else if (256 ≤ c.toInt ∧ c.toInt ≤ 311) ∨ (330 ≤ c.toInt ∧ c.toInt ≤ 375) ∨ (1120 ≤ c.toInt ∧ c.toInt ≤ 1153) ∨ (1162 ≤ c.toInt ∧ c.toInt ≤ 1215) then (if c.toInt % 2 = 0 then c + 1 else c)
  else if (313 ≤ c.toInt ∧ c.toInt ≤ 328) ∨ (377 ≤ c.toInt ∧ c.toInt ≤ 382) then (if c.toInt % 2 = 1 then c + 1 else c)
  else if c.toInt = 376 then 255
  else if c.toInt = 902 then 940
  else if 904 ≤ c.toInt ∧ c.toInt ≤ 906 then c + 37
  else if c.toInt = 908 then 972
  else if c.toInt = 910 ∨ c.toInt = 911 then c + 63
  else c
theorem par_and {c : Int32} (h : 0 ≤ c.toInt) : ((c &&& 1).toInt = 0 ↔ c.toInt % 2 = 0) ∧ ((c &&& 1).toInt = 1 ↔ c.toInt % 2 = 1) := by
  obtain ⟨j, hj, rfl⟩ := nI_of (x := c) (by rw [i_lt]; exact Int.not_lt.mpr h)
  rw [pk_andN (by omega) 1 (by decide), nI_toInt hj, nI_toInt (by omega)]
  omega
theorem par_rem {c : Int32} (h : 0 ≤ c.toInt) : ((c - c / 2 * 2).toInt = 0 ↔ c.toInt % 2 = 0) ∧ ((c - c / 2 * 2).toInt = 1 ↔ c.toInt % 2 = 1) := by
  obtain ⟨j, hj, rfl⟩ := nI_of (x := c) (by rw [i_lt]; exact Int.not_lt.mpr h)
  rw [show nI j - nI j / 2 * 2 = nI (j % 2) from pk_rem hj (by decide) (by decide), nI_toInt hj, nI_toInt (by omega)]
  omega
theorem cS_32 {c : Int32} (h : (65 ≤ c.toInt ∧ c.toInt ≤ 90) ∨ (192 ≤ c.toInt ∧ c.toInt ≤ 222 ∧ c.toInt ≠ 215) ∨ (913 ≤ c.toInt ∧ c.toInt ≤ 939 ∧ c.toInt ≠ 930) ∨ (1040 ≤ c.toInt ∧ c.toInt ≤ 1071)) : cSmall c = c + 32 := by rw [cSmall, if_pos h]
theorem cS_80 {c : Int32} (h : (1024 ≤ c.toInt ∧ c.toInt ≤ 1039)) : cSmall c = c + 80 := by rw [cSmall, if_neg (by omega), if_pos (by omega)]
theorem cS_1 {c : Int32} (h : (((256 ≤ c.toInt ∧ c.toInt ≤ 311) ∨ (330 ≤ c.toInt ∧ c.toInt ≤ 375) ∨ (1120 ≤ c.toInt ∧ c.toInt ≤ 1153) ∨ (1162 ≤ c.toInt ∧ c.toInt ≤ 1215)) ∧ c.toInt % 2 = 0) ∨ (((313 ≤ c.toInt ∧ c.toInt ≤ 328) ∨ (377 ≤ c.toInt ∧ c.toInt ≤ 382)) ∧ c.toInt % 2 = 1)) : cSmall c = c + 1 := by
  rcases h with h | h
  · rw [cSmall, if_neg (by omega), if_neg (by omega), if_pos (by omega), if_pos (by omega)]
  · rw [cSmall, if_neg (by omega), if_neg (by omega), if_neg (by omega), if_pos (by omega), if_pos (by omega)]
theorem cS_255 {c : Int32} (h : c.toInt = 376) : cSmall c = 255 := by rw [cSmall, if_neg (by omega), if_neg (by omega), if_neg (by omega), if_neg (by omega), if_pos h]
theorem cS_940 {c : Int32} (h : c.toInt = 902) : cSmall c = 940 := by rw [cSmall, if_neg (by omega), if_neg (by omega), if_neg (by omega), if_neg (by omega), if_neg (by omega), if_pos h]
theorem cS_37 {c : Int32} (h : 904 ≤ c.toInt ∧ c.toInt ≤ 906) : cSmall c = c + 37 := by rw [cSmall, if_neg (by omega), if_neg (by omega), if_neg (by omega), if_neg (by omega), if_neg (by omega), if_neg (by omega), if_pos h]
theorem cS_972 {c : Int32} (h : c.toInt = 908) : cSmall c = 972 := by rw [cSmall, if_neg (by omega), if_neg (by omega), if_neg (by omega), if_neg (by omega), if_neg (by omega), if_neg (by omega), if_neg (by omega), if_pos h]
theorem cS_63 {c : Int32} (h : c.toInt = 910 ∨ c.toInt = 911) : cSmall c = c + 63 := by rw [cSmall, if_neg (by omega), if_neg (by omega), if_neg (by omega), if_neg (by omega), if_neg (by omega), if_neg (by omega), if_neg (by omega), if_neg (by omega), if_pos h]
theorem cS_0 {c : Int32} (h : ¬ ((65 ≤ c.toInt ∧ c.toInt ≤ 90) ∨ (192 ≤ c.toInt ∧ c.toInt ≤ 222 ∧ c.toInt ≠ 215) ∨ (913 ≤ c.toInt ∧ c.toInt ≤ 939 ∧ c.toInt ≠ 930) ∨ (1040 ≤ c.toInt ∧ c.toInt ≤ 1071)) ∧ ¬ ((1024 ≤ c.toInt ∧ c.toInt ≤ 1039)) ∧ (((256 ≤ c.toInt ∧ c.toInt ≤ 311) ∨ (330 ≤ c.toInt ∧ c.toInt ≤ 375) ∨ (1120 ≤ c.toInt ∧ c.toInt ≤ 1153) ∨ (1162 ≤ c.toInt ∧ c.toInt ≤ 1215)) → c.toInt % 2 ≠ 0) ∧ (((313 ≤ c.toInt ∧ c.toInt ≤ 328) ∨ (377 ≤ c.toInt ∧ c.toInt ≤ 382)) → c.toInt % 2 ≠ 1) ∧ c.toInt ≠ 376 ∧ c.toInt ≠ 902 ∧ ¬ (904 ≤ c.toInt ∧ c.toInt ≤ 906) ∧ c.toInt ≠ 908 ∧ c.toInt ≠ 910 ∧ c.toInt ≠ 911) : cSmall c = c := by
  obtain ⟨h1, h2, h3, h4, h5, h6, h7, h8, h9, h10⟩ := h
  rw [cSmall, if_neg h1, if_neg h2]
  by_cases hc : (256 ≤ c.toInt ∧ c.toInt ≤ 311) ∨ (330 ≤ c.toInt ∧ c.toInt ≤ 375) ∨ (1120 ≤ c.toInt ∧ c.toInt ≤ 1153) ∨ (1162 ≤ c.toInt ∧ c.toInt ≤ 1215)
  · rw [if_pos hc, if_neg (h3 hc)]
  · rw [if_neg hc]
    by_cases hd : (313 ≤ c.toInt ∧ c.toInt ≤ 328) ∨ (377 ≤ c.toInt ∧ c.toInt ≤ 382)
    · rw [if_pos hd, if_neg (h4 hd)]
    · rw [if_neg hd, if_neg h5, if_neg h6, if_neg h7, if_neg h8, if_neg (by omega)]
theorem kx_small {post : Int32 → Prop} {c : Int32} (h : post (cSmall c)) : wpX0_small post c := by
  by_cases hz : 0 ≤ c.toInt
  · obtain ⟨p0, p1⟩ := par_and hz
    simp only [wpX0_small, wjX0_small_40, wjX0_small_19, wpX0_smallLatin, wjX0_smallLatin_78, wjX0_smallLatin_63, wjX0_smallLatin_49, wjX0_smallLatin_35, wjX0_smallLatin_21, wpX0_smallGreek, wjX0_smallGreek_63, wjX0_smallGreek_49, wjX0_smallGreek_30, wpX0_smallCyrillic, wjX0_smallCyrillic_57, wjX0_smallCyrillic_56, wjX0_smallCyrillic_52, wjX0_smallCyrillic_38, i_lt, i_le, i_eq, Int32.reduceToInt, p0, p1]
    repeat' (apply And.intro <;> intro _)
    all_goals
      refine Eq.mp (congrArg post ?_) h
      first | exact cS_0 (by omega) | exact cS_32 (by omega) | exact cS_1 (by omega) | exact cS_80 (by omega) | exact cS_37 (by omega) | exact cS_63 (by omega) | exact cS_255 (by omega) | exact cS_940 (by omega) | exact cS_972 (by omega) | exact absurd trivial ‹¬ True› | (exfalso; omega)
  · simp only [wpX0_small, wjX0_small_40, wjX0_small_19, wpX0_smallLatin, wjX0_smallLatin_78, wjX0_smallLatin_63, wjX0_smallLatin_49, wjX0_smallLatin_35, wjX0_smallLatin_21, wpX0_smallGreek, wjX0_smallGreek_63, wjX0_smallGreek_49, wjX0_smallGreek_30, wpX0_smallCyrillic, wjX0_smallCyrillic_57, wjX0_smallCyrillic_56, wjX0_smallCyrillic_52, wjX0_smallCyrillic_38, i_lt, i_le, i_eq, Int32.reduceToInt]
    repeat' (apply And.intro <;> intro _)
    all_goals
      refine Eq.mp (congrArg post ?_) h
      first | exact cS_0 (by omega) | exact cS_32 (by omega) | exact cS_1 (by omega) | exact cS_80 (by omega) | exact cS_37 (by omega) | exact cS_63 (by omega) | exact cS_255 (by omega) | exact cS_940 (by omega) | exact cS_972 (by omega) | exact absurd trivial ‹¬ True› | (exfalso; omega)
theorem km_small {post : Int32 → Prop} {c : Int32} (h : post (cSmall c)) : wpX8_small post c := by
  unfold wpX8_small
  by_cases hz : 0 ≤ c.toInt
  · obtain ⟨p0, p1⟩ := par_rem hz
    simp only [wjX8_small_259, wjX8_small_179, wjX8_small_139, wjX8_small_64, wjX8_small_51, wjX8_small_31, i_lt, i_le, i_eq c, i_eq (c - c / 2 * 2), Int32.reduceToInt, p0, p1]
    repeat' first | (refine km_within (b_if (fun _ => ?_) (fun _ => ?_))) | (refine km_within (b_ifz (fun _ => ?_) (fun _ => ?_))) | (apply And.intro <;> intro _)
    all_goals
      simp only [cIn, decide_eq_true_eq, decide_eq_false_iff_not, Int32.reduceToInt] at *
      refine Eq.mp (congrArg post ?_) h
      first | exact cS_0 (by omega) | exact cS_32 (by omega) | exact cS_1 (by omega) | exact cS_80 (by omega) | exact cS_37 (by omega) | exact cS_63 (by omega) | exact cS_255 (by omega) | exact cS_940 (by omega) | exact cS_972 (by omega) | exact absurd trivial ‹¬ True› | (exfalso; omega)
  · simp only [wjX8_small_259, wjX8_small_179, wjX8_small_139, wjX8_small_64, wjX8_small_51, wjX8_small_31, i_lt, i_le, i_eq c, Int32.reduceToInt]
    repeat' first | (refine km_within (b_if (fun _ => ?_) (fun _ => ?_))) | (refine km_within (b_ifz (fun _ => ?_) (fun _ => ?_))) | (apply And.intro <;> intro _)
    all_goals
      simp only [cIn, decide_eq_true_eq, decide_eq_false_iff_not, Int32.reduceToInt] at *
      refine Eq.mp (congrArg post ?_) h
      first | exact cS_0 (by omega) | exact cS_32 (by omega) | exact cS_1 (by omega) | exact cS_80 (by omega) | exact cS_37 (by omega) | exact cS_63 (by omega) | exact cS_255 (by omega) | exact cS_940 (by omega) | exact cS_972 (by omega) | exact absurd trivial ‹¬ True› | (exfalso; omega)
