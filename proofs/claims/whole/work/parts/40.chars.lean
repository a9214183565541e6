/-! PURE 1: characters. What both sides answer of a character, as functions of it -/
theorem i_lt (a b : Int32) : a < b ↔ a.toInt < b.toInt := Int32.lt_iff_toInt_lt
theorem i_le (a b : Int32) : a ≤ b ↔ a.toInt ≤ b.toInt := Int32.le_iff_toInt_le
theorem i_eq (a b : Int32) : a = b ↔ a.toInt = b.toInt := Int32.toInt_inj.symm
def b2i (b : Bool) : Int32 := if b then 1 else 0
theorem b2i_0 (b : Bool) : b2i b = 0 ↔ b = false := by cases b <;> decide
theorem b2i_n0 (b : Bool) : ¬ b2i b = 0 ↔ b = true := by cases b <;> decide
theorem b2i_bN (b : Bool) : bN (b2i b) := by cases b; exact bN0; exact bN1
/-- a yes and a no -/
theorem b_if {b : Bool} {A B : Prop} (t : b = true → A) (f : b = false → B) : (¬ b2i b = 0 → A) ∧ (b2i b = 0 → B) := ⟨fun h => t ((b2i_n0 b).mp h), fun h => f ((b2i_0 b).mp h)⟩
theorem b_ifz {b : Bool} {A B : Prop} (f : b = false → B) (t : b = true → A) : (b2i b = 0 → B) ∧ (¬ b2i b = 0 → A) := ⟨fun h => f ((b2i_0 b).mp h), fun h => t ((b2i_n0 b).mp h)⟩
def cLatin (c : Int32) : Bool := decide ((65 ≤ c.toInt ∧ c.toInt ≤ 90) ∨ (97 ≤ c.toInt ∧ c.toInt ≤ 122))
def cDigit (c : Int32) : Bool := decide (48 ≤ c.toInt ∧ c.toInt ≤ 57)
def cBlank (c : Int32) : Bool := decide (c.toInt = 9 ∨ c.toInt = 10 ∨ c.toInt = 13 ∨ c.toInt = 32)
def cLetter (c : Int32) : Bool := decide ((65 ≤ c.toInt ∧ c.toInt ≤ 90) ∨ (97 ≤ c.toInt ∧ c.toInt ≤ 122) ∨ (192 ≤ c.toInt ∧ c.toInt ≤ 687 ∧ c.toInt ≠ 215 ∧ c.toInt ≠ 247) ∨ (880 ≤ c.toInt ∧ c.toInt ≤ 1423 ∧ c.toInt ≠ 894 ∧ c.toInt ≠ 903 ∧ (c.toInt < 1154 ∨ 1161 < c.toInt)))
def cWord (c : Int32) : Bool := cDigit c || cLetter c
def cJoin (c : Int32) : Bool := decide (c.toInt = 39 ∨ c.toInt = 46 ∨ c.toInt = 95 ∨ c.toInt = 45 ∨ c.toInt = 64)
def cIn (c a b : Int32) : Bool := decide (a.toInt ≤ c.toInt ∧ c.toInt ≤ b.toInt)
theorem kx_isLatin {post : Int32 → Prop} {c : Int32} (h : post (b2i (cLatin c))) : wpX0_isLatin post c := by
  cases hp : cLatin c
  all_goals
    rw [hp] at h
    simp only [cLatin, decide_eq_true_eq, decide_eq_false_iff_not] at hp
    simp only [wpX0_isLatin, wjX0_isLatin_12, i_lt, i_le, i_eq, Int32.reduceToInt]
    repeat' (apply And.intro <;> intro _)
    all_goals first | exact h | (exfalso; omega)
theorem kx_isDigit {post : Int32 → Prop} {c : Int32} (h : post (b2i (cDigit c))) : wpX0_isDigit post c := by
  cases hp : cDigit c
  all_goals
    rw [hp] at h
    simp only [cDigit, decide_eq_true_eq, decide_eq_false_iff_not] at hp
    simp only [wpX0_isDigit, i_lt, i_le, i_eq, Int32.reduceToInt]
    repeat' (apply And.intro <;> intro _)
    all_goals first | exact h | (exfalso; omega)
theorem kx_isBlank {post : Int32 → Prop} {c : Int32} (h : post (b2i (cBlank c))) : wpX0_isBlank post c := by
  cases hp : cBlank c
  all_goals
    rw [hp] at h
    simp only [cBlank, decide_eq_true_eq, decide_eq_false_iff_not] at hp
    simp only [wpX0_isBlank, i_lt, i_le, i_eq, Int32.reduceToInt]
    repeat' (apply And.intro <;> intro _)
    all_goals first | exact h | (exfalso; omega)
theorem kx_isLetter {post : Int32 → Prop} {c : Int32} (h : post (b2i (cLetter c))) : wpX0_isLetter post c := by
  cases hp : cLetter c
  all_goals
    rw [hp] at h
    simp only [cLetter, decide_eq_true_eq, decide_eq_false_iff_not] at hp
    simp only [wpX0_isLetter, wjX0_isLetter_40, wjX0_isLetter_28, i_lt, i_le, i_eq, Int32.reduceToInt]
    repeat' (apply And.intro <;> intro _)
    all_goals first | exact h | (exfalso; omega)
theorem kx_isJoin {post : Int32 → Prop} {c : Int32} (h : post (b2i (cJoin c))) : wpX0_isJoin post c := by
  cases hp : cJoin c
  all_goals
    rw [hp] at h
    simp only [cJoin, decide_eq_true_eq, decide_eq_false_iff_not] at hp
    simp only [wpX0_isJoin, i_lt, i_le, i_eq, Int32.reduceToInt]
    repeat' (apply And.intro <;> intro _)
    all_goals first | exact h | (exfalso; omega)
theorem km_isPlain {post : Int32 → Prop} {c : Int32} (h : post (b2i (cLatin c))) : wpX8_isPlain post c := by
  cases hp : cLatin c
  all_goals
    rw [hp] at h
    simp only [cLatin, decide_eq_true_eq, decide_eq_false_iff_not] at hp
    simp only [wpX8_isPlain, wjX8_isPlain_12, i_lt, i_le, i_eq, Int32.reduceToInt]
    repeat' (apply And.intro <;> intro _)
    all_goals first | exact h | (exfalso; omega)
theorem km_isDigit {post : Int32 → Prop} {c : Int32} (h : post (b2i (cDigit c))) : wpX8_isDigit post c := by
  cases hp : cDigit c
  all_goals
    rw [hp] at h
    simp only [cDigit, decide_eq_true_eq, decide_eq_false_iff_not] at hp
    simp only [wpX8_isDigit, i_lt, i_le, i_eq, Int32.reduceToInt]
    repeat' (apply And.intro <;> intro _)
    all_goals first | exact h | (exfalso; omega)
theorem km_isBlank {post : Int32 → Prop} {c : Int32} (h : post (b2i (cBlank c))) : wpX8_isBlank post c := by
  cases hp : cBlank c
  all_goals
    rw [hp] at h
    simp only [cBlank, decide_eq_true_eq, decide_eq_false_iff_not] at hp
    simp only [wpX8_isBlank, i_lt, i_le, i_eq, Int32.reduceToInt]
    repeat' (apply And.intro <;> intro _)
    all_goals first | exact h | (exfalso; omega)
theorem km_isSign {post : Int32 → Prop} {c : Int32} (h : post (b2i (cJoin c))) : wpX8_isSign post c := by
  cases hp : cJoin c
  all_goals
    rw [hp] at h
    simp only [cJoin, decide_eq_true_eq, decide_eq_false_iff_not] at hp
    simp only [wpX8_isSign, i_lt, i_le, i_eq, Int32.reduceToInt]
    repeat' (apply And.intro <;> intro _)
    all_goals first | exact h | (exfalso; omega)
theorem km_within {post : Int32 → Prop} {c a b : Int32} (h : post (b2i (cIn c a b))) : wpX8_within post c a b := by
  cases hp : cIn c a b
  all_goals
    rw [hp] at h
    simp only [cIn, decide_eq_true_eq, decide_eq_false_iff_not] at hp
    simp only [wpX8_within, i_lt, i_le, i_eq, Int32.reduceToInt]
    repeat' (apply And.intro <;> intro _)
    all_goals first | exact h | (exfalso; omega)
theorem kx_isWord {post : Int32 → Prop} {c : Int32} (h : post (b2i (cWord c))) : wpX0_isLetterOrDigit post c := by
  unfold wpX0_isLetterOrDigit
  refine kx_isDigit (b_if (fun hd => ?_) (fun hd => kx_isLetter (b_ifz (fun hl => ?_) (fun hl => ?_))))
  · rw [cWord, hd] at h; exact h
  · rw [cWord, hd, hl] at h; exact h
  · rw [cWord, hd, hl] at h; exact h
theorem km_isLetter {post : Int32 → Prop} {c : Int32} (h : post (b2i (cLetter c))) : wpX8_isLetter post c := by
  unfold wpX8_isLetter
  refine km_isPlain ?_
  cases hq : cLatin c <;> cases hp : cLetter c
  all_goals
    rw [hp] at h
    simp only [cLatin, cLetter, decide_eq_true_eq, decide_eq_false_iff_not] at hp hq
    simp only [wjX8_isLetter_43, i_lt, i_le, i_eq, Int32.reduceToInt, b2i]
    repeat' (apply And.intro <;> intro _)
    all_goals first | exact h | (exfalso; omega) | contradiction | (exfalso; simp at *; done)
theorem km_isWord {post : Int32 → Prop} {c : Int32} (h : post (b2i (cWord c))) : wpX8_isWord post c := by
  unfold wpX8_isWord
  refine km_isLetter (b_if (fun hl => ?_) (fun hl => km_isDigit (b_ifz (fun hd => ?_) (fun hd => ?_))))
  · rw [cWord, hl, Bool.or_true] at h; exact h
  · rw [cWord, hd, hl] at h; exact h
  · rw [cWord, hd, hl] at h; exact h
