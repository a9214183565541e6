/-! PURE 33: the tokens of all lines; there are at most 900 -/
def plO (t : Nat → Int32) (n i : Nat) : Bool := decide (dO t n i = 0) && !sO t n (i + 1) && !lO t n i
def linesS (t : Nat → Int32) (n : Nat) (pl : Bool) : Nat → List (Nat × Nat × Nat × Bool) × Nat
  | 0 => ([], 0)
  | i + 1 => if (!pl || plO t n i) = true then cutR t (eO t n i) (bO t n i) (linesS t n pl i).1 (linesS t n pl i).2 else linesS t n pl i
theorem cWord_64 : cWord 64 = false := by decide
theorem adF_words {t : Nat → Int32} {e : Nat} : ∀ (f k : Nat), (∀ j, k ≤ j → j < e → cWord (t j) = true) → adF t e f k = false := by
  intro f
  induction f with
  | zero => intro k _; rfl
  | succ f ih =>
    intro k h
    rw [adF]
    by_cases q : k < e
    · have hk := h k (Nat.le_refl _) q
      rw [if_pos q, ih (k + 1) (fun j a b => h j (by omega) b), decide_eq_false (fun c => by rw [c, cWord_64] at hk; cases hk), decide_eq_false (fun c => by rw [c, cWord_46] at hk; cases hk)]; rfl
    · rw [if_neg q]
theorem row_cnt {t : Nat → Int32} {b e : Nat} : ∀ (g k : Nat) (T : List (Nat × Nat × Nat × Bool)) (P : Nat), e - k ≤ g → RS t e k → b ≤ k → ∃ m, (rowT t b e k T P).2 = P + m ∧ 1 ≤ m ∧ 2 * m ≤ e - k + 1 ∧ (rowT t b e k T P).1.length = T.length + m + (if k = b ∧ adF t e (e - b) b = true then 1 else 0) ∧ (m = 1 → pieceEnd t e k = e) := by
  intro g
  induction g with
  | zero => intro k T P hg hR _; exact absurd hR.1 (by omega)
  | succ g ih =>
    intro k T P hg hR hb
    obtain ⟨s1, s2, s3, s4⟩ := RS_step hR
    have hk := hR.1
    rw [rowT_lt hk]
    have hnl : (T ++ newT t b e k P).length = T.length + 1 + (if k = b ∧ adF t e (e - b) b = true then 1 else 0) := by
      rw [List.length_append, newT]; split <;> simp
    rcases s4 with q | ⟨q1, q2, q3⟩
    · rw [rowT_ge (by omega)]
      exact ⟨1, rfl, Nat.le_refl _, by omega, hnl, fun _ => q⟩
    · obtain ⟨m, m1, m2, m3, m4, m5⟩ := ih (pieceEnd t e k + 1) (T ++ newT t b e k P) (P + 1) (by omega) q3 (by omega)
      rw [if_neg (fun c => by omega)] at m4
      exact ⟨m + 1, by omega, by omega, by omega, by omega, fun c => by omega⟩
theorem row_cnt1 {t : Nat → Int32} {b e P : Nat} {T : List (Nat × Nat × Nat × Bool)} (hR : RS t e b) : ∃ m a, (rowT t b e b T P).2 = P + m ∧ (rowT t b e b T P).1.length = T.length + m + a ∧ 2 * m ≤ e - b + 1 ∧ a ≤ 1 ∧ 2 * a ≤ m := by
  obtain ⟨m, m1, m2, m3, m4, m5⟩ := row_cnt (b := b) _ b T P (Nat.le_refl _) hR (Nat.le_refl _)
  by_cases c : b = b ∧ adF t e (e - b) b = true
  · rw [if_pos c] at m4
    refine ⟨m, 1, m1, m4, m3, Nat.le_refl _, ?_⟩
    rcases Nat.lt_or_ge m 2 with q | q
    · have h5 := m5 (by omega)
      obtain ⟨s1, s2, s3, s4⟩ := RS_step hR
      rw [h5] at s3
      rw [adF_words _ _ s3] at c
      cases c.2
    · omega
  · rw [if_neg c] at m4
    exact ⟨m, 0, m1, m4, m3, by omega, by omega⟩
def cntI (T : List (Nat × Nat × Nat × Bool)) (P k : Nat) : Prop := ∃ A, T.length = P + A ∧ 2 * A ≤ P ∧ A ≤ 150 ∧ 2 * P ≤ k
theorem cut_cnt {t : Nat → Int32} {e : Nat} : ∀ (g k : Nat) (T : List (Nat × Nat × Nat × Bool)) (P : Nat), e - k ≤ g → k ≤ e → cntI T P (k + 1) → (k < e → cWord (t k) = true → 2 * P ≤ k) → cntI (cutR t e k T P).1 (cutR t e k T P).2 (e + 1) := by
  intro g
  induction g with
  | zero =>
    intro k T P hg hk hI _
    rw [cutR_stop (by omega)]
    obtain ⟨A, a1, a2, a3, a4⟩ := hI
    exact ⟨A, a1, a2, a3, by omega⟩
  | succ g ih =>
    intro k T P hg hk hI hw
    obtain ⟨A, a1, a2, a3, a4⟩ := hI
    by_cases q : k < e ∧ P < 300
    · by_cases w : cWord (t k) = true
      · obtain ⟨r1, r2, r3, r4, r5⟩ := RS_of (t := t) q.1 w
        obtain ⟨m, a, m1, m2, m3, m4, m5⟩ := row_cnt1 (P := P) (T := T) r1
        have h2 := hw q.1 w
        rw [cutR_w q.1 q.2 w]
        refine ih _ _ _ (by omega) (by omega) ⟨A + a, by omega, by omega, by omega, by omega⟩ (fun c1 c2 => ?_)
        rw [r5 c1] at c2; cases c2
      · have w : cWord (t k) = false := by simpa using w
        rw [cutR_n q.1 w]
        exact ih _ _ _ (by omega) (by omega) ⟨A, a1, a2, a3, by omega⟩ (fun _ _ => by omega)
    · rw [cutR_stop q]
      exact ⟨A, a1, a2, a3, by omega⟩
theorem lines_cnt {t : Nat → Int32} {n L : Nat} {pl : Bool} (hc : cntL t n L) : ∀ i, i ≤ L → cntI (linesS t n pl i).1 (linesS t n pl i).2 (bO t n i) := by
  intro i
  induction i with
  | zero => intro _; exact ⟨0, rfl, Nat.le_refl _, by omega, Nat.le_refl _⟩
  | succ i ih =>
    intro hi
    have hb := hc.2 i (by omega)
    obtain ⟨l1, l2, l3, l4⟩ := bO_line (t := t) i hb
    have I := ih (by omega)
    rw [linesS]
    show cntI _ _ (eO t n i + 1)
    obtain ⟨A, a1, a2, a3, a4⟩ := I
    by_cases c : (!pl || plO t n i) = true
    · rw [if_pos c]
      exact cut_cnt _ _ _ _ (Nat.le_refl _) l1 ⟨A, a1, a2, a3, by omega⟩ (fun _ _ => a4)
    · rw [if_neg c]; exact ⟨A, a1, a2, a3, by omega⟩
theorem lines_900 {t : Nat → Int32} {n L : Nat} {pl : Bool} (hn : n ≤ 1500) (hc : cntL t n L) : (linesS t n pl L).1.length ≤ 900 := by
  obtain ⟨A, a1, a2, a3, a4⟩ := lines_cnt (pl := pl) hc L (Nat.le_refl _)
  have := (bO_ge L hc.2).2
  omega
theorem lines_P {t : Nat → Int32} {n : Nat} {pl : Bool} : ∀ i, (linesS t n pl i).2 ≤ (linesS t n pl i).1.length := by
  intro i
  induction i with
  | zero => exact Nat.le_refl _
  | succ i ih =>
    rw [linesS]
    split
    · exact cutR_len.2 ih
    · exact ih
theorem lines_mono {t : Nat → Int32} {n : Nat} {pl : Bool} : ∀ d i, (linesS t n pl i).1.length ≤ (linesS t n pl (i + d)).1.length := by
  intro d
  induction d with
  | zero => intro i; exact Nat.le_refl _
  | succ d ih =>
    intro i
    refine Nat.le_trans (ih i) ?_
    rw [show i + (d + 1) = (i + d) + 1 by omega, linesS]
    split
    · exact cutR_len.1
    · exact Nat.le_refl _
/-! all lines at once: a row never goes over a line's end -/
theorem cJoin_10 : cJoin 10 = false := by decide
theorem rowEnd_line {t : Nat → Int32} {n e : Nat} (he : e ≤ n) (h10 : e < n → t e = 10) : ∀ (f k : Nat), e - k = f → k ≤ e → rowEnd t n k = rowEnd t e k := by
  intro f
  induction f with
  | zero =>
    intro k h hk
    have e1 : k = e := by omega
    subst e1
    rw [rowEnd_n (e := k) (fun y => absurd y (by omega)) (by omega), rowEnd_n (fun y => by rw [h10 y]; exact cWord_10) (fun c => by have := c.2.1; rw [h10 (by omega), cJoin_10] at this; cases this)]
  | succ f ih =>
    intro k h hk
    by_cases w : cWord (t k) = true
    · rw [rowEnd_w (by omega) w, rowEnd_w (by omega) w]; exact ih (k + 1) (by omega) (by omega)
    · have w : cWord (t k) = false := by simpa using w
      by_cases c : k + 1 < e ∧ cJoin (t k) = true ∧ cWord (t (k + 1)) = true
      · rw [rowEnd_j w c, rowEnd_j w ⟨by omega, c.2⟩]; exact ih (k + 1) (by omega) (by omega)
      · rw [rowEnd_n (fun _ => w) c]
        refine rowEnd_n (fun _ => w) (fun d => ?_)
        rcases Nat.lt_or_ge (k + 1) e with y | y
        · exact c ⟨y, d.2⟩
        · have e1 : k + 1 = e := by omega
          have := d.2.2
          rw [e1, h10 (by omega), cWord_10] at this; cases this
theorem cut_line {t : Nat → Int32} {n e : Nat} (he : e ≤ n) (h10 : e < n → t e = 10) : ∀ (g k : Nat) (T : List (Nat × Nat × Nat × Bool)) (P : Nat), e - k ≤ g → k ≤ e → cutR t n k T P = cutR t n (e + 1) (cutR t e k T P).1 (cutR t e k T P).2 := by
  have last : ∀ (T : List (Nat × Nat × Nat × Bool)) (P : Nat), cutR t n e T P = cutR t n (e + 1) T P := by
    intro T P
    rcases Nat.lt_or_ge e n with q | q
    · exact cutR_n q (by rw [h10 q]; exact cWord_10)
    · rw [cutR_stop (by omega), cutR_stop (by omega)]
  intro g
  induction g with
  | zero =>
    intro k T P hg hk
    have e1 : k = e := by omega
    subst e1
    rw [cutR_stop (e := k) (by omega)]; exact last T P
  | succ g ih =>
    intro k T P hg hk
    by_cases q : k < e ∧ P < 300
    · by_cases w : cWord (t k) = true
      · have hr := rowEnd_line he h10 _ k rfl hk
        obtain ⟨r1, r2, r3, r4, r5⟩ := RS_of (t := t) q.1 w
        rw [cutR_w (by omega) q.2 w, cutR_w q.1 q.2 w, hr]
        exact ih _ _ _ (by omega) (by omega)
      · have w : cWord (t k) = false := by simpa using w
        rw [cutR_n (by omega) w, cutR_n q.1 w]; exact ih _ _ _ (by omega) (by omega)
    · rw [cutR_stop q]
      by_cases c : k < e
      · rw [cutR_stop (by omega), cutR_stop (by omega)]
      · have e1 : k = e := by omega
        subst e1
        exact last T P
theorem lines_all {t : Nat → Int32} {n L : Nat} (hc : cntL t n L) : ∀ i, i ≤ L → cutR t n 0 [] 0 = cutR t n (bO t n i) (linesS t n false i).1 (linesS t n false i).2 := by
  intro i
  induction i with
  | zero => intro _; rfl
  | succ i ih =>
    intro hi
    have hb := hc.2 i (by omega)
    obtain ⟨l1, l2, l3, l4⟩ := bO_line (t := t) i hb
    rw [ih (by omega), linesS, if_pos (by rfl)]
    exact cut_line l2 l3 _ _ _ _ (Nat.le_refl _) l1
theorem lines_false {t : Nat → Int32} {n L : Nat} (hc : cntL t n L) : linesS t n false L = cutR t n 0 [] 0 := by
  rw [lines_all hc L (Nat.le_refl _), cutR_stop (fun c => absurd c.1 (Nat.not_lt.mpr hc.1))]
