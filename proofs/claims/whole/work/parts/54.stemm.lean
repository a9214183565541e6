/-! PURE 15: words, vowels, measures and endings in the reference -/
theorem aeiou_y : aeiou 121 = false := by decide
theorem vL_ny {w : List Int32} {m : Nat} (h : ¬ w.getD m 0 = 121) : vL w m = aeiou (w.getD m 0) := by
  cases m with
  | zero => rw [vL]
  | succ m => rw [vL, decide_eq_false h]; simp
theorem vL_y {w : List Int32} {m : Nat} (h : w.getD (m + 1) 0 = 121) : vL w (m + 1) = !vL w m := by
  rw [vL, h, aeiou_y, decide_eq_true rfl]; simp
theorem vL_y0 {w : List Int32} (h : w.getD 0 0 = 121) : vL w 0 = false := by rw [vL, h, aeiou_y]
theorem km_flip_loop {post : Int32 → Prop} {f : Nat → Int32} {w : List Int32} {k : Nat} (hk : k < 30) (h : post (b2i (vL w k))) : ∀ (g j : Nat), k + 1 - j ≤ g → 1 ≤ j → j ≤ k + 1 → (∀ i, j ≤ i → i ≤ k → w.getD i 0 = 121) → wlX8_isVowelAhead_101 post f (nI k) (g + 1) (b2i (vL w (j - 1))) (nI j) := by
  intro g
  induction g with
  | zero =>
    intro j h1 h2 h3 hy
    have e : j - 1 = k := by omega
    rw [e]
    exact ⟨fun _ => ⟨b2i_bN _, h⟩, fun q => absurd (nI_lt (by omega) (by omega)) q⟩
  | succ g ih =>
    intro j h1 h2 h3 hy
    refine ⟨fun q => ?_, fun q => ?_⟩
    · rw [nI_ltI (by omega) (by omega)] at q
      rw [show j - 1 = k by omega]; exact ⟨b2i_bN _, h⟩
    · rw [nI_ltI (by omega) (by omega)] at q
      have ey := vL_y (w := w) (m := j - 1) (by rw [show j - 1 + 1 = j by omega]; exact hy j (Nat.le_refl _) (by omega))
      rw [show j - 1 + 1 = j by omega] at ey
      have nx : ∀ b : Bool, vL w j = b → wjX8_isVowelAhead_116 (fun x3 x4 => wlX8_isVowelAhead_101 post f (nI k) (g + 1) x3 x4) post f (nI k) (nI j) (b2i b) := by
        intro b eb x ex
        rw [ex, nI_1]
        have := ih (j + 1) (by omega) (by omega) (by omega) (fun i a c => hy i (by omega) c)
        rw [show j + 1 - 1 = j by omega, eb] at this
        exact this
      exact b_if (fun z => nx false (by rw [ey, z]; rfl)) (fun z => nx true (by rw [ey, z]; rfl))
theorem km_ahead_96 {post : Int32 → Prop} {f : Nat → Int32} {w : List Int32} {k m : Nat} (hk : k < 30) (hm : m ≤ k) (h : post (b2i (vL w k))) (hy : ∀ i, m + 1 ≤ i → i ≤ k → w.getD i 0 = 121) : wjX8_isVowelAhead_96 post f (nI k) (nI m) (b2i (vL w m)) := by
  intro x ex
  rw [ex, nI_1]
  have := km_flip_loop (f := f) hk h (k - m) (m + 1) (by omega) (by omega) (by omega) hy
  rw [show m + 1 - 1 = m by omega] at this
  exact ⟨_, this⟩
theorem km_ahead_loop {post : Int32 → Prop} {f : Nat → Int32} {w : List Int32} {k : Nat} (hk : k < 30) (hl : k < w.length) (hf : rW f w) (h : post (b2i (vL w k))) : ∀ m, m ≤ k + 1 → (∀ i, m ≤ i → i ≤ k → w.getD i 0 = 121) → wlX8_isVowelAhead_2 post f (nI k) (m + 1) (nI m - 1) := by
  intro m
  induction m with
  | zero =>
    intro hm hy
    have e0 := vL_y0 (hy 0 (Nat.le_refl _) (Nat.zero_le _))
    have := km_ahead_96 (f := f) (m := 0) hk (Nat.zero_le _) h (fun i a b => hy i (by omega) b)
    rw [e0] at this
    exact ⟨fun _ => ⟨fun _ => ⟨fun q => absurd q (by decide), fun _ => this⟩, fun q => absurd (by decide) q⟩, fun q => absurd (by decide) q⟩
  | succ m ih =>
    intro hm hy
    rw [nI_pred]
    refine ⟨fun q => absurd q (nI_pos (by omega)), fun _ => ⟨vp_in_nI (by omega) (by omega), fun q => ?_, fun q x ex => ?_⟩⟩
    · rw [nI_clamp (by omega), hf m (by omega)] at q
      have ev := vL_ny q
      have fin : ∀ b : Bool, aeiou (w.getD m 0) = b → wjX8_isVowelAhead_87 post f (nI k) (nI m) (b2i b) := by
        intro b eb
        have := km_ahead_96 (f := f) (m := m) hk (by omega) h hy
        rw [ev, eb] at this
        exact ⟨fun _ => this, fun q2 => absurd (nI_pos' (by omega)) q2⟩
      have yes : (w.getD m 0 = 97 ∨ w.getD m 0 = 101 ∨ w.getD m 0 = 105 ∨ w.getD m 0 = 111 ∨ w.getD m 0 = 117) → wjX8_isVowelAhead_82 post f (nI k) (nI m) := fun z => fin true (decide_eq_true z)
      have hin : vp_in (nI m) 32 := vp_in_nI (by omega) (by omega)
      refine ⟨fun q2 => absurd q2 (nI_pos (by omega)), fun _ => ⟨hin, ?_⟩⟩
      rw [nI_clamp (by omega), hf m (by omega)]
      refine ⟨fun z => yes (Or.inl z), fun z1 => ⟨hin, fun z => yes (Or.inr (Or.inl z)), fun z2 => ⟨hin, fun z => yes (Or.inr (Or.inr (Or.inl z))), fun z3 => ⟨hin, fun z => yes (Or.inr (Or.inr (Or.inr (Or.inl z)))), fun z4 => ⟨hin, fun z => fin false ?_, fun z => yes (Or.inr (Or.inr (Or.inr (Or.inr z))))⟩⟩⟩⟩⟩
      exact decide_eq_false (fun y => by rcases y with y | y | y | y | y; exact z1 y; exact z2 y; exact z3 y; exact z4 y; exact z y)
    · rw [nI_clamp (by omega), hf m (by omega)] at q
      rw [ex, show nI m + (-1) = nI m - 1 by rw [Int32.sub_eq_add_neg]]
      refine ih (by omega) (fun i a b => ?_)
      rcases Nat.lt_or_ge m i with y | y
      · exact hy i y b
      · rw [show i = m by omega]; exact q
theorem km_ahead {post : Int32 → Prop} {f : Nat → Int32} {w : List Int32} {k : Nat} (hk : k < 30) (hl : k < w.length) (hf : rW f w) (h : post (b2i (vL w k))) : wpX8_isVowelAhead post f (nI k) := by
  have := km_ahead_loop hk hl hf h (k + 1) (Nat.le_refl _) (fun i a b => absurd a (by omega))
  rw [nI_pred] at this
  exact ⟨_, this⟩
theorem km_isVowel {post : Int32 → Prop} {f : Nat → Int32} {w : List Int32} {k : Nat} (hw : w.length ≤ 30) (hl : k < w.length) (hf : rW f w) (h : post (b2i (vL w k))) : wpX8_isVowel post f (nI k) := by
  refine ⟨vp_in_nI (by omega) (by omega), fun c ec => ?_⟩
  rw [nI_clamp (by omega), hf k hl] at ec
  subst ec
  refine ⟨fun q => ?_, fun q => ⟨fun q2 => ?_, fun q2 => ?_⟩⟩
  · rw [vL_ny q] at h
    have yes : (w.getD k 0 = 97 ∨ w.getD k 0 = 101 ∨ w.getD k 0 = 105 ∨ w.getD k 0 = 111 ∨ w.getD k 0 = 117) → post 1 := fun z => by
      rw [aeiou, decide_eq_true z] at h; exact h
    refine ⟨fun z => yes (Or.inl z), fun z1 => ⟨fun z => yes (Or.inr (Or.inl z)), fun z2 => ⟨fun z => yes (Or.inr (Or.inr (Or.inl z))), fun z3 => ⟨fun z => yes (Or.inr (Or.inr (Or.inr (Or.inl z)))), fun z4 => ⟨fun z => ?_, fun z => yes (Or.inr (Or.inr (Or.inr (Or.inr z))))⟩⟩⟩⟩⟩
    rw [aeiou, decide_eq_false (fun y => by rcases y with y | y | y | y | y; exact z1 y; exact z2 y; exact z3 y; exact z4 y; exact z y)] at h; exact h
  · have q2 : k = 0 := by
      have : k ≤ 0 := (nI_leI (b := 0) (by omega) (by decide)).mp q2
      omega
    subst q2
    rw [vL_y0 q] at h; exact h
  · have q2 : ¬ k ≤ 0 := fun y => q2 ((nI_leI (b := 0) (by omega) (by decide)).mpr y)
    obtain ⟨j, rfl⟩ : ∃ j, k = j + 1 := ⟨k - 1, by omega⟩
    rw [nI_pred]
    rw [vL_y q] at h
    exact km_ahead (by omega) (by omega) hf (b_if (fun z => by rw [z] at h; exact h) (fun z => by rw [z] at h; exact h))
theorem km_meas_loop {post : Int32 → Prop} {f : Nat → Int32} {w : List Int32} {n : Nat} (hw : w.length ≤ 30) (hn : n ≤ w.length) (hf : rW f w) : ∀ (g k m : Nat), n - k ≤ g → 1 ≤ k → k ≤ 31 → m ≤ 100 + k → post (nI (m + mL w n g k)) → wlX8_measure_4 post f (nI n) (g + 1) (nI m) (nI k) := by
  intro g
  induction g with
  | zero => intro k m h1 h0 h3 h2 h; exact ⟨fun _ => h, fun q => absurd (nI_le (by omega) (by omega)) q⟩
  | succ g ih =>
    intro k m h1 h0 h3 h2 h
    refine ⟨fun q => ?_, fun q => ?_⟩
    · rw [nI_leI (by omega) (by omega)] at q
      rw [mL, if_neg (by omega)] at h; exact h
    · rw [nI_leI (by omega) (by omega)] at q
      rw [mL, if_pos (by omega)] at h
      rw [show nI k - 1 = nI (k - 1) by rw [show k = (k - 1) + 1 by omega, nI_pred]; rfl]
      have nx : ¬ (vL w (k - 1) = true ∧ vL w k = false) → wjX8_measure_30 (fun x2 x3 => wlX8_measure_4 post f (nI n) (g + 1) x2 x3) post f (nI n) (nI m) (nI k) := by
        intro z x ex
        rw [ex, nI_1]
        rw [if_neg z, Nat.zero_add] at h
        exact ih (k + 1) m (by omega) (by omega) (by omega) (by omega) h
      refine km_isVowel hw (by omega) hf (b_ifz (fun z => nx (fun y => by rw [z] at y; cases y.1)) (fun z => km_isVowel hw (by omega) hf (b_if (fun z2 => nx (fun y => by rw [z2] at y; cases y.2)) (fun z2 y ey x ex => ?_))))
      rw [ex, ey, nI_1, nI_1]
      rw [if_pos ⟨z, z2⟩] at h
      exact ih (k + 1) (m + 1) (by omega) (by omega) (by omega) (by omega) (by rw [Nat.add_assoc]; exact h)
theorem km_meas {post : Int32 → Prop} {f : Nat → Int32} {w : List Int32} {n : Nat} (hw : w.length ≤ 30) (hn : n ≤ w.length) (hf : rW f w) (h : post (nI (meas w n))) : wpX8_measure post f (nI n) :=
  ⟨_, km_meas_loop hw hn hf n 1 0 (by omega) (Nat.le_refl _) (by omega) (by omega) (by rw [Nat.zero_add]; exact h)⟩
theorem km_hasV_loop {post : Int32 → Prop} {f : Nat → Int32} {w : List Int32} {n : Nat} (hw : w.length ≤ 30) (hn : n ≤ w.length) (hf : rW f w) : ∀ (g k : Nat), n - k ≤ g → k ≤ n → post (b2i (hvL w n g k)) → wlX8_hasVowel_2 post f (nI n) (g + 1) (nI k) := by
  intro g
  induction g with
  | zero => intro k h1 h2 h; exact ⟨fun _ => h, fun q => absurd (nI_le (by omega) (by omega)) q⟩
  | succ g ih =>
    intro k h1 h2 h
    refine ⟨fun q => ?_, fun q => ?_⟩
    · rw [nI_leI (by omega) (by omega)] at q
      rw [hvL, if_neg (by omega)] at h; exact h
    · rw [nI_leI (by omega) (by omega)] at q
      rw [hvL, if_pos (by omega)] at h
      refine km_isVowel hw (by omega) hf (b_ifz (fun z x ex => ?_) (fun z => ?_))
      · rw [ex, nI_1]
        rw [z, Bool.false_or] at h
        exact ih (k + 1) (by omega) (by omega) h
      · rw [z, Bool.true_or] at h; exact h
theorem km_hasV {post : Int32 → Prop} {f : Nat → Int32} {w : List Int32} {n : Nat} (hw : w.length ≤ 30) (hn : n ≤ w.length) (hf : rW f w) (h : post (b2i (hasV w n))) : wpX8_hasVowel post f (nI n) :=
  ⟨_, km_hasV_loop hw hn hf n 0 (by omega) (Nat.zero_le _) h⟩
