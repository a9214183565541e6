/-! PURE 4: lines. lE: where the line ends that has k in it (from k on); dP: how many > from k on, with spaces between -/
theorem gF_lt {t : Nat → Int32} {n k : Nat} (h : k < n) : gF t n k = t k := by rw [gF, if_pos h]
theorem gF_ge {t : Nat → Int32} {n k : Nat} (h : n ≤ k) : gF t n k = -1 := by rw [gF, if_neg (by omega)]
def lE (t : Nat → Int32) (n : Nat) : Nat → Nat → Nat
  | 0, k => k
  | f + 1, k => if k < n ∧ ¬ t k = 10 then lE t n f (k + 1) else k
def lineEnd (t : Nat → Int32) (n k : Nat) : Nat := lE t n (n - k) k
theorem lE_spec (t : Nat → Int32) (n : Nat) : ∀ (f k : Nat), n - k ≤ f → k ≤ n → k ≤ lE t n f k ∧ lE t n f k ≤ n ∧ (lE t n f k < n → t (lE t n f k) = 10) ∧ ∀ j, k ≤ j → j < lE t n f k → ¬ t j = 10 := by
  intro f
  induction f with
  | zero => intro k h hk; exact ⟨Nat.le_refl _, hk, fun q => absurd q (by show ¬ k < n; omega), fun j h1 h2 => absurd h2 (by show ¬ j < k; omega)⟩
  | succ f ih =>
    intro k h hk
    rw [lE]
    by_cases hc : k < n ∧ ¬ t k = 10
    · rw [if_pos hc]
      obtain ⟨h1, h2, h3, h4⟩ := ih (k + 1) (by omega) (by omega)
      refine ⟨by omega, h2, h3, fun j a b => ?_⟩
      rcases Nat.lt_or_ge k j with q | q
      · exact h4 j q b
      · rw [show j = k by omega]; exact hc.2
    · rw [if_neg hc]
      refine ⟨Nat.le_refl _, hk, fun q => ?_, fun j a b => absurd b (by omega)⟩
      rcases Classical.em (t k = 10) with e | e
      · exact e
      · exact absurd ⟨q, e⟩ hc
theorem lineEnd_spec {t : Nat → Int32} {n k : Nat} (hk : k ≤ n) : k ≤ lineEnd t n k ∧ lineEnd t n k ≤ n ∧ (lineEnd t n k < n → t (lineEnd t n k) = 10) ∧ ∀ j, k ≤ j → j < lineEnd t n k → ¬ t j = 10 := lE_spec t n (n - k) k (Nat.le_refl _) hk
def dP (t : Nat → Int32) (n : Nat) : Nat → Nat → Nat
  | 0, _ => 0
  | f + 1, k => if k < n then (if t k = 62 then dP t n f (k + 1) + 1 else if t k = 32 then dP t n f (k + 1) else 0) else 0
def depthF (t : Nat → Int32) (n k : Nat) : Nat := dP t n (n - k) k
theorem dP_le (t : Nat → Int32) (n : Nat) : ∀ (f k : Nat), dP t n f k ≤ f := by
  intro f
  induction f with
  | zero => intro k; exact Nat.le_refl _
  | succ f ih =>
    intro k
    rw [dP]
    have := ih (k + 1)
    repeat' split
    all_goals omega
/-- a line's own end is as good a bound as the text's -/
theorem dP_end {t : Nat → Int32} {n e : Nat} (he : e ≤ n) (hq : e < n → t e = 10) : ∀ (f g k : Nat), n - k ≤ f → e - k ≤ g → k ≤ e → dP t n f k = dP t e g k := by
  intro f
  induction f with
  | zero =>
    intro g k h1 h2 h3
    have : k = n := by omega
    cases g with
    | zero => rfl
    | succ g => rw [dP, dP, if_neg (by omega)]
  | succ f ih =>
    intro g k h1 h2 h3
    by_cases hk : k < e
    · cases g with
      | zero => omega
      | succ g =>
        rw [dP, dP, if_pos (by omega), if_pos hk, ih g (k + 1) (by omega) (by omega) (by omega)]
    · have hk : k = e := by omega
      subst hk
      have r : dP t k g k = 0 := by
        cases g with
        | zero => rfl
        | succ g => rw [dP, if_neg (by omega)]
      rw [r, dP]
      by_cases hn : k < n
      · rw [if_pos hn, hq hn, if_neg (by decide), if_neg (by decide)]
      · rw [if_neg hn]
theorem depth_end {t : Nat → Int32} {n k : Nat} (hk : k ≤ n) : depthF t n k = depthF t (lineEnd t n k) k := by
  obtain ⟨h1, h2, h3, -⟩ := lineEnd_spec (t := t) hk
  exact dP_end h2 h3 _ _ k (Nat.le_refl _) (Nat.le_refl _) h1
theorem kx_depth_loop {post : Int32 → Prop} {t : Nat → Int32} {n b : Nat} (hn : n ≤ 1500) : ∀ (f k m : Nat), n - k ≤ f → k ≤ 1501 → m + n ≤ 1500 + k → post (nI (m + dP t n f k)) → wlX2_depthFrom_4 post (nI n) t (nI b) (f + 1) (nI m) (nI k) := by
  intro f
  induction f with
  | zero =>
    intro k m h1 h2 hm h
    exact ⟨fun _ => h, fun q => absurd (nI_le (by omega) (by omega)) q⟩
  | succ f ih =>
    intro k m h1 h2 hm h
    refine ⟨fun q => ?_, fun q => kx_get hn (by omega) ?_⟩
    · rw [nI_leI (by omega) (by omega)] at q
      rw [dP, if_neg (by omega)] at h; exact h
    · rw [nI_leI (by omega) (by omega)] at q
      rw [gF_lt (by omega)]
      rw [dP, if_pos (by omega)] at h
      refine ⟨fun q2 => kx_get hn (by omega) ?_, fun q2 => ?_⟩
      · rw [gF_lt (by omega)]
        rw [if_neg q2] at h
        refine ⟨fun q3 => ?_, fun q3 => ?_⟩
        · intro x ex
          rw [ex, nI_1]
          rw [if_pos q3] at h
          exact ih (k + 1) m (by omega) (by omega) (by omega) h
        · rw [if_neg q3] at h; exact h
      · intro y ey x ex
        rw [ex, ey, nI_1, nI_1]
        rw [if_pos q2] at h
        exact ih (k + 1) (m + 1) (by omega) (by omega) (by omega) (by rw [show m + 1 + dP t n f (k + 1) = m + (dP t n f (k + 1) + 1) by omega]; exact h)
theorem kx_depth {post : Int32 → Prop} {t : Nat → Int32} {n k : Nat} (hn : n ≤ 1500) (hk : k ≤ 1501) (h : post (nI (depthF t n k))) : wpX2_depthFrom post (nI n) t (nI k) := by
  rcases Nat.lt_or_ge n k with q | q
  · refine ⟨1, ⟨fun _ => ?_, fun q2 => absurd (nI_le (by omega) (by omega)) q2⟩⟩
    rw [depthF, show n - k = 0 by omega, dP] at h; exact h
  · exact ⟨_, kx_depth_loop hn (n - k) k 0 (Nat.le_refl _) hk (by omega) (by rw [Nat.zero_add]; exact h)⟩
theorem km_depth_loop {post : Int32 → Prop} {t : Nat → Int32} {e b : Nat} (he : e ≤ 1500) : ∀ (f k m : Nat), e - k ≤ f → k ≤ e → m + e ≤ 1500 + k → post (nI (m + dP t e f k)) → wlX8_depthOf_5 post t (nI b) (nI e) (f + 1) (nI m) (nI k) := by
  intro f
  induction f with
  | zero =>
    intro k m h1 h2 hm h
    exact ⟨fun _ => h, fun q => absurd (nI_le (by omega) (by omega)) q⟩
  | succ f ih =>
    intro k m h1 h2 hm h
    refine ⟨fun q => ?_, fun q => ?_⟩
    · rw [nI_leI (by omega) (by omega)] at q
      rw [dP, if_neg (by omega)] at h; exact h
    · rw [nI_leI (by omega) (by omega)] at q
      rw [dP, if_pos (by omega)] at h
      have hin : vp_in (nI k) 1500 := vp_in_nI (by omega) (by omega)
      refine ⟨hin, ?_⟩
      rw [nI_clamp (by omega)]
      have key : (t k = 62 ∨ t k = 32) → wjX8_depthOf_35 (fun x3 x4 => wlX8_depthOf_5 post t (nI b) (nI e) (f + 1) x3 x4) post t (nI b) (nI e) (nI m) (nI k) := by
        intro hc
        refine ⟨hin, ?_⟩
        rw [nI_clamp (by omega)]
        refine ⟨fun q3 x ex => ?_, fun q3 y ey x ex => ?_⟩
        · rw [ex, nI_1]
          rw [if_neg q3, if_pos (by rcases hc with z | z; exact absurd z q3; exact z)] at h
          exact ih (k + 1) m (by omega) (by omega) (by omega) h
        · rw [ex, ey, nI_1, nI_1]
          rw [if_pos q3] at h
          exact ih (k + 1) (m + 1) (by omega) (by omega) (by omega) (by rw [show m + 1 + dP t e f (k + 1) = m + (dP t e f (k + 1) + 1) by omega]; exact h)
      refine ⟨fun q2 => key (Or.inr q2), fun q2 => ⟨hin, ?_⟩⟩
      refine ⟨fun q3 => ?_, fun q3 => key (Or.inl q3)⟩
      rw [if_neg q3, if_neg q2] at h; exact h
theorem km_depth {post : Int32 → Prop} {t : Nat → Int32} {e k : Nat} (he : e ≤ 1500) (hk : k ≤ e) (h : post (nI (depthF t e k))) : wpX8_depthOf post t (nI k) (nI e) :=
  ⟨_, km_depth_loop he (e - k) k 0 (Nat.le_refl _) hk (by omega) (by rw [Nat.zero_add]; exact h)⟩
