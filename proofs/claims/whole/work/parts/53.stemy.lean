/-! PURE 14: endings, vowels and measures of a word (the class's stemmer) -/
def sfx (w bs : List Int32) : Bool := decide (bs.length ≤ w.length ∧ ∀ k, k < bs.length → w.getD (w.length - bs.length + k) 0 = bs.getD k 0)
theorem kx_ends_loop {post : Int32 → Prop} {i : Nat} {f : Nat → Int32} {w : List Int32} (hi : i < nS) (hw : w.length ≤ 30) (hb : (sB i).length ≤ w.length) (hf : rW f w) : ∀ (m : Nat), m ≤ (sB i).length → (∀ k, m ≤ k → k < (sB i).length → w.getD (w.length - (sB i).length + k) 0 = (sB i).getD k 0) → post (b2i (sfx w (sB i))) → wlX4_ends_23 post (nI w.length) f i (nI (w.length - (sB i).length)) (m + 1) (nI m - 1) := by
  intro m
  induction m with
  | zero =>
    intro hm ha h
    rw [sfx, decide_eq_true ⟨hb, fun k hk => ha k (Nat.zero_le _) hk⟩] at h
    exact ⟨fun _ => h, fun q => absurd (by decide) q⟩
  | succ m ih =>
    intro hm ha h
    rw [nI_pred]
    refine ⟨fun q => absurd q (nI_pos (by omega)), fun _ => ?_⟩
    rw [nI_add, nI_clamp (by omega), hf _ (by omega)]
    refine ⟨vp_in_nI (by omega) (by omega), hi, kj_charAt hi (by omega) (by omega) ⟨fun q x ex => ?_, fun q => ?_⟩⟩
    · rw [ex, show nI m + (-1) = nI m - 1 by rw [Int32.sub_eq_add_neg]]
      exact ih (by omega) (fun k h1 h2 => by
        rcases Nat.lt_or_ge m k with y | y
        · exact ha k y h2
        · rw [show k = m by omega]; exact q) h
    · rw [sfx, decide_eq_false (fun z => q (z.2 m (by omega)))] at h; exact h
theorem kx_ends {post : Int32 → Prop} {i : Nat} {f : Nat → Int32} {w : List Int32} (hi : i < nS) (hw : w.length ≤ 30) (hf : rW f w) (h : post (b2i (sfx w (sB i)))) : wpX4_ends post (nI w.length) f i := by
  have hL := yLen2 i hi
  refine ⟨hi, kj_length hi (fun x ex => ?_)⟩
  rcases Nat.lt_or_ge w.length (sB i).length with q | q
  · have hx : ¬ 0 ≤ x := by
      rw [ex, i_le, pk_sub_toInt (by omega) (by omega)]
      simp only [Int32.reduceToInt]
      omega
    rw [sfx, decide_eq_false (fun z => absurd z.1 (by omega))] at h
    exact ⟨fun y => absurd y hx, fun _ => h⟩
  · rw [pk_sub q] at ex
    subst ex
    refine ⟨fun _ => ⟨hi, kj_length hi (fun y ey => ⟨(sB i).length + 1, ?_⟩)⟩, fun y => absurd (nI_pos' (by omega)) y⟩
    subst ey
    exact kx_ends_loop hi hw q hf (sB i).length (Nat.le_refl _) (fun k h1 h2 => absurd h2 (by omega)) h
theorem kx_isVowel {post : Int32 → Prop} {v : Nat → Int32} {w : List Int32} {k : Nat} (hw : w.length ≤ 30) (hk : k < w.length) (hv : rV v w) (h : post (b2i (vL w k))) : wpX4_isVowel post (nI w.length) v (nI k) := by
  refine ⟨fun q => absurd q (nI_pos (by omega)), fun _ => ⟨fun q => absurd q (nI_ge hk (by omega)), fun _ => ⟨vp_in_nI (by omega) (by omega), ?_⟩⟩⟩
  rw [nI_clamp (by omega), hv k hk]
  exact b_ifz (fun z => by rw [z] at h; exact h) (fun z => by rw [z] at h; exact h)
theorem kx_isLetter4 {post : Int32 → Prop} {f : Nat → Int32} {w : List Int32} {k : Nat} {c : Int32} (hw : w.length ≤ 30) (hk : k < w.length) (hf : rW f w) (h : post (b2i (decide (w.getD k 0 = c)))) : wpX4_isLetter post (nI w.length) f (nI k) c := by
  refine ⟨fun q => absurd q (nI_pos (by omega)), fun _ => ⟨fun q => absurd q (nI_ge hk (by omega)), fun _ => ⟨vp_in_nI (by omega) (by omega), ?_⟩⟩⟩
  rw [nI_clamp (by omega), hf k hk]
  exact ⟨fun z => by rw [decide_eq_false z] at h; exact h, fun z => by rw [decide_eq_true z] at h; exact h⟩
/-- how often vowels are followed by what is none, from k on -/
def mL (w : List Int32) (n : Nat) : Nat → Nat → Nat
  | 0, _ => 0
  | g + 1, k => if k < n then (if vL w (k - 1) = true ∧ vL w k = false then 1 else 0) + mL w n g (k + 1) else 0
def meas (w : List Int32) (n : Nat) : Nat := mL w n n 1
theorem mL_le (w : List Int32) (n : Nat) : ∀ g k, mL w n g k ≤ g := by
  intro g
  induction g with
  | zero => intro k; exact Nat.le_refl _
  | succ g ih =>
    intro k
    rw [mL]
    have := ih (k + 1)
    split
    · split <;> omega
    · omega
theorem kx_meas_loop {post : Int32 → Prop} {v : Nat → Int32} {w : List Int32} {n : Nat} (hw : w.length ≤ 30) (hn : n ≤ w.length) (hv : rV v w) : ∀ (g k m : Nat), n - k ≤ g → 1 ≤ k → k ≤ 31 → m ≤ 100 + k → post (nI (m + mL w n g k)) → wlX4_measure_4 post (nI w.length) v (nI n) (g + 1) (nI m) (nI k) := by
  intro g
  induction g with
  | zero => intro k m h1 h0 h3 h2 h; exact ⟨fun _ => h, fun q => absurd (nI_le (by omega) (by omega)) q⟩
  | succ g ih =>
    intro k m h1 h0 h3 h2 h
    refine ⟨fun q => ?_, fun q => ?_⟩
    · rw [nI_leI (by omega) (by omega)] at q
      rw [mL, if_neg (by omega)] at h; exact h
    · rw [nI_leI (by omega) (by omega)] at q
      rw [mL, if_pos (by omega)] at h
      rw [show nI k - 1 = nI (k - 1) by rw [show k = (k - 1) + 1 by omega, nI_pred]; rfl]
      have nx : ¬ (vL w (k - 1) = true ∧ vL w k = false) → wjX4_measure_30 (fun x2 x3 => wlX4_measure_4 post (nI w.length) v (nI n) (g + 1) x2 x3) post (nI w.length) v (nI n) (nI m) (nI k) := by
        intro z x ex
        rw [ex, nI_1]
        rw [if_neg z, Nat.zero_add] at h
        exact ih (k + 1) m (by omega) (by omega) (by omega) (by omega) h
      refine kx_isVowel hw (by omega) hv (b_ifz (fun z => nx (fun y => by rw [z] at y; cases y.1)) (fun z => kx_isVowel hw (by omega) hv (b_if (fun z2 => nx (fun y => by rw [z2] at y; cases y.2)) (fun z2 y ey x ex => ?_))))
      rw [ex, ey, nI_1, nI_1]
      rw [if_pos ⟨z, z2⟩] at h
      exact ih (k + 1) (m + 1) (by omega) (by omega) (by omega) (by omega) (by rw [Nat.add_assoc]; exact h)
theorem kx_meas {post : Int32 → Prop} {v : Nat → Int32} {w : List Int32} {n : Nat} (hw : w.length ≤ 30) (hn : n ≤ w.length) (hv : rV v w) (h : post (nI (meas w n))) : wpX4_measure post (nI w.length) v (nI n) :=
  ⟨_, kx_meas_loop hw hn hv n 1 0 (by omega) (Nat.le_refl _) (by omega) (by omega) (by rw [Nat.zero_add]; exact h)⟩
def hvL (w : List Int32) (n : Nat) : Nat → Nat → Bool
  | 0, _ => false
  | g + 1, k => if k < n then (vL w k || hvL w n g (k + 1)) else false
def hasV (w : List Int32) (n : Nat) : Bool := hvL w n n 0
theorem kx_hasV_loop {post : Int32 → Prop} {v : Nat → Int32} {w : List Int32} {n : Nat} (hw : w.length ≤ 30) (hn : n ≤ w.length) (hv : rV v w) : ∀ (g k : Nat), n - k ≤ g → k ≤ n → post (b2i (hvL w n g k)) → wlX4_hasVowel_2 post (nI w.length) v (nI n) (g + 1) (nI k) := by
  intro g
  induction g with
  | zero => intro k h1 h2 h; exact ⟨fun _ => h, fun q => absurd (nI_le (by omega) (by omega)) q⟩
  | succ g ih =>
    intro k h1 h2 h
    refine ⟨fun q => ?_, fun q => ?_⟩
    · rw [nI_leI (by omega) (by omega)] at q
      rw [hvL, if_neg (by omega)] at h; exact h
    · rw [nI_leI (by omega) (by omega)] at q
      rw [hvL, if_pos (by omega)] at h
      refine kx_isVowel hw (by omega) hv (b_ifz (fun z x ex => ?_) (fun z => ?_))
      · rw [ex, nI_1]
        rw [z, Bool.false_or] at h
        exact ih (k + 1) (by omega) (by omega) h
      · rw [z, Bool.true_or] at h; exact h
theorem kx_hasV {post : Int32 → Prop} {v : Nat → Int32} {w : List Int32} {n : Nat} (hw : w.length ≤ 30) (hn : n ≤ w.length) (hv : rV v w) (h : post (b2i (hasV w n))) : wpX4_hasVowel post (nI w.length) v (nI n) :=
  ⟨_, kx_hasV_loop hw hn hv n 0 (by omega) (Nat.zero_le _) h⟩
