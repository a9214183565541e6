/-! PURE 30: rows of a stretch of text; the class's cutRows -/
def cutS (t : Nat → Int32) (e : Nat) : Nat → Nat → List (Nat × Nat × Nat × Bool) → Nat → List (Nat × Nat × Nat × Bool) × Nat
  | 0, _, T, P => (T, P)
  | f + 1, k, T, P => if k < e ∧ P < 300 then (if cWord (t k) = true then cutS t e f (rowEnd t e k) (rowT t k (rowEnd t e k) k T P).1 (rowT t k (rowEnd t e k) k T P).2 else cutS t e f (k + 1) T P) else (T, P)
theorem cutS_len {t : Nat → Int32} {e : Nat} : ∀ (f k : Nat) (T : List (Nat × Nat × Nat × Bool)) (P : Nat), T.length ≤ (cutS t e f k T P).1.length ∧ (P ≤ T.length → (cutS t e f k T P).2 ≤ (cutS t e f k T P).1.length) := by
  intro f
  induction f with
  | zero => intro k T P; exact ⟨Nat.le_refl _, fun h => h⟩
  | succ f ih =>
    intro k T P
    by_cases q : k < e ∧ P < 300
    · rw [cutS, if_pos q]
      by_cases w : cWord (t k) = true
      · rw [if_pos w]
        obtain ⟨h1, h2⟩ := rowT_len (t := t) (b := k) (e := rowEnd t e k) (k := k) (P := P) (T := T)
        obtain ⟨h3, h4⟩ := ih (rowEnd t e k) (rowT t k (rowEnd t e k) k T P).1 (rowT t k (rowEnd t e k) k T P).2
        exact ⟨by omega, fun h => h4 (h2 h)⟩
      · rw [if_neg w]; exact ih (k + 1) T P
    · rw [cutS, if_neg q]; exact ⟨Nat.le_refl _, fun h => h⟩
theorem cutS_stop {t : Nat → Int32} {e f k P : Nat} {T : List (Nat × Nat × Nat × Bool)} (h : ¬ (k < e ∧ P < 300)) : cutS t e f k T P = (T, P) := by
  cases f with
  | zero => rfl
  | succ f => rw [cutS, if_neg h]
theorem cutS_fuel {t : Nat → Int32} {e : Nat} : ∀ (f g k : Nat) (T : List (Nat × Nat × Nat × Bool)) (P : Nat), e - k ≤ f → e - k ≤ g → cutS t e f k T P = cutS t e g k T P := by
  intro f
  induction f with
  | zero => intro g k T P h1 h2; rw [cutS_stop (by omega), cutS_stop (by omega)]
  | succ f ih =>
    intro g k T P h1 h2
    by_cases q : k < e ∧ P < 300
    · cases g with
      | zero => omega
      | succ g =>
        rw [cutS, cutS, if_pos q, if_pos q]
        by_cases w : cWord (t k) = true
        · rw [if_pos w, if_pos w]
          have := (RS_of q.1 w).2.1
          exact ih g _ _ _ (by omega) (by omega)
        · rw [if_neg w, if_neg w]; exact ih g _ _ _ (by omega) (by omega)
    · rw [cutS_stop q, cutS_stop q]
def cutR (t : Nat → Int32) (e k : Nat) (T : List (Nat × Nat × Nat × Bool)) (P : Nat) : List (Nat × Nat × Nat × Bool) × Nat := cutS t e (e - k) k T P
theorem cutR_w {t : Nat → Int32} {e k P : Nat} {T : List (Nat × Nat × Nat × Bool)} (h : k < e) (hP : P < 300) (w : cWord (t k) = true) : cutR t e k T P = cutR t e (rowEnd t e k) (rowT t k (rowEnd t e k) k T P).1 (rowT t k (rowEnd t e k) k T P).2 := by
  have := (RS_of h w).2.1
  rw [cutR, show e - k = (e - k - 1) + 1 by omega, cutS, if_pos ⟨h, hP⟩, if_pos w, cutR]
  exact cutS_fuel _ _ _ _ _ (by omega) (by omega)
theorem cutR_n {t : Nat → Int32} {e k P : Nat} {T : List (Nat × Nat × Nat × Bool)} (h : k < e) (w : cWord (t k) = false) : cutR t e k T P = cutR t e (k + 1) T P := by
  by_cases hP : P < 300
  · rw [cutR, show e - k = (e - (k + 1)) + 1 by omega, cutS, if_pos ⟨h, hP⟩, if_neg (by rw [w]; decide)]; rfl
  · rw [cutR, cutR, cutS_stop (by omega), cutS_stop (by omega)]
theorem cutR_stop {t : Nat → Int32} {e k P : Nat} {T : List (Nat × Nat × Nat × Bool)} (h : ¬ (k < e ∧ P < 300)) : cutR t e k T P = (T, P) := cutS_stop h
theorem cutR_len {t : Nat → Int32} {e k P : Nat} {T : List (Nat × Nat × Nat × Bool)} : T.length ≤ (cutR t e k T P).1.length ∧ (P ≤ T.length → (cutR t e k T P).2 ≤ (cutR t e k T P).1.length) := cutS_len _ _ _ _
theorem kx_cut_loop {post : Int32 → Int32 → (Nat → Int32) → (Nat → Int32) → (Nat → Int32) → (Nat → Int32) → Prop} {t : Nat → Int32} {n e : Nat} {x1 : Int32} {F : List (Nat × Nat × Nat × Bool) × Nat} (hn : n ≤ 1500) (he : e ≤ n) (hF : F.1.length ≤ 900)
    (H : ∀ cb cl cp ca, tokX F.1 cb cl cp ca → post (nI F.1.length) (nI F.2) cb cl cp ca) :
    ∀ (g k P : Nat) (T : List (Nat × Nat × Nat × Bool)) (cb cl cp ca : Nat → Int32), e - k ≤ g → k ≤ e → P ≤ T.length → tokX T cb cl cp ca → cutR t e k T P = F → wlX6_cutRows_2 post (nI n) t x1 (nI e) (g + 1) (nI T.length) (nI P) cb cl cp ca (nI k) := by
  intro g
  induction g with
  | zero =>
    intro k P T cb cl cp ca hg hk hP hT hFe
    rw [cutR_stop (by omega)] at hFe
    subst hFe
    exact ⟨fun _ => H cb cl cp ca hT, fun q => absurd (nI_le (by omega) (by omega)) q⟩
  | succ g ih =>
    intro k P T cb cl cp ca hg hk hP hT hFe
    have hlen := (cutR_len (t := t) (e := e) (k := k) (P := P) (T := T)).1
    rw [hFe] at hlen
    refine ⟨fun q => ?_, fun q => ⟨fun q2 => ?_, fun q2 => ?_⟩⟩
    · rw [nI_leI (by omega) (by omega)] at q
      rw [cutR_stop (by omega)] at hFe
      subst hFe
      exact H cb cl cp ca hT
    · have q2 := (nI_leI (a := 300) (by decide) (by omega)).mp q2
      rw [cutR_stop (by omega)] at hFe
      subst hFe
      exact H cb cl cp ca hT
    · rw [nI_leI (by omega) (by omega)] at q
      have q2 : ¬ 300 ≤ P := fun c => q2 ((nI_leI (a := 300) (by decide) (by omega)).mpr c)
      refine kx_row hn he (by omega) (fun w => ?_) (fun w => ?_)
      · obtain ⟨r1, r2, r3, r4, r5⟩ := RS_of (t := t) (show k < e by omega) w
        rw [cutR_w (by omega) (by omega) w] at hFe
        have hlen2 := (cutR_len (t := t) (e := e) (k := rowEnd t e k) (P := (rowT t k (rowEnd t e k) k T P).2) (T := (rowT t k (rowEnd t e k) k T P).1)).1
        rw [hFe] at hlen2
        refine ⟨fun c => absurd ((nI_leI (by omega) (by omega)).mp c) (by omega), fun _ => kx_addRow hn (by omega) r1 r4 hT (by omega) (fun cb' cl' cp' ca' hT' y ey => ?_)⟩
        have em : (if nI k + 1 < nI (rowEnd t e k) then nI (rowEnd t e k) else nI k + 1) = nI (rowEnd t e k) := by
          rw [nI_1]
          by_cases c : nI (k + 1) < nI (rowEnd t e k)
          · rw [if_pos c]
          · rw [if_neg c]
            rw [nI_ltI (by omega) (by omega)] at c
            rw [show k + 1 = rowEnd t e k by omega]
        rw [ey, em]
        exact ih _ _ _ _ _ _ _ (by omega) (by omega) (rowT_len.2 hP) hT' hFe
      · refine ⟨fun _ y ey => ?_, fun c => absurd (nI_le (Nat.le_refl _) (by omega)) c⟩
        have em : (if nI k + 1 < nI k then nI k else nI k + 1) = nI (k + 1) := by
          rw [nI_1, if_neg (nI_nlt (by omega) (by omega))]
        rw [ey, em]
        rw [cutR_n (by omega) w] at hFe
        exact ih _ _ _ _ _ _ _ (by omega) (by omega) hP hT hFe
theorem kx_cutRows {post : Int32 → Int32 → (Nat → Int32) → (Nat → Int32) → (Nat → Int32) → (Nat → Int32) → Prop} {t : Nat → Int32} {n e k P : Nat} {T : List (Nat × Nat × Nat × Bool)} {cb cl cp ca : Nat → Int32} (hn : n ≤ 1500) (he : e ≤ n) (hk : k ≤ e) (hP : P ≤ T.length) (hT : tokX T cb cl cp ca) (hF : (cutR t e k T P).1.length ≤ 900)
    (H : ∀ cb cl cp ca, tokX (cutR t e k T P).1 cb cl cp ca → post (nI (cutR t e k T P).1.length) (nI (cutR t e k T P).2) cb cl cp ca) : wpX6_cutRows post (nI n) (nI T.length) (nI P) t cb cl cp ca (nI k) (nI e) :=
  ⟨_, kx_cut_loop hn he hF H (e - k) k P T cb cl cp ca (Nat.le_refl _) hk hP hT rfl⟩
