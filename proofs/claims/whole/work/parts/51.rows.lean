/-! PURE 12: rows and pieces. pE: where the piece ends that has k in it; rowE: where the row ends -/
def pE (t : Nat → Int32) (e : Nat) : Nat → Nat → Nat
  | 0, k => k
  | f + 1, k => if k < e ∧ cWord (t k) = true then pE t e f (k + 1) else k
def rowE (t : Nat → Int32) (e : Nat) : Nat → Nat → Nat
  | 0, k => k
  | f + 1, k => if k < e then (if cWord (t k) = true then rowE t e f (k + 1) else if k + 1 < e ∧ cJoin (t k) = true ∧ cWord (t (k + 1)) = true then rowE t e f (k + 1) else k) else k
def pieceEnd (t : Nat → Int32) (e k : Nat) : Nat := pE t e (e - k) k
def rowEnd (t : Nat → Int32) (e k : Nat) : Nat := rowE t e (e - k) k
theorem pieceEnd_w {t : Nat → Int32} {e k : Nat} (h : k < e) (hw : cWord (t k) = true) : pieceEnd t e k = pieceEnd t e (k + 1) := by
  rw [pieceEnd, show e - k = (e - (k + 1)) + 1 by omega, pE, if_pos ⟨h, hw⟩]; rfl
theorem pieceEnd_n {t : Nat → Int32} {e k : Nat} (hw : ¬ (k < e ∧ cWord (t k) = true)) : pieceEnd t e k = k := by
  rw [pieceEnd]
  cases h : e - k with
  | zero => rfl
  | succ f => rw [pE, if_neg hw]
theorem rowEnd_w {t : Nat → Int32} {e k : Nat} (h : k < e) (hw : cWord (t k) = true) : rowEnd t e k = rowEnd t e (k + 1) := by
  rw [rowEnd, show e - k = (e - (k + 1)) + 1 by omega, rowE, if_pos h, if_pos hw]; rfl
theorem rowEnd_j {t : Nat → Int32} {e k : Nat} (hn : cWord (t k) = false) (h : k + 1 < e ∧ cJoin (t k) = true ∧ cWord (t (k + 1)) = true) : rowEnd t e k = rowEnd t e (k + 1) := by
  rw [rowEnd, show e - k = (e - (k + 1)) + 1 by omega, rowE, if_pos (by omega), if_neg (by rw [hn]; decide), if_pos h]; rfl
theorem rowEnd_n {t : Nat → Int32} {e k : Nat} (hn : k < e → cWord (t k) = false) (h : ¬ (k + 1 < e ∧ cJoin (t k) = true ∧ cWord (t (k + 1)) = true)) : rowEnd t e k = k := by
  rw [rowEnd]
  cases hk : e - k with
  | zero => rfl
  | succ f => rw [rowE, if_pos (by omega), if_neg (by rw [hn (by omega)]; decide), if_neg h]
theorem pieceEnd_spec {t : Nat → Int32} {e : Nat} : ∀ (f k : Nat), e - k = f → k ≤ e → k ≤ pieceEnd t e k ∧ pieceEnd t e k ≤ e ∧ (∀ j, k ≤ j → j < pieceEnd t e k → cWord (t j) = true) ∧ (pieceEnd t e k < e → cWord (t (pieceEnd t e k)) = false) ∧ rowEnd t e (pieceEnd t e k) = rowEnd t e k := by
  intro f
  induction f with
  | zero =>
    intro k h hk
    rw [pieceEnd_n (by omega)]
    exact ⟨Nat.le_refl _, hk, fun j a b => absurd b (by omega), fun q => absurd q (by omega), rfl⟩
  | succ f ih =>
    intro k h hk
    by_cases hw : cWord (t k) = true
    · rw [pieceEnd_w (by omega) hw]
      obtain ⟨h1, h2, h3, h4, h5⟩ := ih (k + 1) (by omega) (by omega)
      refine ⟨by omega, h2, fun j a b => ?_, h4, by rw [h5, ← rowEnd_w (by omega) hw]⟩
      rcases Nat.lt_or_ge k j with q | q
      · exact h3 j q b
      · rw [show j = k by omega]; exact hw
    · rw [pieceEnd_n (fun z => hw z.2)]
      exact ⟨Nat.le_refl _, hk, fun j a b => absurd b (by omega), fun _ => by simpa using hw, rfl⟩
theorem km_piece_loop {post : Int32 → Prop} {t : Nat → Int32} {e : Nat} {b : Int32} (he : e ≤ 1500) : ∀ (f k : Nat), e - k = f → k ≤ e → post (nI (pieceEnd t e k)) → wlX8_pieceEnd_2 post t b (nI e) (f + 1) (nI k) := by
  intro f
  induction f with
  | zero =>
    intro k h hk hp
    rw [pieceEnd_n (by omega)] at hp
    exact ⟨fun _ => hp, fun q => absurd (nI_le (by omega) (by omega)) q⟩
  | succ f ih =>
    intro k h hk hp
    refine ⟨fun q => absurd q (nI_ge (by omega) (by omega)), fun q => ⟨vp_in_nI (by omega) (by omega), ?_⟩⟩
    rw [nI_clamp (by omega)]
    refine km_isWord (b_ifz (fun z => ?_) (fun z x ex => ?_))
    · rw [pieceEnd_n (fun y => by rw [z] at y; cases y.2)] at hp; exact hp
    · rw [ex, nI_1]
      rw [pieceEnd_w (by omega) z] at hp
      exact ih (k + 1) (by omega) (by omega) hp
theorem km_piece {post : Int32 → Prop} {t : Nat → Int32} {e k : Nat} (he : e ≤ 1500) (hk : k ≤ e) (h : post (nI (pieceEnd t e k))) : wpX8_pieceEnd post t (nI k) (nI e) := ⟨_, km_piece_loop he (e - k) k rfl hk h⟩
theorem km_row_loop {post : Int32 → Prop} {t : Nat → Int32} {e : Nat} {b : Int32} (he : e ≤ 1500) : ∀ (f k : Nat), e - k ≤ f → k ≤ e → (k < e → cWord (t k) = false) → post (nI (rowEnd t e k)) → wlX8_rowEnd_7 post t b (nI e) (f + 1) (nI k) := by
  intro f
  induction f with
  | zero =>
    intro k h hk hn hp
    rw [rowEnd_n hn (by omega)] at hp
    unfold wlX8_rowEnd_7
    rw [nI_1]
    exact ⟨fun _ => hp, fun q => absurd (nI_le (by omega) (by omega)) q⟩
  | succ f ih =>
    intro k h hk hn hp
    unfold wlX8_rowEnd_7
    rw [nI_1, nI_leI (by omega) (by omega)]
    refine ⟨fun q => ?_, fun q => ?_⟩
    · rw [rowEnd_n hn (by omega)] at hp; exact hp
    · rw [nI_clamp (by omega), nI_clamp (by omega)]
      refine ⟨vp_in_nI (by omega) (by omega), km_isSign (b_ifz (fun z => ?_) (fun z => ⟨vp_in_nI (by omega) (by omega), km_isWord (b_ifz (fun z2 => ?_) (fun z2 => km_piece he (by omega) ?_))⟩))⟩
      · rw [rowEnd_n hn (fun y => by rw [z] at y; cases y.2.1)] at hp; exact hp
      · rw [rowEnd_n hn (fun y => by rw [z2] at y; cases y.2.2)] at hp; exact hp
      · obtain ⟨h1, h2, h3, h4, h5⟩ := pieceEnd_spec (t := t) (e - (k + 1)) (k + 1) rfl (by omega)
        have hlt : k + 1 < pieceEnd t e (k + 1) := by
          rw [pieceEnd_w (by omega) z2]
          have := (pieceEnd_spec (t := t) (e - (k + 1 + 1)) (k + 1 + 1) rfl (by omega)).1
          omega
        refine ih _ (by omega) h2 h4 ?_
        rw [h5, ← rowEnd_j (hn (by omega)) ⟨by omega, z, z2⟩]; exact hp
theorem km_rowEnd {post : Int32 → Prop} {t : Nat → Int32} {e k : Nat} (he : e ≤ 1500) (hk : k ≤ e) (h : post (nI (rowEnd t e k))) : wpX8_rowEnd post t (nI k) (nI e) := by
  obtain ⟨h1, h2, h3, h4, h5⟩ := pieceEnd_spec (t := t) (e - k) k rfl hk
  refine km_piece he hk ⟨_, km_row_loop he (e - pieceEnd t e k) _ (Nat.le_refl _) h2 h4 (by rw [h5]; exact h)⟩
theorem kx_row_loop {post : Int32 → Prop} {t : Nat → Int32} {n e b : Nat} (hn : n ≤ 1500) (he : e ≤ n) : ∀ (f k : Nat), e - k = f → b ≤ k → k ≤ e → (b = k → k < e ∧ cWord (t k) = true) → post (nI (rowEnd t e k)) → wlX6_behindRow_5 post (nI n) t (nI b) (nI e) (f + 1) (nI k) (nI k) ∧ (k < e → cWord (t k) = false → b < k → cJoin (t k) = true → k + 1 < e → cWord (t (k + 1)) = false → True) := by
  intro f
  induction f using Nat.strongRecOn with
  | ind f ih =>
    intro k h hb hk hf hp
    refine ⟨?_, fun _ _ _ _ _ _ => trivial⟩
    cases f with
    | zero =>
      rw [rowEnd_n (fun y => absurd y (by omega)) (by omega)] at hp
      exact ⟨fun _ => hp, fun q => absurd (nI_le (by omega) (by omega)) q⟩
    | succ f =>
      refine ⟨fun q => absurd q (nI_ge (by omega) (by omega)), fun q => kx_get hn (by omega) ?_⟩
      rw [gF_lt (by omega)]
      refine kx_isWord (b_ifz (fun z => ?_) (fun z x ex y ey => ?_))
      · refine ⟨fun q2 => absurd q2 (nI_nlt (Nat.le_refl _) (by omega)), fun _ => ?_⟩
        have hbk : b < k := by
          rcases Nat.lt_or_ge b k with w | w
          · exact w
          · have := (hf (by omega)).2; rw [z] at this; cases this
        refine ⟨fun q2 => absurd ((nI_eq (by omega) (by omega)).mp q2) (by omega), fun _ => kx_get hn (by omega) ?_⟩
        rw [gF_lt (by omega)]
        refine kx_isJoin (b_if (fun z2 y ey => ?_) (fun z2 => ?_))
        · rw [ey, nI_1]
          -- one sign: what is behind it decides
          cases f with
          | zero =>
            rw [rowEnd_n (fun _ => z) (by omega)] at hp
            exact ⟨fun _ => hp, fun q2 => absurd (nI_le (by omega) (by omega)) q2⟩
          | succ g =>
            refine ⟨fun q2 => absurd q2 (nI_ge (by omega) (by omega)), fun q2 => kx_get hn (by omega) ?_⟩
            rw [gF_lt (by omega)]
            refine kx_isWord (b_ifz (fun z3 => ?_) (fun z3 x ex y ey => ?_))
            · rw [rowEnd_n (fun _ => z) (fun w => by rw [z3] at w; cases w.2.2)] at hp
              exact ⟨fun _ => hp, fun q3 => absurd (nI_lt (by omega) (by omega)) q3⟩
            · rw [ex, ey, nI_1]
              rw [rowEnd_j z ⟨by omega, z2, z3⟩, rowEnd_w (by omega) z3] at hp
              exact (ih g (by omega) (k + 1 + 1) (by omega) (by omega) (by omega) (fun w => absurd w (by omega)) hp).1
        · rw [rowEnd_n (fun _ => z) (fun w => by rw [z2] at w; cases w.2.1)] at hp; exact hp
      · rw [ex, ey, nI_1]
        rw [rowEnd_w (by omega) z] at hp
        exact (ih f (by omega) (k + 1) (by omega) (by omega) (by omega) (fun w => absurd w (by omega)) hp).1
/-- behindRow: at a letter or digit the row's end, else where it stands -/
theorem kx_row {post : Int32 → Prop} {t : Nat → Int32} {n e k : Nat} (hn : n ≤ 1500) (he : e ≤ n) (hk : k < e) (h1 : cWord (t k) = true → post (nI (rowEnd t e k))) (h0 : cWord (t k) = false → post (nI k)) : wpX6_behindRow post (nI n) t (nI k) (nI e) := by
  by_cases hw : cWord (t k) = true
  · exact ⟨_, (kx_row_loop hn he (e - k) k rfl (Nat.le_refl _) (by omega) (fun _ => ⟨hk, hw⟩) (h1 hw)).1⟩
  · refine ⟨1, ⟨fun q => absurd q (nI_ge (by omega) (by omega)), fun q => kx_get hn (by omega) ?_⟩⟩
    rw [gF_lt (by omega)]
    have hw : cWord (t k) = false := by simpa using hw
    refine kx_isWord (b_ifz (fun z => ⟨fun q2 => absurd q2 (nI_nlt (Nat.le_refl _) (by omega)), fun _ => ⟨fun _ => h0 hw, fun q3 => absurd rfl q3⟩⟩) (fun z => ?_))
    rw [hw] at z; cases z
/-- the whole row is an address -/
def adF (t : Nat → Int32) (e : Nat) : Nat → Nat → Bool
  | 0, _ => false
  | f + 1, k => if k < e then (decide (t k = 64) || (decide (t k = 46) && cLetter (t (k - 1)) && cLetter (t (k + 1))) || adF t e f (k + 1)) else false
theorem cWord_46 : cWord 46 = false := by decide
theorem kx_addr_loop {post : Int32 → Prop} {t : Nat → Int32} {n b e : Nat} (hn : n ≤ 1500) (he : e ≤ n) (hb : cWord (t b) = true) (hl : cWord (t (e - 1)) = true) : ∀ (f k : Nat), e - k ≤ f → b ≤ k → k ≤ e → post (b2i (adF t e f k)) → wlX6_isAddress_2 post (nI n) t (nI b) (nI e) (f + 1) (nI k) := by
  intro f
  induction f with
  | zero => intro k h1 hbk h2 h; exact ⟨fun _ => h, fun q => absurd (nI_le (by omega) (by omega)) q⟩
  | succ f ih =>
    intro k h1 hbk h2 h
    refine ⟨fun q => ?_, fun q => kx_get hn (by omega) ?_⟩
    · rw [nI_leI (by omega) (by omega)] at q
      rw [adF, if_neg (by omega)] at h; exact h
    · rw [nI_leI (by omega) (by omega)] at q
      rw [gF_lt (by omega)]
      rw [adF, if_pos (by omega)] at h
      have nx : (decide (t k = 64) || (decide (t k = 46) && cLetter (t (k - 1)) && cLetter (t (k + 1)))) = false → wjX6_isAddress_65 (fun x3 => wlX6_isAddress_2 post (nI n) t (nI b) (nI e) (f + 1) x3) post (nI n) t (nI b) (nI e) (nI k) := by
        intro z x ex
        rw [ex, nI_1]
        rw [z, Bool.false_or] at h
        exact ih (k + 1) (by omega) (by omega) (by omega) h
      refine ⟨fun q2 => ?_, fun q2 => ⟨fun q3 => nx (by rw [decide_eq_false q2, decide_eq_false q3]; rfl), fun q3 => ?_⟩⟩
      · rw [decide_eq_true q2, Bool.true_or, Bool.true_or] at h; exact h
      · have hkb : b < k := by
          rcases Nat.lt_or_ge b k with w | w
          · exact w
          · rw [show b = k by omega, q3, cWord_46] at hb; cases hb
        have hke : k + 1 < e := by
          rcases Nat.lt_or_ge (k + 1) e with w | w
          · exact w
          · rw [show e - 1 = k by omega, q3, cWord_46] at hl; cases hl
        refine kx_pv hn (by omega) ?_
        rw [show pv t n k = t (k - 1) by rw [pv, if_neg (by omega), gF_lt (by omega)]]
        refine kx_isLetter (b_ifz (fun z => nx (by rw [decide_eq_false q2, z]; simp)) (fun z => ?_))
        rw [nI_1]
        refine kx_get hn (by omega) ?_
        rw [gF_lt (by omega)]
        refine kx_isLetter (b_ifz (fun z2 => nx (by rw [decide_eq_false q2, z2]; simp)) (fun z2 => ?_))
        rw [decide_eq_true q3, z, z2, Bool.true_and, Bool.true_and, Bool.or_true, Bool.true_or] at h; exact h
theorem kx_addr {post : Int32 → Prop} {t : Nat → Int32} {n b e : Nat} (hn : n ≤ 1500) (hbe : b ≤ e) (he : e ≤ n) (hb : cWord (t b) = true) (hl : cWord (t (e - 1)) = true) (h : post (b2i (adF t e (e - b) b))) : wpX6_isAddress post (nI n) t (nI b) (nI e) := ⟨_, kx_addr_loop hn he hb hl (e - b) b (Nat.le_refl _) (Nat.le_refl _) hbe h⟩
theorem km_addr_loop {post : Int32 → Prop} {t : Nat → Int32} {b e : Nat} (he : e ≤ 1500) (hb : cWord (t b) = true) (hl : cWord (t (e - 1)) = true) : ∀ (f k : Nat), e - k ≤ f → b ≤ k → k ≤ e → post (b2i (adF t e f k)) → wlX8_isAddress_2 post t (nI b) (nI e) (f + 1) (nI k) := by
  intro f
  induction f with
  | zero => intro k h1 hbk h2 h; exact ⟨fun _ => h, fun q => absurd (nI_le (by omega) (by omega)) q⟩
  | succ f ih =>
    intro k h1 hbk h2 h
    refine ⟨fun q => ?_, fun q => ?_⟩
    · rw [nI_leI (by omega) (by omega)] at q
      rw [adF, if_neg (by omega)] at h; exact h
    · rw [nI_leI (by omega) (by omega)] at q
      have hin : vp_in (nI k) 1500 := vp_in_nI (by omega) (by omega)
      rw [adF, if_pos (by omega)] at h
      have nx : (decide (t k = 64) || (decide (t k = 46) && cLetter (t (k - 1)) && cLetter (t (k + 1)))) = false → wjX8_isAddress_59 (fun x3 => wlX8_isAddress_2 post t (nI b) (nI e) (f + 1) x3) post t (nI b) (nI e) (nI k) := by
        intro z x ex
        rw [ex, nI_1]
        rw [z, Bool.false_or] at h
        exact ih (k + 1) (by omega) (by omega) (by omega) h
      rw [nI_clamp (by omega)]
      refine ⟨hin, fun q2 => ?_, fun q2 => ⟨hin, fun q3 => nx (by rw [decide_eq_false q2, decide_eq_false q3]; rfl), fun q3 => ?_⟩⟩
      · rw [decide_eq_true q2, Bool.true_or, Bool.true_or] at h; exact h
      · have hkb : b < k := by
          rcases Nat.lt_or_ge b k with w | w
          · exact w
          · rw [show b = k by omega, q3, cWord_46] at hb; cases hb
        have hke : k + 1 < e := by
          rcases Nat.lt_or_ge (k + 1) e with w | w
          · exact w
          · rw [show e - 1 = k by omega, q3, cWord_46] at hl; cases hl
        rw [show nI k - 1 = nI (k - 1) by rw [show k = (k - 1) + 1 by omega, nI_pred]; rfl, nI_1, nI_clamp (by omega), nI_clamp (by omega)]
        refine ⟨vp_in_nI (by omega) (by omega), km_isLetter (b_ifz (fun z => nx (by rw [decide_eq_false q2, z]; simp)) (fun z => ⟨vp_in_nI (by omega) (by omega), km_isLetter (b_ifz (fun z2 => nx (by rw [decide_eq_false q2, z2]; simp)) (fun z2 => ?_))⟩))⟩
        rw [decide_eq_true q3, z, z2, Bool.true_and, Bool.true_and, Bool.or_true, Bool.true_or] at h; exact h
theorem km_addr {post : Int32 → Prop} {t : Nat → Int32} {b e : Nat} (he : e ≤ 1500) (hbe : b ≤ e) (hb : cWord (t b) = true) (hl : cWord (t (e - 1)) = true) (h : post (b2i (adF t e (e - b) b))) : wpX8_isAddress post t (nI b) (nI e) := ⟨_, km_addr_loop he hb hl (e - b) b (Nat.le_refl _) (Nat.le_refl _) hbe h⟩
