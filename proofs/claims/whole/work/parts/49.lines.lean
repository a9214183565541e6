/-! PURE 10: lines() and line(): both sides -/
def toldM (t : Nat → Int32) (n L : Nat) (told : Nat → Int32) : Prop := ∀ i, i < L → told (5 * i) = nI (dO t n i) ∧ told (5 * i + 1) = b2i (sO t n (i + 1)) ∧ told (5 * i + 2) = b2i (lO t n i) ∧ told (5 * i + 3) = nI (bO t n i) ∧ told (5 * i + 4) = nI (eO t n i - bO t n i)
theorem nI_5 (i : Nat) : (5 : Int32) * nI i = nI (5 * i) := pk_mul 5 i
theorem km_told_loop {post : Int32 → Int32 → Int32 → Int32 → (Nat → Int32) → (Nat → Int32) → (Nat → Int32) → (Nat → Int32) → (Nat → Int32) → (Nat → Int32) → Prop} {t : Nat → Int32} {n L : Nat} {sz th tl : Int32} {tx a lg d s led : Nat → Int32} (hn : n ≤ 1500) (hc : cntL t n L) (hT : tabM t n L a lg d s) (hl : ledM t n L led) (h : ∀ told, toldM t n L told → post (nI L) th (nI L) (nI L) a lg d s led told) :
    ∀ (f i : Nat) (told : Nat → Int32), L - i ≤ f → i ≤ L → toldM t n i told → wlX8_lines_11 post sz tx th (nI L) tl a lg d s led (f + 1) told (nI i) := by
  have hLn := cntL_le hc
  intro f
  induction f with
  | zero =>
    intro i told h1 h2 ht
    have e : i = L := by omega
    subst e
    exact ⟨fun _ => h told ht, fun q => absurd (nI_le (Nat.le_refl _) (by omega)) q⟩
  | succ f ih =>
    intro i told h1 h2 ht
    refine ⟨fun q => ?_, fun q => ?_⟩
    · rw [nI_leI (by omega) (by omega)] at q
      have e : i = L := by omega
      subst e
      exact h told ht
    · rw [nI_leI (by omega) (by omega)] at q
      have hin : vp_in (nI i) 1501 := vp_in_nI (by omega) (by omega)
      obtain ⟨a1, a2, a3, a4⟩ := hT i (by omega)
      have a5 := hl i (by omega)
      have key : ∀ (g : Nat → Int32) (v : Bool), lO t n i = v → (∀ j, j < i → g (5 * j) = nI (dO t n j) ∧ g (5 * j + 1) = b2i (sO t n (j + 1)) ∧ g (5 * j + 2) = b2i (lO t n j) ∧ g (5 * j + 3) = nI (bO t n j) ∧ g (5 * j + 4) = nI (eO t n j - bO t n j)) → g (5 * i) = nI (dO t n i) → g (5 * i + 1) = b2i (sO t n (i + 1)) → wjX8_lines_80 (fun m_told x1 => wlX8_lines_11 post sz tx th (nI L) tl a lg d s led (f + 1) m_told x1) post sz tx th (nI L) tl a lg d s led g (nI i) (b2i v) ((5 * nI i) + 2) := by
        intro g v ev hg g0 g1
        unfold wjX8_lines_80
        rw [nI_5, show (2 : Int32) = nI 2 from rfl, show (3 : Int32) = nI 3 from rfl, show (4 : Int32) = nI 4 from rfl, nI_add, nI_add, nI_add, nI_clamp (by omega), nI_clamp (by omega), nI_clamp (by omega), nI_clamp (by omega)]
        refine ⟨vp_in_nI (by omega) (by omega), hin, vp_in_nI (by omega) (by omega), hin, vp_in_nI (by omega) (by omega), fun x ex => ?_⟩
        rw [ex, nI_1]
        refine ih (i + 1) _ (by omega) (by omega) (fun j hj => ?_)
        rcases Nat.lt_or_ge j i with w | w
        · repeat rw [pk_un (by omega)]
          exact hg j w
        · have e2 : j = i := by omega
          subst e2
          refine ⟨?_, ?_, ?_, ?_, ?_⟩
          · rw [pk_un (by omega), pk_un (by omega), pk_un (by omega)]; exact g0
          · rw [pk_un (by omega), pk_un (by omega), pk_un (by omega)]; exact g1
          · rw [pk_un (by omega), pk_un (by omega), pk_us, ev]
          · rw [pk_un (by omega), pk_us]; exact a1
          · rw [pk_us]; exact a2
      have key2 : ∀ (v : Bool), sO t n (i + 1) = v → wjX8_lines_56 (fun m_told x1 => wlX8_lines_11 post sz tx th (nI L) tl a lg d s led (f + 1) m_told x1) post sz tx th (nI L) tl a lg d s led (upd told (5 * i) (nI (dO t n i))) (nI i) (b2i v) ((5 * nI i) + 1) := by
        intro v ev
        have e1 : (5 : Int32) * nI i + 1 = nI (5 * i + 1) := by rw [nI_5, nI_1]
        unfold wjX8_lines_56
        rw [e1, nI_clamp (by omega), nI_clamp (by omega), a5]
        have hg : ∀ j, j < i → (upd (upd told (5 * i) (nI (dO t n i))) (5 * i + 1) (b2i v)) (5 * j) = nI (dO t n j) ∧ (upd (upd told (5 * i) (nI (dO t n i))) (5 * i + 1) (b2i v)) (5 * j + 1) = b2i (sO t n (j + 1)) ∧ (upd (upd told (5 * i) (nI (dO t n i))) (5 * i + 1) (b2i v)) (5 * j + 2) = b2i (lO t n j) ∧ (upd (upd told (5 * i) (nI (dO t n i))) (5 * i + 1) (b2i v)) (5 * j + 3) = nI (bO t n j) ∧ (upd (upd told (5 * i) (nI (dO t n i))) (5 * i + 1) (b2i v)) (5 * j + 4) = nI (eO t n j - bO t n j) := by
          intro j hj
          repeat rw [pk_un (by omega)]
          exact ht j hj
        refine ⟨vp_in_nI (by omega) (by omega), hin, b_ifz (fun z => key _ false z hg ?_ ?_) (fun z => key _ true z hg ?_ ?_)⟩
        · rw [pk_un (by omega), pk_us]
        · rw [pk_us, ev]
        · rw [pk_un (by omega), pk_us]
        · rw [pk_us, ev]
      refine ⟨hin, by rw [nI_5]; exact vp_in_nI (by omega) (by omega), hin, ?_⟩
      rw [show ((5 : Int32) * nI i).toNatClampNeg = 5 * i by rw [nI_5, nI_clamp (by omega)], nI_clamp (by omega), a3, a4]
      exact b_ifz (fun z => key2 false z) (fun z => key2 true z)
theorem km_lines {post : Int32 → Int32 → Int32 → Int32 → (Nat → Int32) → (Nat → Int32) → (Nat → Int32) → (Nat → Int32) → (Nat → Int32) → (Nat → Int32) → Prop} {t : Nat → Int32} {n L : Nat} {th ln tl : Int32} {a lg d s led told : Nat → Int32} (hn : n ≤ 1500) (hc : cntL t n L) (h : ∀ a lg d s led told, toldM t n L told → post (nI L) 0 (nI L) (nI L) a lg d s led told) : wpX8_lines post th (nI n) ln tl t a lg d s led told := by
  refine km_lookLines hn hc (fun a lg d s led hT hl => ⟨_, km_told_loop hn hc hT hl (fun told ht => h a lg d s led told ht) L 0 told (by omega) (Nat.zero_le _) (fun i hi => absurd hi (by omega))⟩)
/-- what line(x, y) answers -/
def ansL (t : Nat → Int32) (n L : Nat) (x y : Int32) : Int32 :=
  if x.toInt < 0 ∨ (L : Int) ≤ x.toInt then -1
  else if y = 0 then nI (dO t n x.toNatClampNeg)
  else if y = 1 then b2i (sO t n (x.toNatClampNeg + 1))
  else if y = 2 then b2i (lO t n x.toNatClampNeg)
  else if y = 3 then nI (bO t n x.toNatClampNeg)
  else if y = 4 then nI (eO t n x.toNatClampNeg - bO t n x.toNatClampNeg)
  else -1
theorem mkN_parts (t : Nat → Int32) (n i : Nat) : mkN t n i / 4 = dO t n i ∧ nI (mkN t n i / 2 % 2) = b2i (sO t n (i + 1)) ∧ nI (mkN t n i % 2) = b2i (lO t n i) := by
  rw [mkN]
  cases sO t n (i + 1) <;> cases lO t n i
  · refine ⟨by simp, ?_, ?_⟩
    · rw [show (dO t n i * 4 + (if false = true then 2 else 0) + (if false = true then 1 else 0)) / 2 % 2 = 0 by simp; omega]; rfl
    · rw [show (dO t n i * 4 + (if false = true then 2 else 0) + (if false = true then 1 else 0)) % 2 = 0 by simp; omega]; rfl
  · refine ⟨by simp; omega, ?_, ?_⟩
    · rw [show (dO t n i * 4 + (if false = true then 2 else 0) + (if true = true then 1 else 0)) / 2 % 2 = 0 by simp; omega]; rfl
    · rw [show (dO t n i * 4 + (if false = true then 2 else 0) + (if true = true then 1 else 0)) % 2 = 1 by simp; omega]; rfl
  · refine ⟨by simp; omega, ?_, ?_⟩
    · rw [show (dO t n i * 4 + (if true = true then 2 else 0) + (if false = true then 1 else 0)) / 2 % 2 = 1 by simp; omega]; rfl
    · rw [show (dO t n i * 4 + (if true = true then 2 else 0) + (if false = true then 1 else 0)) % 2 = 0 by simp; omega]; rfl
  · refine ⟨by simp; omega, ?_, ?_⟩
    · rw [show (dO t n i * 4 + (if true = true then 2 else 0) + (if true = true then 1 else 0)) / 2 % 2 = 1 by simp; omega]; rfl
    · rw [show (dO t n i * 4 + (if true = true then 2 else 0) + (if true = true then 1 else 0)) % 2 = 1 by simp; omega]; rfl
theorem kx_line {post : Int32 → Prop} {t : Nat → Int32} {n L : Nat} {b m : Nat → Int32} {x y : Int32} (hn : n ≤ 1500) (hc : cntL t n L) (hT : tabX t n L b m) (h : post (ansL t n L x y)) : wpX7_line post (nI L) b m x y := by
  have hLn := cntL_le hc
  have hLt : (nI L).toInt = (L : Int) := nI_toInt (by omega)
  refine ⟨fun q => ?_, fun q => ⟨fun q2 => ?_, fun q2 => ?_⟩⟩
  · rw [i_lt] at q
    rw [ansL, if_pos (Or.inl (by simpa using q))] at h; exact h
  · obtain ⟨j, hj, rfl⟩ : ∃ j, j < L ∧ x = nI j := by
      rcases pk_ix x (n := L) (by omega) with z | z | z
      · exact absurd z q
      · rw [i_lt] at q2; rw [i_le] at z; exact absurd q2 (by omega)
      · exact z
    obtain ⟨a1, a2, a3⟩ := hT j hj
    obtain ⟨m1, m2, m3⟩ := mkN_parts t n j
    have hbj := hc.2 j hj
    have hL := bO_line j hbj
    have hd := dO_le t n j
    have hmk : mkN t n j < 2 ^ 20 := by
      rw [mkN]
      split <;> split <;> omega
    rw [ansL, if_neg (by rw [nI_toInt (by omega)]; omega), nI_clamp (by omega)] at h
    rw [nI_clamp (by omega), nI_1, nI_clamp (by omega), a1, a2, a3]
    refine ⟨fun q3 => ?_, fun q3 => ?_, fun q3 => ?_, fun q3 => ?_, fun q3 => ?_, fun q3 q4 q5 q6 q7 => ?_⟩
    · rw [if_pos q3] at h
      exact ⟨vp_in_nI (by omega) (by omega), by rw [pk_shrN (by omega) (2 &&& 31) 2 (by decide), m1]; exact h⟩
    · rw [if_neg (by rw [q3]; decide), if_pos q3] at h
      exact ⟨vp_in_nI (by omega) (by omega), by rw [pk_shrN (by omega) (1 &&& 31) 1 (by decide), pk_andN (by omega) 1 (by decide), m2]; exact h⟩
    · rw [if_neg (by rw [q3]; decide), if_neg (by rw [q3]; decide), if_pos q3] at h
      exact ⟨vp_in_nI (by omega) (by omega), by rw [pk_andN (by omega) 1 (by decide), m3]; exact h⟩
    · rw [if_neg (by rw [q3]; decide), if_neg (by rw [q3]; decide), if_neg (by rw [q3]; decide), if_pos q3] at h
      exact ⟨vp_in_nI (by omega) (by omega), h⟩
    · rw [if_neg (by rw [q3]; decide), if_neg (by rw [q3]; decide), if_neg (by rw [q3]; decide), if_neg (by rw [q3]; decide), if_pos q3] at h
      refine ⟨vp_in_nI (by omega) (by omega), vp_in_nI (by omega) (by omega), ?_⟩
      rw [show bO t n (j + 1) = eO t n j + 1 from rfl, nI_pred, pk_sub hL.1]; exact h
    · rw [if_neg q3, if_neg q4, if_neg q5, if_neg q6, if_neg q7] at h; exact h
  · rw [i_lt, hLt] at q2
    rw [ansL, if_pos (Or.inr (by omega))] at h; exact h
theorem km_line {post : Int32 → Int32 → Prop} {t : Nat → Int32} {n L : Nat} {told : Nat → Int32} {x y th : Int32} (hn : n ≤ 1500) (hc : cntL t n L) (hT : toldM t n L told) (h : post (ansL t n L x y) 0) : wpX8_line post th (nI L) told x y := by
  have hLn := cntL_le hc
  have hLt : (nI L).toInt = (L : Int) := nI_toInt (by omega)
  refine ⟨fun q => ?_, fun q => ⟨fun q2 => ?_, fun q2 => ?_⟩⟩
  · rw [i_lt] at q
    rw [ansL, if_pos (Or.inl (by simpa using q))] at h; exact h
  · rw [i_le, hLt] at q2
    rw [ansL, if_pos (Or.inr q2)] at h; exact h
  · obtain ⟨j, hj, rfl⟩ : ∃ j, j < L ∧ x = nI j := by
      rcases pk_ix x (n := L) (by omega) with z | z | z
      · exact absurd z q
      · exact absurd z q2
      · exact z
    obtain ⟨a1, a2, a3, a4, a5⟩ := hT j hj
    rw [ansL, if_neg (by rw [nI_toInt (by omega)]; omega), nI_clamp (by omega)] at h
    have out : (¬ y = 0 → ¬ y = 1 → ¬ y = 2 → ¬ y = 3 → ¬ y = 4 → post (-1) 0) := by
      intro c0 c1 c2 c3 c4
      rw [if_neg c0, if_neg c1, if_neg c2, if_neg c3, if_neg c4] at h; exact h
    refine ⟨fun q3 => ?_, fun q3 => ⟨fun q4 => ?_, fun q4 => ?_⟩⟩
    · refine out ?_ ?_ ?_ ?_ ?_ <;> (intro c; rw [c] at q3; exact absurd q3 (by decide))
    · obtain ⟨k, hk, rfl⟩ := nI_of2 (n := 4) (by decide) q3 q4
      rw [nI_5, nI_add, nI_clamp (by omega)]
      refine ⟨vp_in_nI (by omega) (by omega), ?_⟩
      rcases (show k = 0 ∨ k = 1 ∨ k = 2 ∨ k = 3 ∨ k = 4 by omega) with rfl | rfl | rfl | rfl | rfl
      · rw [Nat.add_zero, a1]; exact h
      · rw [a2]; exact h
      · rw [a3]; exact h
      · rw [a4]; exact h
      · rw [a5]; exact h
    · refine out ?_ ?_ ?_ ?_ ?_ <;> (intro c; rw [c] at q4; exact absurd (by decide) q4)
