/-! PURE 9: the reference's table of lines -/
def tabM (t : Nat → Int32) (n L : Nat) (at_ long dep sig : Nat → Int32) : Prop := ∀ i, i < L → at_ i = nI (bO t n i) ∧ long i = nI (eO t n i - bO t n i) ∧ dep i = nI (dO t n i) ∧ sig i = b2i (sO t n (i + 1))
def ledM (t : Nat → Int32) (n L : Nat) (led : Nat → Int32) : Prop := ∀ i, i < L → led i = b2i (lO t n i)
theorem km_led_loop {post : Int32 → (Nat → Int32) → (Nat → Int32) → (Nat → Int32) → (Nat → Int32) → (Nat → Int32) → Prop} {t : Nat → Int32} {n L : Nat} {a lg d s : Nat → Int32} (hn : n ≤ 1500) (hc : cntL t n L) (hT : tabM t n L a lg d s) (h : ∀ led, ledM t n L led → post (nI L) a lg d s led) :
    ∀ (f i : Nat) (led : Nat → Int32), L - i ≤ f → i ≤ L → ledM t n i led → wlX8_lookAtLines_138 post (nI n) t (nI L) a lg d s (f + 1) led (nI i) := by
  have hLn := cntL_le hc
  intro f
  induction f with
  | zero =>
    intro i led h1 h2 hl
    have e : i = L := by omega
    subst e
    exact ⟨fun _ => h led hl, fun q => absurd (nI_le (Nat.le_refl _) (by omega)) q⟩
  | succ f ih =>
    intro i led h1 h2 hl
    refine ⟨fun q => ?_, fun q => ?_⟩
    · rw [nI_leI (by omega) (by omega)] at q
      have e : i = L := by omega
      subst e
      exact h led hl
    · rw [nI_leI (by omega) (by omega)] at q
      have hin : vp_in (nI i) 1501 := vp_in_nI (by omega) (by omega)
      have put : ∀ v : Bool, lO t n i = v → wjX8_lookAtLines_203 (fun m_led x3 => wlX8_lookAtLines_138 post (nI n) t (nI L) a lg d s (f + 1) m_led x3) post (nI n) t (nI L) a lg d s led (nI i) (b2i v) (nI i) := by
        intro v ev
        refine ⟨hin, b2i_bN v, fun x ex => ?_⟩
        rw [ex, nI_1, nI_clamp (by omega)]
        refine ih (i + 1) _ (by omega) (by omega) (fun j hj => ?_)
        rcases Nat.lt_or_ge j i with w | w
        · rw [pk_un (by omega)]; exact hl j w
        · have e2 : j = i := by omega
          subst e2
          rw [pk_us, ev]
      have no : lO t n i = false → wjX8_lookAtLines_202 (fun m_led x3 => wlX8_lookAtLines_138 post (nI n) t (nI L) a lg d s (f + 1) m_led x3) post (nI n) t (nI L) a lg d s led (nI i) (nI i) := fun z => put false z
      have hbi := hc.2 i (by omega)
      obtain ⟨a1, a2, a3, a4⟩ := hT i (by omega)
      have hL := bO_line i hbi
      rw [nI_1, nI_leI (by omega) (by omega)]
      refine ⟨fun q2 => no ?_, fun q2 => ⟨vp_in_nI (by omega) (by omega), ?_⟩⟩
      · have e : i + 1 = L := by omega
        have z : n ≤ bO t n (i + 1) := by rw [e]; exact hc.1
        have : depthF t n (lineEnd t n (bO t n i) + 1) = 0 := by
          have := depthF_le t n (bO t n (i + 1))
          show depthF t n (bO t n (i + 1)) = 0
          omega
        rw [lO, leF, this]; simp
      · obtain ⟨-, -, c3, -⟩ := hT (i + 1) (by omega)
        rw [nI_clamp (by omega), c3, nI_clamp (by omega), a1, a2, nI_add, show bO t n i + (eO t n i - bO t n i) = eO t n i by have := hL.1; omega]
        have hd := dO_le t n (i + 1)
        rw [show nI (dO t n (i + 1)) ≤ 0 ↔ dO t n (i + 1) ≤ 0 by rw [← nI_0, nI_leI (by omega) (by omega)]]
        refine ⟨fun q3 => no ?_, fun q3 => ⟨hin, hin, hin, km_leads hn hL (b_ifz (fun z => no ?_) (fun z => put true ?_))⟩⟩
        · rw [lO, leF, decide_eq_false (show ¬ 0 < depthF t n (lineEnd t n (bO t n i) + 1) from by show ¬ 0 < dO t n (i + 1); omega)]; simp
        · rw [lO, leF, show ldF t n (bO t n i) (lineEnd t n (bO t n i)) = false from z]; rfl
        · rw [lO, leF, show ldF t n (bO t n i) (lineEnd t n (bO t n i)) = true from z, decide_eq_true (show 0 < depthF t n (lineEnd t n (bO t n i) + 1) from by show 0 < dO t n (i + 1); omega)]; rfl
theorem km_end_loop {k9 : Int32 → (Nat → Int32) → (Nat → Int32) → (Nat → Int32) → (Nat → Int32) → Int32 → Int32 → Prop} {post : Int32 → (Nat → Int32) → (Nat → Int32) → (Nat → Int32) → (Nat → Int32) → (Nat → Int32) → Prop} {t : Nat → Int32} {n : Nat} {ln x1 x2 : Int32} {a lg d s led : Nat → Int32} (hn : n ≤ 1500) : ∀ (f k : Nat), n - k ≤ f → k ≤ n → wjX8_lookAtLines_44 k9 post (nI n) t ln a lg d s led x1 x2 (nI (lE t n f k)) → wlX8_lookAtLines_19 k9 post (nI n) t ln a lg d s led x1 x2 (f + 1) (nI k) := by
  intro f
  induction f with
  | zero => intro k h1 h2 h; exact ⟨fun _ => h, fun q => absurd (nI_le (by omega) (by omega)) q⟩
  | succ f ih =>
    intro k h1 h2 h
    refine ⟨fun q => ?_, fun q => ?_⟩
    · rw [nI_leI (by omega) (by omega)] at q
      rw [lE, if_neg (by omega)] at h; exact h
    · rw [nI_leI (by omega) (by omega)] at q
      rw [lE] at h
      rw [nI_clamp (by omega)]
      refine ⟨vp_in_nI (by omega) (by omega), fun q2 => ?_, fun q2 x ex => ?_⟩
      · rw [if_neg (fun z => z.2 q2)] at h; exact h
      · rw [if_pos ⟨by omega, q2⟩] at h
        rw [ex, nI_1]
        exact ih (k + 1) (by omega) (by omega) h
theorem km_look_loop {post : Int32 → (Nat → Int32) → (Nat → Int32) → (Nat → Int32) → (Nat → Int32) → (Nat → Int32) → Prop} {t : Nat → Int32} {n L : Nat} {led : Nat → Int32} (hn : n ≤ 1500) (hc : cntL t n L) (h : ∀ a lg d s led, tabM t n L a lg d s → ledM t n L led → post (nI L) a lg d s led) :
    ∀ (f i : Nat) (a lg d s : Nat → Int32), L - i ≤ f → i ≤ L → tabM t n i a lg d s → wlX8_lookAtLines_9 post (nI n) t led (f + 1) (nI i) a lg d s (nI (bO t n i)) (b2i (sO t n i)) := by
  have hLn := cntL_le hc
  have fin : ∀ (a lg d s : Nat → Int32), tabM t n L a lg d s → ∃ nf, wlX8_lookAtLines_138 post (nI n) t (nI L) a lg d s nf led 0 := fun a lg d s hT => ⟨_, km_led_loop hn hc hT (fun led hl => h a lg d s led hT hl) L 0 led (by omega) (Nat.zero_le _) (fun i hi => absurd hi (by omega))⟩
  intro f
  induction f with
  | zero =>
    intro i a lg d s h1 h2 hT
    have e : i = L := by omega
    subst e
    refine ⟨fun _ => fin a lg d s hT, fun q => absurd (nI_le hc.1 (by have := (bO_ge i hc.2).2; omega)) q⟩
  | succ f ih =>
    intro i a lg d s h1 h2 hT
    have hbn : bO t n i ≤ n + 1 := (bO_ge (t := t) (n := n) i (fun j hj => hc.2 j (by omega))).2
    refine ⟨fun q => ?_, fun q => ?_⟩
    · rw [nI_leI (by omega) (by omega)] at q
      have e : i = L := by
        rcases Nat.lt_or_ge i L with y | y
        · exact absurd (hc.2 i y) (by omega)
        · omega
      subst e
      exact fin a lg d s hT
    · rw [nI_leI (by omega) (by omega)] at q
      have hbi : bO t n i < n := by omega
      have hiL : i < L := by
        rcases Nat.lt_or_ge i L with y | y
        · exact y
        · rw [show i = L by omega] at hbi; exact absurd hbi (Nat.not_lt.mpr hc.1)
      have hL := bO_line i hbi
      have hL0 := hL
      obtain ⟨l1, l2, -, -⟩ := hL0
      refine ⟨_, km_end_loop hn (n - bO t n i) (bO t n i) (Nat.le_refl _) (by omega) ?_⟩
      show wjX8_lookAtLines_44 _ post (nI n) t (nI i) a lg d s led (nI (bO t n i)) (b2i (sO t n i)) (nI (eO t n i))
      have hin : vp_in (nI i) 1501 := vp_in_nI (by omega) (by omega)
      refine ⟨hin, hin, km_depth (by omega) l1 ?_⟩
      rw [show depthF t (eO t n i) (bO t n i) = dO t n i from (depth_end (Nat.le_of_lt hbi)).symm]
      rw [nI_clamp (by omega), pk_us, pk_sub l1]
      have hd := dO_le t n i
      rw [show nI (dO t n i) ≤ 0 ↔ dO t n i ≤ 0 by rw [← nI_0, nI_leI (by omega) (by omega)]]
      have nx : ∀ v : Bool, sO t n (i + 1) = v → wjX8_lookAtLines_109 (fun m_lines m_lineAt m_lineLong m_depth m_signed x1 x2 => wlX8_lookAtLines_9 post (nI n) t led (f + 1) m_lines m_lineAt m_lineLong m_depth m_signed x1 x2) post (nI n) t (nI i) (upd a i (nI (bO t n i))) (upd lg i (nI (eO t n i - bO t n i))) (upd d i (nI (dO t n i))) s led (b2i v) (nI (eO t n i)) := by
        intro v ev
        refine ⟨hin, b2i_bN v, fun c ec x ex => ?_⟩
        rw [ec, ex, nI_1, nI_1, nI_clamp (by omega)]
        have := ih (i + 1) (upd a i (nI (bO t n i))) (upd lg i (nI (eO t n i - bO t n i))) (upd d i (nI (dO t n i))) (upd s i (b2i v)) (by omega) (by omega) (fun j hj => by
          rcases Nat.lt_or_ge j i with w | w
          · rw [pk_un (by omega), pk_un (by omega), pk_un (by omega), pk_un (by omega)]; exact hT j w
          · have e2 : j = i := by omega
            subst e2
            rw [pk_us, pk_us, pk_us, pk_us, ev]; exact ⟨rfl, rfl, rfl, rfl⟩)
        rw [ev] at this
        exact this
      refine ⟨hin, hin, fun q2 => km_mark hn hL (b_ifz (fun z => nx _ ?_) (fun z => nx true ?_)), fun q2 => nx false ?_⟩
      · show sgF t n (bO t n i) (sO t n i) = sO t n i
        rw [sgF, decide_eq_true (show depthF t n (bO t n i) = 0 from by show dO t n i = 0; omega), show mkF t (bO t n i) (lineEnd t n (bO t n i)) = false from z, Bool.or_false, Bool.true_and]
      · show sgF t n (bO t n i) (sO t n i) = true
        rw [sgF, decide_eq_true (show depthF t n (bO t n i) = 0 from by show dO t n i = 0; omega), show mkF t (bO t n i) (lineEnd t n (bO t n i)) = true from z, Bool.or_true]; rfl
      · show sgF t n (bO t n i) (sO t n i) = false
        rw [sgF, decide_eq_false (show ¬ depthF t n (bO t n i) = 0 from by show ¬ dO t n i = 0; omega)]; rfl
theorem km_lookLines {post : Int32 → (Nat → Int32) → (Nat → Int32) → (Nat → Int32) → (Nat → Int32) → (Nat → Int32) → Prop} {t : Nat → Int32} {n L : Nat} {ln : Int32} {a lg d s led : Nat → Int32} (hn : n ≤ 1500) (hc : cntL t n L) (h : ∀ a lg d s led, tabM t n L a lg d s → ledM t n L led → post (nI L) a lg d s led) : wpX8_lookAtLines post (nI n) ln t a lg d s led :=
  ⟨_, km_look_loop hn hc h L 0 a lg d s (by omega) (Nat.zero_le _) (fun i hi => absurd hi (by omega))⟩
