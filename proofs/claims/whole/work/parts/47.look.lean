/-! PURE 8: the class's table of lines -/
def mkN (t : Nat → Int32) (n i : Nat) : Nat := dO t n i * 4 + (if sO t n (i + 1) then 2 else 0) + (if lO t n i then 1 else 0)
def tabX (t : Nat → Int32) (n L : Nat) (b m : Nat → Int32) : Prop := ∀ i, i < L → b i = nI (bO t n i) ∧ b (i + 1) = nI (bO t n (i + 1)) ∧ m i = nI (mkN t n i)
theorem dO_le (t : Nat → Int32) (n i : Nat) : dO t n i ≤ n := Nat.le_trans (depthF_le t n _) (Nat.sub_le _ _)
theorem kx_look_loop {post : Int32 → Int32 → Int32 → Int32 → Int32 → Int32 → Int32 → (Nat → Int32) → (Nat → Int32) → Prop} {t : Nat → Int32} {n L : Nat} (hn : n ≤ 1500) (hc : cntL t n L) (h : ∀ (wb we wd ws wl : Int32) (b m : Nat → Int32), tabX t n L b m → post (nI L) (nI L) wb we wd ws wl b m) :
    ∀ (f i : Nat) (wb we wd wl : Int32) (b m : Nat → Int32), L - i ≤ f → i ≤ L → we + 1 = nI (bO t n i) → tabX t n i b m → wlX1_look_12 post (nI n) t (f + 1) (nI i) wb we wd (b2i (sO t n i)) wl b m := by
  have hLn := cntL_le hc
  intro f
  induction f with
  | zero =>
    intro i wb we wd wl b m h1 h2 he hT
    have e : i = L := by omega
    subst e
    refine ⟨fun _ => h _ _ _ _ _ _ _ hT, fun q => kx_advance hn he (fun z => absurd z (Nat.not_lt.mpr hc.1)) (by have := (bO_ge i hc.2).2; omega) (fun z => absurd z (Nat.not_lt.mpr hc.1)) (fun z => ⟨fun _ => h _ _ _ _ _ _ _ hT, fun q2 => absurd rfl q2⟩)⟩
  | succ f ih =>
    intro i wb we wd wl b m h1 h2 he hT
    have hbi : bO t n i ≤ 1501 := by have := (bO_ge (t := t) (n := n) i (fun j hj => hc.2 j (by omega))).2; omega
    refine ⟨fun q => ?_, fun q => kx_advance hn he (bO_line i) hbi (fun z => ⟨fun q2 => absurd q2 (by decide), fun _ => ?_⟩) (fun z => ⟨fun _ => ?_, fun q2 => absurd rfl q2⟩)⟩
    · have q : 1500 ≤ i := (nI_leI (a := 1500) (by decide) (by omega)).mp q
      have e : i = L := by omega
      subst e
      exact h _ _ _ _ _ _ _ hT
    · have hiL : i < L := by
        rcases Nat.lt_or_ge i L with y | y
        · exact y
        · rw [show i = L by omega] at z; exact absurd z (Nat.not_lt.mpr hc.1)
      show vp_in (nI i) 1501 ∧ vp_in (nI i + 1) 1501 ∧ bN (b2i (sgF t n (bO t n i) (sO t n i))) ∧ _
      rw [nI_1, nI_clamp (by omega), nI_clamp (by omega), nI_1]
      refine ⟨vp_in_nI (by omega) (by omega), vp_in_nI (by omega) (by omega), b2i_bN _, ?_⟩
      have hd := dO_le t n i
      have stepTo : ∀ (x y : Nat), mkN t n i = dO t n i * 4 + x + y → wjX1_look_118 (fun lt_count lw_begin lw_end lw_depth lw_signed lw_led lt_begins lt_marks => wlX1_look_12 post (nI n) t (f + 1) lt_count lw_begin lw_end lw_depth lw_signed lw_led lt_begins lt_marks) post (nI n) t (nI i) (nI (bO t n i)) (nI (lineEnd t n (bO t n i))) (nI (depthF t n (bO t n i))) (b2i (sgF t n (bO t n i) (sO t n i))) (b2i (leF t n (bO t n i))) (upd (upd b i (nI (bO t n i))) (i + 1) (nI (lineEnd t n (bO t n i) + 1))) m (nI y) (nI (depthF t n (bO t n i)) * 4 + nI x) (nI i) := by
        intro x y exy
        refine ⟨vp_in_nI (by omega) (by omega), fun c ec => ?_⟩
        rw [ec, nI_1, nI_clamp (by omega)]
        refine ih (i + 1) _ _ _ _ _ _ (by omega) (by omega) (by rw [nI_1]; rfl) (fun j hj => ?_)
        have ev : nI (depthF t n (bO t n i)) * 4 + nI x + nI y = nI (mkN t n i) := by
          rw [show (4 : Int32) = nI 4 from rfl, pk_mul, nI_add, nI_add, exy]; rfl
        rcases Nat.lt_or_ge j i with w | w
        · obtain ⟨a1, a2, a3⟩ := hT j w
          refine ⟨by rw [pk_un (by omega), pk_un (by omega)]; exact a1, ?_, by rw [pk_un (by omega)]; exact a3⟩
          rcases Nat.lt_or_ge (j + 1) i with w2 | w2
          · rw [pk_un (by omega), pk_un (by omega)]; exact a2
          · have e2 : j + 1 = i := by omega
            rw [e2, pk_un (by omega), pk_us]
        · have e2 : j = i := by omega
          subst e2
          refine ⟨by rw [pk_un (by omega), pk_us], by rw [pk_us]; rfl, by rw [pk_us]; exact ev⟩
      have ld : ∀ x : Nat, (∀ y : Nat, (lO t n i = true → y = 1) → (lO t n i = false → y = 0) → mkN t n i = dO t n i * 4 + x + y) → wjX1_look_102 (fun lt_count lw_begin lw_end lw_depth lw_signed lw_led lt_begins lt_marks => wlX1_look_12 post (nI n) t (f + 1) lt_count lw_begin lw_end lw_depth lw_signed lw_led lt_begins lt_marks) post (nI n) t (nI i) (nI (bO t n i)) (nI (lineEnd t n (bO t n i))) (nI (depthF t n (bO t n i))) (b2i (sgF t n (bO t n i) (sO t n i))) (b2i (leF t n (bO t n i))) (upd (upd b i (nI (bO t n i))) (i + 1) (nI (lineEnd t n (bO t n i) + 1))) m (nI x) (nI (depthF t n (bO t n i)) * 4) (nI i) := by
        intro x hx
        refine ⟨b2i_bN _, b_ifz (fun w => stepTo x 0 (hx 0 (fun y => ?_) (fun _ => rfl))) (fun w => stepTo x 1 (hx 1 (fun _ => rfl) (fun y => ?_)))⟩
        · rw [lO, w] at y; cases y
        · rw [lO, w] at y; cases y
      refine b_ifz (fun w => ld 0 (fun y y1 y2 => ?_)) (fun w => ld 2 (fun y y1 y2 => ?_))
      · rw [mkN, show sO t n (i + 1) = false from w]
        cases hl : lO t n i
        · rw [y2 hl]; simp
        · rw [y1 hl]; simp
      · rw [mkN, show sO t n (i + 1) = true from w]
        cases hl : lO t n i
        · rw [y2 hl]; simp
        · rw [y1 hl]; simp
    · have e : i = L := by
        rcases Nat.lt_or_ge i L with y | y
        · exact absurd (hc.2 i y) z
        · omega
      subst e
      exact h _ _ _ _ _ _ _ hT
theorem kx_look {post : Int32 → Int32 → Int32 → Int32 → Int32 → Int32 → Int32 → (Nat → Int32) → (Nat → Int32) → Prop} {t : Nat → Int32} {n L : Nat} {c0 wb we wd ws wl : Int32} {b m : Nat → Int32} (hn : n ≤ 1500) (hc : cntL t n L) (h : ∀ (wb we wd ws wl : Int32) (b m : Nat → Int32), tabX t n L b m → post (nI L) (nI L) wb we wd ws wl b m) : wpX1_look post c0 wb we wd ws wl (nI n) b m t :=
  ⟨_, kx_look_loop hn hc h L 0 wb (-1) wd wl b m (by omega) (Nat.zero_le _) (show (-1 : Int32) + 1 = nI 0 from by decide) (fun i hi => absurd hi (by omega))⟩
