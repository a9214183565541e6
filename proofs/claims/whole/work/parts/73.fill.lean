/-! PURE 34: fill (class), cut (reference) -/
theorem kx_plain {post : Int32 → Prop} {t : Nat → Int32} {n i : Nat} (hn : n ≤ 1500) (h : post (b2i (plO t n i))) : wpX2_isPlain post (nI (dO t n i)) (b2i (sO t n (i + 1))) (b2i (lO t n i)) := by
  have hd := dO_le t n i
  rw [wpX2_isPlain, show (nI (dO t n i) = (0 : Int32)) = (dO t n i = 0) from propext (nI_eq (b := 0) (by omega) (by decide))]
  refine ⟨fun q => ?_, fun q => b_if (fun z => ?_) (fun z => b_if (fun z2 => ?_) (fun z2 => ?_))⟩
  · rw [plO, decide_eq_false q] at h; exact h
  · rw [plO, z] at h; simpa [b2i] using h
  · rw [plO, z2] at h; simpa [b2i] using h
  · rw [plO, z, z2, decide_eq_true q] at h; exact h
theorem kx_fill_loop {post : Int32 → Int32 → Int32 → Int32 → Int32 → Int32 → Int32 → (Nat → Int32) → (Nat → Int32) → (Nat → Int32) → (Nat → Int32) → (Nat → Int32) → Prop} {t sm : Nat → Int32} {n L : Nat} {x1 : Int32} (hn : n ≤ 1500) (hc : cntL t n L)
    (H : ∀ (wb we wd ws wl : Int32) (cb cl cp ca : Nat → Int32), tokX (linesS t n true L).1 cb cl cp ca → post wb we wd ws wl (nI (linesS t n true L).1.length) (nI (linesS t n true L).2) cb cl cp ca sm) :
    ∀ (f i : Nat) (wb we wd wl : Int32) (cb cl cp ca : Nat → Int32), L - i ≤ f → i ≤ L → we + 1 = nI (bO t n i) → tokX (linesS t n true i).1 cb cl cp ca → wlX6_fill_81 post (nI n) t x1 sm (f + 1) wb we wd (b2i (sO t n i)) wl (nI (linesS t n true i).1.length) (nI (linesS t n true i).2) cb cl cp ca (nI i) := by
  have hLn := cntL_le hc
  have h9 := lines_900 (pl := true) hn hc
  intro f
  induction f with
  | zero =>
    intro i wb we wd wl cb cl cp ca h1 h2 he hT
    have e : i = L := by omega
    subst e
    refine ⟨fun _ => H _ _ _ _ _ _ _ _ _ hT, fun q => kx_advance hn he (fun z => absurd z (Nat.not_lt.mpr hc.1)) (by have := (bO_ge i hc.2).2; omega) (fun z => absurd z (Nat.not_lt.mpr hc.1)) (fun z => ⟨fun _ => H _ _ _ _ _ _ _ _ _ hT, fun q2 => absurd rfl q2⟩)⟩
  | succ f ih =>
    intro i wb we wd wl cb cl cp ca h1 h2 he hT
    have hbi : bO t n i ≤ 1501 := by have := (bO_ge (t := t) (n := n) i (fun j hj => hc.2 j (by omega))).2; omega
    refine ⟨fun q => ?_, fun q => kx_advance hn he (bO_line i) hbi (fun z => ⟨fun q2 => absurd q2 (by decide), fun _ => ?_⟩) (fun z => ⟨fun _ => ?_, fun q2 => absurd rfl q2⟩)⟩
    · have q : 1500 ≤ i := (nI_leI (a := 1500) (by decide) (by omega)).mp q
      have e : i = L := by omega
      subst e
      exact H _ _ _ _ _ _ _ _ _ hT
    · have hiL : i < L := by
        rcases Nat.lt_or_ge i L with y | y
        · exact y
        · rw [show i = L by omega] at z; exact absurd z (Nat.not_lt.mpr hc.1)
      obtain ⟨l1, l2, l3, l4⟩ := bO_line (t := t) i z
      refine kx_plain (i := i) hn (b_ifz (fun w y ey => ?_) (fun w => ?_))
      · rw [ey, nI_1]
        have e1 : linesS t n true (i + 1) = linesS t n true i := by rw [linesS, w]; rfl
        have := ih (i + 1) (nI (bO t n i)) (nI (lineEnd t n (bO t n i))) (nI (depthF t n (bO t n i))) (b2i (leF t n (bO t n i))) cb cl cp ca (by omega) (by omega) (by rw [nI_1]; rfl) (by rw [e1]; exact hT)
        rw [e1] at this
        exact this
      · have e1 : linesS t n true (i + 1) = cutR t (eO t n i) (bO t n i) (linesS t n true i).1 (linesS t n true i).2 := by rw [linesS, w]; rfl
        have hm := lines_mono (t := t) (n := n) (pl := true) (L - (i + 1)) (i + 1)
        rw [show i + 1 + (L - (i + 1)) = L by omega, e1] at hm
        refine kx_cutRows (e := eO t n i) hn l2 l1 (lines_P i) hT (Nat.le_trans hm h9) (fun cb' cl' cp' ca' hT' y ey => ?_)
        rw [ey, nI_1]
        have := ih (i + 1) (nI (bO t n i)) (nI (lineEnd t n (bO t n i))) (nI (depthF t n (bO t n i))) (b2i (leF t n (bO t n i))) cb' cl' cp' ca' (by omega) (by omega) (by rw [nI_1]; rfl) (by rw [e1]; exact hT')
        rw [e1] at this
        exact this
    · have e : i = L := by
        rcases Nat.lt_or_ge i L with y | y
        · exact absurd (hc.2 i y) z
        · omega
      subst e
      exact H _ _ _ _ _ _ _ _ _ hT
theorem kx_fill {post : Int32 → Int32 → Int32 → Int32 → Int32 → Int32 → Int32 → (Nat → Int32) → (Nat → Int32) → (Nat → Int32) → (Nat → Int32) → (Nat → Int32) → Prop} {t sm cb cl cp ca : Nat → Int32} {n L : Nat} {pl : Bool} {wb we wd ws wl c0 p0 : Int32} (hn : n ≤ 1500) (hc : cntL t n L)
    (H : ∀ (wb we wd ws wl : Int32) (cb cl cp ca sm : Nat → Int32), tokX (linesS t n pl L).1 cb cl cp ca → (∀ k, k < n → sm k = cSmall (t k)) → post wb we wd ws wl (nI (linesS t n pl L).1.length) (nI (linesS t n pl L).2) cb cl cp ca sm) : wpX6_fill post wb we wd ws wl (nI n) c0 p0 t cb cl cp ca sm (b2i pl) := by
  have h9 := lines_900 (pl := pl) hn hc
  have h55 : ∀ sm, (∀ k, k < n → sm k = cSmall (t k)) → wjX6_fill_55 post (nI n) t (b2i pl) wb we wd ws wl 0 0 cb cl cp ca sm := by
    intro sm hs
    refine b_if (fun z => ?_) (fun z => ?_)
    · subst z
      exact ⟨L + 1, kx_fill_loop hn hc (fun wb we wd ws wl cb cl cp ca hT => H wb we wd ws wl cb cl cp ca sm hT hs) L 0 wb (-1) wd wl cb cl cp ca (by omega) (Nat.zero_le _) (show (-1 : Int32) + 1 = nI 0 from by decide) (fun i hi => absurd hi (Nat.not_lt_zero _))⟩
    · subst z
      rw [lines_false hc] at H h9
      exact kx_cutRows (T := []) (P := 0) (k := 0) (e := n) hn (Nat.le_refl _) (Nat.zero_le _) (Nat.le_refl _) (fun i hi => absurd hi (Nat.not_lt_zero _)) h9 (fun cb' cl' cp' ca' hT' => H _ _ _ _ _ _ _ _ _ _ hT' hs)
  have loop : ∀ (g k : Nat) (sm : Nat → Int32), n - k = g → k ≤ n → (∀ j, j < k → sm j = cSmall (t j)) → wlX6_fill_12 post (nI n) t (b2i pl) wb we wd ws wl 0 0 cb cl cp ca (g + 1) sm (nI k) := by
    intro g
    induction g with
    | zero =>
      intro k sm hg hk hs
      have e : k = n := by omega
      subst e
      exact ⟨fun _ => h55 sm hs, fun q => absurd (nI_le (Nat.le_refl _) (by omega)) q⟩
    | succ g ih =>
      intro k sm hg hk hs
      refine ⟨fun q => absurd ((nI_leI (by omega) (by omega)).mp q) (by omega), fun _ => ⟨fun q => absurd ((nI_leI (a := 1500) (by decide) (by omega)).mp q) (by omega), fun _ => kx_get hn (by omega) ?_⟩⟩
      rw [gF_lt (by omega)]
      refine kx_small ⟨vp_in_nI (by omega) (by omega), fun y ey => ?_⟩
      rw [ey, nI_1, nI_clamp (by omega)]
      refine ih (k + 1) _ (by omega) (by omega) (fun j hj => ?_)
      rcases Nat.lt_or_ge j k with q | q
      · rw [pk_un (by omega)]; exact hs j q
      · rw [show j = k by omega, pk_us]
  exact ⟨n + 1, loop n 0 sm (by omega) (Nat.zero_le _) (fun j hj => absurd hj (Nat.not_lt_zero _))⟩
theorem km_cut_loop {post : Int32 → Int32 → Int32 → Int32 → Int32 → Int32 → (Nat → Int32) → (Nat → Int32) → (Nat → Int32) → (Nat → Int32) → (Nat → Int32) → (Nat → Int32) → (Nat → Int32) → (Nat → Int32) → (Nat → Int32) → (Nat → Int32) → (Nat → Int32) → (Nat → Int32) → (Nat → Int32) → Prop} {t la lg dp sg ld : Nat → Int32} {n L : Nat} {pb : Bool} {th : Int32} (hn : n ≤ 1500) (hc : cntL t n L) (hT1 : tabM t n L la lg dp sg) (hT2 : ledM t n L ld)
    (H : ∀ (en : Int32) (pl bg tl sl ad le st s : Nat → Int32), okT (linesS t n pb L).1 → tokM ((linesS t n pb L).1.map (ent t)) pl bg tl sl ad le st → post (nI (linesS t n pb L).1.length) th (nI L) (nI (linesS t n pb L).1.length) (nI (linesS t n pb L).2) en la lg dp sg ld pl bg tl sl ad le st s) :
    ∀ (f i : Nat) (en : Int32) (pl bg tl sl ad le st s : Nat → Int32), L - i ≤ f → i ≤ L → okT (linesS t n pb i).1 → tokM ((linesS t n pb i).1.map (ent t)) pl bg tl sl ad le st → wlX8_cut_21 post (nI n) t (b2i pb) th (nI L) la lg dp sg ld (f + 1) (nI (linesS t n pb i).1.length) (nI (linesS t n pb i).2) en pl bg tl sl ad le st s (nI i) := by
  have hLn := cntL_le hc
  have h9 := lines_900 (pl := pb) hn hc
  intro f
  induction f with
  | zero =>
    intro i en pl bg tl sl ad le st s h1 h2 hO hT
    have e : i = L := by omega
    subst e
    exact ⟨fun _ => H _ _ _ _ _ _ _ _ _ hO hT, fun q => absurd (nI_le (Nat.le_refl _) (by omega)) q⟩
  | succ f ih =>
    intro i en pl bg tl sl ad le st s h1 h2 hO hT
    refine ⟨fun q => ?_, fun q => ?_⟩
    · rw [nI_leI (by omega) (by omega)] at q
      have e : i = L := by omega
      subst e
      exact H _ _ _ _ _ _ _ _ _ hO hT
    · rw [nI_leI (by omega) (by omega)] at q
      have hb := hc.2 i (by omega)
      obtain ⟨l1, l2, l3, l4⟩ := bO_line (t := t) i hb
      obtain ⟨t1, t2, t3, t4⟩ := hT1 i (by omega)
      have t5 := hT2 i (by omega)
      have hin : vp_in (nI i) 1501 := vp_in_nI (by omega) (by omega)
      have go : (!pb || plO t n i) = true → wjX8_cut_60 (fun m_tokens m_places m_end m_place m_begin m_tokenLong m_stemLong m_address m_letters m_stems m_s x2 => wlX8_cut_21 post (nI n) t (b2i pb) th (nI L) la lg dp sg ld (f + 1) m_tokens m_places m_end m_place m_begin m_tokenLong m_stemLong m_address m_letters m_stems m_s x2) post (nI n) t (b2i pb) th (nI L) (nI (linesS t n pb i).1.length) (nI (linesS t n pb i).2) en la lg dp sg ld pl bg tl sl ad le st s (nI i) := by
        intro c
        have e1 : linesS t n pb (i + 1) = cutR t (eO t n i) (bO t n i) (linesS t n pb i).1 (linesS t n pb i).2 := by rw [linesS, if_pos c]
        have hm := lines_mono (t := t) (n := n) (pl := pb) (L - (i + 1)) (i + 1)
        rw [show i + 1 + (L - (i + 1)) = L by omega, e1] at hm
        refine ⟨hin, hin, hin, ?_⟩
        rw [nI_clamp (by omega), t1, t2, nI_add, show bO t n i + (eO t n i - bO t n i) = eO t n i by omega]
        refine km_cutLine (by omega) l1 (lines_P i) hO hT (by omega) (fun en' pl' bg' tl' sl' ad' le' st' s' hO' hT' y ey => ?_)
        rw [ey, nI_1]
        have := ih (i + 1) en' pl' bg' tl' sl' ad' le' st' s' (by omega) (by omega) (by rw [e1]; exact hO') (by rw [e1]; exact hT')
        rw [e1] at this
        exact this
      have sk : (!pb || plO t n i) = false → wjX8_cut_83 (fun m_tokens m_places m_end m_place m_begin m_tokenLong m_stemLong m_address m_letters m_stems m_s x2 => wlX8_cut_21 post (nI n) t (b2i pb) th (nI L) la lg dp sg ld (f + 1) m_tokens m_places m_end m_place m_begin m_tokenLong m_stemLong m_address m_letters m_stems m_s x2) post (nI n) t (b2i pb) th (nI L) (nI (linesS t n pb i).1.length) (nI (linesS t n pb i).2) en la lg dp sg ld pl bg tl sl ad le st s (nI i) := by
        intro c y ey
        have e1 : linesS t n pb (i + 1) = linesS t n pb i := by rw [linesS, if_neg (by rw [c]; decide)]
        rw [ey, nI_1]
        have := ih (i + 1) en pl bg tl sl ad le st s (by omega) (by omega) (by rw [e1]; exact hO) (by rw [e1]; exact hT)
        rw [e1] at this
        exact this
      have hd := dO_le t n i
      rw [nI_clamp (by omega), t3, t4, t5, show (nI (dO t n i) = (0 : Int32)) = (dO t n i = 0) from propext (nI_eq (b := 0) (by omega) (by decide))]
      refine b_ifz (fun z => go (by rw [z]; rfl)) (fun z => ⟨hin, fun d => sk (by rw [z, plO, decide_eq_false d]; rfl), fun d => ⟨hin, b_if (fun z2 => sk (by rw [z, plO, z2]; simp)) (fun z2 => ⟨hin, b_if (fun z3 => sk (by rw [z, plO, z3]; simp)) (fun z3 => go (by rw [z, plO, z2, z3, decide_eq_true d]; rfl))⟩)⟩⟩)
theorem km_cut {post : Int32 → Int32 → Int32 → Int32 → Int32 → Int32 → (Nat → Int32) → (Nat → Int32) → (Nat → Int32) → (Nat → Int32) → (Nat → Int32) → (Nat → Int32) → (Nat → Int32) → (Nat → Int32) → (Nat → Int32) → (Nat → Int32) → (Nat → Int32) → (Nat → Int32) → (Nat → Int32) → Prop} {t la lg dp sg ld pl bg tl sl ad le st s : Nat → Int32} {n L : Nat} {pb : Bool} {th ln tk pc en : Int32} (hn : n ≤ 1500) (hc : cntL t n L)
    (H : ∀ (en : Int32) (la lg dp sg ld pl bg tl sl ad le st s : Nat → Int32), okT (linesS t n pb L).1 → tokM ((linesS t n pb L).1.map (ent t)) pl bg tl sl ad le st → post (nI (linesS t n pb L).1.length) 0 (nI L) (nI (linesS t n pb L).1.length) (nI (linesS t n pb L).2) en la lg dp sg ld pl bg tl sl ad le st s) : wpX8_cut post th (nI n) ln tk pc en t la lg dp sg ld pl bg tl sl ad le st s (b2i pb) :=
  km_lookLines hn hc (fun la lg dp sg ld hT1 hT2 => ⟨L + 1, km_cut_loop hn hc hT1 hT2 (fun en pl bg tl sl ad le st s hO hT => H en la lg dp sg ld pl bg tl sl ad le st s hO hT) L 0 en pl bg tl sl ad le st s (by omega) (Nat.zero_le _) (fun x hx => absurd hx List.not_mem_nil) (fun i hi => absurd hi (Nat.not_lt_zero _))⟩)
