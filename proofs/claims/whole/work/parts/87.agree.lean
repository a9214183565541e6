/-! PURE 48: only what stands below the size counts -/
def agr (t u : Nat → Int32) (n : Nat) : Prop := ∀ j, j < n → u j = t j
theorem gF_c {t u : Nat → Int32} {n : Nat} (h : agr t u n) (k : Nat) : gF u n k = gF t n k := by
  rw [gF, gF]
  split
  · exact h k (by assumption)
  · rfl
theorem lE_c {t u : Nat → Int32} {n : Nat} (h : agr t u n) : ∀ f k, lE u n f k = lE t n f k := by
  intro f
  induction f with
  | zero => intro k; rfl
  | succ f ih =>
    intro k
    by_cases c : k < n
    · rw [lE, lE, h k c, ih]
    · rw [lE, lE, if_neg (fun x => c x.1), if_neg (fun x => c x.1)]
theorem lineEnd_c {t u : Nat → Int32} {n : Nat} (h : agr t u n) (k : Nat) : lineEnd u n k = lineEnd t n k := lE_c h _ _
theorem dP_c {t u : Nat → Int32} {n : Nat} (h : agr t u n) : ∀ f k, dP u n f k = dP t n f k := by
  intro f
  induction f with
  | zero => intro k; rfl
  | succ f ih =>
    intro k
    by_cases c : k < n
    · rw [dP, dP, h k c, ih]
    · rw [dP, dP, if_neg c, if_neg c]
theorem depthF_c {t u : Nat → Int32} {n : Nat} (h : agr t u n) (k : Nat) : depthF u n k = depthF t n k := dP_c h _ _
theorem hB_c {t u : Nat → Int32} {n : Nat} (h : agr t u n) (f : Nat) (bs : List Int32) : hB u n f bs = hB t n f bs := by
  rw [hB_G (g := gF t n) bs f (fun j _ => gF_c h j), hB_G (g := gF t n) bs f (fun j _ => rfl)]
theorem pv_c {t u : Nat → Int32} {n : Nat} (h : agr t u n) (k : Nat) : pv u n k = pv t n k := by
  rw [pv, pv]
  split
  · rfl
  · exact gF_c h _
theorem hwF_c {t u : Nat → Int32} {n e : Nat} {bs : List Int32} (h : agr t u n) : ∀ f k, hwF u n e bs f k = hwF t n e bs f k := by
  intro f
  induction f with
  | zero => intro k; rfl
  | succ f ih => intro k; rw [hwF, hwF, hB_c h, pv_c h, gF_c h, ih]
theorem atF_c {t u : Nat → Int32} {n e : Nat} (h : agr t u n) (he : e ≤ n) : ∀ f k, atF u e f k = atF t e f k := by
  intro f
  induction f with
  | zero => intro k; rfl
  | succ f ih =>
    intro k
    by_cases c : k < e
    · rw [atF, atF, h k (by omega), ih]
    · rw [atF, atF, if_neg c, if_neg c]
theorem ldF_c {t u : Nat → Int32} {n b e : Nat} (h : agr t u n) (he : e ≤ n) : ldF u n b e = ldF t n b e := by
  by_cases c : b < e
  · rw [ldF, ldF, h (e - 1) (by omega), atF_c h he, hwF_c h, hwF_c h]
  · rw [ldF, ldF, decide_eq_false (fun x => c x.1), decide_eq_false (fun x => c x.1), Bool.false_and, Bool.false_and]
theorem mkF_c {t u : Nat → Int32} {n b e : Nat} (h : agr t u n) (he : e ≤ n) : mkF u b e = mkF t b e := by
  rw [mkF, mkF]
  refine decide_eq_decide.mpr ⟨fun ⟨p1, p2, p3⟩ => ?_, fun ⟨p1, p2, p3⟩ => ?_⟩
  · rw [h b (by omega)] at p2
    rw [h (b + 1) (by omega)] at p3
    refine ⟨?_, p2, p3⟩
    rcases p1 with q | ⟨q, r⟩
    · exact Or.inl q
    · rw [h (b + 2) (by omega)] at r; exact Or.inr ⟨q, r⟩
  · rw [← h b (by omega)] at p2
    rw [← h (b + 1) (by omega)] at p3
    refine ⟨?_, p2, p3⟩
    rcases p1 with q | ⟨q, r⟩
    · exact Or.inl q
    · rw [← h (b + 2) (by omega)] at r; exact Or.inr ⟨q, r⟩
theorem bO_c {t u : Nat → Int32} {n : Nat} (h : agr t u n) : ∀ i, bO u n i = bO t n i := by
  intro i
  induction i with
  | zero => rfl
  | succ i ih => rw [bO, bO, ih, lineEnd_c h]
theorem eO_c {t u : Nat → Int32} {n : Nat} (h : agr t u n) (i : Nat) : eO u n i = eO t n i := by rw [eO, eO, bO_c h, lineEnd_c h]
theorem dO_c {t u : Nat → Int32} {n : Nat} (h : agr t u n) (i : Nat) : dO u n i = dO t n i := by rw [dO, dO, bO_c h, depthF_c h]
theorem sO_c {t u : Nat → Int32} {n : Nat} (h : agr t u n) : ∀ i, (∀ j, j < i → bO t n j < n) → sO u n i = sO t n i := by
  intro i
  induction i with
  | zero => intro _; rfl
  | succ i ih =>
    intro hb
    have : lineEnd t n (bO t n i) ≤ n := (bO_line (t := t) i (hb i (by omega))).2.1
    rw [sO, sO, ih (fun j hj => hb j (by omega)), bO_c h, sgF, sgF, depthF_c h, lineEnd_c h, mkF_c h this]
theorem lO_c {t u : Nat → Int32} {n i : Nat} (h : agr t u n) (hb : bO t n i < n) : lO u n i = lO t n i := by
  have : lineEnd t n (bO t n i) ≤ n := (bO_line (t := t) i hb).2.1
  rw [lO, lO, leF, leF, bO_c h, lineEnd_c h, depthF_c h, ldF_c h this]
theorem cntL_c {t u : Nat → Int32} {n L : Nat} (h : agr t u n) (hc : cntL t n L) : cntL u n L := ⟨by rw [bO_c h]; exact hc.1, fun i hi => by rw [bO_c h]; exact hc.2 i hi⟩
theorem toldM_c {t u : Nat → Int32} {n L : Nat} {told : Nat → Int32} (h : agr t u n) (hc : cntL t n L) (hT : toldM u n L told) : toldM t n L told := by
  intro i hi
  obtain ⟨h1, h2, h3, h4, h5⟩ := hT i hi
  rw [dO_c h] at h1
  rw [sO_c h (i + 1) (fun j hj => hc.2 j (by omega))] at h2
  rw [lO_c h (hc.2 i hi)] at h3
  rw [bO_c h] at h4
  rw [eO_c h, bO_c h] at h5
  exact ⟨h1, h2, h3, h4, h5⟩
theorem pE_c {t u : Nat → Int32} {n e : Nat} (h : agr t u n) (he : e ≤ n) : ∀ f k, pE u e f k = pE t e f k := by
  intro f
  induction f with
  | zero => intro k; rfl
  | succ f ih =>
    intro k
    by_cases c : k < e
    · rw [pE, pE, h k (by omega), ih]
    · rw [pE, pE, if_neg (fun x => c x.1), if_neg (fun x => c x.1)]
theorem pieceEnd_c {t u : Nat → Int32} {n e : Nat} (h : agr t u n) (he : e ≤ n) (k : Nat) : pieceEnd u e k = pieceEnd t e k := pE_c h he _ _
theorem rowE_c {t u : Nat → Int32} {n e : Nat} (h : agr t u n) (he : e ≤ n) : ∀ f k, rowE u e f k = rowE t e f k := by
  intro f
  induction f with
  | zero => intro k; rfl
  | succ f ih =>
    intro k
    by_cases c : k < e
    · rw [rowE, rowE, h k (by omega), ih]
      by_cases d : k + 1 < e
      · rw [h (k + 1) (by omega)]
      · rw [if_neg (c := k + 1 < e ∧ cJoin (t k) = true ∧ cWord (u (k + 1)) = true) (fun x => d x.1), if_neg (c := k + 1 < e ∧ cJoin (t k) = true ∧ cWord (t (k + 1)) = true) (fun x => d x.1)]
    · rw [rowE, rowE, if_neg c, if_neg c]
theorem rowEnd_c {t u : Nat → Int32} {n e : Nat} (h : agr t u n) (he : e ≤ n) (k : Nat) : rowEnd u e k = rowEnd t e k := rowE_c h he _ _
theorem adF_c {t u : Nat → Int32} {n e : Nat} (h : agr t u n) (he : e ≤ n) (hl : cWord (t (e - 1)) = true) : ∀ f k, adF u e f k = adF t e f k := by
  intro f
  induction f with
  | zero => intro k; rfl
  | succ f ih =>
    intro k
    by_cases c : k < e
    · rw [adF, adF, h k (by omega), ih]
      by_cases d : k + 1 < e
      · rw [h (k - 1) (by omega), h (k + 1) (by omega)]
      · rw [show e - 1 = k by omega] at hl
        have n46 : ¬ t k = 46 := fun x => by rw [x, cWord_46] at hl; cases hl
        simp only [decide_eq_false n46, Bool.false_and]
    · rw [adF, adF, if_neg c, if_neg c]
theorem rowS_c {t u : Nat → Int32} {n b e : Nat} (h : agr t u n) (he : e ≤ n) (hl : cWord (t (e - 1)) = true) : ∀ (f k : Nat) (T : List (Nat × Nat × Nat × Bool)) (P : Nat), rowS u b e f k T P = rowS t b e f k T P := by
  intro f
  induction f with
  | zero => intro k T P; rfl
  | succ f ih =>
    intro k T P
    have e1 : newT u b e k P = newT t b e k P := by rw [newT, newT, adF_c h he hl, pieceEnd_c h he]
    rw [rowS, rowS, pieceEnd_c h he, e1, ih]
theorem cutS_c {t u : Nat → Int32} {n e : Nat} (h : agr t u n) (he : e ≤ n) : ∀ (f k : Nat) (T : List (Nat × Nat × Nat × Bool)) (P : Nat), cutS u e f k T P = cutS t e f k T P := by
  intro f
  induction f with
  | zero => intro k T P; rfl
  | succ f ih =>
    intro k T P
    by_cases c : k < e ∧ P < 300
    · rw [cutS, cutS, if_pos c, if_pos c, h k (by omega)]
      by_cases w : cWord (t k) = true
      · obtain ⟨r1, r2, r3, r4, r5⟩ := RS_of (t := t) c.1 w
        have e1 : rowT u k (rowEnd t e k) k T P = rowT t k (rowEnd t e k) k T P := rowS_c h (by omega) r4 _ _ _ _
        rw [if_pos w, if_pos w, rowEnd_c h he, e1, ih]
      · rw [if_neg w, if_neg w, ih]
    · rw [cutS, cutS, if_neg c, if_neg c]
theorem linesS_c {t u : Nat → Int32} {n L : Nat} {pl : Bool} (h : agr t u n) (hc : cntL t n L) : ∀ i, i ≤ L → linesS u n pl i = linesS t n pl i := by
  intro i
  induction i with
  | zero => intro _; rfl
  | succ i ih =>
    intro hi
    have hb := hc.2 i (by omega)
    have he := (bO_line (t := t) i hb).2.1
    have ep : plO u n i = plO t n i := by rw [plO, plO, dO_c h, sO_c h (i + 1) (fun j hj => hc.2 j (by omega)), lO_c h hb]
    have ec : ∀ (T : List (Nat × Nat × Nat × Bool)) (P : Nat), cutR u (eO t n i) (bO t n i) T P = cutR t (eO t n i) (bO t n i) T P := fun T P => cutS_c h he _ _ _ _
    rw [linesS, linesS, ih (by omega), ep, eO_c h, bO_c h, ec]
def bndT (T : List (Nat × Nat × Nat × Bool)) (n : Nat) : Prop := ∀ x ∈ T, x.2.1 ≤ n
theorem bnd_row {t : Nat → Int32} {b e n : Nat} (he : e ≤ n) : ∀ (f k : Nat) (T : List (Nat × Nat × Nat × Bool)) (P : Nat), bndT T n → bndT (rowS t b e f k T P).1 n := by
  intro f
  induction f with
  | zero => intro k T P h; exact h
  | succ f ih =>
    intro k T P h
    by_cases c : k < e
    · rw [rowS, if_pos c]
      refine ih _ _ _ (fun x hx => ?_)
      have hp := (pieceEnd_spec (t := t) (e := e) _ k rfl (by omega)).2.1
      rcases List.mem_append.mp hx with q | q
      · exact h x q
      · rw [newT] at q
        split at q
        · rcases List.mem_cons.mp q with q | q
          · rw [q]; show pieceEnd t e k ≤ n; omega
          · rw [List.mem_singleton] at q; rw [q]; exact he
        · rw [List.mem_singleton] at q; rw [q]; show pieceEnd t e k ≤ n; omega
    · rw [rowS, if_neg c]; exact h
theorem bnd_cut {t : Nat → Int32} {e n : Nat} (he : e ≤ n) : ∀ (f k : Nat) (T : List (Nat × Nat × Nat × Bool)) (P : Nat), bndT T n → bndT (cutS t e f k T P).1 n := by
  intro f
  induction f with
  | zero => intro k T P h; exact h
  | succ f ih =>
    intro k T P h
    by_cases c : k < e ∧ P < 300
    · rw [cutS, if_pos c]
      by_cases w : cWord (t k) = true
      · rw [if_pos w]
        have r3 := (RS_of (t := t) c.1 w).2.2.1
        exact ih _ _ _ (bnd_row (by omega) _ _ _ _ h)
      · rw [if_neg w]; exact ih _ _ _ h
    · rw [cutS, if_neg c]; exact h
theorem bnd_lines {t : Nat → Int32} {n L : Nat} {pl : Bool} (hc : cntL t n L) : ∀ i, i ≤ L → bndT (linesS t n pl i).1 n := by
  intro i
  induction i with
  | zero => intro _ x hx; exact absurd hx List.not_mem_nil
  | succ i ih =>
    intro hi
    have he := (bO_line (t := t) i (hc.2 i (by omega))).2.1
    rw [linesS]
    split
    · exact bnd_cut he _ _ _ _ (ih (by omega))
    · exact ih (by omega)
theorem ent_c {t u : Nat → Int32} {n : Nat} {x : Nat × Nat × Nat × Bool} (h : agr t u n) (hx : x.2.1 ≤ n) : ent u x = ent t x := by
  have ew : wrd u x = wrd t x := by
    rw [wrd, wrd]
    refine wAt_congr _ (fun k hk => ?_)
    show cSmall (u (x.1 + k)) = cSmall (t (x.1 + k))
    rw [h (x.1 + k) (by omega)]
  rw [ent, ent, ew]
theorem map_c {t u : Nat → Int32} {n : Nat} {T : List (Nat × Nat × Nat × Bool)} (h : agr t u n) (hT : bndT T n) : T.map (ent u) = T.map (ent t) := List.map_congr_left (fun x hx => ent_c h (hT x hx))
