/-! PURE 31: tokens of the reference: (begin, place, address, letters, stem) -/
def entD : Nat × Nat × Bool × List Int32 × List Int32 := (0, 0, false, [], [])
def wrd (t : Nat → Int32) (x : Nat × Nat × Nat × Bool) : List Int32 := wAt (fun k => cSmall (t k)) x.1 (min (x.2.1 - x.1) 30)
def ent (t : Nat → Int32) (x : Nat × Nat × Nat × Bool) : Nat × Nat × Bool × List Int32 × List Int32 := (x.1, x.2.2.1, x.2.2.2, wrd t x, if x.2.2.2 = true then wrd t x else stemF (wrd t x))
def entM (i : Nat) (x : Nat × Nat × Bool × List Int32 × List Int32) (pl bg tl sl ad le st : Nat → Int32) : Prop := pl i = nI x.2.1 ∧ bg i = nI x.1 ∧ tl i = nI x.2.2.2.1.length ∧ sl i = nI x.2.2.2.2.length ∧ ad i = b2i x.2.2.1 ∧ (∀ k, k < x.2.2.2.1.length → le (30 * i + k) = x.2.2.2.1.getD k 0) ∧ (∀ k, k < x.2.2.2.2.length → st (30 * i + k) = x.2.2.2.2.getD k 0)
def tokM (D : List (Nat × Nat × Bool × List Int32 × List Int32)) (pl bg tl sl ad le st : Nat → Int32) : Prop := ∀ i, i < D.length → entM i (D.getD i entD) pl bg tl sl ad le st
def entOK (x : Nat × Nat × Bool × List Int32 × List Int32) : Prop := x.2.2.2.1.length ≤ 30 ∧ x.2.2.2.2.length ≤ x.2.2.2.1.length ∧ x.1 + x.2.2.2.1.length ≤ 1500
def okD (D : List (Nat × Nat × Bool × List Int32 × List Int32)) : Prop := ∀ i, i < D.length → entOK (D.getD i entD)
theorem wrd_len (t : Nat → Int32) (x : Nat × Nat × Nat × Bool) : (wrd t x).length = min (x.2.1 - x.1) 30 := wAt_len _ _ _
theorem ent_OK {t : Nat → Int32} {x : Nat × Nat × Nat × Bool} (h : x.1 ≤ x.2.1) (h2 : x.2.1 ≤ 1500) : entOK (ent t x) := by
  have e := wrd_len t x
  refine ⟨by show (wrd t x).length ≤ 30; omega, ?_, by show x.1 + (wrd t x).length ≤ 1500; omega⟩
  show (if x.2.2.2 = true then wrd t x else stemF (wrd t x)).length ≤ (wrd t x).length
  split
  · exact Nat.le_refl _
  · exact stemF_le _
theorem km_addToken {post : Int32 → Int32 → (Nat → Int32) → (Nat → Int32) → (Nat → Int32) → (Nat → Int32) → (Nat → Int32) → (Nat → Int32) → (Nat → Int32) → (Nat → Int32) → Prop} {D : List (Nat × Nat × Bool × List Int32 × List Int32)} {t pl bg tl sl ad le st s : Nat → Int32} {b e p : Nat} {a : Bool} {en : Int32} (hT : tokM D pl bg tl sl ad le st) (hO : okD D) (hl : D.length < 2300) (hb : b ≤ e) (he : e ≤ 1500)
    (H : ∀ (en' : Int32) (pl' bg' tl' sl' ad' le' st' s' : Nat → Int32), tokM (D ++ [ent t (b, e, p, a)]) pl' bg' tl' sl' ad' le' st' → post (nI (D.length + 1)) en' pl' bg' tl' sl' ad' le' st' s') : wpX8_addToken post (nI D.length) en t pl bg tl sl ad le st s (nI b) (nI e) (nI p) (b2i a) := by
  have hW : wrd t (b, e, p, a) = wAt (fun k => cSmall (t k)) b (min (e - b) 30) := rfl
  have hN : min (e - b) 30 ≤ 30 ∧ min (e - b) 30 ≤ e - b := by omega
  have hNs : min (e - b) 30 = e - b ∨ min (e - b) 30 = 30 := by omega
  generalize min (e - b) 30 = N at hW hN hNs
  have hWl : (wAt (fun k => cSmall (t k)) b N).length = N := wAt_len _ _ _
  generalize hS : (if a = true then wAt (fun k => cSmall (t k)) b N else stemF (wAt (fun k => cSmall (t k)) b N)) = S
  have hE : ent t (b, e, p, a) = (b, p, a, wAt (fun k => cSmall (t k)) b N, S) := by rw [← hS]; show (b, p, a, wrd t (b, e, p, a), if a = true then wrd t (b, e, p, a) else stemF (wrd t (b, e, p, a))) = _; rw [hW]
  rw [hE] at H
  have hin : vp_in (nI D.length) 2300 := vp_in_nI (by omega) (by omega)
  -- all is written
  have fin : ∀ (en' : Int32) (sl' le' st' s' : Nat → Int32), (∀ k, k < N → le' (30 * D.length + k) = cSmall (t (b + k))) → (∀ x, x < 30 * D.length → le' x = le x) → (∀ x, x < 30 * D.length → st' x = st x) → (∀ k, k < S.length → st' (30 * D.length + k) = S.getD k 0) → sl' D.length = nI S.length → (∀ x, x < D.length → sl' x = sl x) → wjX8_addToken_175 post t (nI b) (nI e) (nI p) (b2i a) (nI D.length) en' (upd pl D.length (nI p)) (upd bg D.length (nI b)) (upd tl D.length (nI N)) sl' (upd ad D.length (b2i a)) le' st' s' := by
    intro en' sl' le' st' s' h1 h2 h3 h4 h5 h6 y ey
    rw [ey, nI_1]
    refine H _ _ _ _ _ _ _ _ _ (fun i hi => ?_)
    rw [List.length_append, List.length_singleton] at hi
    rcases Nat.lt_or_ge i D.length with q | q
    · rw [gD_app q]
      obtain ⟨a1, a2, a3, a4, a5, a6, a7⟩ := hT i q
      obtain ⟨o1, o2, o3⟩ := hO i q
      refine ⟨by rw [pk_un (by omega)]; exact a1, by rw [pk_un (by omega)]; exact a2, by rw [pk_un (by omega)]; exact a3, by rw [h6 i q]; exact a4, by rw [pk_un (by omega)]; exact a5, fun k hk => by rw [h2 _ (by omega)]; exact a6 k hk, fun k hk => by rw [h3 _ (by omega)]; exact a7 k hk⟩
    · have ei : i = D.length := by omega
      subst ei
      rw [gD_snoc]
      refine ⟨pk_us, pk_us, by rw [pk_us]; show nI N = nI (wAt _ b N).length; rw [hWl], h5, pk_us, fun k hk => ?_, h4⟩
      have hk : k < N := by rw [← hWl]; exact hk
      show _ = (wAt (fun k => cSmall (t k)) b N).getD k 0
      rw [wAt_get _ _ _ _ hk]; exact h1 k hk
  have e103 : ∀ le' st' : Nat → Int32, (∀ k, k < N → le' (30 * D.length + k) = cSmall (t (b + k))) → (∀ x, x < 30 * D.length → le' x = le x) → (∀ k, k < N → st' (30 * D.length + k) = cSmall (t (b + k))) → (∀ x, x < 30 * D.length → st' x = st x) → wjX8_addToken_103 post t (nI b) (nI e) (nI p) (b2i a) (nI D.length) en pl bg tl sl ad le' st' s (nI N) (b2i (!a && (wAt (fun k => cSmall (t k)) b N).all cLowr)) := by
    intro le' st' h1 h2 h3 h4
    have plain : (a = true ∨ engL (wAt (fun k => cSmall (t k)) b N) = false) → wjX8_addToken_175 post t (nI b) (nI e) (nI p) (b2i a) (nI D.length) en (upd pl D.length (nI p)) (upd bg D.length (nI b)) (upd tl D.length (nI N)) (upd sl D.length (nI N)) (upd ad D.length (b2i a)) le' st' s := by
      intro c
      have eS : S = wAt (fun k => cSmall (t k)) b N := by
        rw [← hS]
        rcases c with c | c
        · rw [if_pos c]
        · rw [show stemF (wAt (fun k => cSmall (t k)) b N) = wAt (fun k => cSmall (t k)) b N by rw [stemF, if_neg (by rw [c]; decide)]]
          split <;> rfl
      refine fin en _ _ _ _ h1 h2 h4 ?_ ?_ (fun x hx => pk_un (by omega))
      · rw [eS, hWl]; intro k hk; rw [wAt_get _ _ _ _ hk]; exact h3 k hk
      · rw [pk_us, eS, hWl]
    refine ⟨hin, hin, hin, hin, b2i_bN a, hin, ?_⟩
    rw [nI_clamp (by omega), show (nI N < (3 : Int32)) = (N < 3) from propext (nI_ltI (b := 3) (by omega) (by decide))]
    refine b_ifz (fun z => plain ?_) (fun z => ⟨fun q => plain (Or.inr ?_), fun q => ?_⟩)
    · cases a with
      | true => exact Or.inl rfl
      | false => right; rw [engL]; rw [Bool.not_false, Bool.true_and] at z; rw [z, Bool.and_false]
    · rw [engL, hWl, decide_eq_false (by omega)]; rfl
    · rw [Bool.and_eq_true] at z
      have ew : wAt le' (30 * D.length) N = wAt (fun k => cSmall (t k)) b N := wAt_congr N (fun k hk => h1 k hk)
      have eS : S = stepsF (wAt (fun k => cSmall (t k)) b N) := by
        have ha : a = false := by have := z.1; cases a with | false => rfl | true => cases this
        rw [← hS, ha, if_neg (by decide), stemF, if_pos (by rw [engL, hWl, decide_eq_true (by omega), z.2]; rfl)]
      refine km_stem (n := N) hl (by omega) pk_us (fun s' st'' g1 g2 => ?_)
      rw [ew, ← eS] at g1 g2 ⊢
      refine fin _ _ _ _ _ h1 h2 (fun x hx => ?_) g1 pk_us (fun x hx => ?_)
      · rw [g2 x (Or.inl hx)]; exact h4 x hx
      · rw [pk_un (by omega), pk_un (by omega)]
  have loop : ∀ (g j : Nat) (le' st' : Nat → Int32), N - j = g → j ≤ N → (∀ k, k < j → le' (30 * D.length + k) = cSmall (t (b + k))) → (∀ x, x < 30 * D.length → le' x = le x) → (∀ k, k < j → st' (30 * D.length + k) = cSmall (t (b + k))) → (∀ x, x < 30 * D.length → st' x = st x) → wlX8_addToken_18 post t (nI b) (nI e) (nI p) (b2i a) (nI D.length) en pl bg tl sl ad s (g + 1) le' st' (nI j) (b2i (!a && (wAt (fun k => cSmall (t k)) b j).all cLowr)) (nI (b + j)) := by
    intro g
    induction g with
    | zero =>
      intro j le' st' hg hj h1 h2 h3 h4
      have ej : j = N := by omega
      subst ej
      refine ⟨fun _ => e103 le' st' h1 h2 h3 h4, fun q => ⟨fun _ => e103 le' st' h1 h2 h3 h4, fun q2 => ?_⟩⟩
      rw [nI_leI (by omega) (by omega)] at q
      exact absurd ((nI_leI (a := 30) (by decide) (by omega)).mpr (by omega)) q2
    | succ g ih =>
      intro j le' st' hg hj h1 h2 h3 h4
      refine ⟨fun q => absurd ((nI_leI (by omega) (by omega)).mp q) (by omega), fun _ => ⟨fun q => absurd ((nI_leI (a := 30) (by decide) (by omega)).mp q) (by omega), fun _ => ⟨vp_in_nI (by omega) (by omega), ?_⟩⟩⟩
      rw [nI_clamp (by omega), nI_30, nI_add]
      refine km_small ⟨vp_in_nI (by omega) (by omega), vp_in_nI (by omega) (by omega), ?_⟩
      rw [nI_clamp (by omega)]
      have nx : ∀ z : Bool, (!a && (wAt (fun k => cSmall (t k)) b (j + 1)).all cLowr) = z → wjX8_addToken_94 (fun m_letters m_stems x5 x6 x7 => wlX8_addToken_18 post t (nI b) (nI e) (nI p) (b2i a) (nI D.length) en pl bg tl sl ad s (g + 1) m_letters m_stems x5 x6 x7) post t (nI b) (nI e) (nI p) (b2i a) (nI D.length) en pl bg tl sl ad (upd le' (30 * D.length + j) (cSmall (t (b + j)))) (upd st' (30 * D.length + j) (cSmall (t (b + j)))) s (nI j) (b2i z) (nI (b + j)) := by
        intro z ez y ey y2 ey2
        rw [ey, ey2, nI_1, nI_1, ← ez]
        have wr : ∀ f : Nat → Int32, (∀ k, k < j → f (30 * D.length + k) = cSmall (t (b + k))) → ∀ k, k < j + 1 → upd f (30 * D.length + j) (cSmall (t (b + j))) (30 * D.length + k) = cSmall (t (b + k)) := by
          intro f hf k hk
          rcases Nat.lt_or_ge k j with q | q
          · rw [pk_un (by omega)]; exact hf k q
          · rw [show k = j by omega, pk_us]
        exact ih (j + 1) _ _ (by omega) (by omega) (wr _ h1) (fun x hx => by rw [pk_un (by omega)]; exact h2 x hx) (wr _ h3) (fun x hx => by rw [pk_un (by omega)]; exact h4 x hx)
      rw [wAt_all] at nx
      generalize (wAt (fun k => cSmall (t k)) b j).all cLowr = A at nx ⊢
      have nx2 : ∀ z : Bool, (!a && A && cLowr (cSmall (t (b + j)))) = z → _ := fun z ez => nx z (by rw [← Bool.and_assoc]; exact ez)
      rw [i_lt, i_le]
      refine ⟨fun q => nx2 false ?_, fun q => ⟨fun q2 => nx2 (!a && A) ?_, fun q2 => nx2 false ?_⟩⟩
      · simp only [Int32.reduceToInt] at q
        rw [cLowr, decide_eq_false (fun c => by omega), Bool.and_false]
      · simp only [Int32.reduceToInt] at q q2
        rw [cLowr, decide_eq_true ⟨by omega, by omega⟩, Bool.and_true]
      · simp only [Int32.reduceToInt] at q2
        rw [cLowr, decide_eq_false (fun c => by omega), Bool.and_false]
  have main : wjX8_addToken_13 post t (nI b) (nI e) (nI p) (b2i a) (nI D.length) en pl bg tl sl ad le st s 0 (b2i (!a)) := by
    refine ⟨N + 1, ?_⟩
    have := loop N 0 le st (by omega) (Nat.zero_le _) (fun k hk => absurd hk (Nat.not_lt_zero _)) (fun x _ => rfl) (fun k hk => absurd hk (Nat.not_lt_zero _)) (fun x _ => rfl)
    rw [show (wAt (fun k => cSmall (t k)) b 0).all cLowr = true from rfl, Bool.and_true] at this
    exact this
  exact b_if (fun z => by rw [z] at main ⊢; exact main) (fun z => by rw [z] at main ⊢; exact main)
