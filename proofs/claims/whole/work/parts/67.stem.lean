/-! PURE 28: the stem of a word (both sides) -/
def wAt (f : Nat → Int32) (b : Nat) : Nat → List Int32
  | 0 => []
  | n + 1 => wAt f b n ++ [f (b + n)]
theorem wAt_len (f : Nat → Int32) (b : Nat) : ∀ n, (wAt f b n).length = n := by
  intro n
  induction n with
  | zero => rfl
  | succ n ih => rw [wAt, List.length_append, ih]; rfl
theorem wAt_get (f : Nat → Int32) (b : Nat) : ∀ n k, k < n → (wAt f b n).getD k 0 = f (b + k) := by
  intro n
  induction n with
  | zero => intro k h; exact absurd h (Nat.not_lt_zero _)
  | succ n ih =>
    intro k h
    rw [wAt]
    rcases Nat.lt_or_ge k n with q | q
    · rw [getD_app (by rw [wAt_len]; exact q), ih k q]
    · rw [getD_app2 (by rw [wAt_len]; exact q), wAt_len, show k = n by omega, Nat.sub_self]; rfl
theorem wAt_congr {f g : Nat → Int32} {b c : Nat} : ∀ n, (∀ k, k < n → f (b + k) = g (c + k)) → wAt f b n = wAt g c n := by
  intro n
  induction n with
  | zero => intro _; rfl
  | succ n ih => intro h; rw [wAt, wAt, ih (fun k hk => h k (by omega)), h n (by omega)]
def cLowr (c : Int32) : Bool := decide (97 ≤ c.toInt ∧ c.toInt ≤ 122)
def engL (w : List Int32) : Bool := decide (3 ≤ w.length) && w.all cLowr
def stepsF (w : List Int32) : List Int32 := step5b (step5a (step4 (firstF 0 lthirdX (firstF 0 lsecondX (step1c (step1b (step1a w)))))))
def stemF (w : List Int32) : List Int32 := if engL w = true then stepsF w else w
theorem step5a_le (w : List Int32) : (step5a w).length ≤ w.length := by
  rw [step5a]; split
  · rw [List.length_take]; omega
  · exact Nat.le_refl _
theorem step5b_le (w : List Int32) : (step5b w).length ≤ w.length := by
  rw [step5b]; split
  · rw [List.length_take]; omega
  · exact Nat.le_refl _
theorem step5b_get (w : List Int32) (k : Nat) (h : k < (step5b w).length) : (step5b w).getD k 0 = w.getD k 0 := by
  by_cases c : sfx w eLL = true ∧ 1 < meas w (w.length - 1)
  · rw [step5b, if_pos c] at h ⊢
    rw [List.length_take] at h
    exact getD_take (by omega)
  · rw [step5b, if_neg c]
theorem step5a_get (w : List Int32) (k : Nat) (h : k < (step5a w).length) : (step5a w).getD k 0 = w.getD k 0 := by
  by_cases c : sfx w eE = true ∧ (1 < meas w (w.length - 1) ∨ (meas w (w.length - 1) = 1 ∧ cvcL w (w.length - 1) = false))
  · rw [step5a, if_pos c] at h ⊢
    rw [List.length_take] at h
    exact getD_take (by omega)
  · rw [step5a, if_neg c]
theorem step5_get (w : List Int32) (k : Nat) (h : k < (step5b (step5a w)).length) : (step5b (step5a w)).getD k 0 = w.getD k 0 := by
  rw [step5b_get _ k h, step5a_get _ k (Nat.lt_of_lt_of_le h (step5b_le _))]
theorem stepsF_le (w : List Int32) : (stepsF w).length ≤ w.length :=
  Nat.le_trans (step5b_le _) (Nat.le_trans (step5a_le _) (Nat.le_trans (step4_le _) (Nat.le_trans (step3_le _) (Nat.le_trans (step2_le _) (Nat.le_trans (step1c_le _) (Nat.le_trans (step1b_le _) (step1a_le w)))))))
theorem stemF_le (w : List Int32) : (stemF w).length ≤ w.length := by
  rw [stemF]; split
  · exact stepsF_le w
  · exact Nat.le_refl _
theorem wAt_all (f : Nat → Int32) (b n : Nat) : (wAt f b (n + 1)).all cLowr = ((wAt f b n).all cLowr && cLowr (f (b + n))) := by
  rw [wAt, List.all_append]; simp
theorem kx_stemW {post : Int32 → Int32 → (Nat → Int32) → (Nat → Int32) → (Nat → Int32) → Prop} {b : Nat} {w : List Int32} {f v ts sm : Nat → Int32} {x4 : Int32} (hb : b + w.length ≤ 1500) (hw : w.length ≤ 30) (hf : rW f w)
    (H : ∀ ts' : Nat → Int32, (∀ k, k < w.length → ts' (b + k) = w.getD k 0) → (∀ k, (k < b ∨ b + w.length ≤ k) → ts' k = ts k) → post (nI w.length) (nI w.length) f v ts') : wjX4_stem_tt_smalls_tt_stems_122 post sm (nI b) x4 (nI w.length) f v ts := by
  have loop : ∀ (g j : Nat) (ts' : Nat → Int32), w.length - j = g → j ≤ w.length → (∀ k, k < j → ts' (b + k) = w.getD k 0) → (∀ k, (k < b ∨ b + j ≤ k) → ts' k = ts k) → wlX4_stem_tt_smalls_tt_stems_125 post sm (nI b) x4 (nI w.length) f v (g + 1) ts' (nI j) := by
    intro g
    induction g with
    | zero =>
      intro j ts' hg hj h1 h2
      have e : j = w.length := by omega
      subst e
      exact ⟨fun _ => H ts' h1 h2, fun q => absurd (nI_le (Nat.le_refl _) (by omega)) q⟩
    | succ g ih =>
      intro j ts' hg hj h1 h2
      refine ⟨fun q => absurd ((nI_leI (by omega) (by omega)).mp q) (by omega), fun _ => ⟨fun q => absurd q (nI_pos (by omega)), fun _ => ?_⟩⟩
      rw [nI_add]
      refine ⟨fun q => absurd ((nI_leI (a := 1500) (by decide) (by omega)).mp q) (by omega), fun _ => ⟨vp_in_nI (by omega) (by omega), vp_in_nI (by omega) (by omega), fun y ey => ?_⟩⟩
      rw [ey, nI_1, nI_clamp (by omega), nI_clamp (by omega), hf j (by omega)]
      refine ih (j + 1) _ (by omega) (by omega) (fun k hk => ?_) (fun k hk => ?_)
      · rcases Nat.lt_or_ge k j with q | q
        · rw [pk_un (by omega)]; exact h1 k q
        · rw [show k = j by omega, pk_us]
      · rw [pk_un (by omega)]; exact h2 k (by omega)
  exact ⟨w.length + 1, loop w.length 0 ts (by omega) (Nat.zero_le _) (fun k hk => absurd hk (Nat.not_lt_zero _)) (fun k _ => rfl)⟩
theorem kx_stem_loop {post : Int32 → Int32 → (Nat → Int32) → (Nat → Int32) → (Nat → Int32) → Prop} {sm ts : Nat → Int32} {b n : Nat} (hb : b + n ≤ 1500) (hn : n ≤ 30)
    (H : ∀ f v, rW f (wAt sm b n) → rV v (wAt sm b n) → wjX4_stem_tt_smalls_tt_stems_86 post sm (nI b) (nI n) (nI n) f v ts (b2i (decide (3 ≤ n) && (wAt sm b n).all cLowr))) :
    ∀ (g j : Nat) (f v : Nat → Int32), n - j = g → j ≤ n → rW f (wAt sm b j) → rV v (wAt sm b j) → wlX4_stem_tt_smalls_tt_stems_21 post sm (nI b) (nI n) ts (g + 1) (nI j) f v (b2i (decide (3 ≤ n) && (wAt sm b j).all cLowr)) (nI (b + j)) := by
  intro g
  induction g with
  | zero =>
    intro j f v hg hj hf hv
    have e : j = n := by omega
    subst e
    refine ⟨fun q => absurd q (nI_pos (by omega)), fun _ => ?_⟩
    rw [nI_add]
    exact ⟨fun _ => H f v hf hv, fun q => absurd (nI_le (Nat.le_refl _) (by omega)) q⟩
  | succ g ih =>
    intro j f v hg hj hf hv
    refine ⟨fun q => absurd q (nI_pos (by omega)), fun _ => ?_⟩
    rw [nI_add]
    refine ⟨fun q => absurd ((nI_leI (by omega) (by omega)).mp q) (by omega), fun _ => ⟨fun q => absurd ((nI_leI (a := 1500) (by decide) (by omega)).mp q) (by omega), fun _ => ?_⟩⟩
    have hin : vp_in (nI (b + j)) 1500 := vp_in_nI (by omega) (by omega)
    rw [nI_clamp (by omega)]
    have ap : ∀ e : Bool, (decide (3 ≤ n) && (wAt sm b (j + 1)).all cLowr) = e → wjX4_stem_tt_smalls_tt_stems_70 (fun st_size st_word st_vowels x5 x6 => wlX4_stem_tt_smalls_tt_stems_21 post sm (nI b) (nI n) ts (g + 1) st_size st_word st_vowels x5 x6) post sm (nI b) (nI n) (nI j) f v ts (nI (b + j)) (b2i e) := by
      intro e ee
      refine ⟨hin, ?_⟩
      rw [nI_clamp (by omega)]
      have := kx_append (post := fun s f' v' => ∀ y : Int32, y = nI (b + j) + 1 → wlX4_stem_tt_smalls_tt_stems_21 post sm (nI b) (nI n) ts (g + 1) s f' v' (b2i e) y) (w := wAt sm b j) (c := sm (b + j)) (by rw [wAt_len]; omega) hf hv (fun f' v' h1 h2 y ey => by
        rw [ey, nI_1, wAt_len, ← ee]
        exact ih (j + 1) f' v' (by omega) (by omega) h1 h2)
      rw [wAt_len] at this
      exact this
    rw [wAt_all] at ap
    refine b_ifz (fun z => ap false (by rw [← Bool.and_assoc, z]; rfl)) (fun z => ⟨hin, ?_⟩)
    rw [i_lt, i_lt]
    refine ⟨fun q => ap false ?_, fun q => ⟨hin, fun q2 => ap false ?_, fun q2 => ap true ?_⟩⟩
    · simp only [Int32.reduceToInt] at q
      rw [← Bool.and_assoc, show cLowr (sm (b + j)) = false from decide_eq_false (fun c => by omega), Bool.and_false]
    · simp only [Int32.reduceToInt] at q2
      rw [← Bool.and_assoc, show cLowr (sm (b + j)) = false from decide_eq_false (fun c => by omega), Bool.and_false]
    · simp only [Int32.reduceToInt] at q q2
      rw [← Bool.and_assoc, z, show cLowr (sm (b + j)) = true from decide_eq_true ⟨by omega, by omega⟩]; rfl
theorem kx_steps {post : Int32 → Int32 → (Nat → Int32) → (Nat → Int32) → (Nat → Int32) → Prop} {f v : Nat → Int32} {w : List Int32} {N : Int32 → (Nat → Int32) → (Nat → Int32) → Prop} (hw : w.length ≤ 30) (hf : rW f w) (hv : rV v w) (H : ∀ f' v', rW f' (stepsF w) → rV v' (stepsF w) → N (nI (stepsF w).length) f' v') :
    wpX4_endOfMany (fun st_size_3 st_word_4 st_vowels_5 => wpX4_endOfPast (fun st_size_7 st_word_8 st_vowels_9 => wpX4_endOfY (fun st_size_11 st_word_12 st_vowels_13 => wpX4_secondStep (fun r_14 st_size_15 st_word_16 st_vowels_17 => wpX4_thirdStep (fun r_18 st_size_19 st_word_20 st_vowels_21 => wpX4_fourthStep (fun r_22 st_size_23 st_word_24 st_vowels_25 => wpX4_fifthStep (fun st_size_27 st_word_28 st_vowels_29 => N st_size_27 st_word_28 st_vowels_29) st_size_23 st_word_24 st_vowels_25) st_size_19 st_word_20 st_vowels_21) st_size_15 st_word_16 st_vowels_17) st_size_11 st_word_12 st_vowels_13) st_size_7 st_word_8 st_vowels_9) st_size_3 st_word_4 st_vowels_5) (nI w.length) f v := by
  have l1 := step1a_le w
  have l2 := step1b_le (step1a w)
  have l3 := step1c_le (step1b (step1a w))
  have l4 := step2_le (step1c (step1b (step1a w)))
  have l5 := step3_le (firstF 0 lsecondX (step1c (step1b (step1a w))))
  have l6 := step4_le (firstF 0 lthirdX (firstF 0 lsecondX (step1c (step1b (step1a w)))))
  exact kx_1a hw hf hv (fun f1 v1 a1 b1 => kx_1b (by omega) a1 b1 (fun f2 v2 a2 b2 => kx_1c (by omega) a2 b2 (fun f3 v3 a3 b3 => kx_second (by omega) a3 b3 (fun r f4 v4 a4 b4 => kx_third (by omega) a4 b4 (fun r f5 v5 a5 b5 => kx_fourth (by omega) a5 b5 (fun r f6 v6 a6 b6 => kx_fifth (by omega) a6 b6 H))))))
theorem kx_stem {post : Int32 → Int32 → (Nat → Int32) → (Nat → Int32) → (Nat → Int32) → Prop} {s : Int32} {f v sm ts : Nat → Int32} {b n : Nat} (hb : b + n ≤ 1500) (hn : n ≤ 30)
    (H : ∀ f' v' ts' : Nat → Int32, (∀ k, k < (stemF (wAt sm b n)).length → ts' (b + k) = (stemF (wAt sm b n)).getD k 0) → (∀ k, (k < b ∨ b + (stemF (wAt sm b n)).length ≤ k) → ts' k = ts k) → post (nI (stemF (wAt sm b n)).length) (nI (stemF (wAt sm b n)).length) f' v' ts') : wpX4_stem_tt_smalls_tt_stems post s f v sm ts (nI b) (nI n) := by
  have hl := wAt_len sm b n
  have main : wjX4_stem_tt_smalls_tt_stems_16 post sm (nI b) (nI n) 0 f v ts (b2i (decide (3 ≤ n))) := by
    refine ⟨n + 1, ?_⟩
    have := kx_stem_loop (post := post) (sm := sm) (ts := ts) hb hn (fun f' v' h1 h2 => ?_) n 0 f v (by omega) (Nat.zero_le _) (fun k hk => absurd hk (Nat.not_lt_zero _)) (fun k hk => absurd hk (Nat.not_lt_zero _))
    · rw [show (wAt sm b 0).all cLowr = true from rfl, Bool.and_true] at this
      exact this
    · have hs := stemF_le (wAt sm b n)
      rw [hl] at hs
      refine b_ifz (fun z => ?_) (fun z => ?_)
      · have e : stemF (wAt sm b n) = wAt sm b n := by rw [stemF, if_neg (by rw [engL, hl, z]; decide)]
        rw [e] at H
        have := kx_stemW (post := post) (b := b) (w := wAt sm b n) (f := f') (v := v') (ts := ts) (sm := sm) (x4 := nI n) (by omega) (by omega) h1 (fun ts' a c => H f' v' ts' a c)
        rw [hl] at this
        exact this
      · have e : stemF (wAt sm b n) = stepsF (wAt sm b n) := by rw [stemF, if_pos (by rw [engL, hl]; exact z)]
        rw [e] at H hs
        have := kx_steps (post := post) (w := wAt sm b n) (N := fun a c d => wjX4_stem_tt_smalls_tt_stems_122 post sm (nI b) (nI n) a c d ts) (by omega) h1 h2 (fun f'' v'' a1 a2 => kx_stemW (by omega) (by omega) a1 (fun ts' a c => H f'' v'' ts' a c))
        rw [hl] at this
        exact this
  rw [wpX4_stem_tt_smalls_tt_stems, show (nI n < (3 : Int32)) = (n < 3) from propext (nI_ltI (b := 3) (by omega) (by decide))]
  refine ⟨fun q => ?_, fun q => ?_⟩
  · rw [decide_eq_false (by omega)] at main; exact main
  · rw [decide_eq_true (by omega)] at main; exact main
theorem nI_30 (i : Nat) : (30 : Int32) * nI i = nI (30 * i) := pk_mul 30 i
theorem km_stemW {post : Int32 → (Nat → Int32) → (Nat → Int32) → (Nat → Int32) → Prop} {t : Nat} {w : List Int32} {f st tl sl le : Nat → Int32} (ht : t < 2300) (hw : w.length ≤ 30) (hf : rW f w)
    (H : ∀ st' : Nat → Int32, (∀ k, k < w.length → st' (30 * t + k) = w.getD k 0) → (∀ k, (k < 30 * t ∨ 30 * t + w.length ≤ k) → st' k = st k) → post (nI w.length) (upd sl t (nI w.length)) st' f) : ∃ nf, wlX8_stem_65 post tl le (nI t) (nI w.length) sl f nf st 0 := by
  have loop : ∀ (g j : Nat) (st' : Nat → Int32), w.length - j = g → j ≤ w.length → (∀ k, k < j → st' (30 * t + k) = w.getD k 0) → (∀ k, (k < 30 * t ∨ 30 * t + j ≤ k) → st' k = st k) → wlX8_stem_65 post tl le (nI t) (nI w.length) sl f (g + 1) st' (nI j) := by
    intro g
    induction g with
    | zero =>
      intro j st' hg hj h1 h2
      have e : j = w.length := by omega
      subst e
      refine ⟨fun _ => ⟨vp_in_nI (by omega) (by omega), ?_⟩, fun q => absurd (nI_le (Nat.le_refl _) (by omega)) q⟩
      rw [nI_clamp (by omega)]
      exact H st' h1 h2
    | succ g ih =>
      intro j st' hg hj h1 h2
      refine ⟨fun q => absurd ((nI_leI (by omega) (by omega)).mp q) (by omega), fun _ => ?_⟩
      rw [nI_30, nI_add]
      refine ⟨vp_in_nI (by omega) (by omega), vp_in_nI (by omega) (by omega), fun y ey => ?_⟩
      rw [ey, nI_1, nI_clamp (by omega), nI_clamp (by omega), hf j (by omega)]
      refine ih (j + 1) _ (by omega) (by omega) (fun k hk => ?_) (fun k hk => ?_)
      · rcases Nat.lt_or_ge k j with q | q
        · rw [pk_un (by omega)]; exact h1 k q
        · rw [show k = j by omega, pk_us]
      · rw [pk_un (by omega)]; exact h2 k (by omega)
  exact ⟨w.length + 1, loop w.length 0 st (by omega) (Nat.zero_le _) (fun k hk => absurd hk (Nat.not_lt_zero _)) (fun k _ => rfl)⟩
theorem km_steps {f : Nat → Int32} {w : List Int32} {N : Int32 → (Nat → Int32) → Prop} (hw : w.length ≤ 30) (hf : rW f w) (H : ∀ f', rW f' (stepsF w) → N (nI (stepsF w).length) f') :
    wpX8_first (fun m_end_3 m_s_4 => wpX8_second (fun m_end_6 m_s_7 => wpX8_third (fun m_end_9 m_s_10 => wpX8_fourth (fun m_end_12 m_s_13 => wpX8_fifth (fun m_end_15 => N m_end_15 m_s_13) m_end_12 m_s_13) m_end_9 m_s_10) m_end_6 m_s_7) m_end_3 m_s_4) (nI w.length) f := by
  have l1 := step1a_le w
  have l2 := step1b_le (step1a w)
  have l3 := step1c_le (step1b (step1a w))
  have l4 := step2_le (step1c (step1b (step1a w)))
  have l5 := step3_le (firstF 0 lsecondX (step1c (step1b (step1a w))))
  have l6 := step4_le (firstF 0 lthirdX (firstF 0 lsecondX (step1c (step1b (step1a w)))))
  refine km_first hw hf (fun f1 a1 => km_second (by omega) a1 ?_)
  rw [second_same]
  refine fun f2 a2 => km_third (by omega) a2 ?_
  rw [third_same]
  exact fun f3 a3 => km_fourth (by omega) a3 (fun f4 a4 => km_fifth (by omega) a4 (H f4 (fun k hk => by
    have l7 := step5a_le (step4 (firstF 0 lthirdX (firstF 0 lsecondX (step1c (step1b (step1a w))))))
    have l8 := step5b_le (step5a (step4 (firstF 0 lthirdX (firstF 0 lsecondX (step1c (step1b (step1a w)))))))
    have hk' : k < (step5b (step5a (step4 (firstF 0 lthirdX (firstF 0 lsecondX (step1c (step1b (step1a w)))))))).length := hk
    rw [a4 k (by omega)]
    exact (step5_get _ k hk').symm)))
theorem km_stem {post : Int32 → (Nat → Int32) → (Nat → Int32) → (Nat → Int32) → Prop} {t n : Nat} {e0 : Int32} {s st tl sl le : Nat → Int32} (ht : t < 2300) (hn : n ≤ 30) (etl : tl t = nI n)
    (H : ∀ s' st' : Nat → Int32, (∀ k, k < (stepsF (wAt le (30 * t) n)).length → st' (30 * t + k) = (stepsF (wAt le (30 * t) n)).getD k 0) → (∀ k, (k < 30 * t ∨ 30 * t + (stepsF (wAt le (30 * t) n)).length ≤ k) → st' k = st k) → post (nI (stepsF (wAt le (30 * t) n)).length) (upd sl t (nI (stepsF (wAt le (30 * t) n)).length)) st' s') : wpX8_stem post e0 tl sl le st s (nI t) := by
  refine ⟨vp_in_nI (by omega) (by omega), fun x ex => ?_⟩
  rw [nI_clamp (by omega), etl] at ex
  subst ex
  have hl := wAt_len le (30 * t) n
  have loop : ∀ (g j : Nat) (f : Nat → Int32), n - j = g → j ≤ n → rW f (wAt le (30 * t) j) → wlX8_stem_12 post tl le (nI t) (nI n) sl st (g + 1) f (nI j) := by
    intro g
    induction g with
    | zero =>
      intro j f hg hj hf
      have e : j = n := by omega
      subst e
      refine ⟨fun _ => ?_, fun q => absurd (nI_le (Nat.le_refl _) (by omega)) q⟩
      have hs := stepsF_le (wAt le (30 * t) j)
      have := km_steps (w := wAt le (30 * t) j) (N := fun a c => ∃ nf, wlX8_stem_65 post tl le (nI t) a sl c nf st 0) (by omega) hf (fun f' a1 => km_stemW ht (by omega) a1 (fun st' a c => H f' st' a c))
      rw [hl] at this
      exact this
    | succ g ih =>
      intro j f hg hj hf
      refine ⟨fun q => absurd ((nI_leI (by omega) (by omega)).mp q) (by omega), fun _ => ?_⟩
      rw [nI_30, nI_add]
      refine ⟨vp_in_nI (by omega) (by omega), vp_in_nI (by omega) (by omega), fun y ey => ?_⟩
      rw [ey, nI_1, nI_clamp (by omega), nI_clamp (by omega)]
      refine ih (j + 1) _ (by omega) (by omega) (fun k hk => ?_)
      rw [wAt_len] at hk
      rw [wAt_get _ _ _ _ hk]
      rcases Nat.lt_or_ge k j with q | q
      · rw [pk_un (by omega), hf k (by rw [wAt_len]; exact q), wAt_get _ _ _ _ q]
      · rw [show k = j by omega, pk_us]
  exact ⟨n + 1, loop n 0 s (by omega) (Nat.zero_le _) (fun k hk => absurd hk (Nat.not_lt_zero _))⟩
