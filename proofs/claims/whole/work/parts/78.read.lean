/-! PURE 39: reading a page. g: what stands at a place, or none -/
def hG (g : Nat → Int32) : Nat → List Int32 → Bool
  | _, [] => true
  | k, b :: bs => decide (g k = b) && hG g (k + 1) bs
def hGL (g : Nat → Int32) : Nat → List Int32 → Bool
  | _, [] => true
  | k, b :: bs => decide (cLow (g k) = b) && hGL g (k + 1) bs
theorem hB_G {g tx : Nat → Int32} {n : Nat} : ∀ (bs : List Int32) (f : Nat), (∀ j, f ≤ j → gF tx n j = g j) → hB tx n f bs = hG g f bs := by
  intro bs
  induction bs with
  | nil => intro f _; rfl
  | cons b bs ih => intro f h; rw [hB, hG, h f (Nat.le_refl _), ih (f + 1) (fun j hj => h j (by omega))]
theorem hL_G {g tx : Nat → Int32} {n : Nat} : ∀ (bs : List Int32) (f : Nat), (∀ j, f ≤ j → gF tx n j = g j) → hL tx n f bs = hGL g f bs := by
  intro bs
  induction bs with
  | nil => intro f _; rfl
  | cons b bs ih => intro f h; rw [hL, hGL, h f (Nat.le_refl _), ih (f + 1) (fun j hj => h j (by omega))]
theorem cS_big {c : Int32} (h : 192 ≤ c.toInt) : 192 ≤ (cSmall c).toInt := by
  obtain ⟨j, hj, rfl⟩ := nI_of (x := c) (by rw [i_lt]; simp only [Int32.reduceToInt]; omega)
  have e := nI_toInt hj
  have ad : ∀ d : Nat, j ≤ 2000 → d ≤ 100 → 192 ≤ (nI j + nI d).toInt := fun d h1 h2 => by rw [nI_add, nI_toInt (by omega)]; omega
  by_cases a1 : (192 ≤ (nI j).toInt ∧ (nI j).toInt ≤ 222 ∧ (nI j).toInt ≠ 215) ∨ (913 ≤ (nI j).toInt ∧ (nI j).toInt ≤ 939 ∧ (nI j).toInt ≠ 930) ∨ (1040 ≤ (nI j).toInt ∧ (nI j).toInt ≤ 1071)
  · rw [cS_32 (by omega)]; exact ad 32 (by omega) (by omega)
  by_cases a2 : 1024 ≤ (nI j).toInt ∧ (nI j).toInt ≤ 1039
  · rw [cS_80 a2]; exact ad 80 (by omega) (by omega)
  by_cases a3 : (((256 ≤ (nI j).toInt ∧ (nI j).toInt ≤ 311) ∨ (330 ≤ (nI j).toInt ∧ (nI j).toInt ≤ 375) ∨ (1120 ≤ (nI j).toInt ∧ (nI j).toInt ≤ 1153) ∨ (1162 ≤ (nI j).toInt ∧ (nI j).toInt ≤ 1215)) ∧ (nI j).toInt % 2 = 0) ∨ (((313 ≤ (nI j).toInt ∧ (nI j).toInt ≤ 328) ∨ (377 ≤ (nI j).toInt ∧ (nI j).toInt ≤ 382)) ∧ (nI j).toInt % 2 = 1)
  · rw [cS_1 a3]; exact ad 1 (by omega) (by omega)
  by_cases a4 : (nI j).toInt = 376
  · rw [cS_255 a4]; decide
  by_cases a5 : (nI j).toInt = 902
  · rw [cS_940 a5]; decide
  by_cases a6 : 904 ≤ (nI j).toInt ∧ (nI j).toInt ≤ 906
  · rw [cS_37 a6]; exact ad 37 (by omega) (by omega)
  by_cases a7 : (nI j).toInt = 908
  · rw [cS_972 a7]; decide
  by_cases a8 : (nI j).toInt = 910 ∨ (nI j).toInt = 911
  · rw [cS_63 a8]; exact ad 63 (by omega) (by omega)
  rw [cS_0 ⟨by omega, by omega, by omega, by omega, a4, a5, a6, a7, by omega, by omega⟩]; exact h
theorem cS_low {c b : Int32} (hb : b.toInt < 192) : (cSmall c = b) ↔ (cLow c = b) := by
  rcases Int.lt_or_le c.toInt 192 with q | q
  · by_cases u : 65 ≤ c.toInt ∧ c.toInt ≤ 90
    · rw [cS_32 (Or.inl u), cLow, if_pos u]
    · rw [cS_0 (by omega), cLow, if_neg u]
  · have h1 := cS_big q
    rw [cLow, if_neg (by omega)]
    exact ⟨fun e => by rw [e] at h1; omega, fun e => by rw [e] at q; omega⟩
theorem hS_G {g tx : Nat → Int32} {n : Nat} : ∀ (bs : List Int32) (f : Nat), (∀ b ∈ bs, b.toInt < 192) → (∀ j, f ≤ j → gF tx n j = g j) → hS tx n f bs = hGL g f bs := by
  intro bs
  induction bs with
  | nil => intro f _ _; rfl
  | cons b bs ih =>
    intro f hb h
    rw [hS, hGL, h f (Nat.le_refl _), ih (f + 1) (fun x hx => hb x (List.mem_cons_of_mem _ hx)) (fun j hj => h j (by omega)), decide_eq_decide.mpr (cS_low (hb b List.mem_cons_self))]
theorem hGL_iff {g : Nat → Int32} : ∀ (bs : List Int32) (f : Nat), hGL g f bs = true ↔ ∀ i, i < bs.length → cLow (g (f + i)) = bs.getD i 0 := by
  intro bs
  induction bs with
  | nil => intro f; exact ⟨fun _ i hi => absurd hi (Nat.not_lt_zero _), fun _ => rfl⟩
  | cons b bs ih =>
    intro f
    rw [hGL, Bool.and_eq_true, decide_eq_true_eq, ih (f + 1)]
    refine ⟨fun ⟨h1, h2⟩ i hi => ?_, fun h => ⟨h 0 (Nat.zero_lt_succ _), fun i hi => ?_⟩⟩
    · cases i with
      | zero => exact h1
      | succ i =>
        have := h2 i (by rw [List.length_cons] at hi; omega)
        rw [show f + 1 + i = f + (i + 1) by omega] at this
        exact this
    · have := h (i + 1) (by rw [List.length_cons]; omega)
      rw [show f + 1 + i = f + (i + 1) by omega]
      exact this
/-- the letters of a name, made small -/
def nmL (g : Nat → Int32) (f e : Nat) : List Int32 := wAt (fun j => cLow (g j)) f (e - f)
theorem nmL_hGL {g : Nat → Int32} {f e : Nat} {bs : List Int32} (hl : e - f = bs.length) : hGL g f bs = decide (nmL g f e = bs) := by
  have h1 := hGL_iff (g := g) bs f
  cases q : hGL g f bs with
  | true =>
    rw [q] at h1
    have h1 := h1.mp rfl
    refine (decide_eq_true (list_ext (by rw [nmL, wAt_len, hl]) (fun k hk => ?_))).symm
    rw [nmL, wAt_len] at hk
    rw [nmL, wAt_get _ _ _ _ hk]
    exact h1 k (by omega)
  | false =>
    refine (decide_eq_false (fun c => ?_)).symm
    rw [h1.mpr (fun i hi => by
      rw [← c, nmL, wAt_get _ _ _ _ (by omega)])] at q
    cases q
theorem kx_getA {post : Int32 → Prop} {g tx : Nat → Int32} {n a k : Nat} (hn : n ≤ 1500) (hA : ∀ j, a ≤ j → gF tx n j = g j) (ha : a ≤ k) (hk : k < 2 ^ 31) (h : post (g k)) : wpX5_get post (nI n) tx (nI k) := kx_get hn hk (by rw [hA k ha]; exact h)
theorem km_lookA {post : Int32 → Prop} {g tx : Nat → Int32} {n k : Nat} (hn : n ≤ 1500) (hA : ∀ j, gF tx n j = g j) (hk : k < 2 ^ 31) (h : post (g k)) : wpX8_look post (nI n) tx (nI k) := km_look hn hk (by rw [hA k]; exact h)
def cNm (c : Int32) : Bool := cLatin c || cDigit c
theorem cNm_m1 : cNm (-1) = false := by decide
def nE (g : Nat → Int32) (n : Nat) : Nat → Nat → Nat
  | 0, k => k
  | f + 1, k => if k < n ∧ cNm (g k) = true then nE g n f (k + 1) else k
def nameE (g : Nat → Int32) (n k : Nat) : Nat := nE g n (n - k) k
theorem nameE_y {g : Nat → Int32} {n k : Nat} (h : k < n) (hw : cNm (g k) = true) : nameE g n k = nameE g n (k + 1) := by
  rw [nameE, show n - k = (n - (k + 1)) + 1 by omega, nE, if_pos ⟨h, hw⟩]; rfl
theorem nameE_n {g : Nat → Int32} {n k : Nat} (hw : ¬ (k < n ∧ cNm (g k) = true)) : nameE g n k = k := by
  rw [nameE]
  cases h : n - k with
  | zero => rfl
  | succ f => rw [nE, if_neg hw]
theorem nameE_spec {g : Nat → Int32} {n : Nat} : ∀ (f k : Nat), n - k = f → k ≤ n → k ≤ nameE g n k ∧ nameE g n k ≤ n ∧ (∀ j, k ≤ j → j < nameE g n k → cNm (g j) = true) := by
  intro f
  induction f with
  | zero => intro k h hk; rw [nameE_n (by omega)]; exact ⟨Nat.le_refl _, hk, fun j a b => by omega⟩
  | succ f ih =>
    intro k h hk
    by_cases c : cNm (g k) = true
    · rw [nameE_y (by omega) c]
      obtain ⟨h1, h2, h3⟩ := ih (k + 1) (by omega) (by omega)
      refine ⟨by omega, h2, fun j a b => ?_⟩
      rcases Nat.lt_or_ge k j with q | q
      · exact h3 j q b
      · rw [show j = k by omega]; exact c
    · rw [nameE_n (fun z => c z.2)]; exact ⟨Nat.le_refl _, hk, fun j a b => by omega⟩
theorem kx_name {post : Int32 → Prop} {g tx : Nat → Int32} {n a k : Nat} (hn : n ≤ 1500) (hA : ∀ j, a ≤ j → gF tx n j = g j) (ha : a ≤ k) (hk : k ≤ n) (h : post (nI (nameE g n k))) : wpX3_behindName post (nI n) tx (nI k) := by
  have loop : ∀ (f i : Nat), n - i = f → a ≤ i → i ≤ n → post (nI (nameE g n i)) → wlX3_behindName_2 post (nI n) tx (nI k) (f + 1) (nI i) := by
    intro f
    induction f with
    | zero =>
      intro i hf hi1 hi hp
      rw [nameE_n (by omega)] at hp
      exact ⟨fun _ => hp, fun q => absurd (nI_le (by omega) (by omega)) q⟩
    | succ f ih =>
      intro i hf hi1 hi hp
      refine ⟨fun q => absurd ((nI_leI (by omega) (by omega)).mp q) (by omega), fun _ => kx_getA hn hA hi1 (by omega) ?_⟩
      have nx : cNm (g i) = true → wjX3_behindName_41 (fun x2 => wlX3_behindName_2 post (nI n) tx (nI k) (f + 1) x2) post (nI n) tx (nI k) (nI i) := by
        intro c y ey
        rw [ey, nI_1]
        rw [nameE_y (by omega) c] at hp
        exact ih (i + 1) (by omega) (by omega) (by omega) hp
      refine kx_isLatin (b_if (fun z => nx (by rw [cNm, z]; rfl)) (fun z => kx_getA hn hA hi1 (by omega) (kx_isDigit (b_ifz (fun z2 => ?_) (fun z2 => nx (by rw [cNm, z2, Bool.or_true]))))))
      rw [nameE_n (fun c => by rw [cNm, z, z2] at c; cases c.2)] at hp; exact hp
  exact ⟨_, loop (n - k) k rfl ha hk h⟩
/-! the end of a tag: a quote counts only behind a = -/
def tE (g : Nat → Int32) (n : Nat) : Nat → Nat → Int32 → Bool → Nat
  | 0, _, _, _ => n
  | f + 1, k, q, s => if q = -1 then (if g k = 62 then k + 1 else if s = true ∧ (g k = 34 ∨ g k = 39) then tE g n f (k + 1) (g k) false else tE g n f (k + 1) (-1) (decide (g k = 61) || (s && cBlank (g k)))) else tE g n f (k + 1) (if g k = q then -1 else q) s
def tagE (g : Nat → Int32) (n k : Nat) (q : Int32) (s : Bool) : Nat := tE g n (n - k) k q s
theorem tagE_ge {g : Nat → Int32} {n k : Nat} {q : Int32} {s : Bool} (h : n ≤ k) : tagE g n k q s = n := by rw [tagE, show n - k = 0 by omega, tE]
theorem tagE_lt {g : Nat → Int32} {n k : Nat} {q : Int32} {s : Bool} (h : k < n) : tagE g n k q s = if q = -1 then (if g k = 62 then k + 1 else if s = true ∧ (g k = 34 ∨ g k = 39) then tagE g n (k + 1) (g k) false else tagE g n (k + 1) (-1) (decide (g k = 61) || (s && cBlank (g k)))) else tagE g n (k + 1) (if g k = q then -1 else q) s := by
  rw [tagE, show n - k = (n - (k + 1)) + 1 by omega, tE]; rfl
theorem tagE_bd {g : Nat → Int32} {n : Nat} : ∀ (f k : Nat) (q : Int32) (s : Bool), n - k = f → k ≤ n → k ≤ tagE g n k q s ∧ tagE g n k q s ≤ n := by
  intro f
  induction f with
  | zero => intro k q s h hk; rw [tagE_ge (by omega)]; omega
  | succ f ih =>
    intro k q s h hk
    rw [tagE_lt (by omega)]
    repeat' split
    · omega
    · have := ih (k + 1) (g k) false (by omega) (by omega); omega
    · have := ih (k + 1) (-1) (decide (g k = 61) || (s && cBlank (g k))) (by omega) (by omega); omega
    · have := ih (k + 1) (-1) s (by omega) (by omega); omega
    · have := ih (k + 1) q s (by omega) (by omega); omega
theorem kx_tagEnd {post : Int32 → Prop} {g tx : Nat → Int32} {n a k : Nat} (hn : n ≤ 1500) (hA : ∀ j, a ≤ j → gF tx n j = g j) (ha : a ≤ k) (hk : k ≤ n) (h : post (nI (tagE g n k (-1) false))) : wpX3_behindTag post (nI n) tx (nI k) := by
  have loop : ∀ (f i : Nat) (q : Int32) (s : Bool), n - i = f → a ≤ i → i ≤ n → post (nI (tagE g n i q s)) → wlX3_behindTag_7 post (nI n) tx (nI k) (f + 1) q (b2i s) (nI i) := by
    intro f
    induction f with
    | zero =>
      intro i q s hf hi1 hi hp
      rw [tagE_ge (by omega)] at hp
      exact ⟨fun _ => hp, fun q => absurd (nI_le (by omega) (by omega)) q⟩
    | succ f ih =>
      intro i q s hf hi1 hi hp
      refine ⟨fun q => absurd ((nI_leI (by omega) (by omega)).mp q) (by omega), fun _ => kx_getA hn hA hi1 (by omega) ?_⟩
      rw [tagE_lt (by omega)] at hp
      have nx : ∀ (q : Int32) (s : Bool), post (nI (tagE g n (i + 1) q s)) → wjX3_behindTag_113 (fun x2 x3 x4 => wlX3_behindTag_7 post (nI n) tx (nI k) (f + 1) x2 x3 x4) post (nI n) tx (nI k) q (b2i s) (nI i) := by
        intro q s hp y ey
        rw [ey, nI_1]
        exact ih (i + 1) q s (by omega) (by omega) (by omega) hp
      refine ⟨fun hq => ?_, fun hq => ?_⟩
      · rw [if_pos hq] at hp
        refine ⟨fun c => ?_, fun c => ?_⟩
        · rw [if_neg c] at hp
          have e88 : ¬ (s = true ∧ (g i = 34 ∨ g i = 39)) → wjX3_behindTag_88 (fun x2 x3 x4 => wlX3_behindTag_7 post (nI n) tx (nI k) (f + 1) x2 x3 x4) post (nI n) tx (nI k) q (b2i s) (nI i) (g i) := by
            intro d
            rw [if_neg d] at hp
            have y1 : (decide (g i = 61) || (s && cBlank (g i))) = true → wjX3_behindTag_107 (fun x2 x3 x4 => wlX3_behindTag_7 post (nI n) tx (nI k) (f + 1) x2 x3 x4) post (nI n) tx (nI k) q (nI i) := by
              intro e; rw [e] at hp; rw [hq]; exact nx (-1) true hp
            have y0 : (decide (g i = 61) || (s && cBlank (g i))) = false → wjX3_behindTag_111 (fun x2 x3 x4 => wlX3_behindTag_7 post (nI n) tx (nI k) (f + 1) x2 x3 x4) post (nI n) tx (nI k) q (nI i) := by
              intro e; rw [e] at hp; rw [hq]; exact nx (-1) false hp
            refine ⟨fun e => y1 (by rw [decide_eq_true e]; rfl), fun e => b_ifz (fun z => y0 (by rw [decide_eq_false e, z]; rfl)) (fun z => kx_isBlank (b_ifz (fun z2 => y0 (by rw [decide_eq_false e, z2]; simp)) (fun z2 => y1 (by rw [z, z2]; simp))))⟩
          refine b_ifz (fun z => e88 (fun d => by rw [z] at d; cases d.1)) (fun z => ⟨fun d => ?_, fun d => ⟨fun d2 => e88 (fun d3 => by rcases d3.2 with u | u; exact d u; exact d2 u), fun d2 => ?_⟩⟩)
          · rw [if_pos ⟨z, Or.inl d⟩] at hp; exact nx (g i) false hp
          · rw [if_pos ⟨z, Or.inr d2⟩] at hp; exact nx (g i) false hp
        · rw [if_pos c] at hp
          rw [nI_1]; exact hp
      · rw [if_neg hq] at hp
        refine ⟨fun c => ?_, fun c => ?_⟩
        · rw [if_neg c] at hp; exact nx q s hp
        · rw [if_pos c] at hp; exact nx (-1) s hp
  exact ⟨_, loop (n - k) k (-1) false rfl ha hk h⟩
theorem tx_g {g tx : Nat → Int32} {n k : Nat} (hA : ∀ j, gF tx n j = g j) (hk : k < n) : tx k = g k := by rw [← hA k, gF_lt hk]
theorem km_tagEnd {post : Int32 → Prop} {g tx : Nat → Int32} {n k : Nat} (hn : n ≤ 1500) (hA : ∀ j, gF tx n j = g j) (hk : k ≤ n) (h : post (nI (tagE g n k (-1) false))) : wpX8_tagEnd post (nI n) tx (nI k) := by
  have e110 : ∀ i, n ≤ i → i ≤ n + 1 → post (nI n) → wjX8_tagEnd_110 post (nI n) tx (nI k) (nI i) := fun i h1 h2 hp => ⟨fun _ => hp, fun q => absurd (nI_le h1 (by omega)) q⟩
  have loop : ∀ (f i : Nat) (s : Bool), n + 1 - i ≤ f → i ≤ n + 1 → post (nI (tagE g n i (-1) s)) → wlX8_tagEnd_4 post (nI n) tx (nI k) (f + 1) (nI i) (b2i s) := by
    intro f
    induction f with
    | zero =>
      intro i s hf hi hp
      rw [tagE_ge (by omega)] at hp
      exact ⟨fun _ => e110 i (by omega) hi hp, fun q => absurd (nI_le (by omega) (by omega)) q⟩
    | succ f ih =>
      intro i s hf hi hp
      rcases Nat.lt_or_ge i n with hin | hin
      · rw [tagE_lt hin, if_pos rfl] at hp
        have hv : vp_in (nI i) 1500 := vp_in_nI (by omega) (by omega)
        refine ⟨fun q => absurd ((nI_leI (by omega) (by omega)).mp q) (by omega), fun _ => ⟨hv, ?_⟩⟩
        rw [nI_clamp (by omega), tx_g hA hin]
        refine ⟨fun c => ?_, fun c => ⟨hv, fun y ey => ?_⟩⟩
        · rw [if_pos c] at hp
          refine ⟨fun q => absurd ((nI_leI (by omega) (by omega)).mp q) (by omega), fun _ => ?_⟩
          rw [nI_1]; exact hp
        · subst ey
          rw [if_neg c] at hp
          have nx : ∀ (s : Bool), post (nI (tagE g n (i + 1) (-1) s)) → wjX8_tagEnd_104 (fun x2 x3 => wlX8_tagEnd_4 post (nI n) tx (nI k) (f + 1) x2 x3) post (nI n) tx (nI k) (nI i) (b2i s) := by
            intro s hp y ey
            rw [ey, nI_1]
            exact ih (i + 1) s (by omega) (by omega) hp
          have e82 : ¬ (s = true ∧ (g i = 34 ∨ g i = 39)) → wjX8_tagEnd_82 (fun x2 x3 => wlX8_tagEnd_4 post (nI n) tx (nI k) (f + 1) x2 x3) post (nI n) tx (nI k) (nI i) (b2i s) (g i) := by
            intro d
            rw [if_neg d] at hp
            refine ⟨fun e => km_isBlank (b_if (fun z => nx s ?_) (fun z => nx false ?_)), fun e => nx true ?_⟩
            · rw [decide_eq_false e, z, Bool.false_or, Bool.and_true] at hp; exact hp
            · rw [decide_eq_false e, z, Bool.false_or, Bool.and_false] at hp; exact hp
            · rw [decide_eq_true e, Bool.true_or] at hp; exact hp
          have e49 : s = true → (g i = 34 ∨ g i = 39) → wjX8_tagEnd_49 (fun x2 x3 => wlX8_tagEnd_4 post (nI n) tx (nI k) (f + 1) x2 x3) post (nI n) tx (nI k) (nI i) (g i) := by
            intro hs hq
            rw [if_pos ⟨hs, hq⟩] at hp
            have hqn : ¬ g i = -1 := fun c => by rw [c] at hq; rcases hq with u | u <;> exact absurd u (by decide)
            intro y ey
            rw [ey, nI_1]
            have inner : ∀ (m j : Nat), n - j = m → i + 1 ≤ j → j ≤ n → post (nI (tagE g n j (g i) false)) → wlX8_tagEnd_52 (fun x2 x3 => wlX8_tagEnd_4 post (nI n) tx (nI k) (f + 1) x2 x3) post (nI n) tx (nI k) (g i) (m + 1) (nI j) := by
              intro m
              induction m with
              | zero =>
                intro j hm hj1 hj hp
                refine ⟨fun _ y ey => ?_, fun q => absurd (nI_le (by omega) (by omega)) q⟩
                rw [ey, nI_1]
                rw [tagE_ge (by omega)] at hp
                exact ih (j + 1) false (by omega) (by omega) (by rw [tagE_ge (by omega)]; exact hp)
              | succ m ihm =>
                intro j hm hj1 hj hp
                rw [tagE_lt (by omega), if_neg hqn] at hp
                refine ⟨fun q => absurd ((nI_leI (by omega) (by omega)).mp q) (by omega), fun _ => ⟨vp_in_nI (by omega) (by omega), ?_⟩⟩
                rw [nI_clamp (by omega), tx_g hA (by omega)]
                refine ⟨fun c y ey => ?_, fun c y ey => ?_⟩
                · rw [ey, nI_1]
                  rw [if_pos c] at hp
                  exact ih (j + 1) false (by omega) (by omega) hp
                · rw [ey, nI_1]
                  rw [if_neg c] at hp
                  exact ihm (j + 1) (by omega) (by omega) (by omega) hp
            exact ⟨_, inner (n - (i + 1)) (i + 1) rfl (Nat.le_refl _) (by omega) hp⟩
          refine b_ifz (fun z => e82 (fun d => by rw [z] at d; cases d.1)) (fun z => ⟨fun d => e49 z (Or.inl d), fun d => ⟨fun d2 => e82 (fun d3 => by rcases d3.2 with u | u; exact d u; exact d2 u), fun d2 => e49 z (Or.inr d2)⟩⟩)
      · rw [tagE_ge hin] at hp
        exact ⟨fun _ => e110 i hin hi hp, fun q => absurd (nI_le hin (by omega)) q⟩
  exact ⟨_, loop (n + 1 - k) k false (Nat.le_refl _) (by omega) h⟩
/-- a tag's end is not in its name -/
theorem tagE_name {g : Nat → Int32} {n : Nat} : ∀ (f k : Nat), n - k = f → k ≤ n → tagE g n k (-1) false = tagE g n (nameE g n k) (-1) false := by
  intro f
  induction f with
  | zero => intro k h hk; rw [nameE_n (by omega)]
  | succ f ih =>
    intro k h hk
    by_cases c : cNm (g k) = true
    · rw [nameE_y (by omega) c, ← ih (k + 1) (by omega) (by omega), tagE_lt (by omega), if_pos rfl]
      rw [cNm, cLatin, cDigit, Bool.or_eq_true, decide_eq_true_eq, decide_eq_true_eq] at c
      have n62 : ¬ g k = 62 := fun e => by rw [e] at c; simp only [Int32.reduceToInt] at c; omega
      have n61 : ¬ g k = 61 := fun e => by rw [e] at c; simp only [Int32.reduceToInt] at c; omega
      rw [if_neg n62, if_neg (fun u => by cases u.1), decide_eq_false n61]; rfl
    · rw [nameE_n (fun z => c z.2)]
