/-! PURE 41: the reference's nameAt; what a hidden part skips; comments -/
theorem cS_nm {c : Int32} (h : cNm c = true) : cSmall c = cLow c := by
  rw [cNm, cLatin, cDigit, Bool.or_eq_true, decide_eq_true_eq, decide_eq_true_eq] at h
  by_cases u : 65 ≤ c.toInt ∧ c.toInt ≤ 90
  · rw [cS_32 (Or.inl u), cLow, if_pos u]
  · rw [cS_0 (by omega), cLow, if_neg u]
theorem cl_nI {c : Int32} (h : 0 < c.toNatClampNeg) (h2 : c.toNatClampNeg < 2 ^ 31) : c = nI c.toNatClampNeg := cl_inj (by rw [nI_clamp h2]) h
theorem blockq {w : List Int32} (h : w.length = 10) (h1 : ∀ i, i < 8 → w.getD i 0 = [98, 108, 111, 99, 107, 113, 117, 111].getD i 0) (h2 : w.getD 8 0 = 116) (h3 : w.getD 9 0 = 101) : w = sB 10 := by
  rw [show sB 10 = [98, 108, 111, 99, 107, 113, 117, 111, 116, 101] from by decide]
  refine list_ext h (fun k hk => ?_)
  rw [h] at hk
  rcases Nat.lt_or_ge k 8 with q | q
  · rw [h1 k q]
    have : ∀ i, i < 8 → ([98, 108, 111, 99, 107, 113, 117, 111] : List Int32).getD i 0 = ([98, 108, 111, 99, 107, 113, 117, 111, 116, 101] : List Int32).getD i 0 := by decide
    exact this k q
  · rcases Nat.lt_or_ge k 9 with q2 | q2
    · rw [show k = 8 by omega]; exact h2
    · rw [show k = 9 by omega]; exact h3
theorem km_nameAt {post : Int64 → Prop} {g tx : Nat → Int32} {n k : Nat} (hn : n ≤ 1500) (hA : ∀ j, gF tx n j = g j) (hk : k ≤ n) (h : post (nameV (nmL g k (nameE g n k)))) : wpX8_nameAt post (nI n) tx (nI k) := by
  obtain ⟨n1, n2, n3⟩ := nameE_spec (g := g) (n := n) _ k rfl hk
  have hge : ∀ j, n ≤ j → g j = -1 := fun j hj => by rw [← hA j, gF_ge hj]
  have stop : ∀ (i : Nat) (x2 : Int64), nameE g n k = i → (i - k ≤ 8 → x2 = lN (packN (nmL g k i))) → (((nI i - nI k) ≤ (8 : Int32) → wjX8_nameAt_144 post (nI n) tx (nI k) x2 (nI i)) ∧ (¬ (nI i - nI k) ≤ (8 : Int32) → (((11 : Int32) ≤ (nI i - nI k) → wjX8_nameAt_144 post (nI n) tx (nI k) x2 (nI i)) ∧ (¬ (11 : Int32) ≤ (nI i - nI k) → wpX8_stands (fun r_7 => ((r_7 = 0 → wjX8_nameAt_144 post (nI n) tx (nI k) x2 (nI i)) ∧ (¬ r_7 = 0 → ((¬ (nI i - nI k) = (10 : Int32) → wjX8_nameAt_144 post (nI n) tx (nI k) x2 (nI i)) ∧ ((nI i - nI k) = (10 : Int32) → vp_in (nI i - 2) 1500 ∧ wpX8_small (fun r_8 => ((¬ r_8 = (116 : Int32) → wjX8_nameAt_144 post (nI n) tx (nI k) x2 (nI i)) ∧ (r_8 = (116 : Int32) → vp_in (nI i - 1) 1500 ∧ wpX8_small (fun r_9 => ((¬ r_9 = (101 : Int32) → wjX8_nameAt_144 post (nI n) tx (nI k) x2 (nI i)) ∧ (r_9 = (101 : Int32) → post 2))) (tx ((nI i - 1) : Int32).toNatClampNeg)))) (tx ((nI i - 2) : Int32).toNatClampNeg)))))) (nI n) tx (nI k) 7092165985996731759 1)))) := by
    intro i x2 ei hx
    rw [ei] at h n1 n2 n3
    have hlen : (nmL g k i).length = i - k := by rw [nmL, wAt_len]
    have hc : ∀ j, j < i - k → (nmL g k i).getD j 0 = cLow (g (k + j)) := fun j hj => by rw [nmL, wAt_get _ _ _ _ hj]
    rw [pk_sub n1]
    have e144 : ¬ nmL g k i = sB 10 → wjX8_nameAt_144 post (nI n) tx (nI k) x2 (nI i) := by
      intro ne
      rw [wjX8_nameAt_144, pk_sub n1, show (nI (i - k) ≤ (8 : Int32)) = (i - k ≤ 8) from propext (nI_leI (b := 8) (by omega) (by decide))]
      refine ⟨fun q => ?_, fun q => ?_⟩
      · rw [nameV, if_pos (by omega), ← hx q] at h; exact h
      · rw [nameV, if_neg (by omega), if_neg ne] at h; exact h
    rw [show (nI (i - k) ≤ (8 : Int32)) = (i - k ≤ 8) from propext (nI_leI (b := 8) (by omega) (by decide)), show ((11 : Int32) ≤ nI (i - k)) = (11 ≤ i - k) from propext (nI_leI (a := 11) (by decide) (by omega)), show (nI (i - k) = (10 : Int32)) = (i - k = 10) from propext (nI_eq (b := 10) (by omega) (by decide))]
    refine ⟨fun q => e144 (fun c => by rw [c, sB10_len] at hlen; omega), fun q => ⟨fun q2 => e144 (fun c => by rw [c, sB10_len] at hlen; omega), fun q2 => ?_⟩⟩
    refine km_stands (al := true) (bs := [98, 108, 111, 99, 107, 113, 117, 111]) hn (by omega) (by decide +kernel) ?_
    rw [if_pos rfl, hS_G (g := g) _ k (by decide) (fun j _ => hA j)]
    refine b_ifz (fun z => e144 (fun c => ?_)) (fun z => ⟨fun q3 => e144 (fun c => by rw [c, sB10_len] at hlen; omega), fun q3 => ?_⟩)
    · have : hGL g k [98, 108, 111, 99, 107, 113, 117, 111] = true := (hGL_iff _ _).mpr (fun j hj => by
        have hj : j < 8 := hj
        rw [← hc j (by omega), c, show sB 10 = [98, 108, 111, 99, 107, 113, 117, 111, 116, 101] from by decide]
        have : ∀ i, i < 8 → ([98, 108, 111, 99, 107, 113, 117, 111, 116, 101] : List Int32).getD i 0 = ([98, 108, 111, 99, 107, 113, 117, 111] : List Int32).getD i 0 := by decide
        exact this j hj)
      rw [this] at z; cases z
    · have z := (hGL_iff _ _).mp z
      rw [nI_m2 (by omega), nI_m1 (by omega), nI_clamp (by omega), nI_clamp (by omega), tx_g hA (by omega), tx_g hA (by omega)]
      have c8 := hc 8 (by omega)
      have c9 := hc 9 (by omega)
      rw [show k + 8 = i - 2 by omega] at c8
      rw [show k + 9 = i - 1 by omega] at c9
      refine ⟨vp_in_nI (by omega) (by omega), km_small ?_⟩
      rw [cS_nm (n3 (i - 2) (by omega) (by omega)), ← c8]
      refine ⟨fun d => e144 (fun c => d (by rw [c]; decide)), fun d => ⟨vp_in_nI (by omega) (by omega), km_small ?_⟩⟩
      rw [cS_nm (n3 (i - 1) (by omega) (by omega)), ← c9]
      refine ⟨fun d2 => e144 (fun c => d2 (by rw [c]; decide)), fun d2 => ?_⟩
      have ew : nmL g k i = sB 10 := blockq (by omega) (fun j hj => by rw [hc j (by omega)]; exact z j hj) d d2
      rw [ew] at h
      rw [nameV, if_neg (by rw [sB10_len]; omega), if_pos rfl] at h
      exact h
  have loop : ∀ (f i : Nat) (x2 : Int64), n - i = f → k ≤ i → i ≤ n → nameE g n i = nameE g n k → (∀ j, k ≤ j → j < i → cNm (g j) = true) → (i - k ≤ 8 → x2 = lN (packN (nmL g k i))) → wlX8_nameAt_5 post (nI n) tx (nI k) (f + 1) x2 (nI i) := by
    intro f
    induction f with
    | zero =>
      intro i x2 hf hi1 hi he hch hx
      rw [nameE_n (by omega)] at he
      have e1 := hge i (by omega)
      refine km_lookA hn hA (by omega) (km_isPlain ?_)
      rw [e1, show cLatin (-1) = false by decide]
      refine ⟨fun q => absurd rfl q, fun _ => km_lookA hn hA (by omega) (km_isDigit ?_)⟩
      rw [e1, show cDigit (-1) = false by decide]
      exact ⟨fun _ => stop i x2 he.symm hx, fun q => absurd rfl q⟩
    | succ f ih =>
      intro i x2 hf hi1 hi he hch hx
      have go : cNm (g i) = true → wjX8_nameAt_29 (fun x2 x4 => wlX8_nameAt_5 post (nI n) tx (nI k) (f + 1) x2 x4) post (nI n) tx (nI k) x2 (nI i) := by
        intro c
        rw [nameE_y (by omega) c] at he
        have hch2 : ∀ j, k ≤ j → j < i + 1 → cNm (g j) = true := fun j a b => by
          rcases Nat.lt_or_ge j i with q | q
          · exact hch j a q
          · rw [show j = i by omega]; exact c
        rw [wjX8_nameAt_29, pk_sub hi1, show ((8 : Int32) ≤ nI (i - k)) = (8 ≤ i - k) from propext (nI_leI (a := 8) (by decide) (by omega))]
        refine ⟨fun q y ey => ?_, fun q => ⟨vp_in_nI (by omega) (by omega), ?_⟩⟩
        · rw [ey, nI_1]
          exact ih (i + 1) _ (by omega) (by omega) (by omega) he hch2 (fun q2 => absurd q2 (by omega))
        · rw [nI_clamp (by omega), tx_g hA (by omega)]
          refine km_small (fun y ey => ?_)
          rw [ey, nI_1]
          refine ih (i + 1) _ (by omega) (by omega) (by omega) he hch2 (fun q2 => ?_)
          rw [hx (by omega), cS_nm c]
          have okA := nm_okC hch
          have okN := nm_okC hch2
          have en : nmL g k (i + 1) = nmL g k i ++ [cLow (g i)] := by
            rw [nmL, nmL, show i + 1 - k = (i - k) + 1 by omega, wAt, show k + (i - k) = i by omega]
          have hcl := okN (cLow (g i)) (by rw [en]; exact List.mem_append.mpr (Or.inr (List.mem_singleton.mpr rfl)))
          have hlt : packN (nmL g k i) < 2 ^ 55 := by
            have h1 := packR_lt _ (okC_rev okA)
            rw [List.length_reverse, nmL, wAt_len] at h1
            have h2 : 256 ^ (i - k) ≤ 256 ^ 7 := Nat.pow_le_pow_right (by decide) (by omega)
            have h3 : (256 : Nat) ^ 7 = 2 ^ 56 := by decide
            rw [packN, nmL]
            omega
          rw [en, packN_snoc, cl_nI (c := cLow (g i)) (by omega) (by omega), nI_clamp (by omega)]
          exact shl8 hlt (by omega)
      refine km_lookA hn hA (by omega) (km_isPlain (b_if (fun z => go (by rw [cNm, z]; rfl)) (fun z => km_lookA hn hA (by omega) (km_isDigit (b_ifz (fun z2 => ?_) (fun z2 => go (by rw [cNm, z2, Bool.or_true])))))))
      rw [nameE_n (fun c => by rw [cNm, z, z2] at c; cases c.2)] at he
      exact stop i x2 he.symm hx
  exact ⟨_, loop (n - k) k 0 rfl (Nat.le_refl _) hk rfl (fun j a b => absurd b (by omega)) (fun _ => by rw [nmL, Nat.sub_self]; rfl)⟩
/-! the end of what is hidden -/
def isEnd (g : Nat → Int32) (bs : List Int32) (k : Nat) : Bool := decide (g k = 60) && decide (g (k + 1) = 47) && hGL g (k + 2) bs && !cWord (g (k + 2 + bs.length))
def fE (p : Nat → Bool) (n : Nat) : Nat → Nat → Nat
  | 0, _ => n
  | f + 1, k => if p k = true then k else fE p n f (k + 1)
def firstE (p : Nat → Bool) (n k : Nat) : Nat := fE p n (n - k) k
theorem firstE_ge {p : Nat → Bool} {n k : Nat} (h : n ≤ k) : firstE p n k = n := by rw [firstE, show n - k = 0 by omega, fE]
theorem firstE_y {p : Nat → Bool} {n k : Nat} (h : k < n) (hp : p k = true) : firstE p n k = k := by rw [firstE, show n - k = (n - (k + 1)) + 1 by omega, fE, if_pos hp]
theorem firstE_n {p : Nat → Bool} {n k : Nat} (h : k < n) (hp : p k = false) : firstE p n k = firstE p n (k + 1) := by rw [firstE, show n - k = (n - (k + 1)) + 1 by omega, fE, if_neg (by rw [hp]; decide)]; rfl
theorem firstE_bd {p : Nat → Bool} {n : Nat} : ∀ (f k : Nat), n - k = f → k ≤ n → k ≤ firstE p n k ∧ firstE p n k ≤ n := by
  intro f
  induction f with
  | zero => intro k h hk; rw [firstE_ge (by omega)]; omega
  | succ f ih =>
    intro k h hk
    cases c : p k with
    | true => rw [firstE_y (by omega) c]; omega
    | false => rw [firstE_n (by omega) c]; have := ih (k + 1) (by omega) (by omega); omega
theorem nI_2 (a : Nat) : nI a + 2 = nI (a + 2) := nI_add a 2
theorem nI_3 (a : Nat) : nI a + 3 = nI (a + 3) := nI_add a 3
theorem nI_4 (a : Nat) : nI a + 4 = nI (a + 4) := nI_add a 4
theorem kx_ending {post : Int32 → Prop} {g tx : Nat → Int32} {n a k i : Nat} (hn : n ≤ 1500) (hA : ∀ j, a ≤ j → gF tx n j = g j) (ha : a ≤ k) (hk : k ≤ n) (hi : i < nS) (h : post (nI (firstE (isEnd g (sB i)) n k))) : wpX3_endingTag post (nI n) tx i (nI k) := by
  have hL := yLen2 i hi
  have loop : ∀ (f j : Nat), n - j = f → a ≤ j → j ≤ n → post (nI (firstE (isEnd g (sB i)) n j)) → wlX3_endingTag_2 post (nI n) tx i (nI k) (f + 1) (nI j) := by
    intro f
    induction f with
    | zero =>
      intro j hf hj1 hj hp
      rw [firstE_ge (by omega)] at hp
      exact ⟨fun _ => hp, fun q => absurd (nI_le (by omega) (by omega)) q⟩
    | succ f ih =>
      intro j hf hj1 hj hp
      refine ⟨fun q => absurd ((nI_leI (by omega) (by omega)).mp q) (by omega), fun _ => kx_getA hn hA hj1 (by omega) ?_⟩
      have nx : isEnd g (sB i) j = false → wjX3_endingTag_78 (fun x3 => wlX3_endingTag_2 post (nI n) tx i (nI k) (f + 1) x3) post (nI n) tx i (nI k) (nI j) := by
        intro c y ey
        rw [ey, nI_1]
        rw [firstE_n (by omega) c] at hp
        exact ih (j + 1) (by omega) (by omega) (by omega) hp
      rw [nI_1, nI_2]
      refine ⟨fun c => nx (by rw [isEnd, decide_eq_false c]; rfl), fun c => kx_getA hn hA (by omega) (by omega) ⟨fun c2 => nx (by rw [isEnd, decide_eq_false c2]; simp), fun c2 => kx_any hn (by omega) hi ?_⟩⟩
      rw [hL_G (g := g) (sB i) (j + 2) (fun x hx => hA x (by omega))]
      refine b_ifz (fun z => nx (by rw [isEnd, z]; simp)) (fun z => ⟨hi, kj_length hi ?_⟩)
      rw [nI_add]
      refine kx_getA hn hA (by omega) (by omega) (kx_isWord (b_if (fun z2 => nx (by rw [isEnd, z2]; simp)) (fun z2 => ?_)))
      rw [firstE_y (by omega) (by rw [isEnd, decide_eq_true c, decide_eq_true c2, z, z2]; rfl)] at hp
      exact hp
  exact ⟨_, loop (n - k) k rfl ha hk h⟩
theorem km_skip {post : Int32 → Prop} {g tx : Nat → Int32} {n k : Nat} {x : Int64} {bs : List Int32} (hn : n ≤ 1500) (hA : ∀ j, gF tx n j = g j) (hk : k ≤ n) (hx : wGood x bs = true) (hb : ∀ b ∈ bs, b.toInt < 192) (h : post (nI (firstE (isEnd g bs) n k))) : wpX8_skip post (nI n) (nI k) tx x := by
  have h8 := (wGood_spec hx).1
  have loop : ∀ (f j : Nat), n - j = f → j ≤ n → post (nI (firstE (isEnd g bs) n j)) → wlX8_skip_5 post (nI n) tx x (nI bs.length) (f + 1) (nI j) := by
    intro f
    induction f with
    | zero =>
      intro j hf hj hp
      rw [firstE_ge (by omega)] at hp
      have e : j = n := by omega
      subst e
      exact ⟨fun _ => hp, fun q => absurd (nI_le (by omega) (by omega)) q⟩
    | succ f ih =>
      intro j hf hj hp
      refine ⟨fun q => absurd ((nI_leI (by omega) (by omega)).mp q) (by omega), fun _ => ⟨vp_in_nI (by omega) (by omega), ?_⟩⟩
      have nx : isEnd g bs j = false → wjX8_skip_78 (fun m_p => wlX8_skip_5 post (nI n) tx x (nI bs.length) (f + 1) m_p) post (nI n) tx x (nI j) (nI bs.length) := by
        intro c y ey
        rw [ey, nI_1]
        rw [firstE_n (by omega) c] at hp
        exact ih (j + 1) (by omega) (by omega) hp
      rw [nI_clamp (by omega), tx_g hA (by omega), nI_1, nI_2, nI_add]
      refine ⟨fun c => nx (by rw [isEnd, decide_eq_false c]; rfl), fun c => km_lookA hn hA (by omega) ⟨fun c2 => nx (by rw [isEnd, decide_eq_false c2]; simp), fun c2 => km_stands (al := true) hn (by omega) hx ?_⟩⟩
      rw [if_pos rfl, hS_G (g := g) bs (j + 2) hb (fun j _ => hA j)]
      refine b_ifz (fun z => nx (by rw [isEnd, z]; simp)) (fun z => km_lookA hn hA (by omega) (km_isWord (b_ifz (fun z2 => ?_) (fun z2 => nx (by rw [isEnd, z2]; simp)))))
      rw [firstE_y (by omega) (by rw [isEnd, decide_eq_true c, decide_eq_true c2, z, z2]; rfl)] at hp
      exact hp
  exact km_lengthOf hx ⟨_, loop (n - k) k rfl hk h⟩
/-! behind the next sign -/
def nextE (g : Nat → Int32) (n : Nat) (bs : List Int32) (k : Nat) : Nat := if firstE (fun j => hG g j bs) n k < n then firstE (fun j => hG g j bs) n k + bs.length else n
theorem kx_next {post : Int32 → Prop} {g tx : Nat → Int32} {n a k i : Nat} (hn : n ≤ 1500) (hA : ∀ j, a ≤ j → gF tx n j = g j) (ha : a ≤ k) (hk : k ≤ n) (hi : i < nS) (h : post (nI (nextE g n (sB i) k))) : wpX3_behindNext post (nI n) tx i (nI k) := by
  have hL := yLen2 i hi
  have loop : ∀ (f j : Nat), n - j = f → a ≤ j → j ≤ n → post (nI (nextE g n (sB i) j)) → wlX3_behindNext_2 post (nI n) tx i (nI k) (f + 1) (nI j) := by
    intro f
    induction f with
    | zero =>
      intro j hf hj1 hj hp
      rw [nextE, firstE_ge (by omega), if_neg (by omega)] at hp
      exact ⟨fun _ => hp, fun q => absurd (nI_le (by omega) (by omega)) q⟩
    | succ f ih =>
      intro j hf hj1 hj hp
      refine ⟨fun q => absurd ((nI_leI (by omega) (by omega)).mp q) (by omega), fun _ => kx_holds hn (by omega) hi ?_⟩
      rw [hB_G (g := g) (sB i) j (fun x hx => hA x (by omega))]
      refine b_ifz (fun z y ey => ?_) (fun z => ⟨hi, kj_length hi ?_⟩)
      · rw [ey, nI_1]
        rw [nextE, firstE_n (by omega) z] at hp
        exact ih (j + 1) (by omega) (by omega) (by omega) hp
      · rw [nextE, firstE_y (by omega) z, if_pos (by omega)] at hp
        rw [nI_add]; exact hp
  exact ⟨_, loop (n - k) k rfl ha hk h⟩
theorem hG_len {g : Nat → Int32} {n : Nat} (hge : ∀ j, n ≤ j → g j = -1) : ∀ (bs : List Int32) (k : Nat), (∀ b ∈ bs, ¬ b = -1) → 0 < bs.length → hG g k bs = true → k + bs.length ≤ n := by
  intro bs
  induction bs with
  | nil => intro k _ h; exact absurd h (Nat.lt_irrefl _)
  | cons b bs ih =>
    intro k hb _ h
    rw [hG, Bool.and_eq_true, decide_eq_true_eq] at h
    have hkn : k < n := by
      rcases Nat.lt_or_ge k n with q | q
      · exact q
      · rw [hge k q] at h; exact absurd h.1.symm (hb b List.mem_cons_self)
    rw [List.length_cons]
    cases bs with
    | nil => show k + 1 ≤ n; omega
    | cons c cs =>
      have := ih (k + 1) (fun x hx => hb x (List.mem_cons_of_mem _ hx)) (Nat.zero_lt_succ _) h.2
      omega
theorem nextE_bd {g : Nat → Int32} {n : Nat} {bs : List Int32} {k : Nat} (hge : ∀ j, n ≤ j → g j = -1) (hb : ∀ b ∈ bs, ¬ b = -1) (h0 : 0 < bs.length) (hk : k ≤ n) : k ≤ nextE g n bs k ∧ nextE g n bs k ≤ n := by
  have h1 := firstE_bd (p := fun j => hG g j bs) (n := n) _ k rfl hk
  rw [nextE]
  split
  · rename_i q
    have : hG g (firstE (fun j => hG g j bs) n k) bs = true := by
      have key : ∀ (f j : Nat), n - j = f → j ≤ n → firstE (fun j => hG g j bs) n j < n → hG g (firstE (fun j => hG g j bs) n j) bs = true := by
        intro f
        induction f with
        | zero => intro j h hj hq; rw [firstE_ge (by omega)] at hq; omega
        | succ f ih =>
          intro j h hj hq
          cases c : hG g j bs with
          | true => rw [firstE_y (p := fun j => hG g j bs) (by omega) c]; exact c
          | false =>
            rw [firstE_n (p := fun j => hG g j bs) (by omega) c] at hq ⊢
            exact ih (j + 1) (by omega) (by omega) hq
      exact key _ k rfl hk q
    have := hG_len hge bs _ hb h0 this
    omega
  · omega
theorem km_skipTo {post : Int32 → Prop} {g tx : Nat → Int32} {n k : Nat} {x : Int32} {co : Bool} (hn : n ≤ 1500) (hA : ∀ j, gF tx n j = g j) (hk : k ≤ n) (h : post (nI (nextE g n (if co = true then [45, 45, 62] else [62]) k))) : wpX8_skipTo post (nI n) x tx (nI k) (b2i co) := by
  have hge : ∀ j, n ≤ j → g j = -1 := fun j hj => by rw [← hA j, gF_ge hj]
  have e80 : ∀ (d j : Nat), d ≤ 3 → j ≤ n → post (nI (if j + d ≤ n then j + d else n)) → wjX8_skipTo_80 post (nI n) tx (nI k) (b2i co) x (nI d) (nI j) := by
    intro d j hd hj hp y ey
    rw [nI_add] at ey
    subst ey
    rw [nI_leI (by omega) (by omega)]
    exact ⟨fun q => by rw [if_pos q] at hp; exact hp, fun q => by rw [if_neg q] at hp; exact hp⟩
  have e69 : ∀ j, j ≤ n → post (nI (if j + (if co = true then 3 else 1) ≤ n then j + (if co = true then 3 else 1) else n)) → wjX8_skipTo_69 post (nI n) tx (nI k) (b2i co) x (nI j) := by
    intro j hj hp
    refine b_ifz (fun z => e80 1 j (by omega) hj ?_) (fun z => e80 3 j (by omega) hj ?_)
    · rw [z] at hp; exact hp
    · rw [z] at hp; exact hp
  have hend : ∀ j, n ≤ j → j ≤ n → post (nI n) → wjX8_skipTo_69 post (nI n) tx (nI k) (b2i co) x (nI j) := by
    intro j h1 h2 hp
    refine e69 j h2 ?_
    rw [if_neg (by split <;> omega)]; exact hp
  have loop : ∀ (f j : Nat), n - j = f → j ≤ n → post (nI (nextE g n (if co = true then [45, 45, 62] else [62]) j)) → wlX8_skipTo_2 post (nI n) tx (nI k) (b2i co) x (f + 1) (nI j) := by
    intro f
    induction f with
    | zero =>
      intro j hf hj hp
      rw [nextE, firstE_ge (by omega), if_neg (by omega)] at hp
      exact ⟨fun _ => hend j (by omega) hj hp, fun q => absurd (nI_le (by omega) (by omega)) q⟩
    | succ f ih =>
      intro j hf hj hp
      have nx : hG g j (if co = true then [45, 45, 62] else [62]) = false → wjX8_skipTo_63 (fun x3 => wlX8_skipTo_2 post (nI n) tx (nI k) (b2i co) x (f + 1) x3) post (nI n) tx (nI k) (b2i co) x (nI j) := by
        intro z y ey
        rw [ey, nI_1]
        rw [nextE, firstE_n (by omega) z] at hp
        exact ih (j + 1) (by omega) (by omega) hp
      have fo : hG g j (if co = true then [45, 45, 62] else [62]) = true → wjX8_skipTo_69 post (nI n) tx (nI k) (b2i co) x (nI j) := by
        intro z
        rw [nextE, firstE_y (by omega) z, if_pos (by omega)] at hp
        have hl := hG_len hge _ j (by cases co <;> decide) (by cases co <;> decide) z
        refine e69 j hj ?_
        cases co with
        | true => rw [if_pos rfl] at hl hp ⊢; have hl : j + 3 ≤ n := hl; rw [if_pos hl]; exact hp
        | false =>
          rw [if_neg (by decide)] at hl hp
          have hl : j + 1 ≤ n := hl
          have e1 : (if (false : Bool) = true then 3 else 1) = 1 := rfl
          rw [e1, if_pos hl]; exact hp
      refine ⟨fun q => absurd ((nI_leI (by omega) (by omega)).mp q) (by omega), fun _ => ?_⟩
      rw [nI_clamp (by omega), tx_g hA (by omega), nI_1, nI_2]
      refine b_ifz (fun z => ⟨vp_in_nI (by omega) (by omega), fun c => fo ?_, fun c => nx ?_⟩) (fun z => ⟨vp_in_nI (by omega) (by omega), fun c => nx ?_, fun c => km_lookA hn hA (by omega) ⟨fun c2 => nx ?_, fun c2 => km_lookA hn hA (by omega) ⟨fun c3 => nx ?_, fun c3 => fo ?_⟩⟩⟩)
      · rw [z, if_neg (by decide), hG, hG, decide_eq_true c]; rfl
      · rw [z, if_neg (by decide), hG, hG, decide_eq_false c]; rfl
      · rw [z, if_pos rfl, hG, decide_eq_false c]; rfl
      · rw [z, if_pos rfl, hG, hG, decide_eq_false c2]; simp
      · rw [z, if_pos rfl, hG, hG, hG, decide_eq_false c3]; simp
      · rw [z, if_pos rfl, hG, hG, hG, hG, decide_eq_true c, decide_eq_true c2, decide_eq_true c3]; rfl
  exact ⟨_, loop (n - k) k rfl hk h⟩
