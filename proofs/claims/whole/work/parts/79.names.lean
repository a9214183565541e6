/-! PURE 40: the names of tags -/
theorem kx_isNamed {post : Int32 → Prop} {g tx : Nat → Int32} {n a f e i : Nat} (hn : n ≤ 1500) (hA : ∀ j, a ≤ j → gF tx n j = g j) (ha : a ≤ f) (hf : f ≤ e) (he : e ≤ n) (hi : i < nS) (h : post (b2i (decide (nmL g f e = sB i)))) : wpX3_isNamed post (nI n) tx (nI f) (nI e) i := by
  have hL := yLen2 i hi
  refine ⟨hi, kj_length hi ?_⟩
  rw [pk_sub hf, nI_eq (by omega) (by omega)]
  refine ⟨fun q => ?_, fun q => kx_any hn (by omega) hi ?_⟩
  · rw [decide_eq_false (fun c => q (by rw [← c, nmL, wAt_len]))] at h; exact h
  · rw [hL_G (g := g) (sB i) f (fun j hj => hA j (by omega)), nmL_hGL q]
    exact b_ifz (fun z => by rw [z] at h; exact h) (fun z => by rw [z] at h; exact h)
def packR : List Int32 → Nat
  | [] => 0
  | c :: l => packR l * 256 + c.toNatClampNeg
def packN (w : List Int32) : Nat := packR w.reverse
theorem packN_snoc (w : List Int32) (c : Int32) : packN (w ++ [c]) = packN w * 256 + c.toNatClampNeg := by
  rw [packN, List.reverse_append]; rfl
def okC (w : List Int32) : Prop := ∀ c ∈ w, 48 ≤ c.toNatClampNeg ∧ c.toNatClampNeg ≤ 122
theorem okC_rev {w : List Int32} (h : okC w) : okC w.reverse := fun c hc => h c (List.mem_reverse.mp hc)
theorem packR_lt : ∀ (l : List Int32), okC l → packR l * 2 < 256 ^ l.length := by
  intro l
  induction l with
  | nil => intro _; decide
  | cons c l ih =>
    intro h
    have h1 := ih (fun x hx => h x (List.mem_cons_of_mem _ hx))
    have h2 := (h c List.mem_cons_self).2
    rw [packR, List.length_cons, Nat.pow_succ]
    generalize 256 ^ l.length = X at h1 ⊢
    omega
theorem packN_lt {w : List Int32} (h : okC w) (h8 : w.length ≤ 8) : packN w < 2 ^ 63 := by
  have h1 := packR_lt _ (okC_rev h)
  rw [List.length_reverse] at h1
  have h2 : 256 ^ w.length ≤ 256 ^ 8 := Nat.pow_le_pow_right (by decide) h8
  have h3 : (256 : Nat) ^ 8 = 2 ^ 64 := by decide
  rw [packN]
  omega
theorem cl_inj {c d : Int32} (h : c.toNatClampNeg = d.toNatClampNeg) (h0 : 0 < c.toNatClampNeg) : c = d := by
  rw [i_eq]
  have e1 : c.toNatClampNeg = c.toInt.toNat := rfl
  have e2 : d.toNatClampNeg = d.toInt.toNat := rfl
  omega
theorem packR_inj : ∀ (l m : List Int32), okC l → okC m → packR l = packR m → l = m := by
  intro l
  induction l with
  | nil =>
    intro m _ hm h
    cases m with
    | nil => rfl
    | cons d m =>
      have := (hm d List.mem_cons_self).1
      rw [packR, packR] at h
      omega
  | cons c l ih =>
    intro m hl hm h
    have hc := hl c List.mem_cons_self
    cases m with
    | nil => rw [packR, packR] at h; omega
    | cons d m =>
      have hd := hm d List.mem_cons_self
      rw [packR, packR] at h
      rw [cl_inj (c := c) (d := d) (by omega) (by omega), ih m (fun x hx => hl x (List.mem_cons_of_mem _ hx)) (fun x hx => hm x (List.mem_cons_of_mem _ hx)) (by omega)]
theorem packN_inj {w u : List Int32} (hw : okC w) (hu : okC u) : packN w = packN u ↔ w = u := by
  refine ⟨fun h => ?_, fun h => by rw [h]⟩
  have := packR_inj _ _ (okC_rev hw) (okC_rev hu) h
  rw [← List.reverse_reverse w, this, List.reverse_reverse]
def nameV (w : List Int32) : Int64 := if w.length ≤ 8 then lN (packN w) else if w = sB 10 then 2 else 1
theorem nm_okC {g : Nat → Int32} {f e : Nat} (h : ∀ j, f ≤ j → j < e → cNm (g j) = true) : okC (nmL g f e) := by
  intro c hc
  obtain ⟨k, hk, e1⟩ := List.getElem_of_mem hc
  have hk2 : k < e - f := by rw [nmL, wAt_len] at hk; exact hk
  have e2 : c = cLow (g (f + k)) := by
    have := wAt_get (fun j => cLow (g j)) f (e - f) k hk2
    rw [← e1]
    rw [List.getD_eq_getElem?_getD, List.getElem?_eq_getElem (by rw [wAt_len]; exact hk2)] at this
    exact this
  have h1 := h (f + k) (by omega) (by omega)
  rw [e2]
  rw [cNm, cLatin, cDigit, Bool.or_eq_true, decide_eq_true_eq, decide_eq_true_eq] at h1
  obtain ⟨j, hj, ej⟩ := nI_of (x := g (f + k)) (by rw [i_lt]; simp only [Int32.reduceToInt]; omega)
  rw [ej, nI_toInt hj] at h1
  rw [cLow, ej, nI_toInt hj]
  by_cases u : 65 ≤ (j : Int) ∧ (j : Int) ≤ 90
  · rw [if_pos u, show nI j + 32 = nI (j + 32) from nI_add j 32, nI_clamp (by omega)]; omega
  · rw [if_neg u, nI_clamp (by omega)]; omega
theorem nameV_eq {w bs : List Int32} {C : Int64} (hw : okC w) (hb : okC bs) (h8 : bs.length ≤ 8) (h0 : 0 < bs.length) (hC : C = lN (packN bs)) : lg_cmp (nameV w) C = 0 ↔ w = bs := by
  rw [lg_cmp_eq, hC, nameV]
  by_cases q : w.length ≤ 8
  · rw [if_pos q, pk_lEQ (packN_lt hw q) (packN_lt hb h8), packN_inj hw hb]
  · have hne : ¬ w = bs := fun c => q (by rw [c]; exact h8)
    have big : 48 ≤ packN bs := by
      rw [packN]
      have h1 := okC_rev hb
      have h2 : 0 < bs.reverse.length := by rw [List.length_reverse]; exact h0
      cases hr : bs.reverse with
      | nil => rw [hr] at h2; exact absurd h2 (Nat.lt_irrefl _)
      | cons c l =>
        rw [hr] at h1
        have := (h1 c List.mem_cons_self).1
        rw [packR]; omega
    have hlt := packN_lt hb h8
    rw [if_neg q]
    by_cases u : w = sB 10
    · rw [if_pos u]
      exact ⟨fun c => absurd ((pk_lEQ (a := 2) (by decide) hlt).mp c) (by omega), fun c => absurd c hne⟩
    · rw [if_neg u]
      exact ⟨fun c => absurd ((pk_lEQ (a := 1) (by decide) hlt).mp c) (by omega), fun c => absurd c hne⟩
theorem sB10_len : (sB 10).length = 10 := by decide
theorem nameV_2 {w : List Int32} (hw : okC w) : lg_cmp (nameV w) 2 = 0 ↔ w = sB 10 := by
  rw [lg_cmp_eq, nameV]
  by_cases q : w.length ≤ 8
  · rw [if_pos q]
    refine ⟨fun c => ?_, fun c => by rw [c, sB10_len] at q; omega⟩
    have c := (pk_lEQ (b := 2) (packN_lt hw q) (by decide)).mp c
    rw [packN] at c
    have h1 := okC_rev hw
    cases hr : w.reverse with
    | nil => rw [hr, packR] at c; omega
    | cons x l =>
      rw [hr] at h1
      have := (h1 x List.mem_cons_self).1
      rw [hr, packR] at c; omega
  · rw [if_neg q]
    by_cases u : w = sB 10
    · rw [if_pos u]; exact ⟨fun _ => u, fun _ => rfl⟩
    · rw [if_neg u]; exact ⟨fun c => absurd c (by decide), fun c => absurd c u⟩
def hdN (w : List Int32) : Bool := decide (w.length = 2 ∧ w.getD 0 0 = 104 ∧ 49 ≤ (w.getD 1 0).toNatClampNeg ∧ (w.getD 1 0).toNatClampNeg ≤ 54)
theorem packR_104 : ∀ l : List Int32, okC l → packR l = 104 → l = [104] := by
  intro l hl h
  refine packR_inj l [104] hl (fun c hc => ?_) (by rw [h]; decide)
  rw [List.mem_singleton] at hc; subst hc; decide
theorem nameV_h {w : List Int32} (hw : okC w) : (¬ lg_cmp (nameV w) 26673 < 0 ∧ lg_cmp (nameV w) 26678 ≤ 0) ↔ hdN w = true := by
  rw [lg_cmp_lt, lg_cmp_le, hdN, decide_eq_true_eq, nameV]
  by_cases q : w.length ≤ 8
  · have hlt := packN_lt hw q
    rw [if_pos q, show (lN (packN w) < (26673 : Int64)) = (packN w < 26673) from propext (pk_lLT (b := 26673) hlt (by decide)), show (lN (packN w) ≤ (26678 : Int64)) = (packN w ≤ 26678) from propext (pk_lLE (b := 26678) hlt (by decide))]
    have h1 := okC_rev hw
    refine ⟨fun ⟨c1, c2⟩ => ?_, fun ⟨d1, d2, d3, d4⟩ => ?_⟩
    · rw [packN] at c1 c2
      cases hr : w.reverse with
      | nil => rw [hr, packR] at c1; omega
      | cons x l =>
        rw [hr] at h1
        have hx := h1 x List.mem_cons_self
        rw [hr, packR] at c1 c2
        have hl := packR_104 l (fun y hy => h1 y (List.mem_cons_of_mem _ hy)) (by omega)
        have ew : w = [104, x] := by rw [← List.reverse_reverse w, hr, hl]; rfl
        rw [ew]
        exact ⟨rfl, rfl, by show 49 ≤ x.toNatClampNeg; rw [hl] at c1; simp only [packR] at c1; rw [show (104 : Int32).toNatClampNeg = 104 from by decide] at c1; omega, by show x.toNatClampNeg ≤ 54; rw [hl] at c2; simp only [packR] at c2; rw [show (104 : Int32).toNatClampNeg = 104 from by decide] at c2; omega⟩
    · have ew : w = [w.getD 0 0, w.getD 1 0] := list_ext d1 (fun k hk => by
        rw [d1] at hk
        rcases Nat.lt_or_ge k 1 with y | y
        · rw [show k = 0 by omega]; rfl
        · rw [show k = 1 by omega]; rfl)
      have ep : packN w = 104 * 256 + (w.getD 1 0).toNatClampNeg := by
        rw [ew, d2]
        show (0 * 256 + (104 : Int32).toNatClampNeg) * 256 + (w.getD 1 0).toNatClampNeg = 104 * 256 + (w.getD 1 0).toNatClampNeg
        rw [show (104 : Int32).toNatClampNeg = 104 from by decide]
      omega
  · rw [if_neg q]
    refine ⟨fun ⟨c1, _⟩ => ?_, fun d => absurd d.1 (by omega)⟩
    split at c1
    · exact absurd (by decide) c1
    · exact absurd (by decide) c1
/-! a break -/
def brkN (w : List Int32) : Bool := hdN w || decide (w = sB 2) || decide (w = sB 3) || decide (w = sB 4) || decide (w = sB 5) || decide (w = sB 6) || decide (w = sB 7) || decide (w = sB 8) || decide (w = sB 9) || decide (w = sB 10) || decide (w = sB 11)
theorem okB_of {bs : List Int32} (h : bs.all (fun c => decide (48 ≤ c.toNatClampNeg ∧ c.toNatClampNeg ≤ 122)) = true) : okC bs := fun c hc => of_decide_eq_true (List.all_eq_true.mp h c hc)
theorem km_breaks {post : Int32 → Prop} {w : List Int32} (hw : okC w) (h : post (b2i (decide (w = sB 0) || brkN w))) : wpX8_breaks post (nameV w) := by
  have yes : (decide (w = sB 0) || brkN w) = true → post 1 := fun e => by rw [e] at h; exact h
  have e0 := nameV_eq (C := 7369317) hw (okB_of (bs := sB 0) (by decide +kernel)) (by decide) (by decide) (by decide +kernel)
  have e2 := nameV_eq (C := 112) hw (okB_of (bs := sB 2) (by decide +kernel)) (by decide) (by decide) (by decide +kernel)
  have e3 := nameV_eq (C := 6580598) hw (okB_of (bs := sB 3) (by decide +kernel)) (by decide) (by decide) (by decide +kernel)
  have e4 := nameV_eq (C := 25202) hw (okB_of (bs := sB 4) (by decide +kernel)) (by decide) (by decide) (by decide +kernel)
  have e5 := nameV_eq (C := 29810) hw (okB_of (bs := sB 5) (by decide +kernel)) (by decide) (by decide) (by decide +kernel)
  have e6 := nameV_eq (C := 27753) hw (okB_of (bs := sB 6) (by decide +kernel)) (by decide) (by decide) (by decide +kernel)
  have e7 := nameV_eq (C := 30060) hw (okB_of (bs := sB 7) (by decide +kernel)) (by decide) (by decide) (by decide +kernel)
  have e8 := nameV_eq (C := 28524) hw (okB_of (bs := sB 8) (by decide +kernel)) (by decide) (by decide) (by decide +kernel)
  have e9 := nameV_eq (C := 499850046565) hw (okB_of (bs := sB 9) (by decide +kernel)) (by decide) (by decide) (by decide +kernel)
  have e11 := nameV_eq (C := 26738) hw (okB_of (bs := sB 11) (by decide +kernel)) (by decide) (by decide) (by decide +kernel)
  have e10 := nameV_2 hw
  have eh := nameV_h hw
  rw [wpX8_breaks, e10, e2, e3, e4, e5, e6, e7, e8, e9, e11]
  refine ⟨fun c => yes (by rw [brkN]; simp [c]), fun c10 => ⟨fun c => yes (by rw [brkN]; simp [c]), fun c2 => ⟨fun c => yes (by rw [brkN]; simp [c]), fun c3 => ⟨fun c => yes (by rw [brkN]; simp [c]), fun c4 => ⟨fun c => yes (by rw [brkN]; simp [c]), fun c5 => ⟨fun c => yes (by rw [brkN]; simp [c]), fun c6 => ⟨fun c => yes (by rw [brkN]; simp [c]), fun c7 => ⟨fun c => yes (by rw [brkN]; simp [c]), fun c8 => ⟨fun c => yes (by rw [brkN]; simp [c]), fun c9 => ⟨fun c11 => ?_, fun c => yes (by rw [brkN]; simp [c])⟩⟩⟩⟩⟩⟩⟩⟩⟩⟩
  have last : hdN w = false → wjX8_breaks_98 post (nameV w) := by
    intro ch
    rw [wjX8_breaks_98, e0]
    refine ⟨fun c0 => ?_, fun c0 => yes (by rw [decide_eq_true c0]; rfl)⟩
    have : (decide (w = sB 0) || brkN w) = false := by
      rw [brkN, ch, decide_eq_false c0, decide_eq_false c2, decide_eq_false c3, decide_eq_false c4, decide_eq_false c5, decide_eq_false c6, decide_eq_false c7, decide_eq_false c8, decide_eq_false c9, decide_eq_false c10, decide_eq_false c11]; rfl
    rw [this] at h; exact h
  refine ⟨fun d1 => last ?_, fun d1 => ⟨fun d2 => yes ?_, fun d2 => last ?_⟩⟩
  · cases q : hdN w with
    | false => rfl
    | true => exact absurd d1 (eh.mpr q).1
  · rw [brkN, eh.mp ⟨d1, d2⟩]; simp
  · cases q : hdN w with
    | false => rfl
    | true => exact absurd (eh.mpr q).2 d2
theorem cLow_dig {c : Int32} : (49 ≤ (cLow c).toNatClampNeg ∧ (cLow c).toNatClampNeg ≤ 54) ↔ (¬ c < 49 ∧ ¬ 54 < c) := by
  rw [i_lt, i_lt]
  simp only [Int32.reduceToInt]
  have e1 : ∀ d : Int32, d.toNatClampNeg = d.toInt.toNat := fun _ => rfl
  by_cases u : 65 ≤ c.toInt ∧ c.toInt ≤ 90
  · obtain ⟨j, hj, ej⟩ := nI_of (x := c) (by rw [i_lt]; simp only [Int32.reduceToInt]; omega)
    rw [cLow, if_pos u]
    rw [ej, nI_toInt hj] at u
    rw [ej, nI_toInt hj, show nI j + 32 = nI (j + 32) from nI_add j 32, nI_clamp (by omega)]
    omega
  · rw [cLow, if_neg u, e1]
    omega
theorem kx_isBreak {post : Int32 → Prop} {g tx : Nat → Int32} {n a f e : Nat} (hn : n ≤ 1500) (hA : ∀ j, a ≤ j → gF tx n j = g j) (ha : a ≤ f) (hf : f ≤ e) (he : e ≤ n) (h : post (b2i (brkN (nmL g f e)))) : wpX3_isBreak post (nI n) tx (nI f) (nI e) := by
  have yes : brkN (nmL g f e) = true → post 1 := fun q => by rw [q] at h; exact h
  have e48 : ∀ b : Bool, hdN (nmL g f e) = b → wjX3_isBreak_48 post (nI n) tx (nI f) (nI e) (b2i b) := by
    intro b hb
    refine b_if (fun z => yes (by rw [brkN, hb, z]; simp)) (fun z => ?_)
    rw [z] at hb
    refine kx_isNamed hn hA ha hf he (by decide) (b_if (fun c => yes (by rw [brkN, c]; simp)) (fun c2 => kx_isNamed hn hA ha hf he (by decide) (b_if (fun c => yes (by rw [brkN, c]; simp)) (fun c3 => kx_isNamed hn hA ha hf he (by decide) (b_if (fun c => yes (by rw [brkN, c]; simp)) (fun c4 => kx_isNamed hn hA ha hf he (by decide) (b_if (fun c => yes (by rw [brkN, c]; simp)) (fun c5 => kx_isNamed hn hA ha hf he (by decide) (b_if (fun c => yes (by rw [brkN, c]; simp)) (fun c6 => kx_isNamed hn hA ha hf he (by decide) (b_if (fun c => yes (by rw [brkN, c]; simp)) (fun c7 => kx_isNamed hn hA ha hf he (by decide) (b_if (fun c => yes (by rw [brkN, c]; simp)) (fun c8 => kx_isNamed hn hA ha hf he (by decide) (b_if (fun c => yes (by rw [brkN, c]; simp)) (fun c9 => kx_isNamed hn hA ha hf he (by decide) (b_if (fun c => yes (by rw [brkN, c]; simp)) (fun c10 => kx_isNamed hn hA ha hf he (by decide) (b_ifz (fun c11 => ?_) (fun c => yes (by rw [brkN, c]; simp)))))))))))))))))))))
    rw [brkN, hb, c2, c3, c4, c5, c6, c7, c8, c9, c10, c11] at h
    exact h
  have e47 : hdN (nmL g f e) = false → wjX3_isBreak_47 post (nI n) tx (nI f) (nI e) := fun q => e48 false q
  rw [wpX3_isBreak, nI_1]
  refine kx_getA hn hA (by omega) (by omega) ?_
  rw [pk_sub hf, show (nI (e - f) = (2 : Int32)) = (e - f = 2) from propext (nI_eq (b := 2) (by omega) (by decide))]
  have hlen : (nmL g f e).length = e - f := by rw [nmL, wAt_len]
  refine ⟨fun q => e47 (by rw [hdN, hlen, decide_eq_false (fun c => q c.1)]), fun q => kx_any hn (by omega) (by decide) ?_⟩
  have g0 : (nmL g f e).getD 0 0 = cLow (g f) := by rw [nmL, wAt_get _ _ _ _ (by omega)]; rfl
  have g1 : (nmL g f e).getD 1 0 = cLow (g (f + 1)) := by rw [nmL, wAt_get _ _ _ _ (by omega)]
  have eh : hL tx n f (sB 1) = decide ((nmL g f e).getD 0 0 = 104) := by
    rw [hL_G (g := g) (sB 1) f (fun j hj => hA j (by omega)), show sB 1 = [104] from by decide, g0, hGL, hGL, Bool.and_true]
  rw [eh]
  refine b_ifz (fun z => e47 (by rw [hdN, decide_eq_false (fun c => of_decide_eq_false z c.2.1)])) (fun z => ⟨fun d => e47 ?_, fun d => ⟨fun d2 => e47 ?_, fun d2 => e48 true ?_⟩⟩)
  · rw [hdN, g1, decide_eq_false (fun c => (cLow_dig.mp c.2.2).1 d)]
  · rw [hdN, g1, decide_eq_false (fun c => (cLow_dig.mp c.2.2).2 d2)]
  · rw [hdN, g1, hlen]
    exact decide_eq_true ⟨q, of_decide_eq_true z, cLow_dig.mpr ⟨d, d2⟩⟩
theorem shl8 {a c : Nat} (ha : a < 2 ^ 55) (hc : c < 256) : ((lN a <<< ((Int32.toInt64 8) &&& 63)) ||| (Int32.toInt64 (nI c))) = lN (a * 256 + c) := by
  rw [nI_l (by omega)]
  apply Int64.toBitVec_inj.mp
  rw [Int64.toBitVec_or, Int64.toBitVec_shiftLeft]
  have e8 : ((Int32.toInt64 8) &&& 63 : Int64) = 8 := by decide
  rw [e8]
  apply BitVec.eq_of_toNat_eq
  rw [BitVec.toNat_or]
  have t1 : (lN a).toBitVec.toNat = a := by show (BitVec.ofNat 64 a).toNat = a; rw [BitVec.toNat_ofNat]; omega
  have t2 : (lN c).toBitVec.toNat = c := by show (BitVec.ofNat 64 c).toNat = c; rw [BitVec.toNat_ofNat]; omega
  have t3 : (lN (a * 256 + c)).toBitVec.toNat = a * 256 + c := by show (BitVec.ofNat 64 (a * 256 + c)).toNat = a * 256 + c; rw [BitVec.toNat_ofNat]; omega
  have t4 : ((lN a).toBitVec <<< ((8 : Int64).toBitVec.smod 64)).toNat = a <<< 8 := by
    rw [show ((8 : Int64).toBitVec.smod 64) = 8#64 by decide, BitVec.shiftLeft_eq', BitVec.toNat_shiftLeft, t1, show (8#64).toNat = 8 by decide, Nat.shiftLeft_eq]
    omega
  rw [t2, t3, t4, ← Nat.shiftLeft_add_eq_or_of_lt (by omega : c < 2 ^ 8), Nat.shiftLeft_eq]
