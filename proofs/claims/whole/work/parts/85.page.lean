/-! PURE 46: a page (both sides) -/
def lessR (g : Nat → Int32) (n k : Nat) (o : List Int32) (w : Bool) : List Int32 × Bool × Nat :=
  if cLatin (g (k + 1)) = true then tagR g n (k + 1) false o w
  else if g (k + 1) = 47 ∧ cLatin (g (k + 2)) = true then tagR g n (k + 2) true o w
  else if g (k + 1) = 33 ∧ g (k + 2) = 45 ∧ g (k + 3) = 45 then (o, w, nextE g n [45, 45, 62] (k + 4))
  else if g (k + 1) = 33 ∨ g (k + 1) = 63 then (o, w, nextE g n [62] (k + 2))
  else (o ++ [60], w, k + 1)
def stepR (g : Nat → Int32) (n k : Nat) (o : List Int32) (w : Bool) : List Int32 × Bool × Nat :=
  if g k = 60 then lessR g n k o w
  else if g k = 38 then ((ampR g n k o).1, w, (ampR g n k o).2)
  else if cBlank (g k) = true then (blkL w o (g k), w, k + 1)
  else (o ++ [g k], w, k + 1)
def pageS (g : Nat → Int32) (n : Nat) : Nat → Nat → List Int32 → Bool → List Int32 × Bool
  | 0, _, o, w => (o, w)
  | f + 1, k, o, w => if k < n then pageS g n f (stepR g n k o w).2.2 (stepR g n k o w).1 (stepR g n k o w).2.1 else (o, w)
theorem tagR_bd {g : Nat → Int32} {n a : Nat} {e : Bool} {o : List Int32} {w : Bool} (ha : a ≤ n) : a ≤ (tagR g n a e o w).2.2 ∧ (tagR g n a e o w).2.2 ≤ n ∧ (tagR g n a e o w).1.length ≤ o.length + 1 := by
  obtain ⟨n1, n2, n3⟩ := nameE_spec (g := g) (n := n) _ a rfl ha
  obtain ⟨t1, t2⟩ := tagE_bd (g := g) (n := n) _ (nameE g n a) (-1) false rfl n2
  have hh := hid_bd (g := g) (w := nmL g a (nameE g n a)) t2
  rw [tagR]
  split
  · exact ⟨by show a ≤ tagE g n (nameE g n a) (-1) false; omega, t2, brkL_le _ _⟩
  · split
    · exact ⟨by show a ≤ tagE g n (nameE g n a) (-1) false; omega, t2, brkL_le _ _⟩
    · split
      · exact ⟨by show a ≤ tagE g n (nameE g n a) (-1) false; omega, t2, blkL_le _ _ _⟩
      · split
        · exact ⟨by show a ≤ tagE g n (nameE g n a) (-1) false; omega, t2, Nat.le_succ _⟩
        · exact ⟨by show a ≤ hidE g n (nmL g a (nameE g n a)) (tagE g n (nameE g n a) (-1) false); omega, hh.2, Nat.le_succ _⟩
theorem at_lt {g : Nat → Int32} {n j : Nat} (hge : ∀ j, n ≤ j → g j = -1) (h : ¬ g j = -1) : j < n := by
  rcases Nat.lt_or_ge j n with q | q
  · exact q
  · exact absurd (hge j q) h
theorem latin_lt {g : Nat → Int32} {n j : Nat} (hge : ∀ j, n ≤ j → g j = -1) (h : cLatin (g j) = true) : j < n := at_lt hge (fun c => by rw [c] at h; exact absurd h (by decide))
theorem eq_lt {g : Nat → Int32} {n j : Nat} {c : Int32} (hge : ∀ j, n ≤ j → g j = -1) (h : g j = c) (hc : ¬ c = -1) : j < n := at_lt hge (by rw [h]; exact hc)
theorem semi_bd {g : Nat → Int32} {n e : Nat} (hge : ∀ j, n ≤ j → g j = -1) (he : e ≤ n) : e ≤ semi g e ∧ semi g e ≤ n := by
  rw [semi]
  split
  · rename_i h
    have := eq_lt hge h (by decide)
    omega
  · omega
theorem ampR_bd {g : Nat → Int32} {n k : Nat} {o : List Int32} (hge : ∀ j, n ≤ j → g j = -1) (hk : k < n) : k + 1 ≤ (ampR g n k o).2 ∧ (ampR g n k o).2 ≤ n ∧ (ampR g n k o).1.length ≤ o.length + 1 := by
  have num : ∀ (x : Int32) (mo fr : Nat), k + 1 ≤ fr → k + 1 ≤ (numR g n x mo fr k o).2 ∧ (numR g n x mo fr k o).2 ≤ n ∧ (numR g n x mo fr k o).1.length ≤ o.length + 1 := by
    intro x mo fr hfr
    have hb := numE_bd (g := g) (n := n) (x := x) (mo := mo) (fr := fr) _ fr 0 rfl
    rw [numR]
    split
    · exact ⟨Nat.le_refl _, hk, by rw [len_snoc]; exact Nat.le_refl _⟩
    · rename_i h
      have hs := semi_bd (e := (numE g n x mo fr fr 0).1) hge (by omega)
      exact ⟨by show k + 1 ≤ semi g _; omega, hs.2, by rw [len_snoc]; exact Nat.le_refl _⟩
  rw [ampR]
  split
  · split
    · exact num 16 6 (k + 3) (by omega)
    · exact num 10 7 (k + 2) (by omega)
  · rw [nameR]
    split
    · exact ⟨Nat.le_refl _, hk, by rw [len_snoc]; exact Nat.le_refl _⟩
    · have wb := firstE_bd (p := fun j => !cWord (g j)) (n := n) _ (k + 1) rfl (by omega)
      have wb2 : k + 1 ≤ wordE g n (k + 1) ∧ wordE g n (k + 1) ≤ n := wb
      have hs := semi_bd (e := wordE g n (k + 1)) hge wb2.2
      exact ⟨by show k + 1 ≤ semi g _; omega, hs.2, by rw [len_snoc]; exact Nat.le_refl _⟩
theorem stepR_bd {g : Nat → Int32} {n k : Nat} {o : List Int32} {w : Bool} (hge : ∀ j, n ≤ j → g j = -1) (hk : k < n) : k + 1 ≤ (stepR g n k o w).2.2 ∧ (stepR g n k o w).2.2 ≤ n ∧ (stepR g n k o w).1.length ≤ o.length + 1 := by
  rw [stepR]
  split
  · rw [lessR]
    split
    · exact tagR_bd (by omega)
    · split
      · rename_i h
        have := latin_lt hge h.2
        have := tagR_bd (g := g) (n := n) (a := k + 2) (e := true) (o := o) (w := w) (by omega)
        omega
      · split
        · rename_i h
          have := eq_lt hge h.2.2 (by decide)
          have := nextE_bd (bs := [45, 45, 62]) (k := k + 4) hge (by decide) (by decide) (by omega)
          exact ⟨by show k + 1 ≤ nextE g n _ _; omega, this.2, Nat.le_succ _⟩
        · split
          · rename_i h
            have : k + 1 < n := by rcases h with h | h <;> exact eq_lt hge h (by decide)
            have := nextE_bd (bs := [62]) (k := k + 2) hge (by decide) (by decide) (by omega)
            exact ⟨by show k + 1 ≤ nextE g n _ _; omega, this.2, Nat.le_succ _⟩
          · exact ⟨Nat.le_refl _, hk, by rw [len_snoc]; exact Nat.le_refl _⟩
  · split
    · exact ampR_bd hge hk
    · split
      · exact ⟨Nat.le_refl _, hk, blkL_le _ _ _⟩
      · exact ⟨Nat.le_refl _, hk, by rw [len_snoc]; exact Nat.le_refl _⟩
theorem pageS_ge {g : Nat → Int32} {n f k : Nat} {o : List Int32} {w : Bool} (h : n ≤ k) : pageS g n f k o w = (o, w) := by
  cases f with
  | zero => rfl
  | succ f => rw [pageS, if_neg (by omega)]
/-! the class -/
theorem kx_mark2 {post : Int32 → Int32 → (Nat → Int32) → Prop} {g tx : Nat → Int32} {n k : Nat} {o : List Int32} {w : Bool} (hn : n ≤ 1500) (hP : PX g n k o tx) (hge : ∀ j, n ≤ j → g j = -1) (hk : k < n) (h60 : g k = 60) (c1 : ¬ cLatin (g (k + 1)) = true) (c2 : ¬ (g (k + 1) = 47 ∧ cLatin (g (k + 2)) = true))
    (H : ∀ tx', PX g n (k + 1) (lessR g n k o w).1 tx' → post (nI (lessR g n k o w).2.2) (nI (lessR g n k o w).1.length) tx') : wpX3_readMark post (nI o.length) (nI n) tx (nI k) := by
  have hA := hP.2.2
  rw [lessR, if_neg c1, if_neg c2] at H
  rw [wpX3_readMark]
  refine kx_holds hn (by omega) (by decide) ?_
  rw [hB_G (g := g) (sB 18) k (fun x hx => hA x (by omega)), show hG g k (sB 18) = decide (g (k + 1) = 33 ∧ g (k + 2) = 45 ∧ g (k + 3) = 45) from by
    rw [show sB 18 = [60, 33, 45, 45] from by decide]
    simp only [hG, h60, Bool.and_true]
    by_cases d1 : g (k + 1) = 33
    · by_cases d2 : g (k + 1 + 1) = 45
      · by_cases d3 : g (k + 1 + 1 + 1) = 45
        · rw [decide_eq_true d1, decide_eq_true d2, decide_eq_true d3, decide_eq_true (p := g (k + 1) = 33 ∧ g (k + 2) = 45 ∧ g (k + 3) = 45) ⟨d1, d2, d3⟩]; decide
        · rw [decide_eq_false d3, decide_eq_false (p := g (k + 1) = 33 ∧ g (k + 2) = 45 ∧ g (k + 3) = 45) (fun c => d3 c.2.2)]; simp
      · rw [decide_eq_false d2, decide_eq_false (p := g (k + 1) = 33 ∧ g (k + 2) = 45 ∧ g (k + 3) = 45) (fun c => d2 c.2.1)]; simp
    · rw [decide_eq_false d1, decide_eq_false (p := g (k + 1) = 33 ∧ g (k + 2) = 45 ∧ g (k + 3) = 45) (fun c => d1 c.1)]; simp]
  rw [nI_1, nI_4]
  refine b_ifz (fun z => ?_) (fun z => ?_)
  · rw [if_neg (of_decide_eq_false z)] at H
    have e53 : (g (k + 1) = 33 ∨ g (k + 1) = 63) → wjX3_readMark_53 post (nI n) (nI k) (nI o.length) tx := by
      intro c
      have hk1 : k + 1 < n := by rcases c with c | c <;> exact eq_lt hge c (by decide)
      rw [if_pos c] at H
      rw [wjX3_readMark_53, nI_2]
      refine kx_next hn hA (by omega) (by omega) (by decide) ?_
      rw [show sB 20 = [62] from by decide]
      exact H tx (PX_mono hP (by omega))
    refine kx_getA hn hA (by omega) (by omega) ⟨fun c => e53 (Or.inl c), fun c => kx_getA hn hA (by omega) (by omega) ⟨fun c3 => ?_, fun c3 => e53 (Or.inr c3)⟩⟩
    rw [if_neg (fun u => by rcases u with u | u; exact c u; exact c3 u)] at H
    exact kx_write hn hP hk (fun tx' h' => H tx' h')
  · have z := of_decide_eq_true z
    rw [if_pos z] at H
    have := eq_lt hge z.2.2 (by decide)
    refine kx_next hn hA (by omega) (by omega) (by decide) ?_
    rw [show sB 19 = [45, 45, 62] from by decide]
    exact H tx (PX_mono hP (by omega))
theorem kx_read_loop {post : Int32 → Int32 → Int32 → (Nat → Int32) → Prop} {g : Nat → Int32} {n : Nat} {F : List Int32 × Bool} (hn : n ≤ 1500) (hge : ∀ j, n ≤ j → g j = -1)
    (H : ∀ tx', rW tx' (spL F.2 F.1) → (spL F.2 F.1).length ≤ n → post (nI (spL F.2 F.1).length) (b2i F.2) (nI (spL F.2 F.1).length) tx') :
    ∀ (f k : Nat) (o : List Int32) (w : Bool) (tx : Nat → Int32), n - k ≤ f → k ≤ n → PX g n k o tx → pageS g n f k o w = F → wlX3_read_12 post (nI n) (f + 1) (nI o.length) (b2i w) tx (nI k) := by
  have last : ∀ (o : List Int32) (w : Bool) (tx : Nat → Int32), PX g n n o tx → (o, w) = F → wpX3_dropSpaces (fun pr_written_28 => wpX5_shorten (fun tx_size_30 => post pr_written_28 (b2i w) tx_size_30 tx) (nI n) pr_written_28) (nI o.length) (b2i w) (nI n) tx := by
    intro o w tx hP e
    subst e
    have hl := spL_le w o
    have hl2 := hP.2.1
    have h1 := H tx (rW_sp hP.1) (by show (spL w o).length ≤ n; omega)
    refine kx_drop hn hP.1 (by omega) ⟨fun q => absurd q (nI_pos (by omega)), fun _ => ⟨fun q => ?_, fun _ => h1⟩⟩
    rw [nI_leI (by omega) (by omega)] at q
    have h1 : post (nI (spL w o).length) (b2i w) (nI (spL w o).length) tx := h1
    rw [show (spL w o).length = n by omega] at h1 ⊢
    exact h1
  intro f
  induction f with
  | zero =>
    intro k o w tx hf hk hP hF
    have e : k = n := by omega
    subst e
    exact ⟨fun _ => last o w tx hP hF, fun q => absurd (nI_le (Nat.le_refl _) (by omega)) q⟩
  | succ f ih =>
    intro k o w tx hf hk hP hF
    refine ⟨fun q => ?_, fun q => ?_⟩
    · rw [nI_leI (by omega) (by omega)] at q
      have e : k = n := by omega
      subst e
      rw [pageS_ge (Nat.le_refl _)] at hF
      exact last o w tx hP hF
    · rw [nI_leI (by omega) (by omega)] at q
      have hkn : k < n := by omega
      have hA := hP.2.2
      rw [pageS, if_pos hkn] at hF
      obtain ⟨b1, b2, b3⟩ := stepR_bd (g := g) (n := n) (k := k) (o := o) (w := w) hge hkn
      have nx : ∀ (s : List Int32 × Bool × Nat), stepR g n k o w = s → ∀ tx', PX g n (k + 1) s.1 tx' → wjX3_read_184 (fun pr_written pr_within tx_characters x1 => wlX3_read_12 post (nI n) (f + 1) pr_written pr_within tx_characters x1) post (nI s.1.length) (b2i s.2.1) (nI n) tx' (nI k) (nI s.2.2) := by
        intro s hs tx' hP' y ey
        rw [hs] at b1 b2 hF
        have em : (if nI k + 1 < nI s.2.2 then nI s.2.2 else nI k + 1) = nI s.2.2 := by
          rw [nI_1]
          by_cases c : nI (k + 1) < nI s.2.2
          · rw [if_pos c]
          · rw [if_neg c]
            rw [nI_ltI (by omega) (by omega)] at c
            rw [show k + 1 = s.2.2 by omega]
        rw [ey, em]
        exact ih _ _ _ _ (by omega) b2 (PX_mono hP' b1) hF
      refine kx_getA hn hA (Nat.le_refl _) (by omega) (fun x3 ex3 => ?_)
      have e111 : (g k = 60 → ¬ cLatin (g (k + 1)) = true ∧ ¬ (g (k + 1) = 47 ∧ cLatin (g (k + 2)) = true)) → wjX3_read_111 (fun pr_written pr_within tx_characters x1 => wlX3_read_12 post (nI n) (f + 1) pr_written pr_within tx_characters x1) post (nI o.length) (b2i w) (nI n) tx (nI k) (g k) x3 := by
        intro hc
        refine ⟨fun c => ⟨fun c2 => kx_isBlank (b_ifz (fun z => ?_) (fun z => ?_)), fun c2 => ?_⟩, fun c => ?_⟩
        · have hs : stepR g n k o w = (o ++ [g k], w, k + 1) := by rw [stepR, if_neg c, if_neg c2, if_neg (by rw [z]; decide)]
          refine kx_write hn hP hkn (fun tx' h' => ?_)
          have := nx _ hs tx' h'
          rw [ex3, nI_1]; exact this
        · have hs : stepR g n k o w = (blkL w o (g k), w, k + 1) := by rw [stepR, if_neg c, if_neg c2, if_pos z]
          refine kx_blank hn hP hkn (fun tx' h' => ?_)
          have := nx _ hs tx' h'
          rw [ex3, nI_1]; exact this
        · have hs : stepR g n k o w = ((ampR g n k o).1, w, (ampR g n k o).2) := by rw [stepR, if_neg c, if_pos c2]
          rw [nI_1]
          refine kx_getA hn hA (by omega) (by omega) ⟨fun d => kx_readName hn hP hkn (fun tx' h' => ?_), fun d => kx_readNumber hn hP hkn (fun tx' h' => ?_)⟩
          · have ea : ampR g n k o = nameR g n k o := by rw [ampR, if_neg d]
            rw [ea] at hs
            exact nx _ hs tx' h'
          · have ea : ampR g n k o = (if g (k + 2) = 120 then numR g n 16 6 (k + 3) k o else numR g n 10 7 (k + 2) k o) := by rw [ampR, if_pos d]
            rw [ea] at hs
            exact nx _ hs tx' h'
        · have hs : stepR g n k o w = lessR g n k o w := by rw [stepR, if_pos c]
          have hw : (lessR g n k o w).2.1 = w := by
            rw [lessR, if_neg (hc c).1, if_neg (hc c).2]
            repeat' split
            all_goals rfl
          refine kx_mark2 (w := w) hn hP hge hkn c (hc c).1 (hc c).2 (fun tx' h' => ?_)
          have := nx _ hs tx' h'
          rw [hw] at this
          exact this
      have e70 : (g k = 60 → ¬ cLatin (g (k + 1)) = true) → wjX3_read_70 (fun pr_written pr_within tx_characters x1 => wlX3_read_12 post (nI n) (f + 1) pr_written pr_within tx_characters x1) post (nI o.length) (b2i w) (nI n) tx (nI k) (g k) x3 := by
        intro hc
        refine kx_holds hn (by omega) (by decide) ?_
        rw [hB_G (g := g) (sB 17) k (fun x hx => hA x (by omega)), show hG g k (sB 17) = (decide (g k = 60) && decide (g (k + 1) = 47)) from by
          rw [show sB 17 = [60, 47] from by decide]; simp only [hG, Bool.and_true]]
        rw [nI_2]
        refine b_ifz (fun z => e111 (fun c => ⟨hc c, fun d => ?_⟩)) (fun z => ?_)
        · rw [decide_eq_true c, decide_eq_true d.1] at z; cases z
        · rw [Bool.and_eq_true, decide_eq_true_eq, decide_eq_true_eq] at z
          refine kx_getA hn hA (by omega) (by omega) (kx_isLatin (b_ifz (fun z2 => e111 (fun c => ⟨hc c, fun d => by rw [z2] at d; cases d.2⟩)) (fun z2 => ?_)))
          have hs : stepR g n k o w = tagR g n (k + 2) true o w := by rw [stepR, if_pos z.1, lessR, if_neg (hc z.1), if_pos ⟨z.2, z2⟩]
          have := latin_lt hge z2
          exact kx_readTag (e := true) hn hP hkn (by omega) (by omega) (fun tx' h' => nx _ hs tx' h')
      refine ⟨fun c => e70 (fun d => absurd d c), fun c => ?_⟩
      rw [nI_1]
      refine kx_getA hn hA (by omega) (by omega) (kx_isLatin (b_ifz (fun z => e70 (fun _ => by rw [z]; decide)) (fun z => ?_)))
      have hs : stepR g n k o w = tagR g n (k + 1) false o w := by rw [stepR, if_pos c, lessR, if_pos z]
      exact kx_readTag (e := false) hn hP hkn (by omega) (by omega) (fun tx' h' => nx _ hs tx' h')
def pageF (g : Nat → Int32) (n : Nat) : List Int32 := spL (pageS g n n 0 [] false).2 (pageS g n n 0 [] false).1
theorem kx_page {post : Int32 → Int32 → Int32 → Int32 → (Nat → Int32) → Prop} {t : Nat → Int32} {n : Nat} {pw pi : Int32} (hn : n ≤ 1500)
    (H : ∀ (pw pi : Int32) (t' : Nat → Int32), rW t' (pageF (gF t n) n) → (pageF (gF t n) n).length ≤ n → post (nI (pageF (gF t n) n).length) pw pi (nI (pageF (gF t n) n).length) t') : wpX7_page post pw pi (nI n) t :=
  ⟨n + 1, kx_read_loop (post := fun pw pi ts tx => post ts pw pi ts tx) (g := gF t n) (F := pageS (gF t n) n n 0 [] false) hn (fun j hj => gF_ge hj) (fun tx' h1 h2 => H _ _ tx' h1 h2) n 0 [] false t (by omega) (Nat.zero_le _) ⟨fun k hk => absurd hk (Nat.not_lt_zero _), Nat.le_refl _, fun j _ => rfl⟩ rfl⟩
