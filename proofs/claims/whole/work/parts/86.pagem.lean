/-! PURE 47: a page (reference) -/
theorem lat_no {c : Int32} (h : cLatin c = true) : ¬ c = 33 ∧ ¬ c = 63 ∧ ¬ c = 47 := by
  refine ⟨fun e => ?_, fun e => ?_, fun e => ?_⟩ <;> (rw [e] at h; exact absurd h (by decide))
theorem km_readLess {post : Int32 → Int32 → Int32 → (Nat → Int32) → Prop} {g tx f : Nat → Int32} {n k : Nat} {o : List Int32} {w : Bool} (hn : n ≤ 1500) (hA : ∀ j, gF tx n j = g j) (hge : ∀ j, n ≤ j → g j = -1) (hr : rW f o) (ho : o.length ≤ 1500) (hk : k < n)
    (H : ∀ f', rW f' (lessR g n k o w).1 → post (nI (lessR g n k o w).1.length) (nI (lessR g n k o w).2.2) (b2i (lessR g n k o w).2.1) f') : wpX8_readLess post (nI n) (nI o.length) (nI k) (b2i w) tx f := by
  rw [lessR] at H
  -- a tag
  have tag : ∀ (e : Bool) (a : Nat), e = decide (g (k + 1) = 47) → a = k + (if e = true then 2 else 1) → a ≤ n → lessR g n k o w = tagR g n a e o w → wjX8_readLess_116 post (nI n) tx (nI o.length) (nI k) (b2i w) f := by
    intro e a he ha han hl
    rw [lessR] at hl
    rw [hl] at H
    exact km_readTag hn hA hr ho hk he ha han H
  have e123 : ¬ cLatin (g (k + 1)) = true → ¬ (g (k + 1) = 47 ∧ cLatin (g (k + 2)) = true) → ¬ (g (k + 1) = 33 ∨ g (k + 1) = 63) → wjX8_readLess_123 post (nI n) tx (nI o.length) (nI k) (b2i w) f := by
    intro c1 c2 c3
    rw [if_neg c1, if_neg c2, if_neg (fun u => c3 (Or.inl u.1)), if_neg c3] at H
    refine km_write hr (by omega) (fun f' h' y ey => ?_)
    rw [ey, nI_1]
    exact H f' h'
  have e61 : ¬ (g (k + 1) = 33 ∧ g (k + 2) = 45 ∧ g (k + 3) = 45) → wjX8_readLess_61 post (nI n) tx (nI o.length) (nI k) (b2i w) f (g (k + 1)) := by
    intro c3
    have e73 : (g (k + 1) = 33 ∨ g (k + 1) = 63) → wjX8_readLess_73 post (nI n) tx (nI o.length) (nI k) (b2i w) f := by
      intro c
      have c1 : ¬ cLatin (g (k + 1)) = true := fun u => by rcases c with c | c; exact (lat_no u).1 c; exact (lat_no u).2.1 c
      have c2 : ¬ (g (k + 1) = 47 ∧ cLatin (g (k + 2)) = true) := fun u => by rcases c with c | c <;> (rw [u.1] at c; exact absurd c (by decide))
      have hk1 : k + 1 < n := by rcases c with c | c <;> exact eq_lt hge c (by decide)
      rw [if_neg c1, if_neg c2, if_neg c3, if_pos c] at H
      rw [wjX8_readLess_73, nI_2]
      exact km_skipTo (co := false) hn hA (by omega) (H f hr)
    refine ⟨fun c => e73 (Or.inl c), fun c => ⟨fun c4 => km_isPlain (b_if (fun z => ?_) (fun z => ⟨fun c5 => ?_, fun c5 => ?_⟩)), fun c4 => e73 (Or.inr c4)⟩⟩
    · refine tag false (k + 1) (decide_eq_false (lat_no z).2.2).symm rfl (by omega) ?_
      rw [lessR, if_pos z]
    · exact e123 (by rw [z]; decide) (fun u => c5 u.1) (fun u => by rcases u with u | u; exact c u; exact c4 u)
    · rw [nI_2]
      refine km_lookA hn hA (by omega) (km_isPlain (b_ifz (fun z2 => ?_) (fun z2 => ?_)))
      · exact e123 (by rw [z]; decide) (fun u => by rw [z2] at u; cases u.2) (fun u => by rcases u with u | u; exact c u; exact c4 u)
      · have := latin_lt hge z2
        refine tag true (k + 2) (decide_eq_true c5).symm rfl (by omega) ?_
        rw [lessR, if_neg (by rw [z]; decide), if_pos ⟨c5, z2⟩]
  rw [wpX8_readLess, nI_1, nI_2, nI_3, nI_4]
  refine km_lookA hn hA (by omega) ⟨fun c => e61 (fun u => c u.1), fun c => km_lookA hn hA (by omega) ⟨fun c2 => e61 (fun u => c2 u.2.1), fun c2 => km_lookA hn hA (by omega) ⟨fun c3 => e61 (fun u => c3 u.2.2), fun c3 => ?_⟩⟩⟩
  have c1 : ¬ cLatin (g (k + 1)) = true := fun u => (lat_no u).1 c
  have c4 : ¬ (g (k + 1) = 47 ∧ cLatin (g (k + 2)) = true) := fun u => by rw [u.1] at c; exact absurd c (by decide)
  rw [if_neg c1, if_neg c4, if_pos ⟨c, c2, c3⟩] at H
  have := eq_lt hge c3 (by decide)
  exact km_skipTo (co := true) hn hA (by omega) (H f hr)
theorem km_page_loop {post : Int32 → Int32 → Int32 → Int32 → Int32 → Int32 → (Nat → Int32) → (Nat → Int32) → Prop} {g tx : Nat → Int32} {n : Nat} {th : Int32} {F : List Int32 × Bool} (hn : n ≤ 1500) (hA : ∀ j, gF tx n j = g j) (hge : ∀ j, n ≤ j → g j = -1)
    (H : ∀ (p pre : Int32) (tx' out : Nat → Int32), rW tx' (spL F.2 F.1) → (spL F.2 F.1).length ≤ n → post (nI (spL F.2 F.1).length) th (nI (spL F.2 F.1).length) (nI (spL F.2 F.1).length) p pre tx' out) :
    ∀ (f k : Nat) (o : List Int32) (w : Bool) (out : Nat → Int32), n - k ≤ f → k ≤ n → o.length ≤ k → rW out o → pageS g n f k o w = F → wlX8_page_20 post th (nI n) tx (f + 1) (nI o.length) (nI k) (b2i w) out := by
  have copy : ∀ (p pre : Int32) (O : List Int32) (out : Nat → Int32), O.length ≤ n → rW out O → (∀ tx', rW tx' O → post (nI O.length) th (nI O.length) (nI O.length) p pre tx' out) → wjX8_page_111 post th (nI n) (nI O.length) p pre tx out := by
    intro p pre O out hO hr hp
    have loop : ∀ (m j : Nat) (t' : Nat → Int32), O.length - j = m → j ≤ O.length → (∀ i, i < j → t' i = O.getD i 0) → wlX8_page_113 post th (nI n) (nI O.length) p pre out (m + 1) t' (nI j) := by
      intro m
      induction m with
      | zero =>
        intro j t' hm hj ht
        refine ⟨fun _ => hp t' (fun i hi => ht i (by omega)), fun q => absurd (nI_le (by omega) (by omega)) q⟩
      | succ m ih =>
        intro j t' hm hj ht
        refine ⟨fun q => absurd ((nI_leI (by omega) (by omega)).mp q) (by omega), fun _ => ⟨vp_in_nI (by omega) (by omega), vp_in_nI (by omega) (by omega), fun y ey => ?_⟩⟩
        rw [ey, nI_1, nI_clamp (by omega), hr j (by omega)]
        refine ih (j + 1) _ (by omega) (by omega) (fun i hi => ?_)
        rcases Nat.lt_or_ge i j with q | q
        · rw [pk_un (by omega)]; exact ht i q
        · rw [show i = j by omega, pk_us]
    exact ⟨_, loop O.length 0 tx (by omega) (Nat.zero_le _) (fun i hi => absurd hi (Nat.not_lt_zero _))⟩
  have last : ∀ (o : List Int32) (w : Bool) (p : Int32) (out : Nat → Int32), o.length ≤ n → rW out o → (o, w) = F → ((¬ (b2i w) = 0 → wjX8_page_111 post th (nI n) (nI o.length) p (b2i w) tx out) ∧ ((b2i w) = 0 → wpX8_dropSpaces (fun m_outLong_4 => wjX8_page_111 post th (nI n) m_outLong_4 p (b2i w) tx out) (nI o.length) out)) := by
    intro o w p out ho hr e
    subst e
    have hl := spL_le w o
    cases w with
    | true => exact ⟨fun _ => copy p _ o out ho hr (fun tx' h' => H p _ tx' out h' ho), fun q => absurd q (by decide)⟩
    | false => exact ⟨fun q => absurd rfl q, fun _ => km_drop hr (by omega) (copy p _ (spL false o) out (by omega) (rW_sp hr) (fun tx' h' => H p _ tx' out h' (by show (spL false o).length ≤ n; omega)))⟩
  intro f
  induction f with
  | zero =>
    intro k o w out hf hk ho hr hF
    exact ⟨fun _ => last o w _ out (by omega) hr hF, fun q => absurd (nI_le (by omega) (by omega)) q⟩
  | succ f ih =>
    intro k o w out hf hk ho hr hF
    refine ⟨fun q => ?_, fun q => ?_⟩
    · rw [nI_leI (by omega) (by omega)] at q
      rw [pageS_ge q] at hF
      exact last o w _ out (by omega) hr hF
    · rw [nI_leI (by omega) (by omega)] at q
      have hkn : k < n := by omega
      rw [pageS, if_pos hkn] at hF
      obtain ⟨b1, b2, b3⟩ := stepR_bd (g := g) (n := n) (k := k) (o := o) (w := w) hge hkn
      have nx : ∀ (s : List Int32 × Bool × Nat), stepR g n k o w = s → ∀ out', rW out' s.1 → wlX8_page_20 post th (nI n) tx (f + 1) (nI s.1.length) (nI s.2.2) (b2i s.2.1) out' := by
        intro s hs out' hr'
        rw [hs] at b1 b2 b3 hF
        exact ih _ _ _ _ (by omega) b2 (by omega) hr' hF
      refine ⟨vp_in_nI (by omega) (by omega), fun y ey => ?_⟩
      rw [nI_clamp (by omega), tx_g hA hkn] at ey
      subst ey
      refine ⟨fun c => ⟨fun c2 => km_isBlank (b_ifz (fun z => ?_) (fun z => ?_)), fun c2 => ?_⟩, fun c => ?_⟩
      · have hs : stepR g n k o w = (o ++ [g k], w, k + 1) := by rw [stepR, if_neg c, if_neg c2, if_neg (by rw [z]; decide)]
        refine km_write hr (by omega) (fun f' h' y ey => ?_)
        rw [ey, nI_1]
        exact nx _ hs f' h'
      · have hs : stepR g n k o w = (blkL w o (g k), w, k + 1) := by rw [stepR, if_neg c, if_neg c2, if_pos z]
        refine km_blank hr (by omega) (fun f' h' y ey => ?_)
        rw [ey, nI_1]
        exact nx _ hs f' h'
      · have hs : stepR g n k o w = ((ampR g n k o).1, w, (ampR g n k o).2) := by rw [stepR, if_neg c, if_pos c2]
        exact km_readAmp hn hA hr (by omega) hkn (fun f' h' => nx _ hs f' h')
      · have hs : stepR g n k o w = lessR g n k o w := by rw [stepR, if_pos c]
        exact km_readLess (w := w) hn hA hge hr (by omega) hkn (fun f' h' => nx _ hs f' h')
theorem km_page {post : Int32 → Int32 → Int32 → Int32 → Int32 → Int32 → (Nat → Int32) → (Nat → Int32) → Prop} {t tm out : Nat → Int32} {n : Nat} {th ol p pre : Int32} (hn : n ≤ 1500) (hA : ∀ j, j < n → tm j = t j)
    (H : ∀ (p pre : Int32) (t' out : Nat → Int32), rW t' (pageF (gF t n) n) → (pageF (gF t n) n).length ≤ n → post (nI (pageF (gF t n) n).length) 0 (nI (pageF (gF t n) n).length) (nI (pageF (gF t n) n).length) p pre t' out) : wpX8_page post th (nI n) ol p pre tm out :=
  ⟨n + 1, km_page_loop (g := gF t n) (tx := tm) (F := pageS (gF t n) n n 0 [] false) hn (fun j => by rw [gF, gF]; split; exact hA j (by assumption); rfl) (fun j hj => gF_ge hj) (fun p pre t' out h1 h2 => H p pre t' out h1 h2) n 0 [] false out (by omega) (Nat.zero_le _) (Nat.le_refl _) (fun k hk => absurd hk (Nat.not_lt_zero _)) rfl⟩
