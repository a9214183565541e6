/-! PURE 36: findStems of the class: letters and stems stand where the words stood -/
def aD (D : List (Nat × Nat × Bool × List Int32 × List Int32)) (i : Nat) : Bool := (D.getD i entD).2.2.1
def wD (D : List (Nat × Nat × Bool × List Int32 × List Int32)) (i : Nat) : List Int32 := (D.getD i entD).2.2.2.1
def sD (D : List (Nat × Nat × Bool × List Int32 × List Int32)) (i : Nat) : List Int32 := (D.getD i entD).2.2.2.2
def bD (D : List (Nat × Nat × Bool × List Int32 × List Int32)) (i : Nat) : Nat := (D.getD i entD).1
def pD (D : List (Nat × Nat × Bool × List Int32 × List Int32)) (i : Nat) : Nat := (D.getD i entD).2.1
def genD (D : List (Nat × Nat × Bool × List Int32 × List Int32)) : Prop := D.length ≤ 900 ∧ (∀ i, i < D.length → (wD D i).length ≤ 30 ∧ (sD D i).length ≤ (wD D i).length ∧ bD D i + (wD D i).length ≤ 1500 ∧ sD D i = (if aD D i = true then wD D i else stemF (wD D i))) ∧ (∀ i j, i < j → j < D.length → aD D i = false → aD D j = false → bD D i + (wD D i).length ≤ bD D j)
theorem genD_of {t : Nat → Int32} {T : List (Nat × Nat × Nat × Bool)} {k : Nat} (h9 : T.length ≤ 900) (h : srt T k) : genD (T.map (ent t)) := by
  refine ⟨by rw [List.length_map]; exact h9, fun i hi => ?_, srt_sep h⟩
  have o := okT_D (t := t) h.2.2 i hi
  refine ⟨o.1, o.2.1, o.2.2, ?_⟩
  rw [List.length_map] at hi
  rw [sD, aD, wD, gD_map (d := tokD) hi]
  rfl
def baseX (D : List (Nat × Nat × Bool × List Int32 × List Int32)) (cb cl cp ca sm : Nat → Int32) : Prop := ∀ i, i < D.length → cb i = nI (bD D i) ∧ cl i = nI (wD D i).length ∧ cp i = nI (pD D i) ∧ ca i = b2i (aD D i) ∧ ∀ k, k < (wD D i).length → sm (bD D i + k) = (wD D i).getD k 0
theorem base_of {t : Nat → Int32} {T : List (Nat × Nat × Nat × Bool)} {n : Nat} {cb cl cp ca sm : Nat → Int32} (hT : tokX T cb cl cp ca) (hs : ∀ k, k < n → sm k = cSmall (t k)) (hn : ∀ x ∈ T, x.2.1 ≤ n) : baseX (T.map (ent t)) cb cl cp ca sm := by
  intro i hi
  rw [List.length_map] at hi
  obtain ⟨h1, h2, h3, h4⟩ := hT i hi
  have hm := hn _ (gD_mem (d := tokD) hi)
  rw [bD, wD, pD, aD, gD_map (d := tokD) hi]
  have hl := wrd_len t (T.getD i tokD)
  refine ⟨h1, by rw [h2]; show _ = nI (wrd t (T.getD i tokD)).length; rw [hl], h3, h4, fun k hk => ?_⟩
  have hk : k < min ((T.getD i tokD).2.1 - (T.getD i tokD).1) 30 := by rw [← hl]; exact hk
  show sm ((T.getD i tokD).1 + k) = (wrd t (T.getD i tokD)).getD k 0
  rw [wrd, wAt_get _ _ _ _ hk, hs _ (by omega)]
def stX (D : List (Nat × Nat × Bool × List Int32 × List Int32)) (m : Nat) (sl ts : Nat → Int32) : Prop := ∀ i, i < m → sl i = nI (sD D i).length ∧ (aD D i = false → ∀ k, k < (sD D i).length → ts (bD D i + k) = (sD D i).getD k 0)
theorem kx_chS {post : Int32 → Prop} {f : Nat → Int32} {b : Nat} (hb : b < 1500) (h : post (f b)) : wpX6_characterOf_tt_stems post f (nI b) := by
  refine ⟨fun q => absurd q (nI_pos (by omega)), fun _ => ⟨fun q => absurd ((nI_leI (a := 1500) (by decide) (by omega)).mp q) (by omega), fun _ => ⟨vp_in_nI (by omega) (by omega), ?_⟩⟩⟩
  rw [nI_clamp (by omega)]; exact h
theorem kx_chW {post : Int32 → Prop} {f : Nat → Int32} {b : Nat} (hb : b < 1500) (h : post (f b)) : wpX6_characterOf_tt_smalls post f (nI b) := by
  refine ⟨fun q => absurd q (nI_pos (by omega)), fun _ => ⟨fun q => absurd ((nI_leI (a := 1500) (by decide) (by omega)).mp q) (by omega), fun _ => ⟨vp_in_nI (by omega) (by omega), ?_⟩⟩⟩
  rw [nI_clamp (by omega)]; exact h
theorem kx_stemChar {post : Int32 → Prop} {D : List (Nat × Nat × Bool × List Int32 × List Int32)} {m i k : Nat} {cb cl sl cp ca sm ts : Nat → Int32} (hG : genD D) (hB : baseX D cb cl cp ca sm) (hS : stX D m sl ts) (hm : m ≤ D.length) (hi : i < m) (hk : k < (sD D i).length) (h : post ((sD D i).getD k 0)) : wpX6_stemCharacter post cb ca sm ts (nI i) (nI k) := by
  obtain ⟨g1, g2, g3, g4⟩ := hG.2.1 i (by omega)
  have h9 := hG.1
  obtain ⟨b1, b2, b3, b4, b5⟩ := hB i (by omega)
  obtain ⟨s1, s2⟩ := hS i hi
  have hin : vp_in (nI i) 900 := vp_in_nI (by omega) (by omega)
  refine ⟨hin, ?_⟩
  rw [nI_clamp (by omega), b4, b1, nI_add]
  refine b_ifz (fun z => ⟨hin, kx_chS (by omega) ?_⟩) (fun z => ⟨hin, kx_chW (by omega) ?_⟩)
  · rw [s2 z k hk]; exact h
  · rw [b5 k (by omega), ← (show sD D i = wD D i by rw [g4, z]; rfl)]; exact h
theorem list_ext {l m : List Int32} (hl : l.length = m.length) (h : ∀ k, k < l.length → l.getD k 0 = m.getD k 0) : l = m := by
  apply List.ext_getElem hl
  intro k h1 h2
  have := h k h1
  rw [List.getD_eq_getElem?_getD, List.getElem?_eq_getElem h1, List.getD_eq_getElem?_getD, List.getElem?_eq_getElem h2] at this
  exact this
theorem kx_same {post : Int32 → Prop} {D : List (Nat × Nat × Bool × List Int32 × List Int32)} {m i j : Nat} {cb cl sl cp ca sm ts : Nat → Int32} (hG : genD D) (hB : baseX D cb cl cp ca sm) (hS : stX D m sl ts) (hm : m ≤ D.length) (hi : i < m) (hj : j < m) (h : post (b2i (decide (sD D i = sD D j)))) : wpX6_haveSameStem post cb sl ca sm ts (nI i) (nI j) := by
  have h9 := hG.1
  have gi := hG.2.1 i (by omega)
  have gj := hG.2.1 j (by omega)
  have hin : vp_in (nI i) 900 := vp_in_nI (by omega) (by omega)
  refine ⟨hin, vp_in_nI (by omega) (by omega), ?_⟩
  rw [nI_clamp (by omega), nI_clamp (by omega), (hS i hi).1, (hS j hj).1, nI_eq (by omega) (by omega)]
  refine ⟨fun q => ?_, fun q => ?_⟩
  · have loop : ∀ (g k : Nat), (sD D i).length - k = g → k ≤ (sD D i).length → (∀ x, x < k → (sD D i).getD x 0 = (sD D j).getD x 0) → wlX6_haveSameStem_19 post cb sl ca sm ts (nI i) (nI j) (g + 1) (nI k) := by
      intro g
      induction g with
      | zero =>
        intro k hg hk hx
        have e : k = (sD D i).length := by omega
        subst e
        refine ⟨hin, ?_⟩
        rw [nI_clamp (by omega), (hS i hi).1]
        rw [decide_eq_true (list_ext q hx)] at h
        exact ⟨fun _ => h, fun c => absurd (nI_le (Nat.le_refl _) (by omega)) c⟩
      | succ g ih =>
        intro k hg hk hx
        refine ⟨hin, ?_⟩
        rw [nI_clamp (by omega), (hS i hi).1]
        refine ⟨fun c => absurd ((nI_leI (by omega) (by omega)).mp c) (by omega), fun _ => kx_stemChar hG hB hS hm hi (by omega) (kx_stemChar hG hB hS hm hj (by omega) ⟨fun c y ey => ?_, fun c => ?_⟩)⟩
        · rw [ey, nI_1]
          refine ih (k + 1) (by omega) (by omega) (fun x hxx => ?_)
          rcases Nat.lt_or_ge x k with u | u
          · exact hx x u
          · rw [show x = k by omega]; exact c
        · rw [decide_eq_false (fun e => c (by rw [e]))] at h; exact h
    exact ⟨_, loop _ 0 rfl (Nat.zero_le _) (fun x hx => absurd hx (Nat.not_lt_zero _))⟩
  · rw [decide_eq_false (fun e => q (by rw [e]))] at h; exact h
def hK (S : List Int32) : Nat → Int32
  | 0 => 0
  | k + 1 => hK S k * 31 + S.getD k 0
def slotN (S : List Int32) : Nat := (hK S S.length &&& 127).toNatClampNeg
theorem slot_nI (S : List Int32) : hK S S.length &&& 127 = nI (slotN S) ∧ slotN S < 128 := by
  obtain ⟨j, hj, e⟩ := pk_andE (hK S S.length) (m := 127) 7 (by decide)
  have hj : j < 128 := hj
  have e2 : slotN S = j := by rw [slotN, e, nI_clamp (by omega)]
  rw [e2]; exact ⟨e, hj⟩
theorem kx_slot {post : Int32 → Prop} {D : List (Nat × Nat × Bool × List Int32 × List Int32)} {m i : Nat} {cb cl sl cp ca sm ts : Nat → Int32} (hG : genD D) (hB : baseX D cb cl cp ca sm) (hS : stX D m sl ts) (hm : m ≤ D.length) (hi : i < m) (h : post (nI (slotN (sD D i)))) : wpX6_slotOf post cb sl ca sm ts (nI i) := by
  have h9 := hG.1
  have gi := hG.2.1 i (by omega)
  have hin : vp_in (nI i) 900 := vp_in_nI (by omega) (by omega)
  have loop : ∀ (g k : Nat), (sD D i).length - k = g → k ≤ (sD D i).length → wlX6_slotOf_4 post cb sl ca sm ts (nI i) (g + 1) (hK (sD D i) k) (nI k) := by
    intro g
    induction g with
    | zero =>
      intro k hg hk
      have e : k = (sD D i).length := by omega
      subst e
      refine ⟨hin, ?_⟩
      rw [nI_clamp (by omega), (hS i hi).1]
      refine ⟨fun _ => ?_, fun c => absurd (nI_le (Nat.le_refl _) (by omega)) c⟩
      rw [(slot_nI (sD D i)).1]; exact h
    | succ g ih =>
      intro k hg hk
      refine ⟨hin, ?_⟩
      rw [nI_clamp (by omega), (hS i hi).1]
      refine ⟨fun c => absurd ((nI_leI (by omega) (by omega)).mp c) (by omega), fun _ => kx_stemChar hG hB hS hm hi (by omega) (fun y ey y2 ey2 => ?_)⟩
      rw [ey, ey2, nI_1]
      exact ih (k + 1) (by omega) (by omega)
  exact ⟨_, loop _ 0 rfl (Nat.zero_le _)⟩
/-! the first of each stem -/
def isF (D : List (Nat × Nat × Bool × List Int32 × List Int32)) (i : Nat) : Bool := !aD D i && (List.range i).all (fun u => aD D u || !decide (sD D u = sD D i))
def firsts (D : List (Nat × Nat × Bool × List Int32 × List Int32)) : Nat → List Nat
  | 0 => []
  | i + 1 => if isF D i = true then i :: firsts D i else firsts D i
theorem firsts_mem {D : List (Nat × Nat × Bool × List Int32 × List Int32)} : ∀ i j, j ∈ firsts D i → j < i ∧ isF D j = true := by
  intro i
  induction i with
  | zero => intro j h; exact absurd h List.not_mem_nil
  | succ i ih =>
    intro j h
    rw [firsts] at h
    by_cases c : isF D i = true
    · rw [if_pos c] at h
      rcases List.mem_cons.mp h with q | q
      · rw [q]; exact ⟨by omega, c⟩
      · have := ih j q; exact ⟨by omega, this.2⟩
    · rw [if_neg c] at h
      have := ih j h; exact ⟨by omega, this.2⟩
theorem firsts_len {D : List (Nat × Nat × Bool × List Int32 × List Int32)} : ∀ i, (firsts D i).length ≤ i := by
  intro i
  induction i with
  | zero => exact Nat.le_refl _
  | succ i ih =>
    rw [firsts]
    split
    · rw [List.length_cons]; omega
    · omega
theorem isF_false {D : List (Nat × Nat × Bool × List Int32 × List Int32)} {i : Nat} (ha : aD D i = false) (h : isF D i = false) : ∃ u, u < i ∧ aD D u = false ∧ sD D u = sD D i := by
  rw [isF, ha, Bool.not_false, Bool.true_and] at h
  rw [List.all_eq_false] at h
  obtain ⟨u, hu, hq⟩ := h
  rw [List.mem_range] at hu
  refine ⟨u, hu, ?_⟩
  cases ea : aD D u with
  | true => rw [ea] at hq; simp at hq
  | false => rw [ea] at hq; simp at hq; exact ⟨rfl, hq⟩
theorem isF_true {D : List (Nat × Nat × Bool × List Int32 × List Int32)} {i u : Nat} (h : isF D i = true) (hu : u < i) (ha : aD D u = false) : ¬ sD D u = sD D i := by
  rw [isF, Bool.and_eq_true, List.all_eq_true] at h
  have := h.2 u (List.mem_range.mpr hu)
  rw [ha] at this
  simpa using this
theorem firsts_cover {D : List (Nat × Nat × Bool × List Int32 × List Int32)} : ∀ i u, u < i → aD D u = false → ∃ j, j ∈ firsts D i ∧ sD D j = sD D u := by
  intro i
  induction i with
  | zero => intro u hu; exact absurd hu (Nat.not_lt_zero _)
  | succ i ih =>
    intro u hu ha
    have up : ∀ j, j ∈ firsts D i → j ∈ firsts D (i + 1) := by
      intro j hj
      rw [firsts]
      split
      · exact List.mem_cons_of_mem _ hj
      · exact hj
    rcases Nat.lt_or_ge u i with q | q
    · obtain ⟨j, h1, h2⟩ := ih u q ha
      exact ⟨j, up j h1, h2⟩
    · have e : u = i := by omega
      subst e
      cases c : isF D u with
      | true => exact ⟨u, by rw [firsts, if_pos c]; exact List.mem_cons_self, rfl⟩
      | false =>
        obtain ⟨v, v1, v2, v3⟩ := isF_false ha c
        obtain ⟨j, h1, h2⟩ := ih v v1 v2
        exact ⟨j, up j h1, by rw [h2, v3]⟩
def linked (nx : Nat → Int32) : Int32 → List Nat → Prop
  | x, [] => x = -1
  | x, j :: l => x = nI j ∧ linked nx (nx j) l
theorem linked_congr {nx nx' : Nat → Int32} : ∀ (l : List Nat) (x : Int32), (∀ j ∈ l, nx' j = nx j) → linked nx x l → linked nx' x l := by
  intro l
  induction l with
  | nil => intro x _ h; exact h
  | cons j l ih =>
    intro x hc h
    refine ⟨h.1, ?_⟩
    rw [hc j List.mem_cons_self]
    exact ih _ (fun y hy => hc y (List.mem_cons_of_mem _ hy)) h.2
def chainI (D : List (Nat × Nat × Bool × List Int32 × List Int32)) (m : Nat) (sl nx : Nat → Int32) : Prop := ∀ h, h < 128 → linked nx (sl h) ((firsts D m).filter (fun j => decide (slotN (sD D j) = h)))
theorem kx_exists {post : Int32 → Prop} {N : Nat} {x : Int32} (hN : N < 2 ^ 31) (h1 : ∀ j, j < N → x = nI j → post 1) (h0 : (x < 0 ∨ nI N ≤ x) → post 0) : wpX6_exists post (nI N) x := by
  refine ⟨fun q => h0 (Or.inl q), fun q => ⟨fun q2 => h0 (Or.inr q2), fun q2 => ?_⟩⟩
  rcases pk_ix x hN with z | z | ⟨j, hj, e⟩
  · exact absurd z q
  · exact absurd z q2
  · exact h1 j hj e
theorem kx_enter_loop {post : Int32 → (Nat → Int32) → (Nat → Int32) → Prop} {D : List (Nat × Nat × Bool × List Int32 × List Int32)} {i : Nat} {kd : Int32} {cb cl sl cp ca sm ts so nx : Nat → Int32} {x2 : Int32} (hG : genD D) (hB : baseX D cb cl cp ca sm) (hS : stX D (i + 1) sl ts) (hi : i < D.length) :
    ∀ (l : List Nat) (x4 : Nat) (x : Int32), linked nx x l → (∀ j ∈ l, j < i) → x4 + l.length ≤ i → ((∃ j ∈ l, sD D j = sD D i) → post kd so nx) → ((∀ j ∈ l, ¬ sD D j = sD D i) → wjX6_enterStem_56 post (nI D.length) cb sl ca sm ts (nI i) kd so nx x2) → wlX6_enterStem_16 post (nI D.length) cb sl ca sm ts (nI i) kd so nx x2 (l.length + 1) x (nI x4) := by
  have h9 := hG.1
  intro l
  induction l with
  | nil =>
    intro x4 x hl hj hx hY hN
    have hl : x = -1 := hl
    have n0 := hN (fun j hj => absurd hj List.not_mem_nil)
    refine ⟨fun _ => n0, fun _ => kx_exists (by omega) (fun j hj e => ?_) (fun _ => ⟨fun _ => n0, fun q => absurd rfl q⟩)⟩
    rw [hl] at e
    have : (nI j).toInt = (j : Int) := nI_toInt (by omega)
    rw [← e] at this
    simp at this
  | cons j l ih =>
    intro x4 x hl hj hx hY hN
    rw [List.length_cons] at hx
    obtain ⟨l1, l2⟩ := hl
    have hji := hj j List.mem_cons_self
    subst l1
    refine ⟨fun q => absurd ((nI_leI (by omega) (by omega)).mp q) (by omega), fun _ => kx_exists (by omega) (fun j' hj' e => ⟨fun q => absurd q (by decide), fun _ => ?_⟩) (fun c => ?_)⟩
    · refine kx_same hG hB hS (by omega) (by omega) (by omega) (b_ifz (fun z => ⟨vp_in_nI (by omega) (by omega), fun y ey y2 ey2 => ?_⟩) (fun z => hY ⟨j, List.mem_cons_self, (of_decide_eq_true z).symm⟩))
      rw [ey, ey2, nI_1, nI_clamp (by omega)]
      refine ih (x4 + 1) _ l2 (fun y hy => hj y (List.mem_cons_of_mem _ hy)) (by omega) (fun ⟨y, hy, hs⟩ => hY ⟨y, List.mem_cons_of_mem _ hy, hs⟩) (fun hn => hN (fun y hy => ?_))
      rcases List.mem_cons.mp hy with q | q
      · rw [q]; exact fun e => of_decide_eq_false z e.symm
      · exact hn y q
    · rcases c with c | c
      · exact absurd c (nI_pos (by omega))
      · exact absurd ((nI_leI (by omega) (by omega)).mp c) (by omega)
theorem kx_enter {post : Int32 → (Nat → Int32) → (Nat → Int32) → Prop} {D : List (Nat × Nat × Bool × List Int32 × List Int32)} {i : Nat} {cb cl sl cp ca sm ts so nx : Nat → Int32} (hG : genD D) (hB : baseX D cb cl cp ca sm) (hS : stX D (i + 1) sl ts) (hi : i < D.length) (ha : aD D i = false) (hC : chainI D i so nx)
    (H : ∀ so' nx', chainI D (i + 1) so' nx' → post (nI (firsts D (i + 1)).length) so' nx') : wpX6_enterStem post (nI D.length) (nI (firsts D i).length) cb sl ca sm ts so nx (nI i) := by
  have h9 := hG.1
  obtain ⟨s1, s2⟩ := slot_nI (sD D i)
  refine kx_slot hG hB hS (by omega) (by omega) ⟨vp_in_nI (by omega) (by omega), fun x ex => ?_⟩
  rw [nI_clamp (by omega)] at ex
  subst ex
  have hmem : ∀ j, j ∈ (firsts D i).filter (fun j => decide (slotN (sD D j) = slotN (sD D i))) → j < i ∧ isF D j = true := fun j hj => firsts_mem i j (List.mem_filter.mp hj).1
  have hlen : ((firsts D i).filter (fun j => decide (slotN (sD D j) = slotN (sD D i)))).length ≤ i := Nat.le_trans (List.length_filter_le _ _) (firsts_len i)
  refine ⟨_, kx_enter_loop hG hB hS hi _ 0 _ (hC _ s2) (fun j hj => (hmem j hj).1) (by omega) (fun ⟨j, hj, hs⟩ => ?_) (fun hn => ?_)⟩
  · have nf : isF D i = false := by
      cases c : isF D i with
      | false => rfl
      | true =>
        have hj2 := hmem j hj
        have haj : aD D j = false := by
          have := hj2.2
          rw [isF, Bool.and_eq_true] at this
          simpa using this.1
        exact absurd hs (isF_true c hj2.1 haj)
    have e : firsts D (i + 1) = firsts D i := by rw [firsts, if_neg (by rw [nf]; decide)]
    have := H so nx (by rw [chainI, e]; exact hC)
    rw [e] at this
    exact this
  · have nf : isF D i = true := by
      cases c : isF D i with
      | true => rfl
      | false =>
        obtain ⟨u, u1, u2, u3⟩ := isF_false ha c
        obtain ⟨j, j1, j2⟩ := firsts_cover i u u1 u2
        exact absurd (j2.trans u3) (hn j (List.mem_filter.mpr ⟨j1, decide_eq_true (by rw [j2, u3])⟩))
    have e : firsts D (i + 1) = i :: firsts D i := by rw [firsts, if_pos nf]
    have hin : vp_in (nI (slotN (sD D i))) 128 := vp_in_nI (by omega) (by omega)
    refine ⟨hin, vp_in_nI (by omega) (by omega), hin, fun y ey => ?_⟩
    rw [ey, nI_1, nI_clamp (by omega), nI_clamp (by omega)]
    have := H (upd so (slotN (sD D i)) (nI i)) (upd nx i (so (slotN (sD D i)))) (fun h hh => by
      rw [e]
      have keep : ∀ x, linked nx x ((firsts D i).filter (fun j => decide (slotN (sD D j) = h))) → linked (upd nx i (so (slotN (sD D i)))) x ((firsts D i).filter (fun j => decide (slotN (sD D j) = h))) := fun x hx => linked_congr _ _ (fun j hj => pk_un (by have := (firsts_mem i j (List.mem_filter.mp hj).1).1; omega)) hx
      by_cases c : slotN (sD D i) = h
      · rw [List.filter_cons_of_pos (by exact decide_eq_true c)]
        subst c
        exact ⟨pk_us, by rw [pk_us]; exact keep _ (hC _ hh)⟩
      · rw [List.filter_cons_of_neg (by rw [decide_eq_false c]; decide), pk_un (fun q => c q.symm)]
        exact keep _ (hC h hh))
    rw [e, List.length_cons] at this
    exact this
theorem kx_find_loop {post : Int32 → Int32 → (Nat → Int32) → (Nat → Int32) → (Nat → Int32) → (Nat → Int32) → (Nat → Int32) → (Nat → Int32) → Prop} {D : List (Nat × Nat × Bool × List Int32 × List Int32)} {cb cl cp ca sm : Nat → Int32} (hG : genD D) (hB : baseX D cb cl cp ca sm)
    (H : ∀ (z : Int32) (wo vo sl ts so nx : Nat → Int32), stX D D.length sl ts → post z (nI (firsts D D.length).length) wo vo sl ts so nx) :
    ∀ (g i : Nat) (z : Int32) (wo vo sl ts so nx : Nat → Int32), D.length - i = g → i ≤ D.length → stX D i sl ts → chainI D i so nx → wlX6_findStems_29 post (nI D.length) cb cl ca sm (g + 1) z (nI (firsts D i).length) wo vo sl ts so nx (nI i) := by
  have h9 := hG.1
  intro g
  induction g with
  | zero =>
    intro i z wo vo sl ts so nx hg hi hS hC
    have e : i = D.length := by omega
    subst e
    exact ⟨fun _ => H z wo vo sl ts so nx hS, fun q => absurd (nI_le (Nat.le_refl _) (by omega)) q⟩
  | succ g ih =>
    intro i z wo vo sl ts so nx hg hi hS hC
    have hiD : i < D.length := by omega
    obtain ⟨g1, g2, g3, g4⟩ := hG.2.1 i hiD
    obtain ⟨b1, b2, b3, b4, b5⟩ := hB i hiD
    have hin : vp_in (nI i) 900 := vp_in_nI (by omega) (by omega)
    refine ⟨fun q => absurd ((nI_leI (by omega) (by omega)).mp q) (by omega), fun _ => ⟨hin, ?_⟩⟩
    rw [nI_clamp (by omega), b4, b1, b2]
    refine b_ifz (fun a => ⟨hin, hin, ?_⟩) (fun a => ⟨hin, hin, fun y ey => ?_⟩)
    · have ew : wAt sm (bD D i) (wD D i).length = wD D i := list_ext (wAt_len _ _ _) (fun k hk => by
        rw [wAt_len] at hk
        rw [wAt_get _ _ _ _ hk]; exact b5 k hk)
      have eS : stemF (wD D i) = sD D i := by rw [g4, a]; rfl
      refine kx_stem g3 g1 (fun wo' vo' ts' h1 h2 => ⟨hin, ?_⟩)
      rw [ew, eS] at h1 h2 ⊢
      have hS' : stX D (i + 1) (upd sl i (nI (sD D i).length)) ts' := by
        intro j hj
        rcases Nat.lt_or_ge j i with q | q
        · obtain ⟨s1, s2⟩ := hS j q
          refine ⟨by rw [pk_un (by omega)]; exact s1, fun aj k hk => ?_⟩
          have sp := hG.2.2 j i q hiD aj a
          have gj := hG.2.1 j (by omega)
          rw [h2 _ (Or.inl (by omega))]; exact s2 aj k hk
        · have e : j = i := by omega
          subst e
          exact ⟨pk_us, fun _ => h1⟩
      refine kx_enter hG hB hS' hiD a hC (fun so' nx' hC' y ey => ?_)
      rw [ey, nI_1]
      exact ih (i + 1) _ _ _ _ _ _ _ (by omega) (by omega) hS' hC'
    · rw [ey, nI_1]
      have nf : isF D i = false := by rw [isF, a]; rfl
      have e : firsts D (i + 1) = firsts D i := by rw [firsts, if_neg (by rw [nf]; decide)]
      have eS : sD D i = wD D i := by rw [g4, a]; rfl
      have := ih (i + 1) z wo vo (upd sl i (nI (wD D i).length)) ts so nx (by omega) (by omega) (fun j hj => by
        rcases Nat.lt_or_ge j i with q | q
        · obtain ⟨s1, s2⟩ := hS j q
          exact ⟨by rw [pk_un (by omega)]; exact s1, s2⟩
        · have ej : j = i := by omega
          subst ej
          exact ⟨by rw [pk_us, eS], fun c => by rw [a] at c; cases c⟩) (by rw [chainI, e]; exact hC)
      rw [e] at this
      exact this
theorem kx_findStems {post : Int32 → Int32 → (Nat → Int32) → (Nat → Int32) → (Nat → Int32) → (Nat → Int32) → (Nat → Int32) → (Nat → Int32) → Prop} {D : List (Nat × Nat × Bool × List Int32 × List Int32)} {cb cl cp ca sm wo vo sl ts so nx : Nat → Int32} {z kd : Int32} (hG : genD D) (hB : baseX D cb cl cp ca sm)
    (H : ∀ (z : Int32) (wo vo sl ts so nx : Nat → Int32), stX D D.length sl ts → post z (nI (firsts D D.length).length) wo vo sl ts so nx) : wpX6_findStems post z (nI D.length) kd wo vo cb cl sl ca sm ts so nx := by
  have loop : ∀ (g h : Nat) (so : Nat → Int32), 128 - h = g → h ≤ 128 → (∀ j, j < h → so j = -1) → wlX6_findStems_7 post (nI D.length) cb cl ca sm z 0 wo vo sl ts nx (g + 1) so (nI h) := by
    intro g
    induction g with
    | zero =>
      intro h so hg hh hs
      have e : h = 128 := by omega
      subst e
      exact ⟨fun _ => ⟨D.length + 1, kx_find_loop hG hB H D.length 0 z wo vo sl ts so nx (by omega) (Nat.zero_le _) (fun j hj => absurd hj (Nat.not_lt_zero _)) (fun h hh => hs h hh)⟩, fun q => absurd (by decide) q⟩
    | succ g ih =>
      intro h so hg hh hs
      refine ⟨fun q => absurd ((nI_leI (a := 128) (by decide) (by omega)).mp q) (by omega), fun _ => ⟨vp_in_nI (by omega) (by omega), fun y ey => ?_⟩⟩
      rw [ey, nI_1, nI_clamp (by omega)]
      refine ih (h + 1) _ (by omega) (by omega) (fun j hj => ?_)
      rcases Nat.lt_or_ge j h with q | q
      · rw [pk_un (by omega)]; exact hs j q
      · rw [show j = h by omega, pk_us]
  exact ⟨129, loop 128 0 so (by omega) (by omega) (fun j hj => absurd hj (Nat.not_lt_zero _))⟩
