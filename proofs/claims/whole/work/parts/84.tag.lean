/-! PURE 45: a tag (both sides) -/
def hidE (g : Nat → Int32) (n : Nat) (w : List Int32) (k : Nat) : Nat := if w = sB 14 then firstE (isEnd g (sB 14)) n k else if w = sB 15 then firstE (isEnd g (sB 15)) n k else if w = sB 16 then firstE (isEnd g (sB 16)) n k else k
theorem hid_no {g : Nat → Int32} {n k : Nat} {w : List Int32} (h14 : ¬ w = sB 14) (h15 : ¬ w = sB 15) (h16 : ¬ w = sB 16) : hidE g n w k = k := by rw [hidE, if_neg h14, if_neg h15, if_neg h16]
theorem hid_bd {g : Nat → Int32} {n k : Nat} {w : List Int32} (hk : k ≤ n) : k ≤ hidE g n w k ∧ hidE g n w k ≤ n := by
  rw [hidE]
  split
  · exact firstE_bd _ k rfl hk
  · split
    · exact firstE_bd _ k rfl hk
    · split
      · exact firstE_bd _ k rfl hk
      · exact ⟨Nat.le_refl _, hk⟩
def tagR (g : Nat → Int32) (n a : Nat) (e : Bool) (o : List Int32) (w : Bool) : List Int32 × Bool × Nat :=
  if nmL g a (nameE g n a) = sB 0 then (brkL (w && !e) o, !e, tagE g n (nameE g n a) (-1) false)
  else if brkN (nmL g a (nameE g n a)) = true then (brkL w o, w, tagE g n (nameE g n a) (-1) false)
  else if nmL g a (nameE g n a) = sB 12 ∨ nmL g a (nameE g n a) = sB 13 then (blkL w o 32, w, tagE g n (nameE g n a) (-1) false)
  else if e = true then (o, w, tagE g n (nameE g n a) (-1) false)
  else (o, w, hidE g n (nmL g a (nameE g n a)) (tagE g n (nameE g n a) (-1) false))
theorem kx_hidden {post : Int32 → Prop} {g tx : Nat → Int32} {n a f e k : Nat} (hn : n ≤ 1500) (hA : ∀ j, a ≤ j → gF tx n j = g j) (ha : a ≤ f) (hf : f ≤ e) (he : e ≤ n) (hak : a ≤ k) (hk : k ≤ n) (h : post (nI (hidE g n (nmL g f e) k))) : wpX3_behindHidden post (nI n) tx (nI f) (nI e) (nI k) := by
  rw [hidE] at h
  refine kx_isNamed hn hA ha hf he (by decide) (b_ifz (fun z => kx_isNamed hn hA ha hf he (by decide) (b_ifz (fun z2 => kx_isNamed hn hA ha hf he (by decide) (b_ifz (fun z3 => ?_) (fun z3 => ?_))) (fun z2 => ?_))) (fun z => ?_))
  · rw [if_neg (of_decide_eq_false z), if_neg (of_decide_eq_false z2), if_neg (of_decide_eq_false z3)] at h; exact h
  · rw [if_neg (of_decide_eq_false z), if_neg (of_decide_eq_false z2), if_pos (of_decide_eq_true z3)] at h
    exact kx_ending hn hA hak hk (by decide) h
  · rw [if_neg (of_decide_eq_false z), if_pos (of_decide_eq_true z2)] at h
    exact kx_ending hn hA hak hk (by decide) h
  · rw [if_pos (of_decide_eq_true z)] at h
    exact kx_ending hn hA hak hk (by decide) h
theorem kx_readTag {post : Int32 → Int32 → Int32 → (Nat → Int32) → Prop} {g tx : Nat → Int32} {n k a : Nat} {o : List Int32} {w e : Bool} (hn : n ≤ 1500) (hP : PX g n k o tx) (hk : k < n) (ha : k + 1 ≤ a) (han : a ≤ n)
    (H : ∀ tx', PX g n (k + 1) (tagR g n a e o w).1 tx' → post (nI (tagR g n a e o w).2.2) (nI (tagR g n a e o w).1.length) (b2i (tagR g n a e o w).2.1) tx') : wpX3_readTag post (nI o.length) (b2i w) (nI n) tx (nI a) (b2i e) := by
  have hA := hP.2.2
  obtain ⟨n1, n2, n3⟩ := nameE_spec (g := g) (n := n) _ a rfl han
  refine kx_name hn hA (by omega) han (kx_tagEnd hn hA (by omega) n2 ?_)
  obtain ⟨t1, t2⟩ := tagE_bd (g := g) (n := n) _ (nameE g n a) (-1) false rfl n2
  rw [tagR] at H
  generalize tagE g n (nameE g n a) (-1) false = beh at H t1 t2 ⊢
  refine kx_isNamed hn hA (by omega) n1 n2 (by decide) (b_ifz (fun z => kx_isBreak hn hA (by omega) n1 n2 (b_ifz (fun z2 => kx_isNamed hn hA (by omega) n1 n2 (by decide) (b_if (fun z3 => ?_) (fun z3 => kx_isNamed hn hA (by omega) n1 n2 (by decide) (b_ifz (fun z4 => b_if (fun z5 => ?_) (fun z5 => ?_)) (fun z4 => ?_))))) (fun z2 => ?_))) (fun z => ?_))
  · rw [if_neg (of_decide_eq_false z), if_neg (by rw [z2]; decide), if_pos (Or.inl (of_decide_eq_true z3))] at H
    exact kx_blank hn hP hk (fun tx' h' => H tx' h')
  · rw [if_neg (of_decide_eq_false z), if_neg (by rw [z2]; decide), if_neg (fun c => by rcases c with c | c; exact of_decide_eq_false z3 c; exact of_decide_eq_false z4 c), if_pos z5] at H
    exact H tx (PX_mono hP (by omega))
  · rw [if_neg (of_decide_eq_false z), if_neg (by rw [z2]; decide), if_neg (fun c => by rcases c with c | c; exact of_decide_eq_false z3 c; exact of_decide_eq_false z4 c), if_neg (by rw [z5]; decide)] at H
    exact kx_hidden hn hA (by omega) n1 n2 (by omega) t2 (H tx (PX_mono hP (by omega)))
  · rw [if_neg (of_decide_eq_false z), if_neg (by rw [z2]; decide), if_pos (Or.inr (of_decide_eq_true z4))] at H
    exact kx_blank hn hP hk (fun tx' h' => H tx' h')
  · rw [if_neg (of_decide_eq_false z), if_pos z2] at H
    exact kx_break hn hP hk (fun tx' h' => H tx' h')
  · rw [if_pos (of_decide_eq_true z)] at H
    have e41 : ∀ b : Bool, (w && !e) = b → wjX3_readTag_41 post (nI n) (nI a) (b2i e) (nI o.length) (b2i w) tx (nI beh) (b2i b) := by
      intro b eb
      rw [eb] at H
      refine ⟨b2i_bN b, kx_break hn hP hk (fun tx' h' => b_if (fun z5 => ?_) (fun z5 => ?_))⟩
      · rw [z5] at H; exact ⟨bN0, H tx' h'⟩
      · rw [z5] at H; exact ⟨bN1, H tx' h'⟩
    exact b_ifz (fun z5 => e41 false (by rw [z5]; rfl)) (fun z5 => b_if (fun z6 => e41 false (by rw [z6]; simp)) (fun z6 => e41 true (by rw [z5, z6]; rfl)))
theorem km_readTag {post : Int32 → Int32 → Int32 → (Nat → Int32) → Prop} {g tx f : Nat → Int32} {n k a : Nat} {o : List Int32} {w e : Bool} (hn : n ≤ 1500) (hA : ∀ j, gF tx n j = g j) (hr : rW f o) (ho : o.length ≤ 1500) (hk : k < n) (hs : e = decide (g (k + 1) = 47)) (ha : a = k + (if e = true then 2 else 1)) (han : a ≤ n)
    (H : ∀ f', rW f' (tagR g n a e o w).1 → post (nI (tagR g n a e o w).1.length) (nI (tagR g n a e o w).2.2) (b2i (tagR g n a e o w).2.1) f') : wpX8_readTag post (nI n) (nI o.length) (nI k) (b2i w) tx f := by
  obtain ⟨n1, n2, n3⟩ := nameE_spec (g := g) (n := n) _ a rfl han
  obtain ⟨t1, t2⟩ := tagE_bd (g := g) (n := n) _ (nameE g n a) (-1) false rfl n2
  have hw := nm_okC n3
  have hsB : ∀ i, i = 14 ∨ i = 15 ∨ i = 16 → ∀ b ∈ sB i, b.toInt < 192 := by
    intro i hi
    rcases hi with u | u | u <;> subst u <;> decide +kernel
  have e0 := nameV_eq (C := 7369317) hw (okB_of (bs := sB 0) (by decide +kernel)) (by decide) (by decide) (by decide +kernel)
  have e12 := nameV_eq (C := 29796) hw (okB_of (bs := sB 12) (by decide +kernel)) (by decide) (by decide) (by decide +kernel)
  have e13 := nameV_eq (C := 29800) hw (okB_of (bs := sB 13) (by decide +kernel)) (by decide) (by decide) (by decide +kernel)
  have e14 := nameV_eq (C := 126870958469236) hw (okB_of (bs := sB 14) (by decide +kernel)) (by decide) (by decide) (by decide +kernel)
  have e15 := nameV_eq (C := 495875353701) hw (okB_of (bs := sB 15) (by decide +kernel)) (by decide) (by decide) (by decide +kernel)
  have e16 := nameV_eq (C := 499985443941) hw (okB_of (bs := sB 16) (by decide +kernel)) (by decide) (by decide) (by decide +kernel)
  have tn : tagE g n a (-1) false = tagE g n (nameE g n a) (-1) false := tagE_name _ a rfl han
  have main : wjX8_readTag_34 post (nI n) tx (nI o.length) (nI k) (b2i w) f (b2i e) (nI (if e = true then 2 else 1)) (nI k) := by
    intro y ey
    rw [nI_add, ← ha] at ey
    subst ey
    refine km_nameAt hn hA han (km_tagEnd hn hA han ?_)
    rw [tn]
    rw [tagR] at H
    generalize tagE g n (nameE g n a) (-1) false = beh at H t1 t2 ⊢
    generalize nmL g a (nameE g n a) = nm at H hw e0 e12 e13 e14 e15 e16 ⊢
    have j118 : ∀ (o' : List Int32) (w' : Bool) (f' : Nat → Int32), post (nI o'.length) (nI (if e = true then beh else hidE g n nm beh)) (b2i w') f' → wjX8_readTag_118 post (nI n) tx (nI o'.length) (nI beh) (b2i w') f' (b2i e) (nameV nm) := by
      intro o' w' f' hp
      rw [wjX8_readTag_118, e14, e15, e16]
      refine b_if (fun z => ?_) (fun z => ?_)
      · rw [if_pos z] at hp; exact hp
      · rw [if_neg (by rw [z]; decide), hidE] at hp
        refine ⟨fun c => ?_, fun c => ⟨fun c2 => ?_, fun c2 => ⟨fun c3 => ?_, fun c3 => ?_⟩⟩⟩
        · rw [if_pos c] at hp
          rw [c]
          exact km_skip (bs := sB 14) hn hA t2 (by decide +kernel) (hsB 14 (by omega)) hp
        · rw [if_neg c, if_pos c2] at hp
          rw [c2]
          exact km_skip (bs := sB 15) hn hA t2 (by decide +kernel) (hsB 15 (by omega)) hp
        · rw [if_neg c, if_neg c2, if_neg c3] at hp; exact hp
        · rw [if_neg c, if_neg c2, if_pos c3] at hp
          rw [c3]
          exact km_skip (bs := sB 16) hn hA t2 (by decide +kernel) (hsB 16 (by omega)) hp
    -- a name that hides nothing and is no td, th
    have j96 : ∀ (o' : List Int32) (w' : Bool) (f' : Nat → Int32), ¬ nm = sB 12 → ¬ nm = sB 13 → post (nI o'.length) (nI (if e = true then beh else hidE g n nm beh)) (b2i w') f' → wjX8_readTag_96 post (nI n) tx (nI o'.length) (nI beh) (b2i w') f' (b2i e) (nameV nm) := by
      intro o' w' f' c12 c13 hp
      rw [wjX8_readTag_96, e12, e13]
      exact ⟨fun c => absurd c c12, fun _ => ⟨fun _ => j118 o' w' f' hp, fun c => absurd c c13⟩⟩
    have ie : ∀ m : Nat, (if e = true then m else m) = m := fun m => by split <;> rfl
    by_cases c0 : nm = sB 0
    · rw [if_pos c0] at H
      have hh : hidE g n nm beh = beh := hid_no (by rw [c0]; decide) (by rw [c0]; decide) (by rw [c0]; decide)
      have go : ∀ b : Bool, (w && !e) = b → (b = false ∨ b = w) → wjX8_readTag_68 post (nI n) tx (nI o.length) (nI beh) (b2i b) f (b2i e) (nameV nm) := by
        intro b eb hb
        rw [eb] at H
        refine km_breaks hw ?_
        rw [decide_eq_true c0, Bool.true_or]
        refine ⟨fun q => absurd q (by decide), fun _ => km_break hr (by omega) (fun f' h' => ?_)⟩
        have H := H f' h'
        rw [wjX8_readTag_79, e0]
        refine ⟨fun c => absurd c0 c, fun _ => b_if (fun z => ?_) (fun z => ?_)⟩
        · have hbf : b = false := by rw [z] at eb; simpa using eb.symm
          subst hbf
          refine j96 _ false f' (by rw [c0]; decide) (by rw [c0]; decide) ?_
          rw [hh, ie]
          rw [z] at H; exact H
        · refine j96 _ true f' (by rw [c0]; decide) (by rw [c0]; decide) ?_
          rw [hh, ie]
          rw [z] at H; exact H
      rw [e0]
      refine ⟨fun c => absurd c0 c, fun _ => b_ifz (fun z => go w (by rw [z]; simp) (Or.inr rfl)) (fun z => go false (by rw [z]; simp) (Or.inl rfl))⟩
    · rw [if_neg c0] at H
      rw [e0]
      refine ⟨fun _ => km_breaks hw ?_, fun c => absurd c c0⟩
      rw [decide_eq_false c0, Bool.false_or]
      have j79 : ∀ (o' : List Int32) (f' : Nat → Int32), wjX8_readTag_96 post (nI n) tx (nI o'.length) (nI beh) (b2i w) f' (b2i e) (nameV nm) → wjX8_readTag_79 post (nI n) tx (nI o'.length) (nI beh) (b2i w) f' (b2i e) (nameV nm) := by
        intro o' f' hp
        rw [wjX8_readTag_79, e0]
        exact ⟨fun _ => hp, fun c => absurd c c0⟩
      refine b_ifz (fun z => j79 _ _ ?_) (fun z => km_break hr (by omega) (fun f' h' => j79 _ _ ?_))
      · rw [if_neg (by rw [z]; decide)] at H
        by_cases ct : nm = sB 12 ∨ nm = sB 13
        · rw [if_pos ct] at H
          have hh : hidE g n nm beh = beh := by
            rcases ct with c | c
            · exact hid_no (by rw [c]; decide) (by rw [c]; decide) (by rw [c]; decide)
            · exact hid_no (by rw [c]; decide) (by rw [c]; decide) (by rw [c]; decide)
          have e112 : wjX8_readTag_112 post (nI n) tx (nI o.length) (nI beh) (b2i w) f (b2i e) (nameV nm) := by
            refine km_blank hr (by omega) (fun f' h' => j118 _ w f' ?_)
            rw [hh, ie]
            exact H f' h'
          rw [wjX8_readTag_96, e12, e13]
          exact ⟨fun _ => e112, fun c => ⟨fun c2 => absurd ct (fun u => by rcases u with u | u; exact c u; exact c2 u), fun _ => e112⟩⟩
        · rw [if_neg ct] at H
          refine j96 o w f (fun c => ct (Or.inl c)) (fun c => ct (Or.inr c)) ?_
          cases e with
          | true => rw [if_pos rfl] at H ⊢; exact H f hr
          | false => rw [if_neg (by decide)] at H ⊢; exact H f hr
      · rw [if_pos z] at H
        have no : ∀ i, brkN (sB i) = false → ¬ nm = sB i := fun i hi c => by rw [c, hi] at z; cases z
        refine j96 _ w f' (no 12 (by decide +kernel)) (no 13 (by decide +kernel)) ?_
        rw [hid_no (no 14 (by decide +kernel)) (no 15 (by decide +kernel)) (no 16 (by decide +kernel)), ie]
        exact H f' h'
  rw [wpX8_readTag, nI_1]
  refine km_lookA hn hA (by omega) ⟨fun c => ⟨fun _ => ?_, fun q => absurd rfl q⟩, fun c => ⟨fun q => absurd q (by decide), fun _ => ?_⟩⟩
  · rw [decide_eq_false c] at hs
    subst hs
    exact main
  · rw [decide_eq_true c] at hs
    subst hs
    exact main
