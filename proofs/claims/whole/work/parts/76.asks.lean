/-! PURE 37: token, letter, different, often (both sides) -/
def inD (D : List (Nat × Nat × Bool × List Int32 × List Int32)) (x : Int32) : Prop := ∃ j, j < D.length ∧ x = nI j
def ansT (D : List (Nat × Nat × Bool × List Int32 × List Int32)) (x y : Int32) : Int32 :=
  if x.toInt < 0 ∨ (D.length : Int) ≤ x.toInt then -1
  else if y = 0 then nI (pD D x.toNatClampNeg)
  else if y = 1 then nI (wD D x.toNatClampNeg).length
  else if y = 2 then nI (sD D x.toNatClampNeg).length
  else if y = 3 then b2i (aD D x.toNatClampNeg)
  else if y = 4 then nI (bD D x.toNatClampNeg)
  else -1
theorem out_i {x : Int32} {N : Nat} (hN : N < 2 ^ 31) (h : x < 0 ∨ nI N ≤ x) : x.toInt < 0 ∨ (N : Int) ≤ x.toInt := by
  rcases h with h | h
  · rw [i_lt] at h; exact Or.inl (by simpa using h)
  · rw [i_le, nI_toInt hN] at h; exact Or.inr h
theorem in_i {j N : Nat} (hN : N < 2 ^ 31) (h : j < N) : ¬ ((nI j).toInt < 0 ∨ (N : Int) ≤ (nI j).toInt) := by
  rw [nI_toInt (by omega)]; omega
theorem kx_token {post : Int32 → Prop} {D : List (Nat × Nat × Bool × List Int32 × List Int32)} {cb cl sl cp ca sm ts : Nat → Int32} {x y : Int32} (hG : genD D) (hB : baseX D cb cl cp ca sm) (hS : stX D D.length sl ts) (h : post (ansT D x y)) : wpX7_token post (nI D.length) cb cl sl cp ca x y := by
  have h9 := hG.1
  unfold wpX7_token wpX6_tell
  refine kx_exists (by omega) (fun j hj e => ⟨fun _ => ?_, fun q => absurd q (by decide)⟩) (fun c => ⟨fun q => absurd rfl q, fun _ => ?_⟩)
  · subst e
    have hin : vp_in (nI j) 900 := vp_in_nI (by omega) (by omega)
    obtain ⟨b1, b2, b3, b4, b5⟩ := hB j hj
    have s1 := (hS j hj).1
    rw [ansT, if_neg (in_i (by omega) hj), nI_clamp (by omega)] at h
    rw [nI_clamp (by omega), b1, b2, b3, b4, s1]
    refine ⟨fun q => ⟨hin, ?_⟩, fun q => ⟨hin, ?_⟩, fun q => ⟨hin, ?_⟩, fun q => ⟨hin, ?_⟩, fun q => ⟨hin, ?_⟩, fun q0 q1 q2 q3 q4 => ?_⟩
    · rw [if_pos q] at h; exact h
    · rw [if_neg (by rw [q]; decide), if_pos q] at h; exact h
    · rw [if_neg (by rw [q]; decide), if_neg (by rw [q]; decide), if_pos q] at h; exact h
    · rw [if_neg (by rw [q]; decide), if_neg (by rw [q]; decide), if_neg (by rw [q]; decide), if_pos q] at h
      exact b_ifz (fun z => by rw [z] at h; exact h) (fun z => by rw [z] at h; exact h)
    · rw [if_neg (by rw [q]; decide), if_neg (by rw [q]; decide), if_neg (by rw [q]; decide), if_neg (by rw [q]; decide), if_pos q] at h; exact h
    · rw [if_neg q0, if_neg q1, if_neg q2, if_neg q3, if_neg q4] at h; exact h
  · rw [ansT, if_pos (out_i (by omega) c)] at h; exact h
theorem km_isToken {post : Int32 → Prop} {N : Nat} {x : Int32} (hN : N < 2 ^ 31) (h1 : ∀ j, j < N → x = nI j → post 1) (h0 : (x < 0 ∨ nI N ≤ x) → post 0) : wpX8_isToken post (nI N) x := kx_exists hN h1 h0
theorem km_token {post : Int32 → Int32 → Prop} {D : List (Nat × Nat × Bool × List Int32 × List Int32)} {pl bg tl sl ad le st : Nat → Int32} {x y th : Int32} (hG : genD D) (hT : tokM D pl bg tl sl ad le st) (h : post (ansT D x y) 0) : wpX8_token post th (nI D.length) pl bg tl sl ad x y := by
  have h9 := hG.1
  refine km_isToken (by omega) (fun j hj e => ⟨fun _ => ?_, fun q => absurd q (by decide)⟩) (fun c => ⟨fun q => absurd rfl q, fun _ => ?_⟩)
  · subst e
    have hin : vp_in (nI j) 2300 := vp_in_nI (by omega) (by omega)
    obtain ⟨a1, a2, a3, a4, a5, a6, a7⟩ := hT j hj
    rw [ansT, if_neg (in_i (by omega) hj), nI_clamp (by omega)] at h
    rw [nI_clamp (by omega), a1, a2, a3, a4, a5]
    refine ⟨fun q => ⟨hin, ?_⟩, fun q => ⟨hin, ?_⟩, fun q => ⟨hin, ?_⟩, fun q => ⟨hin, ?_⟩, fun q => ⟨hin, ?_⟩, fun q0 q1 q2 q3 q4 => ?_⟩
    · rw [if_pos q] at h; exact h
    · rw [if_neg (by rw [q]; decide), if_pos q] at h; exact h
    · rw [if_neg (by rw [q]; decide), if_neg (by rw [q]; decide), if_pos q] at h; exact h
    · rw [if_neg (by rw [q]; decide), if_neg (by rw [q]; decide), if_neg (by rw [q]; decide), if_pos q] at h
      exact b_ifz (fun z => by rw [aD, z] at h; exact h) (fun z => by rw [aD, z] at h; exact h)
    · rw [if_neg (by rw [q]; decide), if_neg (by rw [q]; decide), if_neg (by rw [q]; decide), if_neg (by rw [q]; decide), if_pos q] at h; exact h
    · rw [if_neg q0, if_neg q1, if_neg q2, if_neg q3, if_neg q4] at h; exact h
  · rw [ansT, if_pos (out_i (by omega) c)] at h; exact h
def ansC (D : List (Nat × Nat × Bool × List Int32 × List Int32)) (x y z : Int32) : Int32 :=
  if x.toInt < 0 ∨ (D.length : Int) ≤ x.toInt then -1
  else if z < 0 then -1
  else if y = 0 then (if z.toNatClampNeg < (wD D x.toNatClampNeg).length then (wD D x.toNatClampNeg).getD z.toNatClampNeg 0 else -1)
  else (if z.toNatClampNeg < (sD D x.toNatClampNeg).length then (sD D x.toNatClampNeg).getD z.toNatClampNeg 0 else -1)
theorem kx_letter {post : Int32 → Prop} {D : List (Nat × Nat × Bool × List Int32 × List Int32)} {cb cl sl cp ca sm ts : Nat → Int32} {x y z : Int32} (hG : genD D) (hB : baseX D cb cl cp ca sm) (hS : stX D D.length sl ts) (h : post (ansC D x y z)) : wpX7_letter post (nI D.length) cb cl sl ca sm ts x y z := by
  have h9 := hG.1
  unfold wpX7_letter wpX6_character
  refine kx_exists (by omega) (fun j hj e => ⟨fun q => absurd q (by decide), fun _ => ?_⟩) (fun c => ⟨fun _ => ?_, fun q => absurd rfl q⟩)
  · subst e
    have hin : vp_in (nI j) 900 := vp_in_nI (by omega) (by omega)
    obtain ⟨b1, b2, b3, b4, b5⟩ := hB j hj
    have s1 := (hS j hj).1
    obtain ⟨g1, g2, g3, g4⟩ := hG.2.1 j hj
    rw [ansC, if_neg (in_i (by omega) hj), nI_clamp (by omega)] at h
    refine ⟨fun q => ?_, fun q => ?_⟩
    · rw [if_pos q] at h; exact h
    · rw [if_neg q] at h
      obtain ⟨k, hk, rfl⟩ := nI_of q
      rw [nI_clamp hk] at h
      rw [nI_clamp (by omega), b2, s1]
      refine ⟨fun q2 => ⟨hin, ?_⟩, fun q2 => ⟨hin, ?_⟩⟩
      · rw [if_pos q2] at h
        refine ⟨fun q3 => ⟨fun _ => ⟨hin, ?_⟩, fun c => absurd q2 c⟩, fun q3 => ?_⟩
        · rw [nI_ltI hk (by omega)] at q3
          rw [if_pos q3] at h
          rw [nI_clamp (by omega), b1, nI_add]
          exact kx_chW (by omega) (by rw [b5 k q3]; exact h)
        · rw [nI_ltI hk (by omega)] at q3
          rw [if_neg q3] at h; exact h
      · rw [if_neg q2] at h
        refine ⟨fun q3 => ⟨fun c => absurd c q2, fun _ => ?_⟩, fun q3 => ?_⟩
        · rw [nI_ltI hk (by omega)] at q3
          rw [if_pos q3] at h
          exact kx_stemChar hG hB hS (Nat.le_refl _) hj q3 h
        · rw [nI_ltI hk (by omega)] at q3
          rw [if_neg q3] at h; exact h
  · rw [ansC, if_pos (out_i (by omega) c)] at h; exact h
theorem km_letter {post : Int32 → Int32 → Prop} {D : List (Nat × Nat × Bool × List Int32 × List Int32)} {pl bg tl sl ad le st : Nat → Int32} {x y z th : Int32} (hG : genD D) (hT : tokM D pl bg tl sl ad le st) (h : post (ansC D x y z) 0) : wpX8_letter post th (nI D.length) tl sl le st x y z := by
  have h9 := hG.1
  refine km_isToken (by omega) (fun j hj e => ⟨fun q => absurd q (by decide), fun _ => ?_⟩) (fun c => ⟨fun _ => ?_, fun q => absurd rfl q⟩)
  · subst e
    have hin : vp_in (nI j) 2300 := vp_in_nI (by omega) (by omega)
    obtain ⟨a1, a2, a3, a4, a5, a6, a7⟩ := hT j hj
    obtain ⟨g1, g2, g3, g4⟩ := hG.2.1 j hj
    rw [ansC, if_neg (in_i (by omega) hj), nI_clamp (by omega)] at h
    refine ⟨fun q => ?_, fun q => ?_⟩
    · rw [if_pos q] at h; exact h
    · rw [if_neg q] at h
      obtain ⟨k, hk, rfl⟩ := nI_of q
      rw [nI_clamp hk] at h
      rw [nI_clamp (by omega), a3, a4]
      refine ⟨fun q2 => ⟨hin, ?_⟩, fun q2 => ⟨hin, ?_⟩⟩
      · rw [if_pos q2] at h
        refine ⟨fun q3 => ⟨fun _ => ?_, fun c => absurd q2 c⟩, fun q3 => ?_⟩
        · have q3 : k < (wD D j).length := (nI_ltI hk (show (wD D j).length < 2 ^ 31 by omega)).mp q3
          rw [if_pos q3] at h
          rw [nI_30, nI_add]
          refine ⟨vp_in_nI (by omega) (by omega), ?_⟩
          rw [nI_clamp (by omega), a6 k q3]; exact h
        · have q3 : ¬ k < (wD D j).length := fun c => q3 ((nI_ltI hk (show (wD D j).length < 2 ^ 31 by omega)).mpr c)
          rw [if_neg q3] at h; exact h
      · rw [if_neg q2] at h
        refine ⟨fun q3 => ⟨fun c => absurd c q2, fun _ => ?_⟩, fun q3 => ?_⟩
        · have q3 : k < (sD D j).length := (nI_ltI hk (show (sD D j).length < 2 ^ 31 by omega)).mp q3
          rw [if_pos q3] at h
          rw [nI_30, nI_add]
          refine ⟨vp_in_nI (by omega) (by omega), ?_⟩
          rw [nI_clamp (by omega), a7 k q3]; exact h
        · have q3 : ¬ k < (sD D j).length := fun c => q3 ((nI_ltI hk (show (sD D j).length < 2 ^ 31 by omega)).mpr c)
          rw [if_neg q3] at h; exact h
  · rw [ansC, if_pos (out_i (by omega) c)] at h; exact h
theorem km_same {post : Int32 → Prop} {D : List (Nat × Nat × Bool × List Int32 × List Int32)} {pl bg tl sl ad le st : Nat → Int32} {i j : Nat} (hG : genD D) (hT : tokM D pl bg tl sl ad le st) (hi : i < D.length) (hj : j < D.length) (h : post (b2i (decide (sD D i = sD D j)))) : wpX8_sameStem post sl st (nI i) (nI j) := by
  have h9 := hG.1
  have gi := hG.2.1 i hi
  have gj := hG.2.1 j hj
  have si : sl i = nI (sD D i).length := (hT i hi).2.2.2.1
  have sj : sl j = nI (sD D j).length := (hT j hj).2.2.2.1
  have hin : vp_in (nI i) 2300 := vp_in_nI (by omega) (by omega)
  refine ⟨hin, vp_in_nI (by omega) (by omega), ?_⟩
  rw [nI_clamp (by omega), nI_clamp (by omega), si, sj, nI_eq (by omega) (by omega)]
  refine ⟨fun q => ?_, fun q => ?_⟩
  · have loop : ∀ (g k : Nat), (sD D i).length - k = g → k ≤ (sD D i).length → (∀ x, x < k → (sD D i).getD x 0 = (sD D j).getD x 0) → wlX8_sameStem_19 post sl st (nI i) (nI j) (g + 1) (nI k) := by
      intro g
      induction g with
      | zero =>
        intro k hg hk hx
        have e : k = (sD D i).length := by omega
        subst e
        refine ⟨hin, ?_⟩
        rw [nI_clamp (by omega), si]
        rw [decide_eq_true (list_ext q hx)] at h
        exact ⟨fun _ => h, fun c => absurd (nI_le (Nat.le_refl _) (by omega)) c⟩
      | succ g ih =>
        intro k hg hk hx
        refine ⟨hin, ?_⟩
        rw [nI_clamp (by omega), si, nI_30, nI_30, nI_add, nI_add]
        refine ⟨fun c => absurd ((nI_leI (by omega) (by omega)).mp c) (by omega), fun _ => ⟨vp_in_nI (by omega) (by omega), vp_in_nI (by omega) (by omega), ?_⟩⟩
        have e1 : st (30 * i + k) = (sD D i).getD k 0 := (hT i hi).2.2.2.2.2.2 k (show k < (sD D i).length by omega)
        have e2 : st (30 * j + k) = (sD D j).getD k 0 := (hT j hj).2.2.2.2.2.2 k (show k < (sD D j).length by omega)
        rw [nI_clamp (by omega), nI_clamp (by omega), e1, e2]
        refine ⟨fun c y ey => ?_, fun c => ?_⟩
        · rw [ey, nI_1]
          refine ih (k + 1) (by omega) (by omega) (fun x hxx => ?_)
          rcases Nat.lt_or_ge x k with u | u
          · exact hx x u
          · rw [show x = k by omega]; exact c
        · rw [decide_eq_false (fun e => c (by rw [e]))] at h; exact h
    exact ⟨_, loop _ 0 rfl (Nat.zero_le _) (fun x hx => absurd hx (Nat.not_lt_zero _))⟩
  · rw [decide_eq_false (fun e => q (by rw [e]))] at h; exact h
theorem range_all {p : Nat → Bool} (m : Nat) : (List.range (m + 1)).all p = ((List.range m).all p && p m) := by
  rw [List.range_succ, List.all_append]; simp
theorem km_different {post : Int32 → Int32 → Prop} {D : List (Nat × Nat × Bool × List Int32 × List Int32)} {pl bg tl sl ad le st : Nat → Int32} {th : Int32} (hG : genD D) (hT : tokM D pl bg tl sl ad le st) (h : post (nI (firsts D D.length).length) 0) : wpX8_different post th (nI D.length) sl ad st := by
  have h9 := hG.1
  have had : ∀ i, i < D.length → ad i = b2i (aD D i) := fun i hi => (hT i hi).2.2.2.2.1
  have outer : ∀ (g i : Nat), D.length - i = g → i ≤ D.length → wlX8_different_9 post (nI D.length) sl ad st 0 (g + 1) (nI (firsts D i).length) (nI i) := by
    intro g
    induction g with
    | zero =>
      intro i hg hi
      have e : i = D.length := by omega
      subst e
      exact ⟨fun _ => h, fun q => absurd (nI_le (Nat.le_refl _) (by omega)) q⟩
    | succ g ih =>
      intro i hg hi
      have hiD : i < D.length := by omega
      have e73 : wjX8_different_73 (fun x1 x2 => wlX8_different_9 post (nI D.length) sl ad st 0 (g + 1) x1 x2) post (nI D.length) sl ad st 0 (nI (firsts D i).length) (nI i) (b2i (isF D i)) := by
        refine b_ifz (fun z y ey => ?_) (fun z y ey y2 ey2 => ?_)
        · have e : firsts D (i + 1) = firsts D i := by rw [firsts, if_neg (by rw [z]; decide)]
          have := ih (i + 1) (by omega) (by omega)
          rw [e] at this
          rw [ey, nI_1]; exact this
        · have e : firsts D (i + 1) = i :: firsts D i := by rw [firsts, if_pos z]
          have := ih (i + 1) (by omega) (by omega)
          rw [e, List.length_cons] at this
          rw [ey2, ey, nI_1, nI_1]; exact this
      have inner : ∀ (g2 u : Nat), i - u = g2 → u ≤ i → wlX8_different_35 (fun x1 x2 => wlX8_different_9 post (nI D.length) sl ad st 0 (g + 1) x1 x2) post (nI D.length) sl ad st 0 (nI (firsts D i).length) (nI i) (g2 + 1) (b2i (!aD D i && (List.range u).all (fun v => aD D v || !decide (sD D v = sD D i)))) (nI u) := by
        have early : ∀ u, u ≤ i → (!aD D i && (List.range u).all (fun v => aD D v || !decide (sD D v = sD D i))) = false → isF D i = false := by
          intro u hu hz
          cases c : isF D i with
          | false => rfl
          | true =>
            rw [isF, Bool.and_eq_true, List.all_eq_true] at c
            rw [c.1, Bool.true_and, List.all_eq_false] at hz
            obtain ⟨v, hv, hq⟩ := hz
            exact absurd (c.2 v (List.mem_range.mpr (by have := List.mem_range.mp hv; omega))) hq
        intro g2
        induction g2 with
        | zero =>
          intro u hg2 hu
          have e : u = i := by omega
          subst e
          exact ⟨fun _ => e73, fun q => absurd (nI_le (Nat.le_refl _) (by omega)) q⟩
        | succ g2 ih2 =>
          intro u hg2 hu
          refine ⟨fun q => absurd ((nI_leI (by omega) (by omega)).mp q) (by omega), fun _ => b_ifz (fun z => ?_) (fun z => ⟨vp_in_nI (by omega) (by omega), ?_⟩)⟩
          · have := e73
            rw [early u (by omega) z] at this
            rw [z]; exact this
          · have nx : ∀ b : Bool, (!aD D i && (List.range (u + 1)).all (fun v => aD D v || !decide (sD D v = sD D i))) = b → wjX8_different_67 (fun x3 x4 => wlX8_different_35 (fun x1 x2 => wlX8_different_9 post (nI D.length) sl ad st 0 (g + 1) x1 x2) post (nI D.length) sl ad st 0 (nI (firsts D i).length) (nI i) (g2 + 1) x3 x4) (fun x1 x2 => wlX8_different_9 post (nI D.length) sl ad st 0 (g + 1) x1 x2) post (nI D.length) sl ad st 0 (nI (firsts D i).length) (nI i) (b2i b) (nI u) := by
              intro b eb y ey
              rw [ey, nI_1, ← eb]
              exact ih2 (u + 1) (by omega) (by omega)
            rw [range_all, ← Bool.and_assoc, z, Bool.true_and] at nx
            rw [nI_clamp (by omega), had u (by omega), z]
            refine b_if (fun za => nx true (by rw [za]; rfl)) (fun za => km_same hG hT (by omega) hiD (b_ifz (fun zs => nx true (by rw [za, zs]; rfl)) (fun zs => nx false (by rw [za, zs]; rfl))))
      refine ⟨fun q => absurd ((nI_leI (by omega) (by omega)).mp q) (by omega), fun _ => ⟨vp_in_nI (by omega) (by omega), ?_⟩⟩
      rw [nI_clamp (by omega), had i hiD]
      have st := inner i 0 (by omega) (Nat.zero_le _)
      rw [show (List.range 0).all (fun v => aD D v || !decide (sD D v = sD D i)) = true from rfl, Bool.and_true] at st
      exact b_if (fun z => by rw [z] at st; exact ⟨_, st⟩) (fun z => by rw [z] at st; exact ⟨_, st⟩)
  exact ⟨_, outer _ 0 rfl (Nat.zero_le _)⟩
/-- how many tokens that are no address have the stem -/
def oftN (D : List (Nat × Nat × Bool × List Int32 × List Int32)) (S : List Int32) : Nat → Nat
  | 0 => 0
  | m + 1 => oftN D S m + (if aD D m = false ∧ sD D m = S then 1 else 0)
def ansO (D : List (Nat × Nat × Bool × List Int32 × List Int32)) (x : Int32) : Int32 := if x.toInt < 0 ∨ (D.length : Int) ≤ x.toInt then 0 else nI (oftN D (sD D x.toNatClampNeg) D.length)
theorem kx_often {post : Int32 → Prop} {D : List (Nat × Nat × Bool × List Int32 × List Int32)} {cb cl sl cp ca sm ts : Nat → Int32} {x : Int32} (hG : genD D) (hB : baseX D cb cl cp ca sm) (hS : stX D D.length sl ts) (h : post (ansO D x)) : wpX7_often post (nI D.length) cb sl ca sm ts x := by
  have h9 := hG.1
  unfold wpX7_often wpX6_timesOfStem
  refine kx_exists (by omega) (fun j hj e => ⟨fun _ => ?_, fun q => absurd q (by decide)⟩) (fun c => ⟨fun q => absurd rfl q, fun _ => ?_⟩)
  · subst e
    rw [ansO, if_neg (in_i (by omega) hj), nI_clamp (by omega)] at h
    have loop : ∀ (g u : Nat), D.length - u = g → u ≤ D.length → wlX6_timesOfStem_14 (fun r => post r) (nI D.length) cb sl ca sm ts (nI j) (g + 1) (nI (oftN D (sD D j) u)) (nI u) := by
      intro g
      induction g with
      | zero =>
        intro u hg hu
        have e : u = D.length := by omega
        subst e
        exact ⟨fun _ => h, fun q => absurd (nI_le (Nat.le_refl _) (by omega)) q⟩
      | succ g ih =>
        intro u hg hu
        have hca : ca u = b2i (aD D u) := (hB u (by omega)).2.2.2.1
        have nx0 : ¬ (aD D u = false ∧ sD D u = sD D j) → wjX6_timesOfStem_43 (fun x2 x3 => wlX6_timesOfStem_14 (fun r => post r) (nI D.length) cb sl ca sm ts (nI j) (g + 1) x2 x3) (fun r => post r) (nI D.length) cb sl ca sm ts (nI j) (nI (oftN D (sD D j) u)) (nI u) := by
          intro c y ey
          have := ih (u + 1) (by omega) (by omega)
          rw [oftN, if_neg c, Nat.add_zero] at this
          rw [ey, nI_1]; exact this
        refine ⟨fun q => absurd ((nI_leI (by omega) (by omega)).mp q) (by omega), fun _ => ⟨vp_in_nI (by omega) (by omega), ?_⟩⟩
        rw [nI_clamp (by omega), hca]
        refine b_if (fun z => nx0 (fun c => by rw [z] at c; cases c.1)) (fun z => kx_same hG hB hS (Nat.le_refl _) hj (by omega) (b_ifz (fun z2 => nx0 (fun c => of_decide_eq_false z2 c.2.symm)) (fun z2 y ey y2 ey2 => ?_)))
        have := ih (u + 1) (by omega) (by omega)
        rw [oftN, if_pos ⟨z, (of_decide_eq_true z2).symm⟩] at this
        rw [ey2, ey, nI_1, nI_1]; exact this
    exact ⟨_, loop _ 0 rfl (Nat.zero_le _)⟩
  · rw [ansO, if_pos (out_i (by omega) c)] at h; exact h
theorem km_often {post : Int32 → Int32 → Prop} {D : List (Nat × Nat × Bool × List Int32 × List Int32)} {pl bg tl sl ad le st : Nat → Int32} {x th : Int32} (hG : genD D) (hT : tokM D pl bg tl sl ad le st) (h : post (ansO D x) 0) : wpX8_often post th (nI D.length) sl ad st x := by
  have h9 := hG.1
  rcases pk_ix x (n := D.length) (by omega) with c | c | ⟨j, hj, e⟩
  · rw [ansO, if_pos (out_i (by omega) (Or.inl c))] at h
    exact ⟨1, ⟨fun _ => h, fun _ => km_isToken (by omega) (fun j hj e => absurd (e ▸ c) (nI_pos (by omega))) (fun _ => ⟨fun _ => h, fun q => absurd rfl q⟩)⟩⟩
  · rw [ansO, if_pos (out_i (by omega) (Or.inr c))] at h
    exact ⟨1, ⟨fun _ => h, fun _ => km_isToken (by omega) (fun j hj e => absurd ((nI_leI (by omega) (by omega)).mp (e ▸ c)) (by omega)) (fun _ => ⟨fun _ => h, fun q => absurd rfl q⟩)⟩⟩
  · subst e
    rw [ansO, if_neg (in_i (by omega) hj), nI_clamp (by omega)] at h
    have loop : ∀ (g u : Nat), D.length - u = g → u ≤ D.length → wlX8_often_9 post (nI D.length) sl ad st (nI j) 0 (g + 1) (nI (oftN D (sD D j) u)) (nI u) := by
      intro g
      induction g with
      | zero =>
        intro u hg hu
        have e : u = D.length := by omega
        subst e
        exact ⟨fun _ => h, fun q => absurd (nI_le (Nat.le_refl _) (by omega)) q⟩
      | succ g ih =>
        intro u hg hu
        have hca : ad u = b2i (aD D u) := (hT u (by omega)).2.2.2.2.1
        have nx0 : ¬ (aD D u = false ∧ sD D u = sD D j) → wjX8_often_46 (fun x2 x3 => wlX8_often_9 post (nI D.length) sl ad st (nI j) 0 (g + 1) x2 x3) post (nI D.length) sl ad st (nI j) 0 (nI (oftN D (sD D j) u)) (nI u) := by
          intro c y ey
          have := ih (u + 1) (by omega) (by omega)
          rw [oftN, if_neg c, Nat.add_zero] at this
          rw [ey, nI_1]; exact this
        refine ⟨fun q => absurd ((nI_leI (by omega) (by omega)).mp q) (by omega), fun _ => km_isToken (by omega) (fun j' hj' e' => ⟨fun q => absurd q (by decide), fun _ => ⟨vp_in_nI (by omega) (by omega), ?_⟩⟩) (fun c => ?_)⟩
        · rw [nI_clamp (by omega), hca]
          refine b_if (fun z => nx0 (fun c => by rw [z] at c; cases c.1)) (fun z => km_same hG hT (by omega) hj (b_ifz (fun z2 => nx0 (fun c => of_decide_eq_false z2 c.2)) (fun z2 y ey y2 ey2 => ?_)))
          have := ih (u + 1) (by omega) (by omega)
          rw [oftN, if_pos ⟨z, of_decide_eq_true z2⟩] at this
          rw [ey2, ey, nI_1, nI_1]; exact this
        · rcases c with c | c
          · exact absurd c (nI_pos (by omega))
          · exact absurd ((nI_leI (by omega) (by omega)).mp c) (by omega)
    exact ⟨_, loop _ 0 rfl (Nat.zero_le _)⟩
