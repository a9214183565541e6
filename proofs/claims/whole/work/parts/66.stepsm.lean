/-! PURE 27: steps 2, 3, 4 of the reference, step 4 of the class -/
theorem km_link {post : Int32 → (Nat → Int32) → Prop} {N : Int32 → (Nat → Int32) → Prop} {i j a : Nat} {f : Nat → Int32} {w : List Int32} {x y : Int64} (ha : a ≤ 5) (hw : w.length ≤ 30) (hr : (sB j).length ≤ (sB i).length) (hx : wGood x (sB i) = true) (hy : wGood y (sB j) = true) (hf : rW f w)
    (hN : sfx w (sB i) = false → N (nI w.length) f) (hY : sfx w (sB i) = true → ∀ f', rW f' (tryF w (sB i) (sB j) a) → post (nI (tryF w (sB i) (sB j) a).length) f') :
    wpX8_turns (fun r s f => ((¬ r = 0 → post s f) ∧ (r = 0 → N s f))) (nI w.length) f x y (nI a) :=
  km_turns ha hw hr hx hy hf (fun z => ⟨fun q => absurd rfl q, fun _ => hN z⟩) (fun z f' h1 => ⟨fun _ => hY z f' h1, fun q => absurd q (by decide)⟩)
theorem km_link2 {post : Int32 → (Nat → Int32) → Prop} {N : Int32 → (Nat → Int32) → Prop} {i j a : Nat} {f : Nat → Int32} {w : List Int32} {x y : Int64} (ha : a ≤ 5) (hw : w.length ≤ 30) (hr : (sB j).length ≤ (sB i).length) (hx : wGood x (sB i) = true) (hy : wGood y (sB j) = true) (hf : rW f w)
    (hN : sfx w (sB i) = false → N (nI w.length) f) (hY : sfx w (sB i) = true → ∀ f', rW f' (tryF w (sB i) (sB j) a) → post (nI (tryF w (sB i) (sB j) a).length) f') :
    wpX8_turns (fun r s f => ((r = 0 → N s f) ∧ (¬ r = 0 → post s f))) (nI w.length) f x y (nI a) :=
  km_turns ha hw hr hx hy hf (fun z => ⟨fun _ => hN z, fun q => absurd rfl q⟩) (fun z f' h1 => ⟨fun q => absurd q (by decide), fun _ => hY z f' h1⟩)
theorem km_linkZ {post : Int32 → (Nat → Int32) → Prop} {i j a : Nat} {f : Nat → Int32} {w : List Int32} {x y : Int64} (ha : a ≤ 5) (hw : w.length ≤ 30) (hr : (sB j).length ≤ (sB i).length) (hx : wGood x (sB i) = true) (hy : wGood y (sB j) = true) (hf : rW f w)
    (hN : sfx w (sB i) = false → post (nI w.length) f) (hY : sfx w (sB i) = true → ∀ f', rW f' (tryF w (sB i) (sB j) a) → post (nI (tryF w (sB i) (sB j) a).length) f') :
    wpX8_turns (fun r s f => post s f) (nI w.length) f x y (nI a) :=
  km_turns ha hw hr hx hy hf hN hY
theorem noSfx {w e d : List Int32} (h : sfx w e = true) (h1 : sfx e d = false) (h2 : sfx d e = false) : sfx w d = false := by
  cases q : sfx w d with
  | false => rfl
  | true =>
    rcases Nat.le_total d.length e.length with y | y
    · rw [sfx_two q h y] at h1; cases h1
    · rw [sfx_two h q y] at h2; cases h2
def lsecondM : List (List Int32 × List Int32) := [(sB 54, sB 55), (sB 74, sB 63), (sB 78, sB 79), (sB 80, sB 81), (sB 82, sB 73), (sB 56, sB 57), (sB 85, sB 86), (sB 68, sB 69), (sB 72, sB 73), (sB 75, sB 55), (sB 77, sB 67), (sB 83, sB 67), (sB 84, sB 79), (sB 58, sB 59), (sB 60, sB 61), (sB 62, sB 63), (sB 64, sB 65), (sB 66, sB 67), (sB 76, sB 55), (sB 70, sB 71)]
theorem km_second {post : Int32 → (Nat → Int32) → Prop} {f : Nat → Int32} {w : List Int32} (hw : w.length ≤ 30) (hf : rW f w) (H : ∀ f', rW f' (firstF 0 lsecondM w) → post (nI (firstF 0 lsecondM w).length) f') : wpX8_second post (nI w.length) f := by
  unfold lsecondM at H
  refine km_link (i := 54) (j := 55) (a := 0) (by omega) hw (by decide) (by decide +kernel) (by decide +kernel) hf (fun z => ?_) (fun z f' h1 => by
    rw [firstF, if_pos z] at H
    exact H f' h1)
  rw [firstF, if_neg (by rw [z]; decide)] at H
  refine km_link (i := 74) (j := 63) (a := 0) (by omega) hw (by decide) (by decide +kernel) (by decide +kernel) hf (fun z => ?_) (fun z f' h1 => by
    rw [firstF, if_pos z] at H
    exact H f' h1)
  rw [firstF, if_neg (by rw [z]; decide)] at H
  refine km_link (i := 78) (j := 79) (a := 0) (by omega) hw (by decide) (by decide +kernel) (by decide +kernel) hf (fun z => ?_) (fun z f' h1 => by
    rw [firstF, if_pos z] at H
    exact H f' h1)
  rw [firstF, if_neg (by rw [z]; decide)] at H
  refine km_link (i := 80) (j := 81) (a := 0) (by omega) hw (by decide) (by decide +kernel) (by decide +kernel) hf (fun z => ?_) (fun z f' h1 => by
    rw [firstF, if_pos z] at H
    exact H f' h1)
  rw [firstF, if_neg (by rw [z]; decide)] at H
  refine km_link2 (i := 82) (j := 73) (a := 0) (by omega) hw (by decide) (by decide +kernel) (by decide +kernel) hf (fun z => ?_) (fun z f' h1 => by
    rw [firstF, if_pos z] at H
    exact H f' h1)
  rw [firstF, if_neg (by rw [z]; decide)] at H
  refine km_link (i := 56) (j := 57) (a := 0) (by omega) hw (by decide) (by decide +kernel) (by decide +kernel) hf (fun z => ?_) (fun z f' h1 => by
    rw [firstF, if_pos z] at H
    exact H f' h1)
  rw [firstF, if_neg (by rw [z]; decide)] at H
  refine km_link2 (i := 85) (j := 86) (a := 0) (by omega) hw (by decide) (by decide +kernel) (by decide +kernel) hf (fun z => ?_) (fun z f' h1 => by
    rw [firstF, if_pos z] at H
    exact H f' h1)
  rw [firstF, if_neg (by rw [z]; decide)] at H
  refine km_link (i := 68) (j := 69) (a := 0) (by omega) hw (by decide) (by decide +kernel) (by decide +kernel) hf (fun z => ?_) (fun z f' h1 => by
    rw [firstF, if_pos z] at H
    exact H f' h1)
  rw [firstF, if_neg (by rw [z]; decide)] at H
  refine km_link (i := 72) (j := 73) (a := 0) (by omega) hw (by decide) (by decide +kernel) (by decide +kernel) hf (fun z => ?_) (fun z f' h1 => by
    rw [firstF, if_pos z] at H
    exact H f' h1)
  rw [firstF, if_neg (by rw [z]; decide)] at H
  refine km_link (i := 75) (j := 55) (a := 0) (by omega) hw (by decide) (by decide +kernel) (by decide +kernel) hf (fun z => ?_) (fun z f' h1 => by
    rw [firstF, if_pos z] at H
    exact H f' h1)
  rw [firstF, if_neg (by rw [z]; decide)] at H
  refine km_link (i := 77) (j := 67) (a := 0) (by omega) hw (by decide) (by decide +kernel) (by decide +kernel) hf (fun z => ?_) (fun z f' h1 => by
    rw [firstF, if_pos z] at H
    exact H f' h1)
  rw [firstF, if_neg (by rw [z]; decide)] at H
  refine km_link (i := 83) (j := 67) (a := 0) (by omega) hw (by decide) (by decide +kernel) (by decide +kernel) hf (fun z => ?_) (fun z f' h1 => by
    rw [firstF, if_pos z] at H
    exact H f' h1)
  rw [firstF, if_neg (by rw [z]; decide)] at H
  refine km_link2 (i := 84) (j := 79) (a := 0) (by omega) hw (by decide) (by decide +kernel) (by decide +kernel) hf (fun z => ?_) (fun z f' h1 => by
    rw [firstF, if_pos z] at H
    exact H f' h1)
  rw [firstF, if_neg (by rw [z]; decide)] at H
  refine km_link (i := 58) (j := 59) (a := 0) (by omega) hw (by decide) (by decide +kernel) (by decide +kernel) hf (fun z => ?_) (fun z f' h1 => by
    rw [firstF, if_pos z] at H
    exact H f' h1)
  rw [firstF, if_neg (by rw [z]; decide)] at H
  refine km_link (i := 60) (j := 61) (a := 0) (by omega) hw (by decide) (by decide +kernel) (by decide +kernel) hf (fun z => ?_) (fun z f' h1 => by
    rw [firstF, if_pos z] at H
    exact H f' h1)
  rw [firstF, if_neg (by rw [z]; decide)] at H
  refine km_link (i := 62) (j := 63) (a := 0) (by omega) hw (by decide) (by decide +kernel) (by decide +kernel) hf (fun z => ?_) (fun z f' h1 => by
    rw [firstF, if_pos z] at H
    exact H f' h1)
  rw [firstF, if_neg (by rw [z]; decide)] at H
  refine km_link (i := 64) (j := 65) (a := 0) (by omega) hw (by decide) (by decide +kernel) (by decide +kernel) hf (fun z => ?_) (fun z f' h1 => by
    rw [firstF, if_pos z] at H
    exact H f' h1)
  rw [firstF, if_neg (by rw [z]; decide)] at H
  refine km_link (i := 66) (j := 67) (a := 0) (by omega) hw (by decide) (by decide +kernel) (by decide +kernel) hf (fun z => ?_) (fun z f' h1 => by
    rw [firstF, if_pos z] at H
    exact H f' h1)
  rw [firstF, if_neg (by rw [z]; decide)] at H
  refine km_link2 (i := 76) (j := 55) (a := 0) (by omega) hw (by decide) (by decide +kernel) (by decide +kernel) hf (fun z => ?_) (fun z f' h1 => by
    rw [firstF, if_pos z] at H
    exact H f' h1)
  rw [firstF, if_neg (by rw [z]; decide)] at H
  refine km_linkZ (i := 70) (j := 71) (a := 0) (by omega) hw (by decide) (by decide +kernel) (by decide +kernel) hf (fun z => ?_) (fun z f' h1 => by
    rw [firstF, if_pos z] at H
    exact H f' h1)
  rw [firstF, if_neg (by rw [z]; decide)] at H
  rw [firstF] at H
  exact H f hf
theorem second_same (w : List Int32) : firstF 0 lsecondM w = firstF 0 lsecondX w := first_perm (by decide +kernel) (by decide +kernel) (by decide +kernel) (by decide +kernel)
def lthirdM : List (List Int32 × List Int32) := [(sB 87, sB 88), (sB 89, sB 88), (sB 91, sB 40), (sB 93, sB 67), (sB 90, sB 88), (sB 92, sB 40), (sB 81, sB 40)]
theorem km_third {post : Int32 → (Nat → Int32) → Prop} {f : Nat → Int32} {w : List Int32} (hw : w.length ≤ 30) (hf : rW f w) (H : ∀ f', rW f' (firstF 0 lthirdM w) → post (nI (firstF 0 lthirdM w).length) f') : wpX8_third post (nI w.length) f := by
  unfold lthirdM at H
  refine km_link (i := 87) (j := 88) (a := 0) (by omega) hw (by decide) (by decide +kernel) (by decide +kernel) hf (fun z => ?_) (fun z f' h1 => by
    rw [firstF, if_pos z] at H
    exact H f' h1)
  rw [firstF, if_neg (by rw [z]; decide)] at H
  refine km_link (i := 89) (j := 88) (a := 0) (by omega) hw (by decide) (by decide +kernel) (by decide +kernel) hf (fun z => ?_) (fun z f' h1 => by
    rw [firstF, if_pos z] at H
    exact H f' h1)
  rw [firstF, if_neg (by rw [z]; decide)] at H
  refine km_link (i := 91) (j := 40) (a := 0) (by omega) hw (by decide) (by decide +kernel) (by decide +kernel) hf (fun z => ?_) (fun z f' h1 => by
    rw [firstF, if_pos z] at H
    exact H f' h1)
  rw [firstF, if_neg (by rw [z]; decide)] at H
  refine km_link2 (i := 93) (j := 67) (a := 0) (by omega) hw (by decide) (by decide +kernel) (by decide +kernel) hf (fun z => ?_) (fun z f' h1 => by
    rw [firstF, if_pos z] at H
    exact H f' h1)
  rw [firstF, if_neg (by rw [z]; decide)] at H
  refine km_link (i := 90) (j := 88) (a := 0) (by omega) hw (by decide) (by decide +kernel) (by decide +kernel) hf (fun z => ?_) (fun z f' h1 => by
    rw [firstF, if_pos z] at H
    exact H f' h1)
  rw [firstF, if_neg (by rw [z]; decide)] at H
  refine km_link2 (i := 92) (j := 40) (a := 0) (by omega) hw (by decide) (by decide +kernel) (by decide +kernel) hf (fun z => ?_) (fun z f' h1 => by
    rw [firstF, if_pos z] at H
    exact H f' h1)
  rw [firstF, if_neg (by rw [z]; decide)] at H
  refine km_linkZ (i := 81) (j := 40) (a := 0) (by omega) hw (by decide) (by decide +kernel) (by decide +kernel) hf (fun z => ?_) (fun z f' h1 => by
    rw [firstF, if_pos z] at H
    exact H f' h1)
  rw [firstF, if_neg (by rw [z]; decide)] at H
  rw [firstF] at H
  exact H f hf
theorem third_same (w : List Int32) : firstF 0 lthirdM w = firstF 0 lthirdX w := first_perm (by decide +kernel) (by decide +kernel) (by decide +kernel) (by decide +kernel)
def lfourthX : List (List Int32 × List Int32) := [(sB 94, sB 40), (sB 67, sB 40), (sB 61, sB 40), (sB 59, sB 40), (sB 95, sB 40), (sB 88, sB 40), (sB 65, sB 40), (sB 96, sB 40), (sB 97, sB 40), (sB 98, sB 40), (sB 99, sB 40), (sB 69, sB 40), (sB 100, sB 40), (sB 101, sB 40), (sB 55, sB 40), (sB 102, sB 40), (sB 73, sB 40), (sB 79, sB 40), (sB 63, sB 40)]
def badIon (w : List Int32) : Bool := sfx w (sB 94) && !(decide (3 < w.length) && decide (w.getD (w.length - 4) 0 = 115 ∨ w.getD (w.length - 4) 0 = 116))
def step4 (w : List Int32) : List Int32 := if badIon w = true then w else firstF 1 lfourthX w
theorem kx_fourth41 {post : Int32 → Int32 → (Nat → Int32) → (Nat → Int32) → Prop} {f v : Nat → Int32} {w : List Int32} (hw : w.length ≤ 30) (hf : rW f w) (hv : rV v w) (H : ∀ r f' v', rW f' (firstF 1 lfourthX w) → rV v' (firstF 1 lfourthX w) → post r (nI (firstF 1 lfourthX w).length) f' v') : wjX4_fourthStep_41 post (nI w.length) f v := by
  unfold lfourthX at H
  refine kx_link (i := 94) (j := 40) (a := 1) (by decide) (by decide) (by omega) hw (by decide) hf hv (fun z => ?_) (fun z f' v' h1 h2 => by
    rw [firstF, if_pos z] at H
    exact H 1 f' v' h1 h2)
  rw [firstF, if_neg (by rw [z]; decide)] at H
  refine kx_link (i := 67) (j := 40) (a := 1) (by decide) (by decide) (by omega) hw (by decide) hf hv (fun z => ?_) (fun z f' v' h1 h2 => by
    rw [firstF, if_pos z] at H
    exact H 1 f' v' h1 h2)
  rw [firstF, if_neg (by rw [z]; decide)] at H
  refine kx_link (i := 61) (j := 40) (a := 1) (by decide) (by decide) (by omega) hw (by decide) hf hv (fun z => ?_) (fun z f' v' h1 h2 => by
    rw [firstF, if_pos z] at H
    exact H 1 f' v' h1 h2)
  rw [firstF, if_neg (by rw [z]; decide)] at H
  refine kx_link (i := 59) (j := 40) (a := 1) (by decide) (by decide) (by omega) hw (by decide) hf hv (fun z => ?_) (fun z f' v' h1 h2 => by
    rw [firstF, if_pos z] at H
    exact H 1 f' v' h1 h2)
  rw [firstF, if_neg (by rw [z]; decide)] at H
  refine kx_link (i := 95) (j := 40) (a := 1) (by decide) (by decide) (by omega) hw (by decide) hf hv (fun z => ?_) (fun z f' v' h1 h2 => by
    rw [firstF, if_pos z] at H
    exact H 1 f' v' h1 h2)
  rw [firstF, if_neg (by rw [z]; decide)] at H
  refine kx_link (i := 88) (j := 40) (a := 1) (by decide) (by decide) (by omega) hw (by decide) hf hv (fun z => ?_) (fun z f' v' h1 h2 => by
    rw [firstF, if_pos z] at H
    exact H 1 f' v' h1 h2)
  rw [firstF, if_neg (by rw [z]; decide)] at H
  refine kx_link (i := 65) (j := 40) (a := 1) (by decide) (by decide) (by omega) hw (by decide) hf hv (fun z => ?_) (fun z f' v' h1 h2 => by
    rw [firstF, if_pos z] at H
    exact H 1 f' v' h1 h2)
  rw [firstF, if_neg (by rw [z]; decide)] at H
  refine kx_link (i := 96) (j := 40) (a := 1) (by decide) (by decide) (by omega) hw (by decide) hf hv (fun z => ?_) (fun z f' v' h1 h2 => by
    rw [firstF, if_pos z] at H
    exact H 1 f' v' h1 h2)
  rw [firstF, if_neg (by rw [z]; decide)] at H
  refine kx_link (i := 97) (j := 40) (a := 1) (by decide) (by decide) (by omega) hw (by decide) hf hv (fun z => ?_) (fun z f' v' h1 h2 => by
    rw [firstF, if_pos z] at H
    exact H 1 f' v' h1 h2)
  rw [firstF, if_neg (by rw [z]; decide)] at H
  refine kx_link (i := 98) (j := 40) (a := 1) (by decide) (by decide) (by omega) hw (by decide) hf hv (fun z => ?_) (fun z f' v' h1 h2 => by
    rw [firstF, if_pos z] at H
    exact H 1 f' v' h1 h2)
  rw [firstF, if_neg (by rw [z]; decide)] at H
  refine kx_link (i := 99) (j := 40) (a := 1) (by decide) (by decide) (by omega) hw (by decide) hf hv (fun z => ?_) (fun z f' v' h1 h2 => by
    rw [firstF, if_pos z] at H
    exact H 1 f' v' h1 h2)
  rw [firstF, if_neg (by rw [z]; decide)] at H
  refine kx_link (i := 69) (j := 40) (a := 1) (by decide) (by decide) (by omega) hw (by decide) hf hv (fun z => ?_) (fun z f' v' h1 h2 => by
    rw [firstF, if_pos z] at H
    exact H 1 f' v' h1 h2)
  rw [firstF, if_neg (by rw [z]; decide)] at H
  refine kx_link (i := 100) (j := 40) (a := 1) (by decide) (by decide) (by omega) hw (by decide) hf hv (fun z => ?_) (fun z f' v' h1 h2 => by
    rw [firstF, if_pos z] at H
    exact H 1 f' v' h1 h2)
  rw [firstF, if_neg (by rw [z]; decide)] at H
  refine kx_link (i := 101) (j := 40) (a := 1) (by decide) (by decide) (by omega) hw (by decide) hf hv (fun z => ?_) (fun z f' v' h1 h2 => by
    rw [firstF, if_pos z] at H
    exact H 1 f' v' h1 h2)
  rw [firstF, if_neg (by rw [z]; decide)] at H
  refine kx_link (i := 55) (j := 40) (a := 1) (by decide) (by decide) (by omega) hw (by decide) hf hv (fun z => ?_) (fun z f' v' h1 h2 => by
    rw [firstF, if_pos z] at H
    exact H 1 f' v' h1 h2)
  rw [firstF, if_neg (by rw [z]; decide)] at H
  refine kx_link (i := 102) (j := 40) (a := 1) (by decide) (by decide) (by omega) hw (by decide) hf hv (fun z => ?_) (fun z f' v' h1 h2 => by
    rw [firstF, if_pos z] at H
    exact H 1 f' v' h1 h2)
  rw [firstF, if_neg (by rw [z]; decide)] at H
  refine kx_link (i := 73) (j := 40) (a := 1) (by decide) (by decide) (by omega) hw (by decide) hf hv (fun z => ?_) (fun z f' v' h1 h2 => by
    rw [firstF, if_pos z] at H
    exact H 1 f' v' h1 h2)
  rw [firstF, if_neg (by rw [z]; decide)] at H
  refine kx_link (i := 79) (j := 40) (a := 1) (by decide) (by decide) (by omega) hw (by decide) hf hv (fun z => ?_) (fun z f' v' h1 h2 => by
    rw [firstF, if_pos z] at H
    exact H 1 f' v' h1 h2)
  rw [firstF, if_neg (by rw [z]; decide)] at H
  refine kx_linkZ (i := 63) (j := 40) (a := 1) (by decide) (by decide) (by omega) hw (by decide) hf hv (fun z => ?_) (fun z f' v' h1 h2 => by
    rw [firstF, if_pos z] at H
    exact H 1 f' v' h1 h2)
  rw [firstF, if_neg (by rw [z]; decide)] at H
  rw [firstF] at H
  exact H 0 f v hf hv
theorem kx_isLetterN {post : Int32 → Prop} {f : Nat → Int32} {s k c : Int32} (hk : k < 0) (h : post 0) : wpX4_isLetter post s f k c := ⟨fun _ => h, fun q => absurd hk q⟩
theorem kx_fourth {post : Int32 → Int32 → (Nat → Int32) → (Nat → Int32) → Prop} {f v : Nat → Int32} {w : List Int32} (hw : w.length ≤ 30) (hf : rW f w) (hv : rV v w) (H : ∀ r f' v', rW f' (step4 w) → rV v' (step4 w) → post r (nI (step4 w).length) f' v') : wpX4_fourthStep post (nI w.length) f v := by
  have go : badIon w = false → wjX4_fourthStep_41 post (nI w.length) f v := fun e => by
    rw [step4, if_neg (by rw [e]; decide)] at H
    exact kx_fourth41 hw hf hv H
  refine kx_ends (by decide) hw hf (b_ifz (fun z => go (by rw [badIon, z]; rfl)) (fun z => ?_))
  have h3 : 3 ≤ w.length := by have := sfx_len z; rw [show (sB 94).length = 3 by decide] at this; omega
  have bad : badIon w = true → post 1 (nI w.length) f v := fun e => by
    rw [step4, if_pos e] at H; exact H 1 f v hf hv
  rcases Nat.lt_or_ge 3 w.length with q | q
  · have e4 : nI w.length - 4 = nI (w.length - 4) := by rw [show (4 : Int32) = nI 4 from rfl, pk_sub (by omega)]
    rw [e4]
    refine kx_isLetter4 hw (by omega) hf (b_if (fun y => go ?_) (fun y => kx_isLetter4 hw (by omega) hf (b_if (fun y2 => go ?_) (fun y2 => bad ?_))))
    · rw [badIon, decide_eq_true q, decide_eq_true (Or.inl (of_decide_eq_true y))]; simp
    · rw [badIon, decide_eq_true q, decide_eq_true (Or.inr (of_decide_eq_true y2))]; simp
    · rw [badIon, z, decide_eq_true q, decide_eq_false (fun c => by rcases c with c | c; exact absurd c (of_decide_eq_false y); exact absurd c (of_decide_eq_false y2))]; rfl
  · have e3 : w.length = 3 := by omega
    have e4 : nI w.length - 4 < 0 := by rw [e3]; decide
    exact kx_isLetterN e4 ⟨fun c => absurd rfl c, fun _ => kx_isLetterN e4 ⟨fun c => absurd rfl c, fun _ => bad (by rw [badIon, z, decide_eq_false (by omega)]; rfl)⟩⟩
def lfourthM : List (List Int32 × List Int32) := [(sB 98, sB 40), (sB 61, sB 40), (sB 59, sB 40), (sB 65, sB 40), (sB 96, sB 40), (sB 99, sB 40), (sB 94, sB 40), (sB 97, sB 40), (sB 69, sB 40), (sB 101, sB 40), (sB 55, sB 40), (sB 102, sB 40), (sB 73, sB 40), (sB 79, sB 40), (sB 63, sB 40), (sB 67, sB 40), (sB 95, sB 40), (sB 88, sB 40), (sB 100, sB 40)]
theorem fourth_same (w : List Int32) : firstF 1 lfourthM w = firstF 1 lfourthX w := first_perm (by decide +kernel) (by decide +kernel) (by decide +kernel) (by decide +kernel)
theorem step4_M {w : List Int32} (h : badIon w = false) : step4 w = firstF 1 lfourthM w := by rw [step4, if_neg (by rw [h]; decide), fourth_same]
theorem noBad {w e : List Int32} (h : sfx w e = true) (h1 : sfx e (sB 94) = false) (h2 : sfx (sB 94) e = false) : badIon w = false := by rw [badIon, noSfx h h1 h2]; rfl
theorem km_fourth {post : Int32 → (Nat → Int32) → Prop} {f : Nat → Int32} {w : List Int32} (hw : w.length ≤ 30) (hf : rW f w) (HH : ∀ f', rW f' (step4 w) → post (nI (step4 w).length) f') : wpX8_fourth post (nI w.length) f := by
  have H : badIon w = false → ∀ f', rW f' (firstF 1 lfourthM w) → post (nI (firstF 1 lfourthM w).length) f' := fun e => by
    rw [step4_M e] at HH; exact HH
  unfold lfourthM at H
  refine km_link2 (i := 98) (j := 40) (a := 1) (by omega) hw (by decide) (by decide +kernel) (by decide +kernel) hf (fun z => ?_) (fun z f' h1 => by
    have H := H (noBad z (by decide +kernel) (by decide +kernel))
    rw [firstF, if_pos z] at H
    exact H f' h1)
  rw [firstF, if_neg (by rw [z]; decide)] at H
  refine km_link (i := 61) (j := 40) (a := 1) (by omega) hw (by decide) (by decide +kernel) (by decide +kernel) hf (fun z => ?_) (fun z f' h1 => by
    have H := H (noBad z (by decide +kernel) (by decide +kernel))
    rw [firstF, if_pos z] at H
    exact H f' h1)
  rw [firstF, if_neg (by rw [z]; decide)] at H
  refine km_link (i := 59) (j := 40) (a := 1) (by omega) hw (by decide) (by decide +kernel) (by decide +kernel) hf (fun z => ?_) (fun z f' h1 => by
    have H := H (noBad z (by decide +kernel) (by decide +kernel))
    rw [firstF, if_pos z] at H
    exact H f' h1)
  rw [firstF, if_neg (by rw [z]; decide)] at H
  refine km_link (i := 65) (j := 40) (a := 1) (by omega) hw (by decide) (by decide +kernel) (by decide +kernel) hf (fun z => ?_) (fun z f' h1 => by
    have H := H (noBad z (by decide +kernel) (by decide +kernel))
    rw [firstF, if_pos z] at H
    exact H f' h1)
  rw [firstF, if_neg (by rw [z]; decide)] at H
  refine km_link (i := 96) (j := 40) (a := 1) (by omega) hw (by decide) (by decide +kernel) (by decide +kernel) hf (fun z => ?_) (fun z f' h1 => by
    have H := H (noBad z (by decide +kernel) (by decide +kernel))
    rw [firstF, if_pos z] at H
    exact H f' h1)
  rw [firstF, if_neg (by rw [z]; decide)] at H
  refine km_link2 (i := 99) (j := 40) (a := 1) (by omega) hw (by decide) (by decide +kernel) (by decide +kernel) hf (fun z => ?_) (fun z f' h1 => by
    have H := H (noBad z (by decide +kernel) (by decide +kernel))
    rw [firstF, if_pos z] at H
    exact H f' h1)
  rw [firstF, if_neg (by rw [z]; decide)] at H
  refine km_has (bs := sB 94) hw hf (by decide +kernel) (b_ifz (fun z => ?_) (fun z => ?_))
  rotate_left
  · have h3 : 3 ≤ w.length := by have := sfx_len z; rw [show (sB 94).length = 3 by decide] at this; omega
    have bad : badIon w = true → post (nI w.length) f := fun e => by
      rw [step4, if_pos e] at HH; exact HH f hf
    have go : badIon w = false → wjX8_fourth_124 post (nI w.length) f := fun e => by
      have H := H e
      rw [firstF, if_pos z] at H
      exact km_linkZ (i := 94) (j := 40) (a := 1) (by omega) hw (by decide) (by decide +kernel) (by decide +kernel) hf (fun z2 => by rw [z] at z2; cases z2) (fun _ f' h1 => H f' h1)
    rw [show (nI w.length ≤ (3 : Int32)) = (w.length ≤ 3) from propext (nI_leI (b := 3) (by omega) (by decide))]
    refine ⟨fun q => bad (by rw [badIon, z, decide_eq_false (by omega)]; rfl), fun q => ?_⟩
    have e4 : nI w.length - 4 = nI (w.length - 4) := by rw [show (4 : Int32) = nI 4 from rfl, pk_sub (by omega)]
    rw [e4, nI_clamp (by omega), hf _ (by omega)]
    refine ⟨vp_in_nI (by omega) (by omega), fun y => go ?_, fun y => ⟨vp_in_nI (by omega) (by omega), fun y2 => bad ?_, fun y2 => go ?_⟩⟩
    · rw [badIon, decide_eq_true (show 3 < w.length by omega), decide_eq_true (Or.inl y)]; simp
    · rw [badIon, z, decide_eq_true (show 3 < w.length by omega), decide_eq_false (fun c => by rcases c with c | c; exact absurd c y; exact absurd c y2)]; rfl
    · rw [badIon, decide_eq_true (show 3 < w.length by omega), decide_eq_true (Or.inr y2)]; simp
  have nb : badIon w = false := by rw [badIon, z]; rfl
  replace H := H nb
  rw [firstF, if_neg (by rw [z]; decide)] at H
  refine km_link (i := 97) (j := 40) (a := 1) (by omega) hw (by decide) (by decide +kernel) (by decide +kernel) hf (fun z => ?_) (fun z f' h1 => by
    rw [firstF, if_pos z] at H
    exact H f' h1)
  rw [firstF, if_neg (by rw [z]; decide)] at H
  refine km_link (i := 69) (j := 40) (a := 1) (by omega) hw (by decide) (by decide +kernel) (by decide +kernel) hf (fun z => ?_) (fun z f' h1 => by
    rw [firstF, if_pos z] at H
    exact H f' h1)
  rw [firstF, if_neg (by rw [z]; decide)] at H
  refine km_link (i := 101) (j := 40) (a := 1) (by omega) hw (by decide) (by decide +kernel) (by decide +kernel) hf (fun z => ?_) (fun z f' h1 => by
    rw [firstF, if_pos z] at H
    exact H f' h1)
  rw [firstF, if_neg (by rw [z]; decide)] at H
  refine km_link (i := 55) (j := 40) (a := 1) (by omega) hw (by decide) (by decide +kernel) (by decide +kernel) hf (fun z => ?_) (fun z f' h1 => by
    rw [firstF, if_pos z] at H
    exact H f' h1)
  rw [firstF, if_neg (by rw [z]; decide)] at H
  refine km_link (i := 102) (j := 40) (a := 1) (by omega) hw (by decide) (by decide +kernel) (by decide +kernel) hf (fun z => ?_) (fun z f' h1 => by
    rw [firstF, if_pos z] at H
    exact H f' h1)
  rw [firstF, if_neg (by rw [z]; decide)] at H
  refine km_link (i := 73) (j := 40) (a := 1) (by omega) hw (by decide) (by decide +kernel) (by decide +kernel) hf (fun z => ?_) (fun z f' h1 => by
    rw [firstF, if_pos z] at H
    exact H f' h1)
  rw [firstF, if_neg (by rw [z]; decide)] at H
  refine km_link (i := 79) (j := 40) (a := 1) (by omega) hw (by decide) (by decide +kernel) (by decide +kernel) hf (fun z => ?_) (fun z f' h1 => by
    rw [firstF, if_pos z] at H
    exact H f' h1)
  rw [firstF, if_neg (by rw [z]; decide)] at H
  refine km_link2 (i := 63) (j := 40) (a := 1) (by omega) hw (by decide) (by decide +kernel) (by decide +kernel) hf (fun z => ?_) (fun z f' h1 => by
    rw [firstF, if_pos z] at H
    exact H f' h1)
  rw [firstF, if_neg (by rw [z]; decide)] at H
  refine km_link (i := 67) (j := 40) (a := 1) (by omega) hw (by decide) (by decide +kernel) (by decide +kernel) hf (fun z => ?_) (fun z f' h1 => by
    rw [firstF, if_pos z] at H
    exact H f' h1)
  rw [firstF, if_neg (by rw [z]; decide)] at H
  refine km_link (i := 95) (j := 40) (a := 1) (by omega) hw (by decide) (by decide +kernel) (by decide +kernel) hf (fun z => ?_) (fun z f' h1 => by
    rw [firstF, if_pos z] at H
    exact H f' h1)
  rw [firstF, if_neg (by rw [z]; decide)] at H
  refine km_link2 (i := 88) (j := 40) (a := 1) (by omega) hw (by decide) (by decide +kernel) (by decide +kernel) hf (fun z => ?_) (fun z f' h1 => by
    rw [firstF, if_pos z] at H
    exact H f' h1)
  rw [firstF, if_neg (by rw [z]; decide)] at H
  refine km_linkZ (i := 100) (j := 40) (a := 1) (by omega) hw (by decide) (by decide +kernel) (by decide +kernel) hf (fun z => ?_) (fun z f' h1 => by
    rw [firstF, if_pos z] at H
    exact H f' h1)
  rw [firstF, if_neg (by rw [z]; decide)] at H
  rw [firstF] at H
  exact H f hf
theorem step4_le (w : List Int32) : (step4 w).length ≤ w.length := by
  rw [step4]; split
  · exact Nat.le_refl _
  · exact firstF_le _ _ (by decide +kernel)
theorem step2_le (w : List Int32) : (firstF 0 lsecondX w).length ≤ w.length := firstF_le _ _ (by decide +kernel)
theorem step3_le (w : List Int32) : (firstF 0 lthirdX w).length ≤ w.length := firstF_le _ _ (by decide +kernel)
