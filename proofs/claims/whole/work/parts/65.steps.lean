/-! PURE 26: steps 2 and 3 of the class -/
def lsecondX : List (List Int32 × List Int32) := [(sB 54, sB 55), (sB 56, sB 57), (sB 58, sB 59), (sB 60, sB 61), (sB 62, sB 63), (sB 64, sB 65), (sB 66, sB 67), (sB 68, sB 69), (sB 70, sB 71), (sB 72, sB 73), (sB 74, sB 63), (sB 75, sB 55), (sB 76, sB 55), (sB 77, sB 67), (sB 78, sB 79), (sB 80, sB 81), (sB 82, sB 73), (sB 83, sB 67), (sB 84, sB 79), (sB 85, sB 86)]
theorem kx_second {post : Int32 → Int32 → (Nat → Int32) → (Nat → Int32) → Prop} {f v : Nat → Int32} {w : List Int32} (hw : w.length ≤ 30) (hf : rW f w) (hv : rV v w) (H : ∀ r f' v', rW f' (firstF 0 lsecondX w) → rV v' (firstF 0 lsecondX w) → post r (nI (firstF 0 lsecondX w).length) f' v') : wpX4_secondStep post (nI w.length) f v := by
  unfold lsecondX at H
  refine kx_link (i := 54) (j := 55) (a := 0) (by decide) (by decide) (by omega) hw (by decide) hf hv (fun z => ?_) (fun z f' v' h1 h2 => by
    rw [firstF, if_pos z] at H
    exact H 1 f' v' h1 h2)
  rw [firstF, if_neg (by rw [z]; decide)] at H
  refine kx_link (i := 56) (j := 57) (a := 0) (by decide) (by decide) (by omega) hw (by decide) hf hv (fun z => ?_) (fun z f' v' h1 h2 => by
    rw [firstF, if_pos z] at H
    exact H 1 f' v' h1 h2)
  rw [firstF, if_neg (by rw [z]; decide)] at H
  refine kx_link (i := 58) (j := 59) (a := 0) (by decide) (by decide) (by omega) hw (by decide) hf hv (fun z => ?_) (fun z f' v' h1 h2 => by
    rw [firstF, if_pos z] at H
    exact H 1 f' v' h1 h2)
  rw [firstF, if_neg (by rw [z]; decide)] at H
  refine kx_link (i := 60) (j := 61) (a := 0) (by decide) (by decide) (by omega) hw (by decide) hf hv (fun z => ?_) (fun z f' v' h1 h2 => by
    rw [firstF, if_pos z] at H
    exact H 1 f' v' h1 h2)
  rw [firstF, if_neg (by rw [z]; decide)] at H
  refine kx_link (i := 62) (j := 63) (a := 0) (by decide) (by decide) (by omega) hw (by decide) hf hv (fun z => ?_) (fun z f' v' h1 h2 => by
    rw [firstF, if_pos z] at H
    exact H 1 f' v' h1 h2)
  rw [firstF, if_neg (by rw [z]; decide)] at H
  refine kx_link (i := 64) (j := 65) (a := 0) (by decide) (by decide) (by omega) hw (by decide) hf hv (fun z => ?_) (fun z f' v' h1 h2 => by
    rw [firstF, if_pos z] at H
    exact H 1 f' v' h1 h2)
  rw [firstF, if_neg (by rw [z]; decide)] at H
  refine kx_link (i := 66) (j := 67) (a := 0) (by decide) (by decide) (by omega) hw (by decide) hf hv (fun z => ?_) (fun z f' v' h1 h2 => by
    rw [firstF, if_pos z] at H
    exact H 1 f' v' h1 h2)
  rw [firstF, if_neg (by rw [z]; decide)] at H
  refine kx_link (i := 68) (j := 69) (a := 0) (by decide) (by decide) (by omega) hw (by decide) hf hv (fun z => ?_) (fun z f' v' h1 h2 => by
    rw [firstF, if_pos z] at H
    exact H 1 f' v' h1 h2)
  rw [firstF, if_neg (by rw [z]; decide)] at H
  refine kx_link (i := 70) (j := 71) (a := 0) (by decide) (by decide) (by omega) hw (by decide) hf hv (fun z => ?_) (fun z f' v' h1 h2 => by
    rw [firstF, if_pos z] at H
    exact H 1 f' v' h1 h2)
  rw [firstF, if_neg (by rw [z]; decide)] at H
  refine kx_link (i := 72) (j := 73) (a := 0) (by decide) (by decide) (by omega) hw (by decide) hf hv (fun z => ?_) (fun z f' v' h1 h2 => by
    rw [firstF, if_pos z] at H
    exact H 1 f' v' h1 h2)
  rw [firstF, if_neg (by rw [z]; decide)] at H
  refine kx_link (i := 74) (j := 63) (a := 0) (by decide) (by decide) (by omega) hw (by decide) hf hv (fun z => ?_) (fun z f' v' h1 h2 => by
    rw [firstF, if_pos z] at H
    exact H 1 f' v' h1 h2)
  rw [firstF, if_neg (by rw [z]; decide)] at H
  refine kx_link (i := 75) (j := 55) (a := 0) (by decide) (by decide) (by omega) hw (by decide) hf hv (fun z => ?_) (fun z f' v' h1 h2 => by
    rw [firstF, if_pos z] at H
    exact H 1 f' v' h1 h2)
  rw [firstF, if_neg (by rw [z]; decide)] at H
  refine kx_link (i := 76) (j := 55) (a := 0) (by decide) (by decide) (by omega) hw (by decide) hf hv (fun z => ?_) (fun z f' v' h1 h2 => by
    rw [firstF, if_pos z] at H
    exact H 1 f' v' h1 h2)
  rw [firstF, if_neg (by rw [z]; decide)] at H
  refine kx_link (i := 77) (j := 67) (a := 0) (by decide) (by decide) (by omega) hw (by decide) hf hv (fun z => ?_) (fun z f' v' h1 h2 => by
    rw [firstF, if_pos z] at H
    exact H 1 f' v' h1 h2)
  rw [firstF, if_neg (by rw [z]; decide)] at H
  refine kx_link (i := 78) (j := 79) (a := 0) (by decide) (by decide) (by omega) hw (by decide) hf hv (fun z => ?_) (fun z f' v' h1 h2 => by
    rw [firstF, if_pos z] at H
    exact H 1 f' v' h1 h2)
  rw [firstF, if_neg (by rw [z]; decide)] at H
  refine kx_link (i := 80) (j := 81) (a := 0) (by decide) (by decide) (by omega) hw (by decide) hf hv (fun z => ?_) (fun z f' v' h1 h2 => by
    rw [firstF, if_pos z] at H
    exact H 1 f' v' h1 h2)
  rw [firstF, if_neg (by rw [z]; decide)] at H
  refine kx_link (i := 82) (j := 73) (a := 0) (by decide) (by decide) (by omega) hw (by decide) hf hv (fun z => ?_) (fun z f' v' h1 h2 => by
    rw [firstF, if_pos z] at H
    exact H 1 f' v' h1 h2)
  rw [firstF, if_neg (by rw [z]; decide)] at H
  refine kx_link (i := 83) (j := 67) (a := 0) (by decide) (by decide) (by omega) hw (by decide) hf hv (fun z => ?_) (fun z f' v' h1 h2 => by
    rw [firstF, if_pos z] at H
    exact H 1 f' v' h1 h2)
  rw [firstF, if_neg (by rw [z]; decide)] at H
  refine kx_link (i := 84) (j := 79) (a := 0) (by decide) (by decide) (by omega) hw (by decide) hf hv (fun z => ?_) (fun z f' v' h1 h2 => by
    rw [firstF, if_pos z] at H
    exact H 1 f' v' h1 h2)
  rw [firstF, if_neg (by rw [z]; decide)] at H
  refine kx_linkZ (i := 85) (j := 86) (a := 0) (by decide) (by decide) (by omega) hw (by decide) hf hv (fun z => ?_) (fun z f' v' h1 h2 => by
    rw [firstF, if_pos z] at H
    exact H 1 f' v' h1 h2)
  rw [firstF, if_neg (by rw [z]; decide)] at H
  rw [firstF] at H
  exact H 0 f v hf hv
def lthirdX : List (List Int32 × List Int32) := [(sB 87, sB 88), (sB 89, sB 88), (sB 90, sB 88), (sB 91, sB 40), (sB 81, sB 40), (sB 92, sB 40), (sB 93, sB 67)]
theorem kx_third {post : Int32 → Int32 → (Nat → Int32) → (Nat → Int32) → Prop} {f v : Nat → Int32} {w : List Int32} (hw : w.length ≤ 30) (hf : rW f w) (hv : rV v w) (H : ∀ r f' v', rW f' (firstF 0 lthirdX w) → rV v' (firstF 0 lthirdX w) → post r (nI (firstF 0 lthirdX w).length) f' v') : wpX4_thirdStep post (nI w.length) f v := by
  unfold lthirdX at H
  refine kx_link (i := 87) (j := 88) (a := 0) (by decide) (by decide) (by omega) hw (by decide) hf hv (fun z => ?_) (fun z f' v' h1 h2 => by
    rw [firstF, if_pos z] at H
    exact H 1 f' v' h1 h2)
  rw [firstF, if_neg (by rw [z]; decide)] at H
  refine kx_link (i := 89) (j := 88) (a := 0) (by decide) (by decide) (by omega) hw (by decide) hf hv (fun z => ?_) (fun z f' v' h1 h2 => by
    rw [firstF, if_pos z] at H
    exact H 1 f' v' h1 h2)
  rw [firstF, if_neg (by rw [z]; decide)] at H
  refine kx_link (i := 90) (j := 88) (a := 0) (by decide) (by decide) (by omega) hw (by decide) hf hv (fun z => ?_) (fun z f' v' h1 h2 => by
    rw [firstF, if_pos z] at H
    exact H 1 f' v' h1 h2)
  rw [firstF, if_neg (by rw [z]; decide)] at H
  refine kx_link (i := 91) (j := 40) (a := 0) (by decide) (by decide) (by omega) hw (by decide) hf hv (fun z => ?_) (fun z f' v' h1 h2 => by
    rw [firstF, if_pos z] at H
    exact H 1 f' v' h1 h2)
  rw [firstF, if_neg (by rw [z]; decide)] at H
  refine kx_link (i := 81) (j := 40) (a := 0) (by decide) (by decide) (by omega) hw (by decide) hf hv (fun z => ?_) (fun z f' v' h1 h2 => by
    rw [firstF, if_pos z] at H
    exact H 1 f' v' h1 h2)
  rw [firstF, if_neg (by rw [z]; decide)] at H
  refine kx_link (i := 92) (j := 40) (a := 0) (by decide) (by decide) (by omega) hw (by decide) hf hv (fun z => ?_) (fun z f' v' h1 h2 => by
    rw [firstF, if_pos z] at H
    exact H 1 f' v' h1 h2)
  rw [firstF, if_neg (by rw [z]; decide)] at H
  refine kx_linkZ (i := 93) (j := 67) (a := 0) (by decide) (by decide) (by omega) hw (by decide) hf hv (fun z => ?_) (fun z f' v' h1 h2 => by
    rw [firstF, if_pos z] at H
    exact H 1 f' v' h1 h2)
  rw [firstF, if_neg (by rw [z]; decide)] at H
  rw [firstF] at H
  exact H 0 f v hf hv
