/-! PURE 19: step 1b -/
def eEED : List Int32 := [101, 101, 100]
def eED : List Int32 := [101, 100]
def eING : List Int32 := [105, 110, 103]
def eAT : List Int32 := [97, 116]
def eBL : List Int32 := [98, 108]
def eIZ : List Int32 := [105, 122]
def eL : List Int32 := [108]
def eZ : List Int32 := [122]
theorem sB_43 : sB 43 = eEED := by decide
theorem sB_44 : sB 44 = [101, 101] := by decide
theorem sB_45 : sB 45 = eED := by decide
theorem sB_46 : sB 46 = eING := by decide
theorem sB_47 : sB 47 = eAT := by decide
theorem sB_48 : sB 48 = eBL := by decide
theorem sB_49 : sB 49 = eIZ := by decide
theorem sB_50 : sB 50 = eL := by decide
theorem sB_51 : sB 51 = eZ := by decide
def mendF (w : List Int32) : List Int32 :=
  if (sfx w eAT || sfx w eBL || sfx w eIZ) = true then w ++ [101]
  else if twoL w = true then (if (sfx w eL || sfx w eS || sfx w eZ) = true then w else w.take (w.length - 1))
  else if meas w w.length = 1 ∧ cvcL w w.length = true then w ++ [101] else w
def step1b (w : List Int32) : List Int32 :=
  if sfx w eEED = true then tryF w eEED [101, 101] 0
  else if sfx w eED = true then (if hasV w (w.length - 2) = true then mendF (w.take (w.length - 2)) else w)
  else if sfx w eING = true then (if hasV w (w.length - 3) = true then mendF (w.take (w.length - 3)) else w)
  else w
theorem kx_addE {post : Int32 → (Nat → Int32) → (Nat → Int32) → Prop} {f v : Nat → Int32} {w : List Int32} (hw : w.length < 30) (hf : rW f w) (hv : rV v w) (h : ∀ f' v', rW f' (w ++ [101]) → rV v' (w ++ [101]) → post (nI (w ++ [101]).length) f' v') : wpX4_append post (nI w.length) f v 101 :=
  kx_append hw hf hv (fun f' v' h1 h2 => by
    have := h f' v' h1 h2
    rw [List.length_append] at this
    exact this)
theorem kx_past {post : Int32 → (Nat → Int32) → (Nat → Int32) → Prop} {f v : Nat → Int32} {w : List Int32} {a : Nat} (hw : w.length ≤ 30) (ha : a + 2 ≤ w.length) (hf : rW f w) (hv : rV v w) (h1 : hasV w a = true → ∀ f' v', rW f' (mendF (w.take a)) → rV v' (mendF (w.take a)) → post (nI (mendF (w.take a)).length) f' v') (h0 : hasV w a = false → post (nI w.length) f v) : wjX4_endOfPast_50 post (nI w.length) f v (nI a) := by
  refine kx_hasV hw (by omega) hv (b_if (fun z => kx_cutTo hw (by omega) hf hv (fun f1 v1 hf1 hv1 => ?_)) h0)
  have h := h1 z
  have el := take_len (w := w) (a := a) (by omega)
  generalize hu : w.take a = u at h hf1 hv1 el
  rw [← el]
  have hl : u.length ≤ 30 := by omega
  have addE : (sfx u eAT || sfx u eBL || sfx u eIZ) = true → wjX4_endOfPast_94 post (nI u.length) f1 v1 := by
    intro y
    rw [mendF, if_pos y] at h
    exact kx_addE (by omega) hf1 hv1 h
  refine kx_ends (by decide) hl hf1 ?_
  rw [sB_47]
  refine b_if (fun y1 => addE (by rw [y1]; rfl)) (fun y1 => kx_ends (by decide) hl hf1 ?_)
  rw [sB_48]
  refine b_if (fun y2 => addE (by rw [y2]; simp)) (fun y2 => kx_ends (by decide) hl hf1 ?_)
  rw [sB_49]
  refine b_ifz (fun y3 => kx_two hl hf1 hv1 ?_) (fun y3 => addE (by rw [y3]; simp))
  rw [mendF, if_neg (by rw [y1, y2, y3]; decide)] at h
  refine b_ifz (fun y4 => kx_meas hl (Nat.le_refl _) hv1 ?_) (fun y4 => kx_ends (by decide) hl hf1 ?_)
  · rw [if_neg (by rw [y4]; decide)] at h
    have hm : meas u u.length ≤ 30 := by have := mL_le u u.length u.length 1; rw [meas]; omega
    rw [show (nI (meas u u.length) = (1 : Int32)) = (meas u u.length = 1) from propext (nI_eq (b := 1) (by omega) (by decide))]
    refine ⟨fun q => ?_, fun q => kx_cvc hl (Nat.le_refl _) hf1 hv1 (b_ifz (fun y5 => ?_) (fun y5 => ?_))⟩
    · rw [if_neg (fun c => q c.1)] at h; exact h f1 v1 hf1 hv1
    · rw [if_neg (fun c => by rw [y5] at c; cases c.2)] at h; exact h f1 v1 hf1 hv1
    · rw [if_pos ⟨q, y5⟩] at h
      exact kx_addE (by omega) hf1 hv1 h
  · rw [if_pos y4] at h
    have keep : (sfx u eL || sfx u eS || sfx u eZ) = true → post (nI u.length) f1 v1 := fun y => by
      rw [if_pos y] at h; exact h f1 v1 hf1 hv1
    rw [sB_50]
    refine b_if (fun y5 => keep (by rw [y5]; rfl)) (fun y5 => kx_ends (by decide) hl hf1 ?_)
    rw [sB_41]
    refine b_if (fun y6 => keep (by rw [y6]; simp)) (fun y6 => kx_ends (by decide) hl hf1 ?_)
    rw [sB_51]
    refine b_if (fun y7 => keep (by rw [y7]; simp)) (fun y7 => ?_)
    rw [if_neg (by rw [y5, y6, y7]; decide)] at h
    have h2 : 2 ≤ u.length := (of_decide_eq_true (Bool.and_eq_true _ _ |>.mp y4).1).1
    rw [take_len (by omega)] at h
    rw [nI_m1 (by omega)]
    exact kx_cutTo hl (by omega) hf1 hv1 h
