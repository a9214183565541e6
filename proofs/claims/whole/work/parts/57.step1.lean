/-! PURE 18: the stem's steps as functions of the word; the class's own: 1a, 1c -/
def eSSES : List Int32 := [115, 115, 101, 115]
def eIES : List Int32 := [105, 101, 115]
def eS : List Int32 := [115]
def eSS : List Int32 := [115, 115]
def eY : List Int32 := [121]
theorem sB_38 : sB 38 = eSSES := by decide
theorem sB_39 : sB 39 = eIES := by decide
theorem sB_40 : sB 40 = [] := by decide
theorem sB_41 : sB 41 = eS := by decide
theorem sB_42 : sB 42 = eSS := by decide
theorem sB_52 : sB 52 = eY := by decide
theorem sB_53 : sB 53 = [105] := by decide
def step1a (w : List Int32) : List Int32 := if (sfx w eSSES || sfx w eIES) = true then w.take (w.length - 2) else if (sfx w eS && !sfx w eSS) = true then w.take (w.length - 1) else w
def step1c (w : List Int32) : List Int32 := if (sfx w eY && hasV w (w.length - 1)) = true then w.take (w.length - 1) ++ [105] else w
theorem sfx_len {w e : List Int32} (h : sfx w e = true) : e.length ≤ w.length := (of_decide_eq_true h).1
theorem kx_cutTo {post : Int32 → (Nat → Int32) → (Nat → Int32) → Prop} {a : Nat} {f v : Nat → Int32} {w : List Int32} (hw : w.length ≤ 30) (ha : a ≤ w.length) (hf : rW f w) (hv : rV v w) (h : ∀ f' v', rW f' (w.take a) → rV v' (w.take a) → post (nI a) f' v') : wpX4_become post (nI w.length) f v (nI a) 40 := by
  refine kx_become (i := 40) (by decide) hw ha (by rw [sB_40]; show a + 0 ≤ 30; omega) hf hv (fun f' v' h1 h2 => ?_)
  rw [sB_40, List.append_nil] at h1 h2
  rw [sB_40]
  exact h f' v' h1 h2
theorem take_len {w : List Int32} {a : Nat} (h : a ≤ w.length) : (w.take a).length = a := by rw [List.length_take]; omega
theorem kx_1a {post : Int32 → (Nat → Int32) → (Nat → Int32) → Prop} {f v : Nat → Int32} {w : List Int32} (hw : w.length ≤ 30) (hf : rW f w) (hv : rV v w) (h : ∀ f' v', rW f' (step1a w) → rV v' (step1a w) → post (nI (step1a w).length) f' v') : wpX4_endOfMany post (nI w.length) f v := by
  have two : (sfx w eSSES || sfx w eIES) = true → wjX4_endOfMany_18 post (nI w.length) f v := by
    intro z
    have hl : 2 ≤ w.length := by
      rcases Bool.or_eq_true _ _ |>.mp z with y | y
      · have := sfx_len y; simp [eSSES] at this; omega
      · have := sfx_len y; simp [eIES] at this; omega
    rw [step1a, if_pos z, take_len (by omega)] at h
    unfold wjX4_endOfMany_18
    rw [nI_m2 hl]
    exact kx_cutTo hw (by omega) hf hv h
  refine kx_ends (by decide) hw hf ?_
  rw [sB_38]
  refine b_if (fun z => two (by rw [z]; rfl)) (fun z => kx_ends (by decide) hw hf ?_)
  rw [sB_39]
  refine b_ifz (fun z2 => kx_ends (by decide) hw hf ?_) (fun z2 => two (by rw [z2, Bool.or_true]))
  rw [sB_41]
  have h := h
  rw [step1a, if_neg (by rw [z, z2]; decide)] at h
  refine b_ifz (fun z3 => ?_) (fun z3 => kx_ends (by decide) hw hf ?_)
  · rw [if_neg (by rw [z3]; simp)] at h; exact h f v hf hv
  · rw [sB_42]
    refine b_if (fun z4 => ?_) (fun z4 => ?_)
    · rw [if_neg (by rw [z3, z4]; decide)] at h; exact h f v hf hv
    · have hl : 1 ≤ w.length := by have := sfx_len z3; simp [eS] at this; omega
      rw [if_pos (by rw [z3, z4]; rfl), take_len (by omega)] at h
      rw [nI_m1 hl]
      exact kx_cutTo hw (by omega) hf hv h
theorem kx_1c {post : Int32 → (Nat → Int32) → (Nat → Int32) → Prop} {f v : Nat → Int32} {w : List Int32} (hw : w.length ≤ 30) (hf : rW f w) (hv : rV v w) (h : ∀ f' v', rW f' (step1c w) → rV v' (step1c w) → post (nI (step1c w).length) f' v') : wpX4_endOfY post (nI w.length) f v := by
  refine kx_ends (by decide) hw hf ?_
  rw [sB_52]
  refine b_ifz (fun z => ?_) (fun z => ?_)
  · rw [step1c, if_neg (by rw [z]; simp)] at h; exact h f v hf hv
  · have hl : 1 ≤ w.length := by have := sfx_len z; simp [eY] at this; omega
    rw [nI_m1 hl]
    refine kx_hasV hw (by omega) hv (b_ifz (fun z2 => ?_) (fun z2 => ?_))
    · rw [step1c, if_neg (by rw [z2]; simp)] at h; exact h f v hf hv
    · rw [step1c, if_pos (by rw [z, z2]; rfl)] at h
      refine kx_become (i := 53) (by decide) hw (by omega) (by rw [sB_53]; show w.length - 1 + 1 ≤ 30; omega) hf hv (fun f' v' h1 h2 => ?_)
      rw [sB_53] at h1 h2 ⊢
      have := h f' v' h1 h2
      rw [List.length_append, take_len (by omega)] at this
      exact this
