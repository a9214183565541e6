/-! PURE 16: an ending that turns into another; consonant, vowel, consonant -/
def tryF (w e r : List Int32) (a : Nat) : List Int32 := if a < meas w (w.length - e.length) then w.take (w.length - e.length) ++ r else w
theorem tryF_le {w e r : List Int32} {a : Nat} (hs : sfx w e = true) (hr : r.length ≤ e.length) : (tryF w e r a).length ≤ w.length := by
  have := (of_decide_eq_true hs).1
  rw [tryF]
  split
  · rw [List.length_append, List.length_take]; omega
  · exact Nat.le_refl _
theorem kx_tries {post : Int32 → Int32 → (Nat → Int32) → (Nat → Int32) → Prop} {i j a : Nat} {f v : Nat → Int32} {w : List Int32} (hi : i < nS) (hj : j < nS) (ha : a ≤ 5) (hw : w.length ≤ 30) (hr : (sB j).length ≤ (sB i).length) (hf : rW f w) (hv : rV v w)
    (h0 : sfx w (sB i) = false → post 0 (nI w.length) f v) (h1 : sfx w (sB i) = true → ∀ f' v', rW f' (tryF w (sB i) (sB j) a) → rV v' (tryF w (sB i) (sB j) a) → post 1 (nI (tryF w (sB i) (sB j) a).length) f' v') : wpX4_tries post (nI w.length) f v i j (nI a) := by
  have hL := yLen2 i hi
  refine kx_ends hi hw hf (b_if (fun z => ⟨hi, kj_length hi (fun x ex => ?_)⟩) h0)
  have hs := (of_decide_eq_true z).1
  rw [pk_sub hs] at ex
  subst ex
  refine kx_meas hw (by omega) hv ?_
  have hm : meas w (w.length - (sB i).length) ≤ 30 := by have := mL_le w (w.length - (sB i).length) (w.length - (sB i).length) 1; rw [meas]; omega
  rw [nI_leI (by omega) (by omega)]
  have h1 := h1 z
  rw [tryF] at h1
  refine ⟨fun q => ?_, fun q => kx_become hj hw (by omega) (by omega) hf hv (fun f' v' hf' hv' => ?_)⟩
  · rw [if_neg (by omega)] at h1; exact h1 f v hf hv
  · rw [if_pos (by omega)] at h1
    have := h1 f' v' hf' hv'
    rw [List.length_append, List.length_take, show min (w.length - (sB i).length) w.length = w.length - (sB i).length by omega] at this
    exact this
theorem km_has_loop {post : Int32 → Prop} {f : Nat → Int32} {w bs : List Int32} {x : Int64} (hw : w.length ≤ 30) (hb : bs.length ≤ w.length) (hf : rW f w) (hx : wGood x bs = true) (h : post (b2i (sfx w bs))) : ∀ (g k : Nat), bs.length - k ≤ g → k ≤ bs.length → (∀ j, j < k → w.getD (w.length - bs.length + j) 0 = bs.getD j 0) → wlX8_has_18 post (nI w.length) f x (nI bs.length) (g + 1) (nI k) := by
  obtain ⟨w1, w2, w3, w4⟩ := wGood_spec hx
  have fin : (∀ j, j < bs.length → w.getD (w.length - bs.length + j) 0 = bs.getD j 0) → post 1 := by
    intro hj
    rw [sfx, decide_eq_true ⟨hb, hj⟩] at h; exact h
  intro g
  induction g with
  | zero => intro k h1 h2 hj; exact ⟨fun _ => fin (fun j q => hj j (by omega)), fun q => absurd (nI_le (by omega) (by omega)) q⟩
  | succ g ih =>
    intro k h1 h2 hj
    refine ⟨fun q => ?_, fun q => ?_⟩
    · rw [nI_leI (by omega) (by omega)] at q
      exact fin (fun j y => hj j (by omega))
    · rw [nI_leI (by omega) (by omega)] at q
      have eb : Int64.toInt32 (wS x ((nI bs.length - 1) - nI k) &&& 255) = bs.getD k 0 := by
        rw [show (nI bs.length - 1) - nI k = nI (bs.length - 1 - k) by rw [show (1 : Int32) = nI 1 from rfl, pk_sub (by omega), pk_sub (by omega)], w4 k (by omega)]
      rw [pk_sub hb, nI_add, nI_clamp (by omega), hf _ (by omega)]
      refine ⟨vp_in_nI (by omega) (by omega), ?_⟩
      show ((w.getD (w.length - bs.length + k) 0 = Int64.toInt32 (wS x ((nI bs.length - 1) - nI k) &&& 255) → _) ∧ (¬ w.getD (w.length - bs.length + k) 0 = Int64.toInt32 (wS x ((nI bs.length - 1) - nI k) &&& 255) → _))
      rw [eb]
      refine ⟨fun q2 y ey => ?_, fun q2 => ?_⟩
      · rw [ey, nI_1]
        exact ih (k + 1) (by omega) (by omega) (fun j hq => by
          rcases Nat.lt_or_ge j k with y | y
          · exact hj j y
          · rw [show j = k by omega]; exact q2)
      · rw [sfx, decide_eq_false (fun z => q2 (z.2 k (by omega)))] at h; exact h
theorem km_has {post : Int32 → Prop} {f : Nat → Int32} {w bs : List Int32} {x : Int64} (hw : w.length ≤ 30) (hf : rW f w) (hx : wGood x bs = true) (h : post (b2i (sfx w bs))) : wpX8_has post (nI w.length) f x := by
  have h8 := (wGood_spec hx).1
  refine km_lengthOf hx ?_
  rw [nI_leI (by omega) (by omega)]
  refine ⟨fun q => ⟨_, km_has_loop hw q hf hx h bs.length 0 (by omega) (Nat.zero_le _) (fun j y => absurd y (by omega))⟩, fun q => ?_⟩
  rw [sfx, decide_eq_false (fun z => q z.1)] at h; exact h
theorem km_append_loop {post : Int32 → (Nat → Int32) → Prop} {u bs : List Int32} {x : Int64} (hl : u.length + bs.length ≤ 30) (hx : wGood x bs = true) (h : ∀ f', rW f' (u ++ bs) → post (nI (u.length + bs.length)) f') : ∀ (g k : Nat) (f : Nat → Int32), bs.length - k ≤ g → k ≤ bs.length → rW f (u ++ bs.take k) → wlX8_append_8 post x (nI bs.length) (g + 1) (nI (u.length + k)) f (nI k) := by
  obtain ⟨w1, w2, w3, w4⟩ := wGood_spec hx
  have fin : ∀ f, rW f (u ++ bs.take bs.length) → post (nI (u.length + bs.length)) f := fun f hf => by
    rw [List.take_of_length_le (Nat.le_refl _)] at hf; exact h f hf
  intro g
  induction g with
  | zero =>
    intro k f h1 h2 hf
    have e : k = bs.length := by omega
    subst e
    exact ⟨fun _ => fin f hf, fun q => absurd (nI_le (Nat.le_refl _) (by omega)) q⟩
  | succ g ih =>
    intro k f h1 h2 hf
    refine ⟨fun q => ?_, fun q => ⟨vp_in_nI (by omega) (by omega), fun y ey z ez => ?_⟩⟩
    · rw [nI_leI (by omega) (by omega)] at q
      have e : k = bs.length := by omega
      subst e
      exact fin f hf
    · rw [nI_leI (by omega) (by omega)] at q
      have eb : Int64.toInt32 (wS x ((nI bs.length - 1) - nI k) &&& 255) = bs.getD k 0 := by
        rw [show (nI bs.length - 1) - nI k = nI (bs.length - 1 - k) by rw [show (1 : Int32) = nI 1 from rfl, pk_sub (by omega), pk_sub (by omega)], w4 k (by omega)]
      rw [ey, ez, nI_1, nI_1, nI_clamp (by omega)]
      show wlX8_append_8 post x (nI bs.length) (g + 1) (nI (u.length + k + 1)) (upd f (u.length + k) (Int64.toInt32 (wS x ((nI bs.length - 1) - nI k) &&& 255))) (nI (k + 1))
      rw [eb]
      refine ih (k + 1) _ (by omega) (by omega) (fun j hj => ?_)
      have el : (bs.take k).length = k := by rw [List.length_take]; omega
      have el2 : (bs.take (k + 1)).length = k + 1 := by rw [List.length_take]; omega
      rw [List.length_append, el2] at hj
      rcases Nat.lt_or_ge j (u.length + k) with y | y
      · rw [pk_un (by omega), hf j (by rw [List.length_append, el]; exact y)]
        rcases Nat.lt_or_ge j u.length with y2 | y2
        · rw [getD_app y2, getD_app y2]
        · rw [getD_app2 y2, getD_app2 y2, getD_take (by omega), getD_take (by omega)]
      · rw [show j = u.length + k by omega, pk_us, getD_app2 (by omega), getD_take (by omega)]
        congr 1; omega
theorem km_append {post : Int32 → (Nat → Int32) → Prop} {u bs : List Int32} {x : Int64} {f : Nat → Int32} (hl : u.length + bs.length ≤ 30) (hx : wGood x bs = true) (hf : rW f u) (h : ∀ f', rW f' (u ++ bs) → post (nI (u.length + bs.length)) f') : wpX8_append post (nI u.length) f x := by
  exact km_lengthOf hx ⟨bs.length + 1, km_append_loop hl hx h bs.length 0 f (by omega) (Nat.zero_le _) (by rw [List.take_zero, List.append_nil]; exact hf)⟩
theorem km_turns {post : Int32 → Int32 → (Nat → Int32) → Prop} {f : Nat → Int32} {w e r : List Int32} {x y : Int64} {a : Nat} (ha : a ≤ 5) (hw : w.length ≤ 30) (hr : r.length ≤ e.length) (hx : wGood x e = true) (hy : wGood y r = true) (hf : rW f w)
    (h0 : sfx w e = false → post 0 (nI w.length) f) (h1 : sfx w e = true → ∀ f', rW f' (tryF w e r a) → post 1 (nI (tryF w e r a).length) f') : wpX8_turns post (nI w.length) f x y (nI a) := by
  have h8 := (wGood_spec hx).1
  refine km_has hw hf hx (b_if (fun z => km_lengthOf hx (fun q eq => ?_)) h0)
  have hs := (of_decide_eq_true z).1
  rw [pk_sub hs] at eq
  subst eq
  refine km_meas hw (by omega) hf ?_
  have hm : meas w (w.length - e.length) ≤ 30 := by have := mL_le w (w.length - e.length) (w.length - e.length) 1; rw [meas]; omega
  rw [nI_leI (by omega) (by omega)]
  have h1 := h1 z
  rw [tryF] at h1
  have el : (w.take (w.length - e.length)).length = w.length - e.length := by rw [List.length_take]; omega
  refine ⟨fun q => ?_, fun q => ?_⟩
  · rw [if_neg (by omega)] at h1; exact h1 f hf
  · rw [if_pos (by omega)] at h1
    have := km_append (post := fun m_end_6 m_s_7 => post 1 m_end_6 m_s_7) (u := w.take (w.length - e.length)) (bs := r) (x := y) (f := f) (by omega) hy (fun k hk => by rw [getD_take (by omega)]; exact hf k (by omega)) (fun f' hf' => by
      have := h1 f' hf'
      rw [List.length_append] at this
      exact this)
    rw [el] at this
    exact this
def cvcL (w : List Int32) (n : Nat) : Bool := decide (3 ≤ n) && (!vL w (n - 3)) && vL w (n - 2) && (!vL w (n - 1)) && !decide (w.getD (n - 1) 0 = 119 ∨ w.getD (n - 1) 0 = 120 ∨ w.getD (n - 1) 0 = 121)
