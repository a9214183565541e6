/-! PURE 13: words and their vowels (the class's stemmer). A word is a list of its letters -/
def aeiou (c : Int32) : Bool := decide (c = 97 ∨ c = 101 ∨ c = 105 ∨ c = 111 ∨ c = 117)
def vL (w : List Int32) : Nat → Bool
  | 0 => aeiou (w.getD 0 0)
  | k + 1 => aeiou (w.getD (k + 1) 0) || (decide (w.getD (k + 1) 0 = 121) && !vL w k)
def rW (f : Nat → Int32) (w : List Int32) : Prop := ∀ k, k < w.length → f k = w.getD k 0
def rV (v : Nat → Int32) (w : List Int32) : Prop := ∀ k, k < w.length → v k = b2i (vL w k)
theorem getD_app {w u : List Int32} {k : Nat} (h : k < w.length) : (w ++ u).getD k 0 = w.getD k 0 := by
  rw [List.getD_eq_getElem?_getD, List.getElem?_append_left h, List.getD_eq_getElem?_getD]
theorem getD_app2 {w u : List Int32} {k : Nat} (h : w.length ≤ k) : (w ++ u).getD k 0 = u.getD (k - w.length) 0 := by
  rw [List.getD_eq_getElem?_getD, List.getElem?_append_right h, List.getD_eq_getElem?_getD]
theorem getD_take {w : List Int32} {a k : Nat} (h : k < a) : (w.take a).getD k 0 = w.getD k 0 := by
  rw [List.getD_eq_getElem?_getD, List.getElem?_take_of_lt h, List.getD_eq_getElem?_getD]
theorem vL_congr {w u : List Int32} : ∀ k, (∀ j, j ≤ k → w.getD j 0 = u.getD j 0) → vL w k = vL u k := by
  intro k
  induction k with
  | zero => intro h; rw [vL, vL, h 0 (Nat.le_refl _)]
  | succ k ih => intro h; rw [vL, vL, h (k + 1) (Nat.le_refl _), ih (fun j hj => h j (by omega))]
theorem kx_append {post : Int32 → (Nat → Int32) → (Nat → Int32) → Prop} {f v : Nat → Int32} {w : List Int32} {c : Int32} (hl : w.length < 30) (hf : rW f w) (hv : rV v w) (h : ∀ f' v', rW f' (w ++ [c]) → rV v' (w ++ [c]) → post (nI (w.length + 1)) f' v') : wpX4_append post (nI w.length) f v c := by
  have hlast : (w ++ [c]).getD w.length 0 = c := by rw [getD_app2 (Nat.le_refl _), Nat.sub_self]; rfl
  have hF : rW (upd f w.length c) (w ++ [c]) := by
    intro k hk
    rw [List.length_append, List.length_singleton] at hk
    rcases Nat.lt_or_ge k w.length with q | q
    · rw [pk_un (by omega), getD_app q]; exact hf k q
    · rw [show k = w.length by omega, pk_us, hlast]
  have hV : ∀ b : Bool, vL (w ++ [c]) w.length = b → rV (upd v w.length (b2i b)) (w ++ [c]) := by
    intro b eb k hk
    rw [List.length_append, List.length_singleton] at hk
    rcases Nat.lt_or_ge k w.length with q | q
    · rw [pk_un (by omega), hv k q, vL_congr k (fun j hj => (getD_app (u := [c]) (by omega)).symm)]
    · rw [show k = w.length by omega, pk_us, eb]
  have e102 : ∀ b : Bool, vL (w ++ [c]) w.length = b → wjX4_append_102 post c (nI w.length) (upd f w.length c) v (b2i b) (nI w.length) := by
    intro b eb
    refine ⟨vp_in_nI (by omega) (by omega), b2i_bN b, fun s es => ?_⟩
    rw [es, nI_1, nI_clamp (by omega)]
    exact h _ _ hF (hV b eb)
  have step : ∀ b : Bool, aeiou c = b → wjX4_append_47 post c (nI w.length) f v (b2i b) := by
    intro b eb
    refine ⟨vp_in_nI (by omega) (by omega), ?_⟩
    rw [nI_clamp (by omega)]
    refine b_if (fun z => e102 true ?_) (fun z => ⟨fun q => e102 false ?_, fun q => ⟨fun q2 => e102 false ?_, fun q2 => ?_⟩⟩)
    · cases hw : w.length with
      | zero => rw [vL, ← hw, hlast, eb, z]
      | succ k => rw [vL, ← hw, hlast, eb, z, Bool.true_or]
    · cases hw : w.length with
      | zero => rw [vL, ← hw, hlast, eb, z]
      | succ k => rw [vL, ← hw, hlast, eb, z, decide_eq_false q]; rfl
    · have q2 : w.length = 0 := by
        have : w.length ≤ 0 := (nI_leI (b := 0) (by omega) (by decide)).mp q2
        omega
      rw [q2, vL, ← q2, hlast, eb, z]
    · have q2 : ¬ w.length ≤ 0 := fun y => q2 ((nI_leI (b := 0) (by omega) (by decide)).mpr y)
      rw [show nI w.length - 1 = nI (w.length - 1) by rw [show w.length = (w.length - 1) + 1 by omega, nI_pred]; rfl, nI_clamp (by omega), hv _ (by omega)]
      have ev : vL (w ++ [c]) w.length = !vL w (w.length - 1) := by
        have e : vL (w ++ [c]) (w.length - 1 + 1) = !vL w (w.length - 1) := by
          rw [vL, show w.length - 1 + 1 = w.length by omega, hlast, eb, z, decide_eq_true q, Bool.false_or, Bool.true_and, vL_congr (w.length - 1) (fun j hj => getD_app (u := [c]) (by omega))]
        rw [show w.length - 1 + 1 = w.length by omega] at e
        exact e
      exact ⟨vp_in_nI (by omega) (by omega), b_if (fun y => e102 false (by rw [ev, y]; rfl)) (fun y => e102 true (by rw [ev, y]; rfl))⟩
  have yes : (c = 97 ∨ c = 101 ∨ c = 105 ∨ c = 111 ∨ c = 117) → wjX4_append_42 post c (nI w.length) f v := fun z => step true (decide_eq_true z)
  refine ⟨fun q => absurd q (nI_ge (b := 30) hl (by decide)), fun _ => ⟨fun q => yes (by simp [q]), fun q1 => ⟨fun q => yes (by simp [q]), fun q2 => ⟨fun q => yes (by simp [q]), fun q3 => ⟨fun q => yes (by simp [q]), fun q4 => ⟨fun q => step false ?_, fun q => yes (by simp [q])⟩⟩⟩⟩⟩⟩
  exact decide_eq_false (by simp [q, q1, q2, q3, q4])
theorem kx_become_loop {post : Int32 → (Nat → Int32) → (Nat → Int32) → Prop} {i : Nat} {x : Int32} (hi : i < nS) {u : List Int32} (hl : u.length + (sB i).length ≤ 30) (h : ∀ f' v', rW f' (u ++ sB i) → rV v' (u ++ sB i) → post (nI (u.length + (sB i).length)) f' v') :
    ∀ (l : List Int32) (j : Nat) (f v : Nat → Int32), (sB i).drop j = l → j ≤ (sB i).length → rW f (u ++ (sB i).take j) → rV v (u ++ (sB i).take j) → wlX4_become_18 post x i (l.length + 1) (nI (u.length + j)) f v (nI j) := by
  intro l
  induction l with
  | nil =>
    intro j f v e hj hf hv
    have q : (sB i).length ≤ j := List.drop_eq_nil_iff.mp e
    have ej : j = (sB i).length := by omega
    refine ⟨hi, kj_length hi ⟨fun _ => ?_, fun q2 => absurd (nI_le q (by omega)) q2⟩⟩
    rw [List.take_of_length_le q] at hf hv
    rw [ej]; exact h f v hf hv
  | cons b l ih =>
    intro j f v e hj hf hv
    obtain ⟨h1, h2, h3, h4⟩ := sc_dropC e
    refine ⟨hi, kj_length hi ⟨fun q2 => absurd q2 (nI_ge h1 (by omega)), fun _ => ⟨hi, kj_charAt hi h1 (by omega) ?_⟩⟩⟩
    rw [h2]
    have el : (u ++ (sB i).take j).length = u.length + j := by rw [List.length_append, List.length_take]; omega
    have et : u ++ (sB i).take j ++ [b] = u ++ (sB i).take (j + 1) := by
      rw [List.append_assoc, List.take_add_one, ← h2, List.getD_eq_getElem?_getD, List.getElem?_eq_getElem h1]; rfl
    have := kx_append (post := fun s f v => ∀ x3_7 : Int32, x3_7 = nI j + 1 → wlX4_become_18 post x i (l.length + 1) s f v x3_7) (w := u ++ (sB i).take j) (c := b) (by omega) hf hv (fun f' v' hf' hv' y ey => by
      rw [ey, nI_1, el]
      rw [et] at hf' hv'
      exact ih (j + 1) f' v' h3 (by omega) hf' hv')
    rw [el] at this
    exact this
/-- the word's first a letters, and the ending behind them -/
theorem kx_become {post : Int32 → (Nat → Int32) → (Nat → Int32) → Prop} {i a : Nat} {f v : Nat → Int32} {w : List Int32} (hi : i < nS) (hw : w.length ≤ 30) (ha : a ≤ w.length) (hl : a + (sB i).length ≤ 30) (hf : rW f w) (hv : rV v w) (h : ∀ f' v', rW f' (w.take a ++ sB i) → rV v' (w.take a ++ sB i) → post (nI (a + (sB i).length)) f' v') : wpX4_become post (nI w.length) f v (nI a) i := by
  have el : (w.take a).length = a := by rw [List.length_take]; omega
  intro s es
  have e1 : (if nI w.length < nI a then nI w.length else nI a) = nI a := by
    rw [if_neg (nI_nlt ha (by omega))]
  have e2 : s = nI a := by
    rw [es, e1]
    by_cases q : 0 < nI a
    · rw [if_pos q]
    · rw [if_neg q]
      have : ¬ 0 < a := fun y => q ((nI_ltI (a := 0) (by decide) (by omega)).mpr y)
      rw [show a = 0 by omega]; rfl
  subst e2
  have := kx_become_loop (x := nI a) hi (u := w.take a) (by omega) (by rw [el]; exact h) (sB i) 0 f v rfl (Nat.zero_le _) (by
    intro k hk
    rw [List.take_zero, List.append_nil] at hk ⊢
    rw [getD_take (by omega)]; exact hf k (by omega)) (by
    intro k hk
    rw [List.take_zero, List.append_nil] at hk ⊢
    rw [hv k (by omega), vL_congr (u := w.take a) k (fun j hj => (getD_take (a := a) (by omega)).symm)])
  rw [el] at this
  exact ⟨_, this⟩
