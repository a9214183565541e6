/-! PURE 38: what a page writes. o: what is written; w: within pre -/
def drpN (o : List Int32) : Nat → Nat
  | 0 => 0
  | m + 1 => if o.getD m 0 = 32 then drpN o m else m + 1
theorem drpN_le (o : List Int32) : ∀ m, drpN o m ≤ m := by
  intro m
  induction m with
  | zero => exact Nat.le_refl _
  | succ m ih => rw [drpN]; split <;> omega
def spL (w : Bool) (o : List Int32) : List Int32 := if w = true then o else o.take (drpN o o.length)
def lastC (o : List Int32) (c : Int32) : Bool := decide (o.getD (o.length - 1) 0 = c)
def brkL (w : Bool) (o : List Int32) : List Int32 := if (spL w o).length = 0 ∨ lastC (spL w o) 10 = true then spL w o else spL w o ++ [10]
def blkL (w : Bool) (o : List Int32) (c : Int32) : List Int32 := if w = true then (if c = 13 then o else o ++ [c]) else if o.length = 0 ∨ lastC o 32 = true ∨ lastC o 10 = true then o else o ++ [32]
theorem spL_le (w : Bool) (o : List Int32) : (spL w o).length ≤ o.length := by
  rw [spL]; split
  · exact Nat.le_refl _
  · rw [List.length_take]; omega
theorem spL_len {o : List Int32} : (spL false o).length = drpN o o.length := by
  rw [spL, if_neg (by decide), List.length_take]; have := drpN_le o o.length; omega
theorem rW_sp {f : Nat → Int32} {o : List Int32} {w : Bool} (h : rW f o) : rW f (spL w o) := by
  rw [spL]; split
  · exact h
  · exact rW_take h
theorem rW_snoc {f : Nat → Int32} {o : List Int32} {c : Int32} (h : rW f o) : rW (upd f o.length c) (o ++ [c]) := by
  intro k hk
  rw [List.length_append, List.length_singleton] at hk
  rcases Nat.lt_or_ge k o.length with q | q
  · rw [pk_un (by omega), getD_app q]; exact h k q
  · have e : k = o.length := by omega
    subst e
    rw [pk_us, getD_app2 (Nat.le_refl _), Nat.sub_self]; rfl
theorem len_snoc {o : List Int32} {c : Int32} : (o ++ [c]).length = o.length + 1 := by rw [List.length_append]; rfl
/-- the class's row: what is written in front, unread from k on -/
def PX (g : Nat → Int32) (n k : Nat) (o : List Int32) (tx : Nat → Int32) : Prop := rW tx o ∧ o.length ≤ k ∧ ∀ j, k ≤ j → gF tx n j = g j
theorem PX_mono {g : Nat → Int32} {n k m : Nat} {o : List Int32} {tx : Nat → Int32} (h : PX g n k o tx) (hk : k ≤ m) : PX g n m o tx := ⟨h.1, Nat.le_trans h.2.1 hk, fun j hj => h.2.2 j (Nat.le_trans hk hj)⟩
theorem PX_sp {g : Nat → Int32} {n k : Nat} {o : List Int32} {tx : Nat → Int32} {w : Bool} (h : PX g n k o tx) : PX g n k (spL w o) tx := ⟨rW_sp h.1, Nat.le_trans (spL_le w o) h.2.1, h.2.2⟩
theorem kx_write {post : Int32 → (Nat → Int32) → Prop} {g : Nat → Int32} {n k : Nat} {o : List Int32} {tx : Nat → Int32} {c : Int32} (hn : n ≤ 1500) (h : PX g n k o tx) (hk : k < n) (H : ∀ tx', PX g n (k + 1) (o ++ [c]) tx' → post (nI (o ++ [c]).length) tx') : wpX3_write post (nI o.length) (nI n) tx c := by
  have hl := h.2.1
  refine ⟨fun q => absurd q (nI_pos (by omega)), fun _ => ⟨fun q => absurd ((nI_leI (by omega) (by omega)).mp q) (by omega), fun _ => ⟨vp_in_nI (by omega) (by omega), fun y ey => ?_⟩⟩⟩
  rw [ey, nI_1, nI_clamp (by omega)]
  have := H (upd tx o.length c) ⟨rW_snoc h.1, by rw [len_snoc]; omega, fun j hj => by rw [← h.2.2 j (by omega), gF, gF, pk_un (by omega)]⟩
  rw [len_snoc] at this
  exact this
theorem kx_lastIs {post : Int32 → Prop} {n : Nat} {o : List Int32} {tx : Nat → Int32} {c : Int32} (hn : n ≤ 1500) (hr : rW tx o) (h0 : 0 < o.length) (hl : o.length ≤ n) (h : post (b2i (lastC o c))) : wpX3_lastIs post (nI o.length) (nI n) tx c := by
  rw [wpX3_lastIs, nI_m1 (by omega)]
  refine kx_get hn (by omega) ?_
  rw [gF_lt (by omega), hr _ (by omega)]
  exact ⟨fun q => by rw [lastC, decide_eq_false q] at h; exact h, fun q => by rw [lastC, decide_eq_true q] at h; exact h⟩
theorem lastC_take {o : List Int32} {m : Nat} (c : Int32) (h0 : 0 < m) (hm : m ≤ o.length) : lastC (o.take m) c = decide (o.getD (m - 1) 0 = c) := by
  rw [lastC, take_len hm, getD_take (by omega)]
theorem kx_drop {post : Int32 → Prop} {n : Nat} {o : List Int32} {tx : Nat → Int32} {w : Bool} (hn : n ≤ 1500) (hr : rW tx o) (hl : o.length ≤ n) (h : post (nI (spL w o).length)) : wpX3_dropSpaces post (nI o.length) (b2i w) (nI n) tx := by
  cases w with
  | true => exact ⟨1, fun _ => h, fun q => absurd q (by decide)⟩
  | false =>
    rw [spL_len] at h
    have loop : ∀ m, m ≤ o.length → post (nI (drpN o m)) → wlX3_dropSpaces_0 post (b2i false) (nI n) tx (m + 1) (nI m) := by
      intro m
      induction m with
      | zero => intro _ hp; exact ⟨fun q => absurd rfl q, fun _ => ⟨fun _ => hp, fun q => absurd (by decide) q⟩⟩
      | succ m ih =>
        intro hm hp
        refine ⟨fun q => absurd rfl q, fun _ => ⟨fun q => absurd q (nI_nle (by omega) (by omega)), fun _ => ?_⟩⟩
        have := kx_lastIs (post := fun r_1 => ((r_1 = 0 → post (nI (m + 1))) ∧ (¬ r_1 = 0 → ∀ pr_written_2 : Int32, pr_written_2 = (nI (m + 1) - 1) → wlX3_dropSpaces_0 post (b2i false) (nI n) tx (m + 1) pr_written_2))) (o := o.take (m + 1)) (c := 32) hn (rW_take hr) (by rw [take_len hm]; omega) (by rw [take_len hm]; omega) (by
          rw [lastC_take _ (by omega) hm, Nat.add_sub_cancel]
          rw [drpN] at hp
          refine b_ifz (fun z => ?_) (fun z y ey => ?_)
          · rw [if_neg (of_decide_eq_false z)] at hp; exact hp
          · rw [if_pos (of_decide_eq_true z)] at hp
            rw [ey, nI_pred]; exact ih (by omega) hp)
        rw [take_len hm] at this
        exact this
    exact ⟨_, loop o.length (Nat.le_refl _) h⟩
theorem kx_break {post : Int32 → (Nat → Int32) → Prop} {g : Nat → Int32} {n k : Nat} {o : List Int32} {tx : Nat → Int32} {w : Bool} (hn : n ≤ 1500) (h : PX g n k o tx) (hk : k < n) (H : ∀ tx', PX g n (k + 1) (brkL w o) tx' → post (nI (brkL w o).length) tx') : wpX3_writeBreak post (nI o.length) (b2i w) (nI n) tx := by
  have h2 := PX_sp (w := w) h
  have hl := h.2.1
  have hl2 := h2.2.1
  refine kx_drop hn h.1 (by omega) ⟨fun q => ?_, fun q => ?_⟩
  · have q : (spL w o).length = 0 := by
      have := (nI_leI (b := 0) (show (spL w o).length < 2 ^ 31 by omega) (by decide)).mp q
      omega
    rw [brkL, if_pos (Or.inl q)] at H
    exact H tx (PX_mono h2 (by omega))
  · have q : ¬ (spL w o).length ≤ 0 := fun c => q ((nI_leI (b := 0) (show (spL w o).length < 2 ^ 31 by omega) (by decide)).mpr c)
    refine kx_lastIs hn h2.1 (by omega) (by omega) (b_if (fun z => ?_) (fun z => ?_))
    · rw [brkL, if_pos (Or.inr z)] at H
      exact H tx (PX_mono h2 (by omega))
    · rw [brkL, if_neg (fun c => by rcases c with c | c; exact q (by omega); rw [z] at c; cases c)] at H
      exact kx_write hn h2 hk H
theorem kx_blank {post : Int32 → (Nat → Int32) → Prop} {g : Nat → Int32} {n k : Nat} {o : List Int32} {tx : Nat → Int32} {w : Bool} {c : Int32} (hn : n ≤ 1500) (h : PX g n k o tx) (hk : k < n) (H : ∀ tx', PX g n (k + 1) (blkL w o c) tx' → post (nI (blkL w o c).length) tx') : wpX3_writeBlank post (nI o.length) (b2i w) (nI n) tx c := by
  have hl := h.2.1
  refine b_ifz (fun z => ⟨fun q => ?_, fun q => ?_⟩) (fun z => ⟨fun q => ?_, fun q => ?_⟩)
  · have q : o.length = 0 := by
      have := (nI_leI (b := 0) (show o.length < 2 ^ 31 by omega) (by decide)).mp q
      omega
    rw [blkL, if_neg (by rw [z]; decide), if_pos (Or.inl q)] at H
    exact H tx (PX_mono h (by omega))
  · have q : ¬ o.length ≤ 0 := fun c => q ((nI_leI (b := 0) (show o.length < 2 ^ 31 by omega) (by decide)).mpr c)
    refine kx_lastIs hn h.1 (by omega) (by omega) (b_if (fun z2 => ?_) (fun z2 => kx_lastIs hn h.1 (by omega) (by omega) (b_if (fun z3 => ?_) (fun z3 => ?_))))
    · rw [blkL, if_neg (by rw [z]; decide), if_pos (Or.inr (Or.inl z2))] at H
      exact H tx (PX_mono h (by omega))
    · rw [blkL, if_neg (by rw [z]; decide), if_pos (Or.inr (Or.inr z3))] at H
      exact H tx (PX_mono h (by omega))
    · rw [blkL, if_neg (by rw [z]; decide), if_neg (fun c => by rcases c with c | c | c; exact q (by omega); rw [z2] at c; cases c; rw [z3] at c; cases c)] at H
      exact kx_write hn h hk H
  · rw [blkL, if_pos z, if_pos q] at H
    exact H tx (PX_mono h (by omega))
  · rw [blkL, if_pos z, if_neg q] at H
    exact kx_write hn h hk H
/-! the reference -/
theorem km_write {post : Int32 → (Nat → Int32) → Prop} {o : List Int32} {f : Nat → Int32} {c : Int32} (h : rW f o) (hl : o.length < 1600) (H : ∀ f', rW f' (o ++ [c]) → post (nI (o ++ [c]).length) f') : wpX8_write post (nI o.length) f c := by
  refine ⟨vp_in_nI (by omega) (by omega), fun y ey => ?_⟩
  rw [ey, nI_1, nI_clamp (by omega)]
  have := H _ (rW_snoc (c := c) h)
  rw [len_snoc] at this
  exact this
theorem km_behind {post : Int32 → Prop} {o : List Int32} {f : Nat → Int32} {c : Int32} (hr : rW f o) (hl : o.length ≤ 1600) (h0 : o.length = 0 → post 0) (h : 0 < o.length → post (b2i (lastC o c))) : wpX8_behind post (nI o.length) f c := by
  refine ⟨fun q => ?_, fun q => ?_⟩
  · have := (nI_leI (b := 0) (show o.length < 2 ^ 31 by omega) (by decide)).mp q
    exact h0 (by omega)
  · have q : ¬ o.length ≤ 0 := fun c => q ((nI_leI (b := 0) (show o.length < 2 ^ 31 by omega) (by decide)).mpr c)
    have h := h (by omega)
    rw [nI_m1 (by omega), nI_clamp (by omega), hr _ (by omega)]
    exact ⟨vp_in_nI (by omega) (by omega), fun q => by rw [lastC, decide_eq_false q] at h; exact h, fun q => by rw [lastC, decide_eq_true q] at h; exact h⟩
theorem km_drop {post : Int32 → Prop} {o : List Int32} {f : Nat → Int32} (hr : rW f o) (hl : o.length ≤ 1600) (h : post (nI (spL false o).length)) : wpX8_dropSpaces post (nI o.length) f := by
  rw [spL_len] at h
  have loop : ∀ m, m ≤ o.length → post (nI (drpN o m)) → wlX8_dropSpaces_0 post f (m + 1) (nI m) := by
    intro m
    induction m with
    | zero => intro _ hp; exact ⟨fun _ => ⟨fun _ => hp, fun q => absurd rfl q⟩, fun q => absurd (by decide) q⟩
    | succ m ih =>
      intro hm hp
      have := km_behind (post := fun r_1 => ((r_1 = 0 → post (nI (m + 1))) ∧ (¬ r_1 = 0 → ∀ y : Int32, y = (nI (m + 1) - 1) → wlX8_dropSpaces_0 post f (m + 1) y))) (o := o.take (m + 1)) (c := 32) (rW_take hr) (by rw [take_len hm]; omega) (fun q => by rw [take_len hm] at q; omega) (fun _ => by
        rw [lastC_take _ (by omega) hm, Nat.add_sub_cancel]
        rw [drpN] at hp
        refine b_ifz (fun z => ?_) (fun z y ey => ?_)
        · rw [if_neg (of_decide_eq_false z)] at hp; exact hp
        · rw [if_pos (of_decide_eq_true z)] at hp
          rw [ey, nI_pred]; exact ih (by omega) hp)
      rw [take_len hm] at this
      exact this
  exact ⟨_, loop o.length (Nat.le_refl _) h⟩
theorem km_break {post : Int32 → (Nat → Int32) → Prop} {o : List Int32} {f : Nat → Int32} {w : Bool} (h : rW f o) (hl : o.length < 1600) (H : ∀ f', rW f' (brkL w o) → post (nI (brkL w o).length) f') : wpX8_writeBreak post (nI o.length) (b2i w) f := by
  have h2 := rW_sp (w := w) h
  have hl2 := spL_le w o
  have e11 : wjX8_writeBreak_11 post (b2i w) (nI (spL w o).length) f := by
    refine ⟨fun q => ?_, fun q => ?_⟩
    · have q : (spL w o).length = 0 := by
        have := (nI_leI (b := 0) (show (spL w o).length < 2 ^ 31 by omega) (by decide)).mp q
        omega
      rw [brkL, if_pos (Or.inl q)] at H
      exact H f h2
    · have q : ¬ (spL w o).length ≤ 0 := fun c => q ((nI_leI (b := 0) (show (spL w o).length < 2 ^ 31 by omega) (by decide)).mpr c)
      refine km_behind h2 (by omega) (fun c => absurd c (by omega)) (fun _ => b_if (fun z => ?_) (fun z => ?_))
      · rw [brkL, if_pos (Or.inr z)] at H
        exact H f h2
      · rw [brkL, if_neg (fun c => by rcases c with c | c; exact q (by omega); rw [z] at c; cases c)] at H
        exact km_write h2 (by omega) H
  cases w with
  | true => exact ⟨fun _ => e11, fun q => absurd q (by decide)⟩
  | false => exact ⟨fun q => absurd rfl q, fun _ => km_drop h (by omega) e11⟩
theorem km_blank {post : Int32 → (Nat → Int32) → Prop} {o : List Int32} {f : Nat → Int32} {w : Bool} {c : Int32} (h : rW f o) (hl : o.length < 1600) (H : ∀ f', rW f' (blkL w o c) → post (nI (blkL w o c).length) f') : wpX8_writeBlank post (nI o.length) (b2i w) f c := by
  refine b_ifz (fun z => ⟨fun q => ?_, fun q => ?_⟩) (fun z => ⟨fun q => ?_, fun q => ?_⟩)
  · have q : o.length = 0 := by
      have := (nI_leI (b := 0) (show o.length < 2 ^ 31 by omega) (by decide)).mp q
      omega
    rw [blkL, if_neg (by rw [z]; decide), if_pos (Or.inl q)] at H
    exact H f h
  · have q : ¬ o.length ≤ 0 := fun c => q ((nI_leI (b := 0) (show o.length < 2 ^ 31 by omega) (by decide)).mpr c)
    refine km_behind h (by omega) (fun c => absurd c (by omega)) (fun _ => b_if (fun z2 => ?_) (fun z2 => km_behind h (by omega) (fun c => absurd c (by omega)) (fun _ => b_if (fun z3 => ?_) (fun z3 => ?_))))
    · rw [blkL, if_neg (by rw [z]; decide), if_pos (Or.inr (Or.inl z2))] at H
      exact H f h
    · rw [blkL, if_neg (by rw [z]; decide), if_pos (Or.inr (Or.inr z3))] at H
      exact H f h
    · rw [blkL, if_neg (by rw [z]; decide), if_neg (fun c => by rcases c with c | c | c; exact q (by omega); rw [z2] at c; cases c; rw [z3] at c; cases c)] at H
      exact km_write h hl H
  · rw [blkL, if_pos z, if_pos q] at H
    exact H f h
  · rw [blkL, if_pos z, if_neg q] at H
    exact km_write h hl H
theorem brkL_le (w : Bool) (o : List Int32) : (brkL w o).length ≤ o.length + 1 := by
  have := spL_le w o
  rw [brkL]; split
  · omega
  · rw [len_snoc]; omega
theorem blkL_le (w : Bool) (o : List Int32) (c : Int32) : (blkL w o c).length ≤ o.length + 1 := by
  rw [blkL]; repeat' split
  all_goals first | (rw [len_snoc]; omega) | omega
