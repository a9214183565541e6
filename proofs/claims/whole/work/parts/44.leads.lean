/-! PURE 5: signs of a signature; what leads a quotation -/
/-- a line's borders in the text: b where it begins, e where it ends -/
def lineAt (t : Nat → Int32) (n b e : Nat) : Prop := b ≤ e ∧ e ≤ n ∧ (e < n → t e = 10) ∧ (0 < b → t (b - 1) = 10)
def mkF (t : Nat → Int32) (b e : Nat) : Bool := decide ((e - b = 2 ∨ (e - b = 3 ∧ t (b + 2) = 32)) ∧ t b = 45 ∧ t (b + 1) = 45)
theorem sB_34 : sB 34 = [45, 45] := by decide
theorem sB_35 : sB 35 = [45, 45, 32] := by decide
theorem sB_36 : sB 36 = [119, 114, 111, 116, 101] := by decide
theorem sB_37 : sB 37 = [115, 99, 104, 114, 105, 101, 98] := by decide
theorem nI_c2 : (2 : Int32) = nI 2 := rfl
theorem nI_c3 : (3 : Int32) = nI 3 := rfl
theorem kx_mark {post : Int32 → Prop} {t : Nat → Int32} {n b e : Nat} (hn : n ≤ 1500) (hL : lineAt t n b e) (h : post (b2i (mkF t b e))) : wpX2_beginsSigned post (nI b) (nI e) (nI n) t := by
  obtain ⟨h1, h2, -, -⟩ := hL
  intro x ex
  rw [pk_sub h1] at ex
  subst ex
  rw [nI_c2, nI_eq (by omega) (by omega)]
  have e31 : (e - b = 2 → mkF t b e = false) → wjX2_beginsSigned_31 post (nI b) (nI e) (nI n) t (nI (e - b)) := by
    intro hm
    unfold wjX2_beginsSigned_31
    rw [nI_c3, nI_eq (by omega) (by omega)]
    refine ⟨fun q => ?_, fun q => kx_holds hn (by omega) (by decide) ?_⟩
    · have r : mkF t b e = false := by
        by_cases q2 : e - b = 2
        · exact hm q2
        · exact decide_eq_false (by omega)
      rw [r] at h; exact h
    · rw [sB_35]
      simp only [hB, gF_lt (show b < n by omega), gF_lt (show b + 1 < n by omega), gF_lt (show b + 1 + 1 < n by omega), Bool.and_true]
      refine b_ifz (fun hf => ?_) (fun ht => ?_)
      · have r : mkF t b e = false := decide_eq_false (fun z => by
          have y : t (b + 1 + 1) = 32 := by
            rcases z.1 with y | y
            · omega
            · exact y.2
          rw [decide_eq_true z.2.1, decide_eq_true z.2.2, decide_eq_true y] at hf
          cases hf)
        rw [r] at h; exact h
      · simp only [Bool.and_eq_true, decide_eq_true_eq] at ht
        have r : mkF t b e = true := decide_eq_true ⟨Or.inr ⟨q, ht.2.2⟩, ht.1, ht.2.1⟩
        rw [r] at h; exact h
  refine ⟨fun q => e31 (fun z => absurd z q), fun q => kx_holds hn (by omega) (by decide) ?_⟩
  rw [sB_34]
  simp only [hB, gF_lt (show b < n by omega), gF_lt (show b + 1 < n by omega), Bool.and_true]
  refine b_if (fun ht => ?_) (fun hf => e31 (fun _ => ?_))
  · simp only [Bool.and_eq_true, decide_eq_true_eq] at ht
    have r : mkF t b e = true := decide_eq_true ⟨Or.inl q, ht.1, ht.2⟩
    rw [r] at h; exact h
  · exact decide_eq_false (fun z => by
      rw [decide_eq_true z.2.1, decide_eq_true z.2.2] at hf
      cases hf)
theorem km_mark {post : Int32 → Prop} {t : Nat → Int32} {n b e : Nat} (hn : n ≤ 1500) (hL : lineAt t n b e) (h : post (b2i (mkF t b e))) : wpX8_isMark post t (nI b) (nI e) := by
  obtain ⟨h1, h2, -, -⟩ := hL
  intro x ex
  rw [pk_sub h1] at ex
  subst ex
  rw [nI_c2, nI_c3, nI_eq (by omega) (by omega), nI_eq (by omega) (by omega)]
  have e27 : (e - b = 2 ∨ (e - b = 3 ∧ t (b + 2) = 32)) → wjX8_isMark_27 post t (nI b) (nI e) := by
    intro hm
    unfold wjX8_isMark_27
    rw [nI_1, nI_clamp (by omega), nI_clamp (by omega)]
    refine ⟨vp_in_nI (by omega) (by omega), fun q => ?_, fun q => ⟨vp_in_nI (by omega) (by omega), fun q2 => ?_, fun q2 => ?_⟩⟩
    · have r : mkF t b e = false := decide_eq_false (fun z => q z.2.1)
      rw [r] at h; exact h
    · have r : mkF t b e = false := decide_eq_false (fun z => q2 z.2.2)
      rw [r] at h; exact h
    · have r : mkF t b e = true := decide_eq_true ⟨hm, q, q2⟩
      rw [r] at h; exact h
  refine ⟨fun q => e27 (Or.inl q), fun q => ⟨fun q2 => ?_, fun q2 => ?_⟩⟩
  · have r : mkF t b e = false := decide_eq_false (by omega)
    rw [r] at h; exact h
  · rw [show nI b + nI 2 = nI (b + 2) from nI_add b 2, nI_clamp (by omega)]
    refine ⟨vp_in_nI (by omega) (by omega), fun q3 => ?_, fun q3 => e27 (Or.inr ⟨q2, q3⟩)⟩
    have r : mkF t b e = false := decide_eq_false (fun z => by
      rcases z.1 with y | y
      · exact q y
      · exact q3 y.2)
    rw [r] at h; exact h
/-- an @ in the line -/
def atF (t : Nat → Int32) (e : Nat) : Nat → Nat → Bool
  | 0, _ => false
  | f + 1, k => if k < e then (decide (t k = 64) || atF t e f (k + 1)) else false
theorem kx_at_loop {post : Int32 → Prop} {t : Nat → Int32} {n b e : Nat} (hn : n ≤ 1500) (he : e ≤ n) : ∀ (f k : Nat), e - k ≤ f → k ≤ e → post (b2i (atF t e f k)) → wlX2_hasAt_5 post (nI b) (nI e) (nI n) t (f + 1) (nI k) := by
  intro f
  induction f with
  | zero => intro k h1 h2 h; exact ⟨fun _ => h, fun q => absurd (nI_le (by omega) (by omega)) q⟩
  | succ f ih =>
    intro k h1 h2 h
    refine ⟨fun q => ?_, fun q => kx_get hn (by omega) ?_⟩
    · rw [nI_leI (by omega) (by omega)] at q
      rw [atF, if_neg (by omega)] at h; exact h
    · rw [nI_leI (by omega) (by omega)] at q
      rw [atF, if_pos (by omega)] at h
      rw [gF_lt (by omega)]
      refine ⟨fun q2 x ex => ?_, fun q2 => ?_⟩
      · rw [ex, nI_1]
        rw [decide_eq_false q2, Bool.false_or] at h
        exact ih (k + 1) (by omega) (by omega) h
      · rw [decide_eq_true q2, Bool.true_or] at h; exact h
theorem kx_at {post : Int32 → Prop} {t : Nat → Int32} {n b e : Nat} (hn : n ≤ 1500) (hb : b ≤ e) (he : e ≤ n) (h : post (b2i (atF t e (e - b) b))) : wpX2_hasAt post (nI b) (nI e) (nI n) t := ⟨_, kx_at_loop hn he (e - b) b (Nat.le_refl _) hb h⟩
/-- what stands ahead of k -/
def pv (t : Nat → Int32) (n k : Nat) : Int32 := if k = 0 then -1 else gF t n (k - 1)
/-- the word bs in the line, by itself -/
def hwF (t : Nat → Int32) (n e : Nat) (bs : List Int32) : Nat → Nat → Bool
  | 0, _ => false
  | f + 1, k => if e < k + bs.length then false else if (hB t n k bs && !cWord (pv t n k) && !cWord (gF t n (k + bs.length))) then true else hwF t n e bs f (k + 1)
theorem kx_pv {post : Int32 → Prop} {t : Nat → Int32} {n k : Nat} (hn : n ≤ 1500) (hk : k ≤ 1501) (h : post (pv t n k)) : wpX5_get post (nI n) t (nI k - 1) := by
  cases k with
  | zero => exact kx_getM h
  | succ k =>
    rw [show nI (k + 1) - 1 = nI k from nI_pred k]
    exact kx_get hn (by omega) h
theorem kx_hw_loop {post : Int32 → Prop} {t : Nat → Int32} {n b e i : Nat} (hn : n ≤ 1500) (he : e ≤ n) (hi : i < nS) (h0 : 0 < (sB i).length) : ∀ (f k : Nat), e + 1 - k ≤ f → k ≤ e + 1 → post (b2i (hwF t n e (sB i) f k)) → wlX2_hasWord_5 post (nI b) (nI e) (nI n) t i (f + 1) (nI k) := by
  have hl := yLen2 i hi
  intro f
  induction f with
  | zero =>
    intro k h1 h2 h
    refine ⟨hi, kj_length hi ⟨fun _ => h, fun q => absurd ?_ q⟩⟩
    rw [nI_add]; exact nI_lt (by omega) (by omega)
  | succ f ih =>
    intro k h1 h2 h
    refine ⟨hi, kj_length hi ?_⟩
    rw [nI_add, nI_ltI (by omega) (by omega)]
    rw [hwF] at h
    refine ⟨fun q => ?_, fun q => kx_holds hn (by omega) hi ?_⟩
    · rw [if_pos q] at h; exact h
    · rw [if_neg q] at h
      have nx : (hB t n k (sB i) && !cWord (pv t n k) && !cWord (gF t n (k + (sB i).length))) = false → wjX2_hasWord_67 (fun x2 => wlX2_hasWord_5 post (nI b) (nI e) (nI n) t i (f + 1) x2) post (nI b) (nI e) (nI n) t i (nI k) := by
        intro z x ex
        rw [ex, nI_1]
        rw [z] at h
        exact ih (k + 1) (by omega) (by omega) h
      refine b_ifz (fun z => nx (by rw [z]; rfl)) (fun z => kx_pv hn (by omega) (kx_isWord (b_if (fun z2 => nx (by rw [z, z2]; rfl)) (fun z2 => ⟨hi, kj_length hi ?_⟩))))
      rw [nI_add]
      refine kx_get hn (by omega) (kx_isWord (b_if (fun z3 => nx (by rw [z, z2, z3]; rfl)) (fun z3 => ?_)))
      rw [z, z2, z3] at h; exact h
theorem kx_hw {post : Int32 → Prop} {t : Nat → Int32} {n b e i : Nat} (hn : n ≤ 1500) (hb : b ≤ e) (he : e ≤ n) (hi : i < nS) (h0 : 0 < (sB i).length) (h : post (b2i (hwF t n e (sB i) (e + 1 - b) b))) : wpX2_hasWord post (nI b) (nI e) (nI n) t i := ⟨_, kx_hw_loop hn he hi h0 (e + 1 - b) b (Nat.le_refl _) (by omega) h⟩
/-- the line leads -/
def ldF (t : Nat → Int32) (n b e : Nat) : Bool := decide (b < e ∧ t (e - 1) = 58) && (atF t e (e - b) b || hwF t n e [119, 114, 111, 116, 101] (e + 1 - b) b || hwF t n e [115, 99, 104, 114, 105, 101, 98] (e + 1 - b) b)
theorem kx_leads {post : Int32 → Prop} {t : Nat → Int32} {n b e : Nat} (hn : n ≤ 1500) (hb : b ≤ e) (he : e ≤ n) (h : post (b2i (ldF t n b e))) : wpX2_leads post (nI b) (nI e) (nI n) t := by
  unfold wpX2_leads
  rw [nI_leI (by omega) (by omega)]
  refine ⟨fun q => ?_, fun q => ?_⟩
  · rw [ldF, decide_eq_false (by omega)] at h; exact h
  · rw [show nI e - 1 = nI (e - 1) by rw [show e = (e - 1) + 1 by omega, nI_pred]; rfl]
    refine kx_get hn (by omega) ?_
    rw [gF_lt (by omega)]
    refine ⟨fun q2 => ?_, fun q2 => kx_at hn hb he ?_⟩
    · rw [ldF, decide_eq_false (fun z => q2 z.2)] at h; exact h
    · rw [ldF, decide_eq_true ⟨by omega, q2⟩, Bool.true_and] at h
      refine b_if (fun z => ?_) (fun z => kx_hw hn hb he (by decide) (by decide) ?_)
      · rw [z] at h; exact h
      · rw [sB_36]
        rw [z, Bool.false_or] at h
        refine b_if (fun z2 => ?_) (fun z2 => kx_hw hn hb he (by decide) (by decide) ?_)
        · rw [z2] at h; exact h
        · rw [sB_37]
          rw [z2, Bool.false_or] at h
          refine b_ifz (fun z3 => ?_) (fun z3 => ?_)
          · rw [z3] at h; exact h
          · rw [z3] at h; exact h
