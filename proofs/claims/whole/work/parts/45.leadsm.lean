/-! PURE 6: what leads a quotation, in the reference -/
theorem cWord_m1 : cWord (-1) = false := by decide
theorem cWord_10 : cWord 10 = false := by decide
theorem pv_line {t : Nat → Int32} {n b e : Nat} (hL : lineAt t n b e) : cWord (pv t n b) = false := by
  obtain ⟨h1, h2, h3, h4⟩ := hL
  rw [pv]
  by_cases hb : b = 0
  · rw [if_pos hb]; exact cWord_m1
  · rw [if_neg hb, gF_lt (by omega) , h4 (by omega)]; exact cWord_10
theorem nx_line {t : Nat → Int32} {n b e : Nat} (hL : lineAt t n b e) : cWord (gF t n e) = false := by
  obtain ⟨h1, h2, h3, h4⟩ := hL
  by_cases he : e < n
  · rw [gF_lt he, h3 he]; exact cWord_10
  · rw [gF_ge (by omega)]; exact cWord_m1
theorem km_hw_loop {post : Int32 → Prop} {t : Nat → Int32} {n b e : Nat} {w : Int64} {bs : List Int32} (hn : n ≤ 1500) (hL : lineAt t n b e) (hw : wGood w bs = true) (h0 : 0 < bs.length) : ∀ (f k : Nat), e + 1 - k ≤ f → b ≤ k → k ≤ e + 1 → post (b2i (hwF t n e bs f k)) → wlX8_hasWord_9 post (nI n) t (nI b) (nI e) w (nI bs.length) (f + 1) (nI k) := by
  have hl := (wGood_spec hw).1
  have hL0 := hL
  obtain ⟨l1, l2, -, -⟩ := hL0
  intro f
  induction f with
  | zero =>
    intro k h1 hb h2 h
    refine ⟨fun _ => h, fun q => absurd ?_ q⟩
    rw [nI_add]; exact nI_lt (by omega) (by omega)
  | succ f ih =>
    intro k h1 hb h2 h
    unfold wlX8_hasWord_9
    rw [nI_add, nI_ltI (by omega) (by omega), nI_eq (by omega) (by omega)]
    rw [hwF] at h
    refine ⟨fun q => ?_, fun q => ?_⟩
    · rw [if_pos q] at h; exact h
    · rw [if_neg q] at h
      have nx : (hB t n k bs && !cWord (pv t n k) && !cWord (gF t n (k + bs.length))) = false → wjX8_hasWord_89 (fun x6 => wlX8_hasWord_9 post (nI n) t (nI b) (nI e) w (nI bs.length) (f + 1) x6) post (nI n) t (nI b) (nI e) w (nI bs.length) (nI k) := by
        intro z x ex
        rw [ex, nI_1]
        rw [z] at h
        exact ih (k + 1) (by omega) (by omega) (by omega) h
      have no : (hB t n k bs && !cWord (pv t n k) && !cWord (gF t n (k + bs.length))) = false → wjX8_hasWord_68 (fun x6 => wlX8_hasWord_9 post (nI n) t (nI b) (nI e) w (nI bs.length) (f + 1) x6) post (nI n) t (nI b) (nI e) w (nI bs.length) (nI k) := by
        intro z
        exact ⟨fun _ => nx z, fun q2 => absurd rfl q2⟩
      have ys : cWord (pv t n k) = false → cWord (gF t n (k + bs.length)) = false → wjX8_hasWord_64 (fun x6 => wlX8_hasWord_9 post (nI n) t (nI b) (nI e) w (nI bs.length) (f + 1) x6) post (nI n) t (nI b) (nI e) w (nI bs.length) (nI k) := by
        intro z1 z2
        refine ⟨fun q2 => absurd q2 (by decide), fun _ => km_stands (al := false) hn (by omega) hw ?_⟩
        refine b_ifz (fun z => nx (by rw [show hB t n k bs = false from z]; rfl)) (fun z => ?_)
        rw [show hB t n k bs = true from z, z1, z2] at h; exact h
      have e39 : cWord (pv t n k) = false → wjX8_hasWord_39 (fun x6 => wlX8_hasWord_9 post (nI n) t (nI b) (nI e) w (nI bs.length) (f + 1) x6) post (nI n) t (nI b) (nI e) w (nI bs.length) (nI k) := by
        intro z1
        unfold wjX8_hasWord_39
        rw [nI_add, nI_eq (by omega) (by omega), nI_clamp (by omega)]
        refine ⟨fun q2 => ys z1 (by rw [q2]; exact nx_line hL), fun q2 => ⟨vp_in_nI (by omega) (by omega), km_isWord ?_⟩⟩
        rw [← gF_lt (t := t) (n := n) (by omega)]
        exact b_if (fun z2 => no (by rw [z1, z2]; simp)) (fun z2 => ys z1 z2)
      refine ⟨fun q2 => e39 (by rw [q2]; exact pv_line hL), fun q2 => ?_⟩
      rw [show nI k - 1 = nI (k - 1) by rw [show k = (k - 1) + 1 by omega, nI_pred]; rfl, nI_clamp (by omega)]
      refine ⟨vp_in_nI (by omega) (by omega), km_isWord ?_⟩
      have ep : pv t n k = t (k - 1) := by rw [pv, if_neg (by omega), gF_lt (by omega)]
      rw [← ep]
      exact b_if (fun z2 => no (by rw [z2]; simp)) (fun z2 => e39 z2)
theorem km_hw {post : Int32 → Prop} {t : Nat → Int32} {n b e : Nat} {w : Int64} {bs : List Int32} (hn : n ≤ 1500) (hL : lineAt t n b e) (hw : wGood w bs = true) (h0 : 0 < bs.length) (h : post (b2i (hwF t n e bs (e + 1 - b) b))) : wpX8_hasWord post (nI n) t (nI b) (nI e) w :=
  km_lengthOf hw ⟨_, km_hw_loop hn hL hw h0 (e + 1 - b) b (Nat.le_refl _) (Nat.le_refl _) (by have := hL.1; omega) h⟩
theorem km_leads_loop {post : Int32 → Prop} {t : Nat → Int32} {n b e : Nat} (hn : n ≤ 1500) (hL : lineAt t n b e) : ∀ (f k : Nat), e - k ≤ f → k ≤ e → post (b2i (atF t e f k || hwF t n e [119, 114, 111, 116, 101] (e + 1 - b) b || hwF t n e [115, 99, 104, 114, 105, 101, 98] (e + 1 - b) b)) → wlX8_leads_22 post (nI n) t (nI b) (nI e) (f + 1) (nI k) := by
  have hL0 := hL
  obtain ⟨l1, l2, -, -⟩ := hL0
  have last : post (b2i (hwF t n e [119, 114, 111, 116, 101] (e + 1 - b) b || hwF t n e [115, 99, 104, 114, 105, 101, 98] (e + 1 - b) b)) → wpX8_hasWord (fun r_1 => ((¬ r_1 = 0 → post 1) ∧ (r_1 = 0 → wpX8_hasWord (fun r_2 => ((r_2 = 0 → post 0) ∧ (¬ r_2 = 0 → post 1))) (nI n) t (nI b) (nI e) 32478922568983906))) (nI n) t (nI b) (nI e) 513021015141 := by
    intro h
    refine km_hw (bs := [119, 114, 111, 116, 101]) hn hL (by decide +kernel) (by decide) (b_if (fun z2 => ?_) (fun z2 => km_hw (bs := [115, 99, 104, 114, 105, 101, 98]) hn hL (by decide +kernel) (by decide) (b_ifz (fun z3 => ?_) (fun z3 => ?_))))
    · rw [z2] at h; exact h
    · rw [z2, z3] at h; exact h
    · rw [z2, z3] at h; exact h
  intro f
  induction f with
  | zero => intro k h1 h2 h; exact ⟨fun _ => last h, fun q => absurd (nI_le (by omega) (by omega)) q⟩
  | succ f ih =>
    intro k h1 h2 h
    refine ⟨fun q => last ?_, fun q => ?_⟩
    · rw [nI_leI (by omega) (by omega)] at q
      rw [atF, if_neg (by omega)] at h; exact h
    · rw [nI_leI (by omega) (by omega)] at q
      rw [atF, if_pos (by omega)] at h
      rw [nI_clamp (by omega)]
      refine ⟨vp_in_nI (by omega) (by omega), fun q2 x ex => ?_, fun q2 => ?_⟩
      · rw [ex, nI_1]
        rw [decide_eq_false q2, Bool.false_or] at h
        exact ih (k + 1) (by omega) (by omega) h
      · rw [decide_eq_true q2, Bool.true_or] at h; exact h
theorem km_leads {post : Int32 → Prop} {t : Nat → Int32} {n b e : Nat} (hn : n ≤ 1500) (hL : lineAt t n b e) (h : post (b2i (ldF t n b e))) : wpX8_leads post (nI n) t (nI b) (nI e) := by
  have hL0 := hL
  obtain ⟨l1, l2, -, -⟩ := hL0
  unfold wpX8_leads
  rw [nI_eq (by omega) (by omega)]
  refine ⟨fun q => ?_, fun q => ?_⟩
  · rw [ldF, decide_eq_false (by omega)] at h; exact h
  · rw [show nI e - 1 = nI (e - 1) by rw [show e = (e - 1) + 1 by omega, nI_pred]; rfl, nI_clamp (by omega)]
    refine ⟨vp_in_nI (by omega) (by omega), fun q2 => ?_, fun q2 => ?_⟩
    · rw [ldF, decide_eq_true ⟨by omega, q2⟩, Bool.true_and] at h
      exact ⟨_, km_leads_loop hn hL (e - b) b (Nat.le_refl _) l1 h⟩
    · rw [ldF, decide_eq_false (fun z => q2 z.2)] at h; exact h
