/-! PURE 3: the text. gF: what stands at k, or none; hB: whether a word stands there; hL, hS: the same with characters made small first -/
def gF (t : Nat → Int32) (n k : Nat) : Int32 := if k < n then t k else -1
def hB (t : Nat → Int32) (n : Nat) : Nat → List Int32 → Bool
  | _, [] => true
  | k, b :: bs => decide (gF t n k = b) && hB t n (k + 1) bs
def cLow (c : Int32) : Int32 := if 65 ≤ c.toInt ∧ c.toInt ≤ 90 then c + 32 else c
def hL (t : Nat → Int32) (n : Nat) : Nat → List Int32 → Bool
  | _, [] => true
  | k, b :: bs => decide (cLow (gF t n k) = b) && hL t n (k + 1) bs
def hS (t : Nat → Int32) (n : Nat) : Nat → List Int32 → Bool
  | _, [] => true
  | k, b :: bs => decide (cSmall (gF t n k) = b) && hS t n (k + 1) bs
theorem kx_get {post : Int32 → Prop} {t : Nat → Int32} {n k : Nat} (hn : n ≤ 1500) (hk : k < 2 ^ 31) (h : post (gF t n k)) : wpX5_get post (nI n) t (nI k) := by
  refine ⟨fun q => absurd q (nI_pos hk), fun _ => ⟨fun q => ?_, fun q => ?_⟩⟩
  · rw [nI_leI (by omega) hk] at q
    rw [gF, if_neg (by omega)] at h; exact h
  · rw [nI_leI (by omega) hk] at q
    rw [gF, if_pos (by omega)] at h
    exact ⟨vp_in_nI (by omega) (by omega), by rw [nI_clamp hk]; exact h⟩
theorem kx_getM {post : Int32 → Prop} {t : Nat → Int32} {n : Nat} (h : post (-1)) : wpX5_get post (nI n) t (-1) := ⟨fun _ => h, fun q => absurd (by decide) q⟩
theorem km_look {post : Int32 → Prop} {t : Nat → Int32} {n k : Nat} (hn : n ≤ 1500) (hk : k < 2 ^ 31) (h : post (gF t n k)) : wpX8_look post (nI n) t (nI k) := by
  refine ⟨fun q => ?_, fun q => ?_⟩
  · rw [nI_leI (by omega) hk] at q
    rw [gF, if_neg (by omega)] at h; exact h
  · rw [nI_leI (by omega) hk] at q
    rw [gF, if_pos (by omega)] at h
    exact ⟨vp_in_nI (by omega) (by omega), by rw [nI_clamp hk]; exact h⟩
/-! texts of the class -/
theorem kj_length {post : Int32 → Prop} {i : Nat} (hi : i < nS) (h : post (nI (sB i).length)) : wpJ0_length_8abf5 post i := by
  refine ⟨hi, hi, hi, fun q => absurd q (by decide), fun _ => ⟨hi, ?_⟩⟩
  show post (Int32.ofNat (sB i).length >>> ((0 : Int32) &&& 31))
  rw [sb_shr0]; exact h
theorem kj_tab : ∀ i, i < nS → ∀ b ∈ sB i, ((Int32.toUInt32 (b &&& 255)) % 65536).toInt32 = b ∧ narrow .char (.int b) = .int b := by
  intro i hi b hb
  have h : (List.range nS).all (fun i => (sB i).all (fun b => decide (((Int32.toUInt32 (b &&& 255)) % 65536).toInt32 = b))) = true := by decide +kernel
  have q := of_decide_eq_true (List.all_eq_true.mp (List.all_eq_true.mp h i (List.mem_range.mpr hi)) b hb)
  exact ⟨q, by rw [← q]; exact pk_nc _⟩
theorem kj_charAt {post : Int32 → Prop} {i k : Nat} (hi : i < nS) (hk : k < (sB i).length) (hl : (sB i).length < 2 ^ 31) (h : post ((sB i).getD k 0)) : wpJ0_charAt_5068e post i (nI k) := by
  have hb : (sB i).getD k 0 ∈ sB i := by rw [List.getD_eq_getElem?_getD, List.getElem?_eq_getElem hk]; exact List.getElem_mem hk
  obtain ⟨q1, q2⟩ := kj_tab i hi _ hb
  refine ⟨hi, fun q => absurd q (by decide), fun _ => ⟨hi, fun q => absurd rfl q, fun _ => ⟨fun q => absurd q (by decide), fun _ => ⟨hi, hi, ?_⟩⟩⟩⟩
  refine ⟨fun q => absurd q (nI_pos (by omega)), fun _ => ⟨fun _ => ⟨hi, vp_in_nI hk (by omega), ?_⟩, fun q => absurd (nI_lt hk (by omega)) q⟩⟩
  rw [nI_clamp (by omega), q1]
  exact ⟨q2, h⟩
theorem yLen2 : ∀ i : Nat, i < nS → (sB i).length < 100 := by
  intro i hi
  have h : (List.range nS).all (fun i => decide ((sB i).length < 100)) = true := by decide +kernel
  exact of_decide_eq_true (List.all_eq_true.mp h i (List.mem_range.mpr hi))
theorem kx_holds_loop {post : Int32 → Prop} {t : Nat → Int32} {n f i : Nat} (hn : n ≤ 1500) (hf : f < 2 ^ 30) (hi : i < nS) : ∀ (l : List Int32) (j : Nat), (sB i).drop j = l → j ≤ (sB i).length → post (b2i (hB t n (f + j) l)) → wlX5_holds_2 post (nI n) t (nI f) i (l.length + 1) (nI j) := by
  have hL := yLen2 i hi
  intro l
  induction l with
  | nil =>
    intro j e hj h
    have q : (sB i).length ≤ j := List.drop_eq_nil_iff.mp e
    exact ⟨hi, kj_length hi ⟨fun _ => h, fun q2 => absurd (nI_le q (by omega)) q2⟩⟩
  | cons b l ih =>
    intro j e hj h
    obtain ⟨h1, h2, h3, h4⟩ := sc_dropC e
    refine ⟨hi, kj_length hi ⟨fun q2 => absurd q2 (nI_ge h1 (by omega)), fun _ => ?_⟩⟩
    rw [nI_add]
    refine kx_get hn (by omega) ⟨hi, kj_charAt hi h1 (by omega) ?_⟩
    rw [h2]
    rw [hB] at h
    refine ⟨fun q => ?_, fun q => ?_⟩
    · intro x ex
      rw [ex, nI_1]
      rw [decide_eq_true q, Bool.true_and] at h
      exact ih (j + 1) h3 (by omega) h
    · rw [decide_eq_false q, Bool.false_and] at h
      exact h
theorem kx_holds {post : Int32 → Prop} {t : Nat → Int32} {n f i : Nat} (hn : n ≤ 1500) (hf : f < 2 ^ 30) (hi : i < nS) (h : post (b2i (hB t n f (sB i)))) : wpX5_holds post (nI n) t (nI f) i := ⟨_, kx_holds_loop hn hf hi (sB i) 0 rfl (Nat.zero_le _) h⟩
theorem kx_any_step {k2 : Int32 → Prop} {post : Int32 → Prop} {t : Nat → Int32} {n f i j : Nat} {c b : Int32} (hi : i < nS) (h1 : j < (sB i).length) (h2 : (sB i).getD j 0 = b) (ht : c = b → k2 (nI (j + 1))) (hf : ¬ c = b → post 0) : wjX5_holdsInAnyCase_43 k2 post (nI n) t (nI f) i (nI j) c := by
  have hL := yLen2 i hi
  refine ⟨hi, kj_charAt hi h1 (by omega) ?_⟩
  rw [h2]
  exact ⟨fun q x ex => by rw [ex, nI_1]; exact ht q, hf⟩
theorem kx_any_loop {post : Int32 → Prop} {t : Nat → Int32} {n f i : Nat} (hn : n ≤ 1500) (hf : f < 2 ^ 30) (hi : i < nS) : ∀ (l : List Int32) (j : Nat), (sB i).drop j = l → j ≤ (sB i).length → post (b2i (hL t n (f + j) l)) → wlX5_holdsInAnyCase_2 post (nI n) t (nI f) i (l.length + 1) (nI j) := by
  have hL9 := yLen2 i hi
  intro l
  induction l with
  | nil =>
    intro j e hj h
    have q : (sB i).length ≤ j := List.drop_eq_nil_iff.mp e
    exact ⟨hi, kj_length hi ⟨fun _ => h, fun q2 => absurd (nI_le q (by omega)) q2⟩⟩
  | cons b l ih =>
    intro j e hj h
    obtain ⟨h1, h2, h3, h4⟩ := sc_dropC e
    refine ⟨hi, kj_length hi ⟨fun q2 => absurd q2 (nI_ge h1 (by omega)), fun _ => ?_⟩⟩
    rw [nI_add]
    refine kx_get hn (by omega) ?_
    rw [hL] at h
    have key : ∀ c : Int32, c = cLow (gF t n (f + j)) → wjX5_holdsInAnyCase_43 (fun x3 => wlX5_holdsInAnyCase_2 post (nI n) t (nI f) i (l.length + 1) x3) post (nI n) t (nI f) i (nI j) c := by
      intro c ec
      refine kx_any_step hi h1 h2 (fun q => ?_) (fun q => ?_)
      · rw [decide_eq_true (ec ▸ q), Bool.true_and] at h
        exact ih (j + 1) h3 (by omega) h
      · rw [decide_eq_false (ec ▸ q), Bool.false_and] at h
        exact h
    refine ⟨fun q => key _ ?_, fun q => ⟨fun q2 => key _ ?_, fun q2 => key _ ?_⟩⟩
    · rw [i_lt] at q; rw [cLow, if_neg (by simp only [Int32.reduceToInt] at q; omega)]
    · rw [i_lt] at q q2; rw [cLow, if_neg (by simp only [Int32.reduceToInt] at q q2; omega)]
    · rw [i_lt] at q q2; rw [cLow, if_pos (by simp only [Int32.reduceToInt] at q q2; omega)]
theorem kx_any {post : Int32 → Prop} {t : Nat → Int32} {n f i : Nat} (hn : n ≤ 1500) (hf : f < 2 ^ 30) (hi : i < nS) (h : post (b2i (hL t n f (sB i)))) : wpX5_holdsInAnyCase post (nI n) t (nI f) i := ⟨_, kx_any_loop hn hf hi (sB i) 0 rfl (Nat.zero_le _) h⟩
/-! words of the reference: a number with a byte a character -/
def wS (w : Int64) (x : Int32) : Int64 := ((Int64.toUInt64 w) >>> ((Int32.toInt64 (8 * x)).toUInt64 &&& Int64.toUInt64 63)).toInt64
def wGood (w : Int64) (bs : List Int32) : Bool := decide (bs.length ≤ 8) && (List.range bs.length).all (fun k => decide (¬ lg_cmp (wS w (nI k)) 0 = 0)) && decide (bs.length = 8 ∨ lg_cmp (wS w (nI bs.length)) 0 = 0) && (List.range bs.length).all (fun k => decide (Int64.toInt32 (wS w (nI (bs.length - 1 - k)) &&& 255) = bs.getD k 0))
theorem wGood_spec {w : Int64} {bs : List Int32} (h : wGood w bs = true) : bs.length ≤ 8 ∧ (∀ k, k < bs.length → ¬ lg_cmp (wS w (nI k)) 0 = 0) ∧ (bs.length = 8 ∨ lg_cmp (wS w (nI bs.length)) 0 = 0) ∧ ∀ k, k < bs.length → Int64.toInt32 (wS w (nI (bs.length - 1 - k)) &&& 255) = bs.getD k 0 := by
  simp only [wGood, Bool.and_eq_true, decide_eq_true_eq, List.all_eq_true, List.mem_range] at h
  exact ⟨h.1.1.1, h.1.1.2, h.1.2, h.2⟩
theorem km_length_loop {post : Int32 → Prop} {w : Int64} {bs : List Int32} (h8 : bs.length ≤ 8) (ha : ∀ k, k < bs.length → ¬ lg_cmp (wS w (nI k)) 0 = 0) (hb : bs.length = 8 ∨ lg_cmp (wS w (nI bs.length)) 0 = 0) (h : post (nI bs.length)) : ∀ (m k : Nat), k + m = bs.length → wlX8_lengthOf_2 post w (m + 1) (nI k) := by
  intro m
  induction m with
  | zero =>
    intro k e
    have e : k = bs.length := by omega
    subst e
    refine ⟨fun _ => h, fun q => ⟨fun _ => h, fun q2 => ?_⟩⟩
    rcases hb with q3 | q3
    · exact absurd (by rw [q3]; decide) q
    · exact absurd q3 q2
  | succ m ih =>
    intro k e
    refine ⟨fun q => absurd q (nI_ge (b := 8) (by omega) (by decide)), fun q => ⟨fun q2 => absurd q2 (ha k (by omega)), fun _ x ex => ?_⟩⟩
    rw [ex, nI_1]
    exact ih (k + 1) (by omega)
theorem km_lengthOf {post : Int32 → Prop} {w : Int64} {bs : List Int32} (hw : wGood w bs = true) (h : post (nI bs.length)) : wpX8_lengthOf post w := by
  obtain ⟨h1, h2, h3, -⟩ := wGood_spec hw
  exact ⟨_, km_length_loop h1 h2 h3 h bs.length 0 (by omega)⟩
theorem km_stands_loop {post : Int32 → Prop} {t : Nat → Int32} {n f : Nat} {w : Int64} {bs : List Int32} {al : Bool} (hn : n ≤ 1500) (hf : f < 2 ^ 30) (hw : wGood w bs = true) : ∀ (l : List Int32) (j : Nat), bs.drop j = l → j ≤ bs.length → post (b2i (if al then hS t n (f + j) l else hB t n (f + j) l)) → wlX8_stands_9 post (nI n) t (nI f) w (b2i al) (nI bs.length) (l.length + 1) (nI j) := by
  obtain ⟨w1, w2, w3, w4⟩ := wGood_spec hw
  intro l
  induction l with
  | nil =>
    intro j e hj h
    have q : bs.length ≤ j := List.drop_eq_nil_iff.mp e
    have h : post 1 := by cases al <;> exact h
    exact ⟨fun _ => h, fun q2 => absurd (nI_le q (by omega)) q2⟩
  | cons b l ih =>
    intro j e hj h
    obtain ⟨h1, h2, h3, h4⟩ := sc_dropC e
    refine ⟨fun q2 => absurd q2 (nI_ge h1 (by omega)), fun _ => ?_⟩
    rw [nI_add]
    refine km_look hn (by omega) ?_
    have eb : Int64.toInt32 (wS w ((nI bs.length - 1) - nI j) &&& 255) = b := by
      rw [show (nI bs.length - 1) - nI j = nI (bs.length - 1 - j) by rw [show (1 : Int32) = nI 1 from rfl, pk_sub (by omega), pk_sub (by omega)], w4 j h1, h2]
    have key : ∀ c : Int32, (c = b → post (b2i (if al then hS t n (f + j + 1) l else hB t n (f + j + 1) l))) → (¬ c = b → post 0) → wjX8_stands_41 (fun x6 => wlX8_stands_9 post (nI n) t (nI f) w (b2i al) (nI bs.length) (l.length + 1) x6) post (nI n) t (nI f) w (b2i al) (nI bs.length) (nI j) c := by
      intro c ht hf
      unfold wjX8_stands_41
      show ((c = Int64.toInt32 (wS w ((nI bs.length - 1) - nI j) &&& 255) → _) ∧ (¬ c = Int64.toInt32 (wS w ((nI bs.length - 1) - nI j) &&& 255) → _))
      rw [eb]
      refine ⟨fun q x ex => ?_, hf⟩
      rw [ex, nI_1]
      exact ih (j + 1) h3 (by omega) (ht q)
    cases al with
    | false =>
      refine ⟨fun _ => key _ (fun q => ?_) (fun q => ?_), fun q => absurd rfl q⟩
      · simp only [Bool.false_eq_true, if_false, hB, decide_eq_true q, Bool.true_and] at h ⊢; exact h
      · simp only [Bool.false_eq_true, if_false, hB, decide_eq_false q, Bool.false_and] at h; exact h
    | true =>
      refine ⟨fun q => absurd q (by decide), fun _ => km_small (key _ (fun q => ?_) (fun q => ?_))⟩
      · simp only [if_true, hS, decide_eq_true q, Bool.true_and] at h ⊢; exact h
      · simp only [if_true, hS, decide_eq_false q, Bool.false_and] at h; exact h
theorem km_stands {post : Int32 → Prop} {t : Nat → Int32} {n f : Nat} {w : Int64} {bs : List Int32} {al : Bool} (hn : n ≤ 1500) (hf : f < 2 ^ 30) (hw : wGood w bs = true) (h : post (b2i (if al then hS t n f bs else hB t n f bs))) : wpX8_stands post (nI n) t (nI f) w (b2i al) :=
  km_lengthOf hw ⟨_, km_stands_loop hn hf hw bs 0 rfl (Nat.zero_le _) h⟩
