/-! PURE 43: the names behind a & -/
theorem firstE_spec {p : Nat → Bool} {n : Nat} : ∀ (f k : Nat), n - k = f → k ≤ n → (∀ j, k ≤ j → j < firstE p n k → p j = false) ∧ (firstE p n k < n → p (firstE p n k) = true) := by
  intro f
  induction f with
  | zero => intro k h hk; rw [firstE_ge (by omega)]; exact ⟨fun j a b => by omega, fun q => by omega⟩
  | succ f ih =>
    intro k h hk
    cases c : p k with
    | true => rw [firstE_y (by omega) c]; exact ⟨fun j a b => by omega, fun _ => c⟩
    | false =>
      rw [firstE_n (by omega) c]
      obtain ⟨h1, h2⟩ := ih (k + 1) (by omega) (by omega)
      refine ⟨fun j a b => ?_, h2⟩
      rcases Nat.lt_or_ge k j with q | q
      · exact h1 j q b
      · rw [show j = k by omega]; exact c
def wordE (g : Nat → Int32) (n k : Nat) : Nat := firstE (fun j => !cWord (g j)) n k
theorem hG_get {g : Nat → Int32} : ∀ (bs : List Int32) (k : Nat), hG g k bs = true → ∀ i, i < bs.length → g (k + i) = bs.getD i 0 := by
  intro bs
  induction bs with
  | nil => intro k _ i hi; exact absurd hi (Nat.not_lt_zero _)
  | cons b bs ih =>
    intro k h i hi
    rw [hG, Bool.and_eq_true, decide_eq_true_eq] at h
    cases i with
    | zero => exact h.1
    | succ i =>
      have := ih (k + 1) h.2 i (by rw [List.length_cons] at hi; omega)
      rw [show k + (i + 1) = k + 1 + i by omega]; exact this
theorem ent_iff {g : Nat → Int32} {n k : Nat} {bs : List Int32} (hge : ∀ j, n ≤ j → g j = -1) (hk : k ≤ n) (hb : bs.all cWord = true) (h0 : 0 < bs.length) : (hG g k bs && !cWord (g (k + bs.length))) = (decide (wordE g n k - k = bs.length) && hG g k bs) := by
  cases q : hG g k bs with
  | false => rw [Bool.and_false, Bool.false_and]
  | true =>
    rw [Bool.true_and, Bool.and_true]
    rw [List.all_eq_true] at hb
    have hl := hG_len hge bs k (fun b hb2 c => by have := hb b hb2; rw [c, cWord_m1] at this; cases this) h0 q
    obtain ⟨w1, w2⟩ := firstE_spec (p := fun j => !cWord (g j)) (n := n) _ k rfl hk
    have wb := firstE_bd (p := fun j => !cWord (g j)) (n := n) _ k rfl hk
    have words : ∀ i, i < bs.length → cWord (g (k + i)) = true := fun i hi => by
      rw [hG_get bs k q i hi]
      exact hb _ (by rw [List.getD_eq_getElem?_getD, List.getElem?_eq_getElem hi]; exact List.getElem_mem hi)
    have ge : k + bs.length ≤ wordE g n k := by
      rcases Nat.lt_or_ge (wordE g n k) (k + bs.length) with c | c
      · have h3 : (!cWord (g (wordE g n k))) = true := w2 (show wordE g n k < n by omega)
        have wbk : k ≤ wordE g n k := wb.1
        have h4 := words (wordE g n k - k) (by omega)
        rw [show k + (wordE g n k - k) = wordE g n k by omega] at h4
        rw [h4] at h3; cases h3
      · exact c
    cases c : cWord (g (k + bs.length)) with
    | true =>
      refine (decide_eq_false (fun d => ?_)).symm
      have e : wordE g n k = k + bs.length := by omega
      rcases Nat.lt_or_ge (wordE g n k) n with u | u
      · have h3 := w2 u
        have h3 : (!cWord (g (wordE g n k))) = true := h3
        rw [e, c] at h3; cases h3
      · rw [← e, hge _ u, cWord_m1] at c; cases c
    | false =>
      refine (decide_eq_true ?_).symm
      rcases Nat.lt_or_ge (k + bs.length) (wordE g n k) with u | u
      · have h3 : (!cWord (g (k + bs.length))) = false := w1 (k + bs.length) (by omega) u
        rw [c] at h3; cases h3
      · omega
def entV (m : Nat) (h : Nat → Bool) : Int32 :=
  if (decide (m = 3) && h 23) = true then 38 else if (decide (m = 2) && h 21) = true then 60 else if (decide (m = 2) && h 22) = true then 62
  else if (decide (m = 4) && h 24) = true then 34 else if (decide (m = 4) && h 25) = true then 39 else if (decide (m = 4) && h 26) = true then 32
  else if (decide (m = 6) && h 33) = true then 233 else if (decide (m = 4) && h 27) = true then 246 else if (decide (m = 4) && h 28) = true then 228
  else if (decide (m = 4) && h 29) = true then 252 else if (decide (m = 5) && h 32) = true then 223 else if (decide (m = 4) && h 30) = true then 8364
  else if (decide (m = 4) && h 31) = true then 169 else -1
theorem kx_entity {post : Int32 → Prop} {g tx : Nat → Int32} {n a f e : Nat} (hn : n ≤ 1500) (hA : ∀ j, a ≤ j → gF tx n j = g j) (ha : a ≤ f) (hf : f ≤ e) (he : e ≤ 1502) (h : post (entV (e - f) (fun i => hG g f (sB i)))) : wpX3_entity post (nI n) tx (nI f) (nI e) := by
  have ask0 : ∀ {P : Int32 → Prop} (i : Nat), i < nS → P (b2i (hG g f (sB i))) → wpX5_holds P (nI n) tx (nI f) i := fun i hi hp => kx_holds hn (by omega) hi (by rw [hB_G (g := g) (sB i) f (fun x hx => hA x (by omega))]; exact hp)
  have hm : e - f ≤ 1502 := by omega
  generalize hh : (fun i => hG g f (sB i)) = hF at h
  have ask : ∀ {P : Int32 → Prop} (i : Nat), i < nS → P (b2i (hF i)) → wpX5_holds P (nI n) tx (nI f) i := fun {P} i hi hp => ask0 i hi (by rw [← hh] at hp; exact hp)
  intro sw esw
  rw [pk_sub hf] at esw
  subst esw
  generalize e - f = m at h hm
  have eqm : ∀ d : Nat, d ≤ 10 → (nI m = nI d ↔ m = d) := fun d hd => nI_eq (by omega) (by omega)
  refine ⟨fun q => ?_, fun q => ?_, fun q => ?_, fun q => ?_, fun q => ?_, fun q2 q3 q4 q5 q6 => ?_⟩
  · have q : m = 2 := (eqm 2 (by omega)).mp q
    subst q
    refine ask 21 (by decide) (b_ifz (fun z => ask 22 (by decide) (b_ifz (fun z2 => ?_) (fun z2 => ?_))) (fun z => ?_))
    · simp [entV, z, z2] at h; exact h
    · simp [entV, z, z2] at h; exact h
    · simp [entV, z] at h; exact h
  · have q : m = 3 := (eqm 3 (by omega)).mp q
    subst q
    refine ask 23 (by decide) (b_ifz (fun z => ?_) (fun z => ?_))
    · simp [entV, z] at h; exact h
    · simp [entV, z] at h; exact h
  · have q : m = 4 := (eqm 4 (by omega)).mp q
    subst q
    refine ask 24 (by decide) (b_ifz (fun z1 => ask 25 (by decide) (b_ifz (fun z2 => ask 26 (by decide) (b_ifz (fun z3 => ask 27 (by decide) (b_ifz (fun z4 => ask 28 (by decide) (b_ifz (fun z5 => ask 29 (by decide) (b_ifz (fun z6 => ask 30 (by decide) (b_ifz (fun z7 => ask 31 (by decide) (b_ifz (fun z8 => ?_) (fun z8 => ?_))) (fun z7 => ?_))) (fun z6 => ?_))) (fun z5 => ?_))) (fun z4 => ?_))) (fun z3 => ?_))) (fun z2 => ?_))) (fun z1 => ?_))
    · simp [entV, z1, z2, z3, z4, z5, z6, z7, z8] at h; exact h
    · simp [entV, z1, z2, z3, z4, z5, z6, z7, z8] at h; exact h
    · simp [entV, z1, z2, z3, z4, z5, z6, z7] at h; exact h
    · simp [entV, z1, z2, z3, z4, z5, z6] at h; exact h
    · simp [entV, z1, z2, z3, z4, z5] at h; exact h
    · simp [entV, z1, z2, z3, z4] at h; exact h
    · simp [entV, z1, z2, z3] at h; exact h
    · simp [entV, z1, z2] at h; exact h
    · simp [entV, z1] at h; exact h
  · have q : m = 5 := (eqm 5 (by omega)).mp q
    subst q
    refine ask 32 (by decide) (b_ifz (fun z => ?_) (fun z => ?_))
    · simp [entV, z] at h; exact h
    · simp [entV, z] at h; exact h
  · have q : m = 6 := (eqm 6 (by omega)).mp q
    subst q
    refine ask 33 (by decide) (b_ifz (fun z => ?_) (fun z => ?_))
    · simp [entV, z] at h; exact h
    · simp [entV, z] at h; exact h
  · have n2 : ¬ m = 2 := fun c => q2 ((eqm 2 (by omega)).mpr c)
    have n3 : ¬ m = 3 := fun c => q3 ((eqm 3 (by omega)).mpr c)
    have n4 : ¬ m = 4 := fun c => q4 ((eqm 4 (by omega)).mpr c)
    have n5 : ¬ m = 5 := fun c => q5 ((eqm 5 (by omega)).mpr c)
    have n6 : ¬ m = 6 := fun c => q6 ((eqm 6 (by omega)).mpr c)
    simp [entV, n2, n3, n4, n5, n6] at h; exact h
def nameR (g : Nat → Int32) (n k : Nat) (o : List Int32) : List Int32 × Nat :=
  if entV (wordE g n (k + 1) - (k + 1)) (fun i => hG g (k + 1) (sB i)) = -1 then (o ++ [38], k + 1)
  else (o ++ [entV (wordE g n (k + 1) - (k + 1)) (fun i => hG g (k + 1) (sB i))], semi g (wordE g n (k + 1)))
theorem kx_readName {post : Int32 → Int32 → (Nat → Int32) → Prop} {g tx : Nat → Int32} {n k : Nat} {o : List Int32} (hn : n ≤ 1500) (hP : PX g n k o tx) (hk : k < n)
    (H : ∀ tx', PX g n (k + 1) (nameR g n k o).1 tx' → post (nI (nameR g n k o).2) (nI (nameR g n k o).1.length) tx') : wpX3_readName post (nI o.length) (nI n) tx (nI k) := by
  have hA := hP.2.2
  have fin : ∀ e, wordE g n (k + 1) = e → k + 1 ≤ e → e ≤ 1502 → wjX3_readName_35 post (nI n) (nI k) (nI o.length) tx (nI e) := by
    intro e he h1 h2
    rw [nameR, he] at H
    rw [wjX3_readName_35, nI_1 k, nI_1 e]
    refine kx_entity hn hA (by omega) h1 h2 ⟨fun c => ?_, fun c => ?_⟩
    · rw [if_neg c] at H
      refine kx_write hn hP hk (fun tx' h' => kx_getA hn h'.2.2 (by omega) (by omega) ?_)
      have H := H tx' h'
      rw [show ((o ++ [entV (e - (k + 1)) (fun i => hG g (k + 1) (sB i))], semi g e) : List Int32 × Nat).2 = semi g e from rfl, semi] at H
      refine ⟨fun d => ?_, fun d => ?_⟩
      · rw [if_neg d] at H; exact H
      · rw [if_pos d] at H; exact H
    · rw [if_pos c] at H
      exact kx_write hn hP hk (fun tx' h' => H tx' h')
  have loop : ∀ (f j : Nat), n - j = f → k + 1 ≤ j → j ≤ n → wordE g n j = wordE g n (k + 1) → wlX3_readName_4 post (nI n) (nI k) (nI o.length) tx (f + 1) (nI j) := by
    intro f
    induction f with
    | zero =>
      intro j hf hj1 hj he
      rw [wordE, firstE_ge (by omega)] at he
      have e1 : j = n := by omega
      subst e1
      exact ⟨fun _ => fin j he.symm hj1 (by omega), fun q => absurd (nI_le (Nat.le_refl _) (by omega)) q⟩
    | succ f ih =>
      intro j hf hj1 hj he
      refine ⟨fun q => absurd ((nI_leI (by omega) (by omega)).mp q) (by omega), fun _ => kx_getA hn hA (by omega) (by omega) (kx_isWord (b_ifz (fun z => ?_) (fun z y ey => ?_)))⟩
      · rw [wordE, firstE_y (p := fun j => !cWord (g j)) (by omega) (by rw [z]; rfl)] at he
        exact fin j he.symm hj1 (by omega)
      · rw [ey, nI_1]
        rw [wordE, firstE_n (p := fun j => !cWord (g j)) (by omega) (by rw [z]; rfl)] at he
        exact ih (j + 1) (by omega) (by omega) (by omega) he
  intro y ey
  rw [ey, nI_1]
  exact ⟨_, loop (n - (k + 1)) (k + 1) rfl (Nat.le_refl _) (by omega) rfl⟩
theorem km_named {post : Int32 → Int32 → Int32 → (Nat → Int32) → Prop} {g tx f : Nat → Int32} {n k i : Nat} {o : List Int32} {x : Int64} {v : Int32} (hn : n ≤ 1500) (hA : ∀ j, gF tx n j = g j) (hr : rW f o) (ho : o.length ≤ 1500) (hk : k < n) (hx : wGood x (sB i) = true)
    (h1 : (hG g (k + 1) (sB i) && !cWord (g (k + 1 + (sB i).length))) = true → ∀ f', rW f' (o ++ [v]) → post 1 (nI (o ++ [v]).length) (nI (semi g (k + 1 + (sB i).length))) f')
    (h0 : (hG g (k + 1) (sB i) && !cWord (g (k + 1 + (sB i).length))) = false → post 0 (nI o.length) (nI k) f) : wpX8_named post (nI n) (nI o.length) (nI k) tx f x v := by
  have h8 := (wGood_spec hx).1
  rw [wpX8_named, nI_1]
  refine km_stands (al := false) hn (by omega) hx ?_
  rw [if_neg (by decide), hB_G (g := g) (sB i) (k + 1) (fun j _ => hA j)]
  refine b_if (fun z => km_lengthOf hx (fun y ey => ?_)) (fun z => h0 (by rw [z]; rfl))
  rw [nI_add] at ey
  subst ey
  have e55 : cWord (g (k + 1 + (sB i).length)) = false → wjX8_named_55 post (nI n) tx x v (nI o.length) (nI k) f (nI (k + 1 + (sB i).length)) := by
    intro c
    have h1 := h1 (by rw [z, c]; rfl)
    refine km_write hr (by omega) (fun f' h' => km_lookA hn hA (by omega) ?_)
    have h1 := h1 f' h'
    rw [semi] at h1
    refine ⟨fun d => ?_, fun d => ?_⟩
    · rw [if_neg d] at h1; exact h1
    · rw [if_pos d] at h1; rw [nI_1]; exact h1
  refine km_lookA hn hA (by omega) ⟨fun c => e55 (by rw [c]; decide), fun _ => km_lookA hn hA (by omega) (km_isWord (b_ifz e55 (fun c => h0 (by rw [c, Bool.not_true, Bool.and_false]))))⟩
