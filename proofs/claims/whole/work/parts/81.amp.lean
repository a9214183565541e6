/-! PURE 42: numbers and names behind a & -/
def wthF (c x : Int32) : Int32 := if cDigit c = true then c - 48 else if x = 16 ∧ 97 ≤ c.toInt ∧ c.toInt ≤ 102 then c - 97 + 10 else if x = 16 ∧ 65 ≤ c.toInt ∧ c.toInt ≤ 70 then c - 65 + 10 else -1
theorem kx_worth {post : Int32 → Prop} {c x : Int32} (h : post (wthF c x)) : wpX3_worth post c x := by
  refine kx_isDigit (b_ifz (fun z => ?_) (fun z => by rw [wthF, if_pos z] at h; exact h))
  rw [wthF, if_neg (by rw [z]; decide)] at h
  have e38 : ¬ (x = 16 ∧ 97 ≤ c.toInt ∧ c.toInt ≤ 102) → wjX3_worth_38 post c x := by
    intro d
    rw [if_neg d] at h
    rw [wjX3_worth_38, i_lt, i_lt]
    simp only [Int32.reduceToInt]
    refine ⟨fun q => ?_, fun q => ⟨fun q2 => ?_, fun q2 => ⟨fun q3 => ?_, fun q3 => ?_⟩⟩⟩
    · rw [if_neg (fun u => q u.1)] at h; exact h
    · rw [if_neg (fun u => by omega)] at h; exact h
    · rw [if_neg (fun u => by omega)] at h; exact h
    · rw [if_pos ⟨q, by omega, by omega⟩] at h; exact h
  rw [i_lt, i_lt]
  simp only [Int32.reduceToInt]
  refine ⟨fun q => e38 (fun u => q u.1), fun q => ⟨fun q2 => e38 (fun u => by omega), fun q2 => ⟨fun q3 => e38 (fun u => by omega), fun q3 => ?_⟩⟩⟩
  rw [if_pos ⟨q, by omega, by omega⟩] at h; exact h
theorem km_worth {post : Int32 → Prop} {c x : Int32} (hx : x = 10 ∨ x = 16) (h : post (wthF c x)) : wpX8_worth post c x := by
  refine km_isDigit (b_ifz (fun z => ?_) (fun z => by rw [wthF, if_pos z] at h; exact h))
  rw [wthF, if_neg (by rw [z]; decide)] at h
  have h16 : ¬ x = 10 → x = 16 := fun q => by rcases hx with u | u; exact absurd u q; exact u
  have e42 : ¬ x = 10 → ¬ (x = 16 ∧ 97 ≤ c.toInt ∧ c.toInt ≤ 102) → wjX8_worth_42 post c x := by
    intro q d
    rw [if_neg d] at h
    rw [wjX8_worth_42, i_lt, i_lt]
    simp only [Int32.reduceToInt]
    refine ⟨fun q2 => ?_, fun q2 => ⟨fun q3 => ?_, fun q3 => ?_⟩⟩
    · rw [if_neg (fun u => by omega)] at h; exact h
    · rw [if_neg (fun u => by omega)] at h; exact h
    · rw [if_pos ⟨h16 q, by omega, by omega⟩] at h; exact h
  rw [i_lt, i_lt]
  simp only [Int32.reduceToInt]
  refine ⟨fun q => ⟨fun q2 => e42 q (fun u => by omega), fun q2 => ⟨fun q3 => e42 q (fun u => by omega), fun q3 => ?_⟩⟩, fun q => ?_⟩
  · rw [if_pos ⟨h16 q, by omega, by omega⟩] at h; exact h
  · rw [if_neg (fun u => by rw [q] at u; exact absurd u.1 (by decide)), if_neg (fun u => by rw [q] at u; exact absurd u.1 (by decide))] at h; exact h
theorem wth_neg (c x : Int32) : wthF c x < 0 ↔ wthF c x = -1 := by
  have key : wthF c x = -1 ∨ ∃ j : Nat, j < 100 ∧ wthF c x = nI j := by
    rw [wthF]
    by_cases d : cDigit c = true
    · rw [if_pos d]
      rw [cDigit, decide_eq_true_eq] at d
      obtain ⟨j, hj, ej⟩ := nI_of (x := c) (by rw [i_lt]; simp only [Int32.reduceToInt]; omega)
      rw [ej, nI_toInt hj] at d
      exact Or.inr ⟨j - 48, by omega, by rw [ej, show (48 : Int32) = nI 48 from rfl, pk_sub (by omega)]⟩
    · rw [if_neg d]
      by_cases u : x = 16 ∧ 97 ≤ c.toInt ∧ c.toInt ≤ 102
      · rw [if_pos u]
        obtain ⟨j, hj, ej⟩ := nI_of (x := c) (by rw [i_lt]; simp only [Int32.reduceToInt]; omega)
        have u2 := u.2
        rw [ej, nI_toInt hj] at u2
        exact Or.inr ⟨j - 97 + 10, by omega, by rw [ej, show (97 : Int32) = nI 97 from rfl, show (10 : Int32) = nI 10 from rfl, pk_sub (by omega), nI_add]⟩
      · rw [if_neg u]
        by_cases v : x = 16 ∧ 65 ≤ c.toInt ∧ c.toInt ≤ 70
        · rw [if_pos v]
          obtain ⟨j, hj, ej⟩ := nI_of (x := c) (by rw [i_lt]; simp only [Int32.reduceToInt]; omega)
          have v2 := v.2
          rw [ej, nI_toInt hj] at v2
          exact Or.inr ⟨j - 65 + 10, by omega, by rw [ej, show (65 : Int32) = nI 65 from rfl, show (10 : Int32) = nI 10 from rfl, pk_sub (by omega), nI_add]⟩
        · rw [if_neg v]; exact Or.inl rfl
  rcases key with k | ⟨j, hj, k⟩
  · rw [k]; exact ⟨fun _ => rfl, fun _ => by decide⟩
  · rw [k]
    refine ⟨fun c => absurd c (nI_pos (by omega)), fun c => ?_⟩
    have h1 := nI_toInt (show j < 2 ^ 31 by omega)
    rw [c, show ((-1 : Int32)).toInt = -1 from by decide] at h1
    omega
theorem wth_m1 (x : Int32) : wthF (-1) x = -1 := by
  rw [wthF, if_neg (by decide), if_neg (fun u => by have := u.2; rw [show ((-1 : Int32)).toInt = -1 from by decide] at this; omega), if_neg (fun u => by have := u.2; rw [show ((-1 : Int32)).toInt = -1 from by decide] at this; omega)]
def numS (g : Nat → Int32) (n : Nat) (x : Int32) (mo fr : Nat) : Nat → Nat → Int32 → Nat × Int32
  | 0, k, v => (k, v)
  | f + 1, k, v => if k < n ∧ ¬ wthF (g k) x = -1 then numS g n x mo fr f (k + 1) (if k - fr < mo then v * x + wthF (g k) x else v) else (k, v)
def numE (g : Nat → Int32) (n : Nat) (x : Int32) (mo fr k : Nat) (v : Int32) : Nat × Int32 := numS g n x mo fr (n - k) k v
theorem numE_y {g : Nat → Int32} {n : Nat} {x : Int32} {mo fr k : Nat} {v : Int32} (h : k < n) (hw : ¬ wthF (g k) x = -1) : numE g n x mo fr k v = numE g n x mo fr (k + 1) (if k - fr < mo then v * x + wthF (g k) x else v) := by
  rw [numE, show n - k = (n - (k + 1)) + 1 by omega, numS, if_pos ⟨h, hw⟩]; rfl
theorem numE_n {g : Nat → Int32} {n : Nat} {x : Int32} {mo fr k : Nat} {v : Int32} (hw : ¬ (k < n ∧ ¬ wthF (g k) x = -1)) : numE g n x mo fr k v = (k, v) := by
  rw [numE]
  cases h : n - k with
  | zero => rfl
  | succ f => rw [numS, if_neg hw]
theorem numE_bd {g : Nat → Int32} {n : Nat} {x : Int32} {mo fr : Nat} : ∀ (f k : Nat) (v : Int32), n - k = f → k ≤ (numE g n x mo fr k v).1 ∧ ((numE g n x mo fr k v).1 ≤ n ∨ (numE g n x mo fr k v).1 = k) := by
  intro f
  induction f with
  | zero => intro k v h; rw [numE_n (by omega)]; exact ⟨Nat.le_refl _, Or.inr rfl⟩
  | succ f ih =>
    intro k v h
    by_cases c : wthF (g k) x = -1
    · rw [numE_n (fun d => d.2 c)]; exact ⟨Nat.le_refl _, Or.inr rfl⟩
    · rw [numE_y (by omega) c]
      have := ih (k + 1) (if k - fr < mo then v * x + wthF (g k) x else v) (by omega)
      omega
def unkV (v : Int32) : Bool := decide (v = 0) || decide (65535 < v) || cIn v 55296 57343
def semi (g : Nat → Int32) (e : Nat) : Nat := if g e = 59 then e + 1 else e
/-- a number behind a &# -/
def numR (g : Nat → Int32) (n : Nat) (x : Int32) (mo fr k : Nat) (o : List Int32) : List Int32 × Nat :=
  if (numE g n x mo fr fr 0).1 = fr ∨ mo < (numE g n x mo fr fr 0).1 - fr then (o ++ [38], k + 1)
  else (o ++ [if unkV (numE g n x mo fr fr 0).2 = true then 65533 else (numE g n x mo fr fr 0).2], semi g (numE g n x mo fr fr 0).1)
theorem kx_num {post : Int32 → Int32 → (Nat → Int32) → Prop} {g tx : Nat → Int32} {n k fr mo : Nat} {x : Int32} {o : List Int32} (hn : n ≤ 1500) (hP : PX g n k o tx) (hk : k < n) (hfr : k + 2 ≤ fr) (hfr2 : fr ≤ k + 3) (hmo : mo ≤ 7)
    (H : ∀ tx', PX g n (k + 1) (numR g n x mo fr k o).1 tx' → post (nI (numR g n x mo fr k o).2) (nI (numR g n x mo fr k o).1.length) tx') : wjX3_readNumber_59 post (nI n) (nI k) (nI o.length) tx (nI fr) x (nI mo) := by
  have hA := hP.2.2
  have hge : ∀ j, k ≤ j → n ≤ j → g j = -1 := fun j h1 hj => by rw [← hA j h1, gF_ge hj]
  have fin : ∀ (e : Nat) (v : Int32), numE g n x mo fr fr 0 = (e, v) → fr ≤ e → e ≤ 1510 → wjX3_readNumber_139 post (nI n) (nI k) (nI o.length) tx (nI fr) (nI mo) v (nI e) := by
    intro e v hE he he2
    rw [numR, hE] at H
    have e154 : (e = fr ∨ mo < e - fr) → wjX3_readNumber_154 post (nI n) (nI k) (nI o.length) tx := by
      intro c
      rw [if_pos c] at H
      rw [wjX3_readNumber_154, nI_1]
      exact kx_write hn hP hk (fun tx' h' => H tx' h')
    have e210 : ¬ (e = fr ∨ mo < e - fr) → ∀ w, (if unkV v = true then 65533 else v) = w → wjX3_readNumber_210 post (nI n) (nI k) (nI o.length) tx (nI e) w := by
      intro c w hw
      rw [if_neg c] at H
      have H : ∀ tx', PX g n (k + 1) (o ++ [w]) tx' → post (nI (semi g e)) (nI (o ++ [w]).length) tx' := by rw [← hw]; exact H
      refine kx_write hn hP hk (fun tx' h' => kx_getA hn h'.2.2 (by omega) (by omega) ?_)
      have H := H tx' h'
      rw [semi] at H
      refine ⟨fun d => ?_, fun d => ?_⟩
      · rw [if_neg d] at H; exact H
      · rw [if_pos d] at H; rw [nI_1]; exact H
    rw [wjX3_readNumber_139, pk_sub he, nI_eq (by omega) (by omega), nI_leI (by omega) (by omega)]
    refine ⟨fun c => e154 (Or.inl c), fun c => ⟨fun c2 => ?_, fun c2 => e154 (Or.inr (by omega))⟩⟩
    have nc : ¬ (e = fr ∨ mo < e - fr) := by omega
    have unk : unkV v = true → wjX3_readNumber_190 post (nI n) (nI k) (nI o.length) tx v (nI e) := fun u => ⟨fun q => absurd q (by decide), fun _ => e210 nc _ (by rw [if_pos u])⟩
    have kno : unkV v = false → wjX3_readNumber_194 post (nI n) (nI k) (nI o.length) tx v (nI e) := fun u => ⟨fun _ => e210 nc _ (by rw [if_neg (by rw [u]; decide)]), fun q => absurd rfl q⟩
    refine ⟨fun d => unk (by rw [unkV, decide_eq_true d]; rfl), fun d => ⟨fun d2 => unk (by rw [unkV, decide_eq_true d2]; simp), fun d2 => ⟨fun d3 => kno ?_, fun d3 => ⟨fun d4 => kno ?_, fun d4 => unk ?_⟩⟩⟩⟩
    · rw [i_lt] at d3
      rw [unkV, decide_eq_false d, decide_eq_false d2, cIn, decide_eq_false (fun q => by omega)]; rfl
    · rw [i_lt] at d4
      rw [unkV, decide_eq_false d, decide_eq_false d2, cIn, decide_eq_false (fun q => by omega)]; rfl
    · rw [i_lt] at d3 d4
      rw [unkV, cIn, decide_eq_true (show (55296 : Int32).toInt ≤ v.toInt ∧ v.toInt ≤ (57343 : Int32).toInt from ⟨by omega, by omega⟩)]; simp
  have loop : ∀ (f j : Nat) (v : Int32), n - j = f → fr ≤ j → j ≤ 1505 → numE g n x mo fr j v = numE g n x mo fr fr 0 → wlX3_readNumber_67 post (nI n) (nI k) (nI o.length) tx (nI fr) x (nI mo) (f + 1) v (nI j) := by
    intro f
    induction f with
    | zero =>
      intro j v hf hj1 hj hE
      rw [numE_n (by omega)] at hE
      exact ⟨fun _ => fin j v hE.symm hj1 (by omega), fun q => absurd (nI_le (by omega) (by omega)) q⟩
    | succ f ih =>
      intro j v hf hj1 hj hE
      refine ⟨fun q => absurd ((nI_leI (by omega) (by omega)).mp q) (by omega), fun _ => kx_getA hn hA (by omega) (by omega) (kx_worth ?_)⟩
      refine ⟨fun c => ?_, fun c => ?_⟩
      · rw [numE_n (fun d => d.2 c)] at hE
        exact fin j v hE.symm hj1 (by omega)
      · rw [numE_y (by omega) c] at hE
        rw [pk_sub hj1, nI_leI (by omega) (by omega)]
        refine ⟨fun q y ey => ?_, fun q => kx_getA hn hA (by omega) (by omega) (kx_worth (fun y ey => ?_))⟩
        · rw [ey, nI_1]
          rw [if_neg (by omega)] at hE
          exact ih (j + 1) v (by omega) (by omega) (by omega) hE
        · rw [ey, nI_1]
          rw [if_pos (by omega)] at hE
          exact ih (j + 1) _ (by omega) (by omega) (by omega) hE
  exact ⟨_, loop (n - fr) fr 0 rfl (Nat.le_refl _) (by omega) rfl⟩
theorem kx_readNumber {post : Int32 → Int32 → (Nat → Int32) → Prop} {g tx : Nat → Int32} {n k : Nat} {o : List Int32} (hn : n ≤ 1500) (hP : PX g n k o tx) (hk : k < n)
    (H : ∀ tx', PX g n (k + 1) (if g (k + 2) = 120 then numR g n 16 6 (k + 3) k o else numR g n 10 7 (k + 2) k o).1 tx' → post (nI (if g (k + 2) = 120 then numR g n 16 6 (k + 3) k o else numR g n 10 7 (k + 2) k o).2) (nI (if g (k + 2) = 120 then numR g n 16 6 (k + 3) k o else numR g n 10 7 (k + 2) k o).1.length) tx') : wpX3_readNumber post (nI o.length) (nI n) tx (nI k) := by
  rw [wpX3_readNumber, nI_2]
  refine kx_getA hn hP.2.2 (by omega) (by omega) ⟨fun c => ?_, fun c => ?_⟩
  · rw [if_neg c] at H
    rw [wjX3_readNumber_20, nI_2, nI_3]
    exact ⟨fun _ => ⟨fun _ => ⟨fun _ => kx_num (mo := 7) hn hP hk (by omega) (by omega) (by omega) H, fun q => absurd rfl q⟩, fun q => absurd rfl q⟩, fun q => absurd rfl q⟩
  · rw [if_pos c] at H
    rw [wjX3_readNumber_20, nI_2, nI_3]
    exact ⟨fun q => absurd q (by decide), fun _ => ⟨fun q => absurd q (by decide), fun _ => ⟨fun q => absurd q (by decide), fun _ => kx_num (mo := 6) hn hP hk (by omega) (by omega) (by omega) H⟩⟩⟩
theorem km_readNumber {post : Int32 → Int32 → (Nat → Int32) → Prop} {g tx f : Nat → Int32} {n k fr mo : Nat} {x : Int32} {o : List Int32} (hn : n ≤ 1500) (hA : ∀ j, gF tx n j = g j) (hr : rW f o) (ho : o.length ≤ 1500) (hk : k < n) (hfr : k + 2 ≤ fr) (hfr2 : fr ≤ k + 3) (hmo : mo ≤ 7) (hx : x = 10 ∨ x = 16)
    (H : ∀ f', rW f' (numR g n x mo fr k o).1 → post (nI (numR g n x mo fr k o).1.length) (nI (numR g n x mo fr k o).2) f') : wpX8_readNumber post (nI n) (nI o.length) (nI k) tx f (nI fr) x (nI mo) := by
  have hge : ∀ j, n ≤ j → g j = -1 := fun j hj => by rw [← hA j, gF_ge hj]
  have fin : ∀ (e : Nat) (v : Int32), numE g n x mo fr fr 0 = (e, v) → fr ≤ e → e ≤ 1510 → ((nI e = nI fr → wjX8_readNumber_69 post (nI n) tx (nI fr) x (nI mo) (nI o.length) (nI k) f) ∧ (¬ nI e = nI fr → (((nI e - nI fr) ≤ nI mo → ((v = 0 → wjX8_readNumber_111 post (nI n) tx (nI fr) x (nI mo) (nI o.length) (nI k) f (nI e)) ∧ (¬ v = 0 → (((65535 : Int32) < v → wjX8_readNumber_111 post (nI n) tx (nI fr) x (nI mo) (nI o.length) (nI k) f (nI e)) ∧ (¬ (65535 : Int32) < v → wpX8_within (fun r_12 => ((r_12 = 0 → wjX8_readNumber_118 post (nI n) tx (nI fr) x (nI mo) (nI o.length) (nI k) f (nI e) v) ∧ (¬ r_12 = 0 → wjX8_readNumber_111 post (nI n) tx (nI fr) x (nI mo) (nI o.length) (nI k) f (nI e)))) v 55296 57343))))) ∧ (¬ (nI e - nI fr) ≤ nI mo → wjX8_readNumber_69 post (nI n) tx (nI fr) x (nI mo) (nI o.length) (nI k) f)))) := by
    intro e v hE he he2
    rw [numR, hE] at H
    have e69 : (e = fr ∨ mo < e - fr) → wjX8_readNumber_69 post (nI n) tx (nI fr) x (nI mo) (nI o.length) (nI k) f := by
      intro c
      rw [if_pos c] at H
      refine km_write hr (by omega) (fun f' h' y ey => ?_)
      rw [ey, nI_1]
      exact H f' h'
    have e118 : ¬ (e = fr ∨ mo < e - fr) → ∀ w, (if unkV v = true then 65533 else v) = w → wjX8_readNumber_118 post (nI n) tx (nI fr) x (nI mo) (nI o.length) (nI k) f (nI e) w := by
      intro c w hw
      rw [if_neg c] at H
      have H : ∀ f', rW f' (o ++ [w]) → post (nI (o ++ [w]).length) (nI (semi g e)) f' := by rw [← hw]; exact H
      refine km_write hr (by omega) (fun f' h' => km_lookA hn hA (by omega) ?_)
      have H := H f' h'
      rw [semi] at H
      refine ⟨fun d => ?_, fun d => ?_⟩
      · rw [if_neg d] at H; exact H
      · rw [if_pos d] at H; rw [nI_1]; exact H
    rw [pk_sub he, nI_eq (by omega) (by omega), nI_leI (by omega) (by omega)]
    refine ⟨fun c => e69 (Or.inl c), fun c => ⟨fun c2 => ?_, fun c2 => e69 (Or.inr (by omega))⟩⟩
    have nc : ¬ (e = fr ∨ mo < e - fr) := by omega
    have unk : unkV v = true → wjX8_readNumber_111 post (nI n) tx (nI fr) x (nI mo) (nI o.length) (nI k) f (nI e) := fun u => e118 nc _ (by rw [if_pos u])
    refine ⟨fun d => unk (by rw [unkV, decide_eq_true d]; rfl), fun d => ⟨fun d2 => unk (by rw [unkV, decide_eq_true d2]; simp), fun d2 => km_within (b_ifz (fun z => e118 nc _ ?_) (fun z => unk (by rw [unkV, z]; simp)))⟩⟩
    rw [unkV, decide_eq_false d, decide_eq_false d2, z]; rfl
  have loop : ∀ (m j : Nat) (v : Int32), n - j = m → fr ≤ j → j ≤ 1505 → numE g n x mo fr j v = numE g n x mo fr fr 0 → wlX8_readNumber_6 post (nI n) tx (nI fr) x (nI mo) (nI o.length) (nI k) f (m + 1) (nI j) v := by
    intro m
    induction m with
    | zero =>
      intro j v hf hj1 hj hE
      rw [numE_n (by omega)] at hE
      refine km_lookA hn hA (by omega) (km_worth hx ?_)
      rw [hge j (by omega), wth_m1]
      exact ⟨fun _ => fin j v hE.symm hj1 (by omega), fun q => absurd (by decide) q⟩
    | succ m ih =>
      intro j v hf hj1 hj hE
      refine km_lookA hn hA (by omega) (km_worth hx ?_)
      rw [wth_neg]
      refine ⟨fun c => ?_, fun c => ?_⟩
      · rw [numE_n (fun d => d.2 c)] at hE
        exact fin j v hE.symm hj1 (by omega)
      · rw [numE_y (by omega) c] at hE
        rw [pk_sub hj1, nI_leI (by omega) (by omega)]
        refine ⟨fun q y ey => ?_, fun q => km_lookA hn hA (by omega) (km_worth hx (fun y ey => ?_))⟩
        · rw [ey, nI_1]
          rw [if_neg (by omega)] at hE
          exact ih (j + 1) v (by omega) (by omega) (by omega) hE
        · rw [ey, nI_1, Int32.mul_comm x v]
          rw [if_pos (by omega)] at hE
          exact ih (j + 1) _ (by omega) (by omega) (by omega) hE
  exact ⟨_, loop (n - fr) fr 0 rfl (Nat.le_refl _) (by omega) rfl⟩
