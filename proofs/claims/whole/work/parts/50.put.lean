/-! PURE 11: put, clear, at -/
def chF (a b c d : Int32) (k : Nat) : Int32 := if k % 2 = 0 then ((Int32.toUInt32 (if k < 2 then a else if k < 4 then b else if k < 6 then c else d)) >>> ((Int32.toUInt32 16) &&& Int32.toUInt32 31)).toInt32 else (if k < 2 then a else if k < 4 then b else if k < 6 then c else d) &&& 65535
/-- the text t of n characters with k characters of ch behind it, as far as there is room -/
def putOK (t : Nat → Int32) (n : Nat) (ch : Nat → Int32) (k : Nat) (t' : Nat → Int32) : Prop := (∀ j, j < n → t' j = t j) ∧ ∀ j, n ≤ j → j < min (n + k) 1500 → t' j = ch (j - n)
theorem nI_odd {k : Nat} (hk : k < 100) : ((nI k &&& 1) = 0 ↔ k % 2 = 0) ∧ ((nI k - nI k / 2 * 2) = 0 ↔ k % 2 = 0) := by
  constructor
  · rw [pk_andN (by omega) 1 (by decide), ← nI_0, nI_eq (by omega) (by omega)]
  · rw [show nI k - nI k / 2 * 2 = nI (k % 2) from pk_rem (by omega) (by decide) (by decide), ← nI_0, nI_eq (by omega) (by omega)]
theorem putOK_step {t : Nat → Int32} {n k : Nat} {ch t' : Nat → Int32} (hn : n ≤ 1500) (h : putOK t n ch k t') (hs : min (n + k) 1500 < 1500) : putOK t n ch (k + 1) (upd t' (min (n + k) 1500) (ch k)) := by
  refine ⟨fun j hj => by rw [pk_un (by omega)]; exact h.1 j hj, fun j h1 h2 => ?_⟩
  rcases Nat.lt_or_ge j (min (n + k) 1500) with w | w
  · rw [pk_un (by omega)]; exact h.2 j h1 w
  · have e : j = min (n + k) 1500 := by omega
    rw [← e, pk_us, show j - n = k by omega]
theorem putOK_full {t : Nat → Int32} {n k : Nat} {ch t' : Nat → Int32} (h : putOK t n ch k t') (hs : ¬ min (n + k) 1500 < 1500) : putOK t n ch (k + 1) t' := ⟨h.1, fun j h1 h2 => h.2 j h1 (by omega)⟩
theorem kx_put_loop {post : Int32 → Int32 → (Nat → Int32) → Prop} {t : Nat → Int32} {n m : Nat} {a b c d : Int32} (hn : n ≤ 1500) (hm : m ≤ 8) (h : ∀ t', putOK t n (chF a b c d) m t' → post (nI (min (n + m) 1500)) (nI (min (n + m) 1500)) t') :
    ∀ (f k : Nat) (t' : Nat → Int32), m - k ≤ f → k ≤ m → putOK t n (chF a b c d) k t' → wlX7_put_15 post (nI m) a b c d (f + 1) (nI (min (n + k) 1500)) t' (nI k) := by
  intro f
  induction f with
  | zero =>
    intro k t' h1 h2 hp
    have e : k = m := by omega
    subst e
    exact ⟨fun _ => h t' hp, fun q => absurd (nI_le (Nat.le_refl _) (by omega)) q⟩
  | succ f ih =>
    intro k t' h1 h2 hp
    refine ⟨fun q => ?_, fun q => ?_⟩
    · rw [nI_leI (by omega) (by omega)] at q
      have e : k = m := by omega
      subst e
      exact h t' hp
    · rw [nI_leI (by omega) (by omega)] at q
      have e81 : ∀ x, x = chF a b c d k → wjX7_put_81 (fun tx_size tx_characters x6 => wlX7_put_15 post (nI m) a b c d (f + 1) tx_size tx_characters x6) post (nI m) a b c d (nI (min (n + k) 1500)) t' (nI k) x := by
        intro x ex
        refine ⟨fun q2 y ey => ?_, fun q2 => ?_⟩
        · rw [ey, nI_1]
          have q2 : 1500 ≤ min (n + k) 1500 := (nI_leI (a := 1500) (by decide) (by omega)).mp q2
          have := ih (k + 1) t' (by omega) (by omega) (putOK_full hp (by omega))
          rw [show min (n + (k + 1)) 1500 = min (n + k) 1500 by omega] at this
          exact this
        · have q2 : min (n + k) 1500 < 1500 := by
            rcases Nat.lt_or_ge (min (n + k) 1500) 1500 with w | w
            · exact w
            · exact absurd ((nI_leI (a := 1500) (by decide) (by omega)).mpr w) q2
          refine ⟨vp_in_nI (by omega) (by omega), fun s es y ey => ?_⟩
          rw [es, ey, nI_1, nI_1, nI_clamp (by omega), ex]
          have := ih (k + 1) _ (by omega) (by omega) (putOK_step hn hp q2)
          rw [show min (n + (k + 1)) 1500 = min (n + k) 1500 + 1 by omega] at this
          exact this
      have e55 : wjX7_put_55 (fun tx_size tx_characters x6 => wlX7_put_15 post (nI m) a b c d (f + 1) tx_size tx_characters x6) post (nI m) a b c d (nI (min (n + k) 1500)) t' (nI k) (if k < 2 then a else if k < 4 then b else if k < 6 then c else d) := by
        unfold wjX7_put_55
        rw [(nI_odd (k := k) (by omega)).1]
        exact ⟨fun z => e81 _ (by rw [chF, if_neg z]), fun z => e81 _ (by rw [chF, if_pos z])⟩
      rw [show ((2 : Int32) ≤ nI k) = (2 ≤ k) from propext (nI_leI (a := 2) (by decide) (by omega)), show ((4 : Int32) ≤ nI k) = (4 ≤ k) from propext (nI_leI (a := 4) (by decide) (by omega)), show ((6 : Int32) ≤ nI k) = (6 ≤ k) from propext (nI_leI (a := 6) (by decide) (by omega))]
      refine ⟨fun z1 => ⟨fun z2 => ⟨fun z3 => ?_, fun z3 => ?_⟩, fun z2 => ?_⟩, fun z1 => ?_⟩
      · rw [if_neg (by omega), if_neg (by omega), if_neg (by omega)] at e55; exact e55
      · rw [if_neg (by omega), if_neg (by omega), if_pos (by omega)] at e55; exact e55
      · rw [if_neg (by omega), if_pos (by omega)] at e55; exact e55
      · rw [if_pos (by omega)] at e55; exact e55
theorem km_put_loop {post : Int32 → Int32 → Int32 → (Nat → Int32) → Prop} {t : Nat → Int32} {n m : Nat} {a b c d : Int32} (hn : n ≤ 1500) (hm : m ≤ 8) (h : ∀ t', putOK t n (chF a b c d) m t' → post (nI (min (n + m) 1500)) 0 (nI (min (n + m) 1500)) t') :
    ∀ (f k : Nat) (t' : Nat → Int32), m - k ≤ f → k ≤ m → putOK t n (chF a b c d) k t' → wlX8_put_20 post (nI m) a b c d 0 (f + 1) (nI (min (n + k) 1500)) t' (nI k) := by
  intro f
  induction f with
  | zero =>
    intro k t' h1 h2 hp
    have e : k = m := by omega
    subst e
    exact ⟨fun _ => h t' hp, fun q => absurd (nI_le (Nat.le_refl _) (by omega)) q⟩
  | succ f ih =>
    intro k t' h1 h2 hp
    refine ⟨fun q => ?_, fun q => ?_⟩
    · rw [nI_leI (by omega) (by omega)] at q
      have e : k = m := by omega
      subst e
      exact h t' hp
    · rw [nI_leI (by omega) (by omega)] at q
      have e83 : ∀ x, x = chF a b c d k → wjX8_put_83 (fun m_size m_text x6 => wlX8_put_20 post (nI m) a b c d 0 (f + 1) m_size m_text x6) post (nI m) a b c d 0 (nI (min (n + k) 1500)) t' (nI k) x := by
        intro x ex
        refine ⟨fun q2 => ?_, fun q2 y ey => ?_⟩
        · have q2 : min (n + k) 1500 < 1500 := by
            rcases Nat.lt_or_ge (min (n + k) 1500) 1500 with w | w
            · exact w
            · exact absurd (show nI (min (n + k) 1500) = 1500 by rw [show min (n + k) 1500 = 1500 by omega]; rfl) q2
          refine ⟨vp_in_nI (by omega) (by omega), fun s es y ey => ?_⟩
          rw [es, ey, nI_1, nI_1, nI_clamp (by omega), ex]
          have := ih (k + 1) _ (by omega) (by omega) (putOK_step hn hp q2)
          rw [show min (n + (k + 1)) 1500 = min (n + k) 1500 + 1 by omega] at this
          exact this
        · rw [ey, nI_1]
          have q2 : min (n + k) 1500 = 1500 := (nI_eq (b := 1500) (by omega) (by decide)).mp q2
          have := ih (k + 1) t' (by omega) (by omega) (putOK_full hp (by omega))
          rw [show min (n + (k + 1)) 1500 = min (n + k) 1500 by omega] at this
          exact this
      have e60 : wjX8_put_60 (fun m_size m_text x6 => wlX8_put_20 post (nI m) a b c d 0 (f + 1) m_size m_text x6) post (nI m) a b c d 0 (nI (min (n + k) 1500)) t' (nI k) (if k < 2 then a else if k < 4 then b else if k < 6 then c else d) := by
        unfold wjX8_put_60
        rw [(nI_odd (k := k) (by omega)).2]
        exact ⟨fun z => e83 _ (by rw [chF, if_neg z]), fun z => e83 _ (by rw [chF, if_pos z])⟩
      rw [show ((2 : Int32) ≤ nI k) = (2 ≤ k) from propext (nI_leI (a := 2) (by decide) (by omega)), show ((4 : Int32) ≤ nI k) = (4 ≤ k) from propext (nI_leI (a := 4) (by decide) (by omega)), show ((6 : Int32) ≤ nI k) = (6 ≤ k) from propext (nI_leI (a := 6) (by decide) (by omega))]
      refine ⟨fun z1 => ⟨fun z2 => ⟨fun z3 => ?_, fun z3 => ?_⟩, fun z2 => ?_⟩, fun z1 => ?_⟩
      · rw [if_neg (by omega), if_neg (by omega), if_neg (by omega)] at e60; exact e60
      · rw [if_neg (by omega), if_neg (by omega), if_pos (by omega)] at e60; exact e60
      · rw [if_neg (by omega), if_pos (by omega)] at e60; exact e60
      · rw [if_pos (by omega)] at e60; exact e60
/-- put(x, ..): the bad counts, and the good ones -/
theorem kx_put {post : Int32 → Int32 → (Nat → Int32) → Prop} {t : Nat → Int32} {n : Nat} {x a b c d : Int32} (hn : n ≤ 1500) (h0 : (x < 0 ∨ ¬ x ≤ 8) → post (-1) (nI n) t) (h : ∀ m t', x = nI m → m ≤ 8 → putOK t n (chF a b c d) m t' → post (nI (min (n + m) 1500)) (nI (min (n + m) 1500)) t') : wpX7_put post (nI n) t x a b c d := by
  refine ⟨fun q => h0 (Or.inl q), fun q => ⟨fun q2 => ?_, fun q2 => h0 (Or.inr q2)⟩⟩
  obtain ⟨m, hm, rfl⟩ := nI_of2 (n := 8) (by decide) q q2
  have := kx_put_loop hn hm (fun t' ht => h m t' rfl hm ht) m 0 t (by omega) (Nat.zero_le _) ⟨fun _ _ => rfl, fun j h1 h2 => absurd h2 (by omega)⟩
  rw [show min (n + 0) 1500 = n by omega] at this
  exact ⟨_, this⟩
theorem km_put {post : Int32 → Int32 → Int32 → (Nat → Int32) → Prop} {t : Nat → Int32} {n : Nat} {x a b c d th : Int32} (hn : n ≤ 1500) (h0 : (x < 0 ∨ ¬ x ≤ 8) → post (-1) 0 (nI n) t) (h : ∀ m t', x = nI m → m ≤ 8 → putOK t n (chF a b c d) m t' → post (nI (min (n + m) 1500)) 0 (nI (min (n + m) 1500)) t') : wpX8_put post th (nI n) t x a b c d := by
  refine ⟨fun q => h0 (Or.inl q), fun q => ⟨fun q2 => ?_, fun q2 => h0 (Or.inr q2)⟩⟩
  obtain ⟨m, hm, rfl⟩ := nI_of2 (n := 8) (by decide) q q2
  have := km_put_loop hn hm (fun t' ht => h m t' rfl hm ht) m 0 t (by omega) (Nat.zero_le _) ⟨fun _ _ => rfl, fun j h1 h2 => absurd h2 (by omega)⟩
  rw [show min (n + 0) 1500 = n by omega] at this
  exact ⟨_, this⟩
theorem kx_clear {post : Int32 → Prop} {n : Nat} (hn : n ≤ 1500) (h : post 0) : wpX7_clear post (nI n) := by
  refine ⟨fun q => absurd q (by decide), fun _ => ⟨fun q => ?_, fun _ => h⟩⟩
  have q : n ≤ 0 := (nI_leI (b := 0) (by omega) (by decide)).mp q
  rw [show n = 0 by omega]; exact h
def ansAt (t : Nat → Int32) (n : Nat) (x : Int32) : Int32 := if x.toInt < 0 ∨ (n : Int) ≤ x.toInt then -1 else t x.toNatClampNeg
theorem kx_atx {post : Int32 → Prop} {t : Nat → Int32} {n : Nat} {x : Int32} (hn : n ≤ 1500) (h : post (ansAt t n x)) : wpX7_at post (nI n) t x := by
  rcases pk_ix x (n := n) (by omega) with z | z | ⟨j, hj, rfl⟩
  · rw [ansAt, if_pos (Or.inl (by rw [i_lt] at z; simpa using z))] at h
    exact ⟨fun _ => h, fun q => absurd z q⟩
  · rw [ansAt, if_pos (Or.inr (by rw [i_le, nI_toInt (by omega)] at z; exact z))] at h
    exact ⟨fun _ => h, fun _ => ⟨fun _ => h, fun q => absurd z q⟩⟩
  · rw [ansAt, if_neg (by rw [nI_toInt (by omega)]; omega), nI_clamp (by omega)] at h
    exact kx_get hn (by omega) (by rw [gF_lt hj]; exact h)
theorem km_atx {post : Int32 → Int32 → Prop} {t : Nat → Int32} {n : Nat} {x th : Int32} (hn : n ≤ 1500) (h : post (ansAt t n x) 0) : wpX8_at post th (nI n) t x := by
  rcases pk_ix x (n := n) (by omega) with z | z | ⟨j, hj, rfl⟩
  · rw [ansAt, if_pos (Or.inl (by rw [i_lt] at z; simpa using z))] at h
    exact ⟨fun _ => h, fun q => absurd z q⟩
  · rw [ansAt, if_pos (Or.inr (by rw [i_le, nI_toInt (by omega)] at z; exact z))] at h
    refine ⟨fun _ => h, fun _ => ⟨fun q => ?_, fun _ => h⟩⟩
    rw [i_lt] at q; rw [i_le] at z; omega
  · rw [ansAt, if_neg (by rw [nI_toInt (by omega)]; omega), nI_clamp (by omega)] at h
    refine ⟨fun q => absurd q (nI_pos (by omega)), fun _ => ⟨fun _ => ⟨vp_in_nI (by omega) (by omega), by rw [nI_clamp (by omega)]; exact h⟩, fun q => absurd (nI_lt hj (by omega)) q⟩⟩
