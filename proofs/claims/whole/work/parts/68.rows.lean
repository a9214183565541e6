/-! PURE 29: rows cut into tokens (begin, end, place, address); the class's addToken, addRow -/
theorem gD_app {α : Type} {d : α} {l m : List α} {k : Nat} (h : k < l.length) : (l ++ m).getD k d = l.getD k d := by
  rw [List.getD_eq_getElem?_getD, List.getElem?_append_left h, List.getD_eq_getElem?_getD]
theorem gD_app2 {α : Type} {d : α} {l m : List α} {k : Nat} (h : l.length ≤ k) : (l ++ m).getD k d = m.getD (k - l.length) d := by
  rw [List.getD_eq_getElem?_getD, List.getElem?_append_right h, List.getD_eq_getElem?_getD]
theorem gD_snoc {α : Type} {d x : α} {l : List α} : (l ++ [x]).getD l.length d = x := by
  rw [gD_app2 (Nat.le_refl _), Nat.sub_self]; rfl
def tokD : Nat × Nat × Nat × Bool := (0, 0, 0, false)
def tokX (T : List (Nat × Nat × Nat × Bool)) (cb cl cp ca : Nat → Int32) : Prop := ∀ i, i < T.length → cb i = nI (T.getD i tokD).1 ∧ cl i = nI (min ((T.getD i tokD).2.1 - (T.getD i tokD).1) 30) ∧ cp i = nI (T.getD i tokD).2.2.1 ∧ ca i = b2i (T.getD i tokD).2.2.2
theorem kx_addToken {post : Int32 → (Nat → Int32) → (Nat → Int32) → (Nat → Int32) → (Nat → Int32) → Prop} {T : List (Nat × Nat × Nat × Bool)} {cb cl cp ca : Nat → Int32} {b e p : Nat} {a : Bool} (hT : tokX T cb cl cp ca) (hl : T.length < 900) (hb : b ≤ e) (he : e ≤ 1500)
    (H : ∀ cb' cl' cp' ca', tokX (T ++ [(b, e, p, a)]) cb' cl' cp' ca' → post (nI (T.length + 1)) cb' cl' cp' ca') : wpX6_addToken post (nI T.length) cb cl cp ca (nI b) (nI e) (nI p) (b2i a) := by
  have hin : vp_in (nI T.length) 900 := vp_in_nI (by omega) (by omega)
  refine ⟨fun q => absurd ((nI_leI (a := 900) (by decide) (by omega)).mp q) (by omega), fun _ => ⟨hin, hin, hin, hin, b2i_bN a, fun x ex => ?_⟩⟩
  rw [ex, nI_1, nI_clamp (by omega), pk_sub hb]
  have ev : (if (30 : Int32) < nI (e - b) then 30 else nI (e - b)) = nI (min (e - b) 30) := by
    by_cases q : 30 < e - b
    · rw [if_pos (show (30 : Int32) < nI (e - b) from (nI_ltI (a := 30) (by decide) (by omega)).mpr q), show min (e - b) 30 = 30 by omega]; rfl
    · rw [if_neg (show ¬ (30 : Int32) < nI (e - b) from fun c => q ((nI_ltI (a := 30) (by decide) (by omega)).mp c)), show min (e - b) 30 = e - b by omega]
  rw [ev]
  refine H _ _ _ _ (fun i hi => ?_)
  rw [List.length_append, List.length_singleton] at hi
  rcases Nat.lt_or_ge i T.length with q | q
  · rw [gD_app q, pk_un (by omega), pk_un (by omega), pk_un (by omega), pk_un (by omega)]; exact hT i q
  · have e : i = T.length := by omega
    subst e
    rw [gD_snoc, pk_us, pk_us, pk_us, pk_us]
    exact ⟨rfl, rfl, rfl, rfl⟩
theorem rowEnd_bd {t : Nat → Int32} {E : Nat} : ∀ (f k : Nat), E - k = f → k ≤ E → k ≤ rowEnd t E k ∧ rowEnd t E k ≤ E ∧ (rowEnd t E k < E → cWord (t (rowEnd t E k)) = false) ∧ (k < rowEnd t E k → cWord (t (rowEnd t E k - 1)) = true) := by
  intro f
  induction f with
  | zero =>
    intro k h hk
    rw [rowEnd_n (fun y => absurd y (by omega)) (by omega)]
    exact ⟨Nat.le_refl _, hk, fun q => absurd q (by omega), fun q => absurd q (by omega)⟩
  | succ f ih =>
    intro k h hk
    obtain ⟨h1, h2, h3, h4⟩ := ih (k + 1) (by omega) (by omega)
    by_cases hw : cWord (t k) = true
    · rw [rowEnd_w (by omega) hw]
      refine ⟨by omega, h2, h3, fun q => ?_⟩
      rcases Nat.lt_or_ge (k + 1) (rowEnd t E (k + 1)) with y | y
      · exact h4 y
      · rw [show rowEnd t E (k + 1) - 1 = k by omega]; exact hw
    · have hw : cWord (t k) = false := by simpa using hw
      by_cases hj : k + 1 < E ∧ cJoin (t k) = true ∧ cWord (t (k + 1)) = true
      · rw [rowEnd_j hw hj]
        refine ⟨by omega, h2, h3, fun q => h4 ?_⟩
        rcases Nat.lt_or_ge (k + 1) (rowEnd t E (k + 1)) with y | y
        · exact y
        · have e : rowEnd t E (k + 1) = k + 1 := by omega
          rw [e] at h3
          have := h3 hj.1
          rw [hj.2.2] at this; cases this
      · rw [rowEnd_n (fun _ => hw) hj]
        exact ⟨Nat.le_refl _, hk, fun _ => hw, fun q => absurd q (by omega)⟩
theorem pieceEnd_uni {t : Nat → Int32} {e s : Nat} (hs : s ≤ e) (hn : s < e → cWord (t s) = false) : ∀ (f k : Nat), s - k = f → k ≤ s → (∀ j, k ≤ j → j < s → cWord (t j) = true) → pieceEnd t e k = s := by
  intro f
  induction f with
  | zero =>
    intro k h hk _
    have e : k = s := by omega
    subst e
    exact pieceEnd_n (fun c => by rw [hn c.1] at c; cases c.2)
  | succ f ih =>
    intro k h hk hw
    rw [pieceEnd_w (by omega) (hw k (Nat.le_refl _) (by omega))]
    exact ih (k + 1) (by omega) (by omega) (fun j a b => hw j (by omega) b)
/-- a piece of a row that ends at e begins at k -/
def RS (t : Nat → Int32) (e k : Nat) : Prop := k < e ∧ cWord (t k) = true ∧ ∃ E, e ≤ E ∧ rowEnd t E k = e
theorem RS_of {t : Nat → Int32} {E k : Nat} (hk : k < E) (hw : cWord (t k) = true) : RS t (rowEnd t E k) k ∧ k < rowEnd t E k ∧ rowEnd t E k ≤ E ∧ cWord (t (rowEnd t E k - 1)) = true ∧ (rowEnd t E k < E → cWord (t (rowEnd t E k)) = false) := by
  obtain ⟨h1, h2, h3, h4⟩ := rowEnd_bd (t := t) (E := E) _ k rfl (by omega)
  have h5 : k < rowEnd t E k := by
    rw [rowEnd_w hk hw]
    have := (rowEnd_bd (t := t) (E := E) _ (k + 1) rfl (by omega)).1
    omega
  exact ⟨⟨h5, hw, E, h2, rfl⟩, h5, h2, h4 h5, h3⟩
theorem RS_step {t : Nat → Int32} {e k : Nat} (h : RS t e k) : k < pieceEnd t e k ∧ pieceEnd t e k ≤ e ∧ (∀ j, k ≤ j → j < pieceEnd t e k → cWord (t j) = true) ∧ (pieceEnd t e k = e ∨ (pieceEnd t e k < e ∧ cJoin (t (pieceEnd t e k)) = true ∧ RS t e (pieceEnd t e k + 1))) := by
  obtain ⟨hk, hw, E, hE, hr⟩ := h
  obtain ⟨a1, a2, a3, a4, a5⟩ := pieceEnd_spec (t := t) (e := E) _ k rfl (by omega)
  have a0 : k < pieceEnd t E k := by
    rw [pieceEnd_w (by omega) hw]
    have := (pieceEnd_spec (t := t) (e := E) _ (k + 1) rfl (by omega)).1
    omega
  generalize pieceEnd t E k = s at a0 a1 a2 a3 a4 a5
  rw [hr] at a5
  by_cases c : s + 1 < E ∧ cJoin (t s) = true ∧ cWord (t (s + 1)) = true
  · have ns := a4 (by omega)
    rw [rowEnd_j ns c] at a5
    obtain ⟨_, b2, _, _, _⟩ := RS_of c.1 c.2.2
    rw [a5] at b2
    have e1 : pieceEnd t e k = s := pieceEnd_uni (by omega) (fun _ => ns) _ k rfl (by omega) a3
    rw [e1]
    exact ⟨a0, by omega, a3, Or.inr ⟨by omega, c.2.1, b2, c.2.2, E, hE, a5⟩⟩
  · rw [rowEnd_n a4 c] at a5
    subst a5
    have e1 : pieceEnd t s k = s := pieceEnd_uni (Nat.le_refl _) (fun y => absurd y (by omega)) _ k rfl (by omega) a3
    rw [e1]
    exact ⟨a0, Nat.le_refl _, a3, Or.inl rfl⟩
def newT (t : Nat → Int32) (b e k P : Nat) : List (Nat × Nat × Nat × Bool) := if k = b ∧ adF t e (e - b) b = true then [(k, pieceEnd t e k, P, false), (b, e, P, true)] else [(k, pieceEnd t e k, P, false)]
def rowS (t : Nat → Int32) (b e : Nat) : Nat → Nat → List (Nat × Nat × Nat × Bool) → Nat → List (Nat × Nat × Nat × Bool) × Nat
  | 0, _, T, P => (T, P)
  | f + 1, k, T, P => if k < e then rowS t b e f (pieceEnd t e k + 1) (T ++ newT t b e k P) (P + 1) else (T, P)
theorem pieceEnd_ge {t : Nat → Int32} {e k : Nat} (h : k ≤ e) : k ≤ pieceEnd t e k := (pieceEnd_spec (t := t) (e := e) _ k rfl h).1
theorem rowS_fuel {t : Nat → Int32} {b e : Nat} : ∀ (f g k : Nat) (T : List (Nat × Nat × Nat × Bool)) (P : Nat), e - k ≤ f → e - k ≤ g → rowS t b e f k T P = rowS t b e g k T P := by
  intro f
  induction f with
  | zero =>
    intro g k T P h1 h2
    cases g with
    | zero => rfl
    | succ g => rw [rowS, rowS, if_neg (by omega)]
  | succ f ih =>
    intro g k T P h1 h2
    by_cases q : k < e
    · cases g with
      | zero => omega
      | succ g =>
        have := pieceEnd_ge (t := t) (e := e) (k := k) (by omega)
        rw [rowS, rowS, if_pos q, if_pos q]
        exact ih g _ _ _ (by omega) (by omega)
    · cases g with
      | zero => rw [rowS, rowS, if_neg q]
      | succ g => rw [rowS, rowS, if_neg q, if_neg q]
def rowT (t : Nat → Int32) (b e k : Nat) (T : List (Nat × Nat × Nat × Bool)) (P : Nat) : List (Nat × Nat × Nat × Bool) × Nat := rowS t b e (e - k) k T P
theorem rowT_lt {t : Nat → Int32} {b e k P : Nat} {T : List (Nat × Nat × Nat × Bool)} (h : k < e) : rowT t b e k T P = rowT t b e (pieceEnd t e k + 1) (T ++ newT t b e k P) (P + 1) := by
  have := pieceEnd_ge (t := t) (e := e) (k := k) (by omega)
  rw [rowT, show e - k = (e - k - 1) + 1 by omega, rowS, if_pos h, rowT]
  exact rowS_fuel _ _ _ _ _ (by omega) (by omega)
theorem rowT_ge {t : Nat → Int32} {b e k P : Nat} {T : List (Nat × Nat × Nat × Bool)} (h : e ≤ k) : rowT t b e k T P = (T, P) := by
  rw [rowT, show e - k = 0 by omega, rowS]
theorem rowS_len {t : Nat → Int32} {b e : Nat} : ∀ (f k : Nat) (T : List (Nat × Nat × Nat × Bool)) (P : Nat), T.length ≤ (rowS t b e f k T P).1.length ∧ (P ≤ T.length → (rowS t b e f k T P).2 ≤ (rowS t b e f k T P).1.length) := by
  intro f
  induction f with
  | zero => intro k T P; exact ⟨Nat.le_refl _, fun h => h⟩
  | succ f ih =>
    intro k T P
    by_cases q : k < e
    · rw [rowS, if_pos q]
      obtain ⟨h1, h2⟩ := ih (pieceEnd t e k + 1) (T ++ newT t b e k P) (P + 1)
      have : T.length + 1 ≤ (T ++ newT t b e k P).length := by
        rw [List.length_append, newT]; split <;> simp
      exact ⟨by omega, fun h => h2 (by omega)⟩
    · rw [rowS, if_neg q]; exact ⟨Nat.le_refl _, fun h => h⟩
theorem rowT_len {t : Nat → Int32} {b e k P : Nat} {T : List (Nat × Nat × Nat × Bool)} : T.length ≤ (rowT t b e k T P).1.length ∧ (P ≤ T.length → (rowT t b e k T P).2 ≤ (rowT t b e k T P).1.length) := rowS_len _ _ _ _
theorem cJoin_w {c : Int32} (h : cWord c = true) : cJoin c = false := by
  cases q : cJoin c with
  | false => rfl
  | true =>
    rw [cJoin, decide_eq_true_eq] at q
    have : cWord c = false := by
      rw [cWord, cDigit, cLetter, decide_eq_false (by omega), decide_eq_false (by omega)]; rfl
    rw [this] at h; cases h
theorem kx_addRow_loop {post : Int32 → Int32 → (Nat → Int32) → (Nat → Int32) → (Nat → Int32) → (Nat → Int32) → Prop} {t : Nat → Int32} {n b e P0 : Nat} {F : List (Nat × Nat × Nat × Bool) × Nat} (hn : n ≤ 1500) (he : e ≤ n) (hF : F.1.length ≤ 900)
    (H : ∀ cb cl cp ca, tokX F.1 cb cl cp ca → post (nI F.1.length) (nI F.2) cb cl cp ca) (hb : b ≤ e) :
    ∀ (g j k P : Nat) (T : List (Nat × Nat × Nat × Bool)) (cb cl cp ca : Nat → Int32), e + 1 - j = g → RS t e k → b ≤ k → k ≤ j → j ≤ pieceEnd t e k → (k = b → P = P0) → tokX T cb cl cp ca → rowT t b e k T P = F → wlX6_addRow_19 post (nI n) t (nI b) (nI e) (nI P0) (b2i (adF t e (e - b) b)) (g + 1) (nI T.length) (nI P) cb cl cp ca (nI k) (nI j) := by
  intro g
  induction g with
  | zero =>
    intro j k P T cb cl cp ca hg hR
    have := RS_step hR
    intro _ h1 h2
    omega
  | succ g ih =>
    intro j k P T cb cl cp ca hg hR hbk h1 h2 hP hT hFe
    obtain ⟨s1, s2, s3, s4⟩ := RS_step hR
    have hk := hR.1
    have add : j = pieceEnd t e k → wjX6_addRow_46 (fun tt_count tt_pieces tt_begins tt_lengths tt_places tt_addresses x4 x6 => wlX6_addRow_19 post (nI n) t (nI b) (nI e) (nI P0) (b2i (adF t e (e - b) b)) (g + 1) tt_count tt_pieces tt_begins tt_lengths tt_places tt_addresses x4 x6) post (nI n) t (nI b) (nI e) (nI T.length) (nI P) cb cl cp ca (nI P0) (nI k) (b2i (adF t e (e - b) b)) (nI j) := by
      intro ej
      rw [rowT_lt hk] at hFe
      have hlen := (rowT_len (t := t) (b := b) (e := e) (k := pieceEnd t e k + 1) (P := P + 1) (T := T ++ newT t b e k P)).1
      rw [hFe] at hlen
      have hnl : T.length + 1 ≤ (T ++ newT t b e k P).length := by
        rw [List.length_append, newT]; split <;> simp
      -- behind the tokens of this piece
      have nx : ∀ cb' cl' cp' ca', tokX (T ++ newT t b e k P) cb' cl' cp' ca' → wjX6_addRow_88 (fun tt_count tt_pieces tt_begins tt_lengths tt_places tt_addresses x4 x6 => wlX6_addRow_19 post (nI n) t (nI b) (nI e) (nI P0) (b2i (adF t e (e - b) b)) (g + 1) tt_count tt_pieces tt_begins tt_lengths tt_places tt_addresses x4 x6) post (nI n) t (nI b) (nI e) (nI (T ++ newT t b e k P).length) (nI (P + 1)) cb' cl' cp' ca' (nI P0) (b2i (adF t e (e - b) b)) (nI j) := by
        intro cb' cl' cp' ca' hT' y ey z ez
        rw [ey, ez, nI_1]
        rcases s4 with q | ⟨q1, q2, q3⟩
        · rw [rowT_ge (by omega)] at hFe
          refine ⟨fun _ => ?_, fun c => absurd (nI_lt (by omega) (by omega)) c⟩
          have := H cb' cl' cp' ca' (by rw [← hFe]; exact hT')
          rw [← hFe] at this
          exact this
        · rw [ej]
          exact ih _ _ _ _ _ _ _ _ (by omega) q3 (by omega) (Nat.le_refl _) (Nat.le_of_lt (RS_step q3).1) (fun c => by omega) hT' hFe
      refine kx_addToken (p := P) (a := false) hT (by omega) (by omega) (by omega) (fun cb1 cl1 cp1 ca1 hT1 y ey => ?_)
      rw [ey, nI_1]
      have one : ¬ (k = b ∧ adF t e (e - b) b = true) → newT t b e k P = [(k, j, P, false)] := fun c => by rw [newT, if_neg c, ej]
      refine b_ifz (fun z => ?_) (fun z => ⟨fun c => ?_, fun c => ?_⟩)
      · have e1 := one (fun c => by rw [z] at c; cases c.2)
        have := nx cb1 cl1 cp1 ca1 (by rw [e1]; exact hT1)
        rw [e1, List.length_append] at this
        exact this
      · have e1 := one (fun c2 => c (by rw [c2.1]))
        have := nx cb1 cl1 cp1 ca1 (by rw [e1]; exact hT1)
        rw [e1, List.length_append] at this
        exact this
      · rw [nI_eq (by omega) (by omega)] at c
        have e2 : newT t b e k P = [(k, j, P, false), (b, e, P, true)] := by rw [newT, if_pos ⟨c, z⟩, ej]
        rw [e2] at nx hnl hlen
        have hl2 : (T ++ [(k, j, P, false), (b, e, P, true)]).length = T.length + 2 := by simp
        have hl1 : (T ++ [(k, j, P, false)]).length = T.length + 1 := by simp
        rw [hl2] at nx hlen
        have := kx_addToken (post := fun a1 a2 a3 a4 a5 => wjX6_addRow_88 (fun tt_count tt_pieces tt_begins tt_lengths tt_places tt_addresses x4 x6 => wlX6_addRow_19 post (nI n) t (nI b) (nI e) (nI P0) (b2i (adF t e (e - b) b)) (g + 1) tt_count tt_pieces tt_begins tt_lengths tt_places tt_addresses x4 x6) post (nI n) t (nI b) (nI e) a1 (nI (P + 1)) a2 a3 a4 a5 (nI P0) (b2i (adF t e (e - b) b)) (nI j)) (b := b) (e := e) (p := P0) (a := true) hT1 (by omega) (by omega) (by omega) (fun cb2 cl2 cp2 ca2 hT2 => by
          rw [hl1]
          refine nx cb2 cl2 cp2 ca2 ?_
          rw [← hP c, List.append_assoc] at hT2
          exact hT2)
        rw [hl1] at this
        exact this
    refine ⟨fun q => absurd ((nI_ltI (by omega) (by omega)).mp q) (by omega), fun _ => ⟨fun q => ?_, fun q => ?_⟩⟩
    · rw [nI_eq (by omega) (by omega)] at q
      exact add (by omega)
    · rw [nI_eq (by omega) (by omega)] at q
      refine kx_get hn (by omega) ?_
      rw [gF_lt (by omega)]
      refine kx_isJoin (b_ifz (fun z y ey => ?_) (fun z => add ?_))
      · rw [ey, nI_1]
        refine ih (j + 1) k P T cb cl cp ca (by omega) hR hbk (by omega) ?_ hP hT hFe
        rcases Nat.lt_or_ge j (pieceEnd t e k) with y | y
        · exact y
        · rcases s4 with u | ⟨u1, u2, u3⟩
          · omega
          · rw [show pieceEnd t e k = j by omega, z] at u2; cases u2
      · rcases Nat.lt_or_ge j (pieceEnd t e k) with y | y
        · have := cJoin_w (s3 j h1 y)
          rw [this] at z; cases z
        · omega
theorem kx_addRow {post : Int32 → Int32 → (Nat → Int32) → (Nat → Int32) → (Nat → Int32) → (Nat → Int32) → Prop} {t : Nat → Int32} {n b e P : Nat} {T : List (Nat × Nat × Nat × Bool)} {cb cl cp ca : Nat → Int32} (hn : n ≤ 1500) (he : e ≤ n) (hR : RS t e b) (hl : cWord (t (e - 1)) = true) (hT : tokX T cb cl cp ca) (hF : (rowT t b e b T P).1.length ≤ 900)
    (H : ∀ cb cl cp ca, tokX (rowT t b e b T P).1 cb cl cp ca → post (nI (rowT t b e b T P).1.length) (nI (rowT t b e b T P).2) cb cl cp ca) : wpX6_addRow post (nI n) (nI T.length) (nI P) t cb cl cp ca (nI b) (nI e) := by
  have := hR.1
  exact kx_addr hn (by omega) he hR.2.1 hl ⟨_, kx_addRow_loop (F := rowT t b e b T P) hn he hF H (by omega) (e + 1 - b) b b P T cb cl cp ca rfl hR (Nat.le_refl _) (Nat.le_refl _) (Nat.le_of_lt (RS_step hR).1) (fun _ => rfl) hT rfl⟩
