/-! PURE 32: the reference's cutRow, cutLine -/
theorem gD_map {α β : Type} {f : α → β} {d : α} {d' : β} {l : List α} {i : Nat} (h : i < l.length) : (l.map f).getD i d' = f (l.getD i d) := by
  rw [List.getD_eq_getElem?_getD, List.getElem?_map, List.getD_eq_getElem?_getD, List.getElem?_eq_getElem h]; rfl
theorem gD_mem {α : Type} {d : α} {l : List α} {i : Nat} (h : i < l.length) : l.getD i d ∈ l := by
  rw [List.getD_eq_getElem?_getD, List.getElem?_eq_getElem h]; exact List.getElem_mem h
def okT (T : List (Nat × Nat × Nat × Bool)) : Prop := ∀ x ∈ T, x.1 < x.2.1 ∧ x.2.1 ≤ 1500
theorem okT_D {t : Nat → Int32} {T : List (Nat × Nat × Nat × Bool)} (h : okT T) : okD (T.map (ent t)) := by
  intro i hi
  rw [List.length_map] at hi
  rw [gD_map (d := tokD) hi]
  have := h _ (gD_mem (d := tokD) hi)
  exact ent_OK (by omega) this.2
theorem okT_snoc {T : List (Nat × Nat × Nat × Bool)} {x : Nat × Nat × Nat × Bool} (h : okT T) (h1 : x.1 < x.2.1) (h2 : x.2.1 ≤ 1500) : okT (T ++ [x]) := by
  intro y hy
  rcases List.mem_append.mp hy with q | q
  · exact h y q
  · rw [List.mem_singleton] at q; subst q; exact ⟨h1, h2⟩
theorem km_addTokenT {post : Int32 → Int32 → (Nat → Int32) → (Nat → Int32) → (Nat → Int32) → (Nat → Int32) → (Nat → Int32) → (Nat → Int32) → (Nat → Int32) → (Nat → Int32) → Prop} {T : List (Nat × Nat × Nat × Bool)} {t pl bg tl sl ad le st s : Nat → Int32} {b e p : Nat} {en : Int32} (a : Bool) (hT : tokM (T.map (ent t)) pl bg tl sl ad le st) (hO : okT T) (hl : T.length < 900) (hb : b < e) (he : e ≤ 1500)
    (H : ∀ (en' : Int32) (pl' bg' tl' sl' ad' le' st' s' : Nat → Int32), okT (T ++ [(b, e, p, a)]) → tokM ((T ++ [(b, e, p, a)]).map (ent t)) pl' bg' tl' sl' ad' le' st' → post (nI (T.length + 1)) en' pl' bg' tl' sl' ad' le' st' s') : wpX8_addToken post (nI T.length) en t pl bg tl sl ad le st s (nI b) (nI e) (nI p) (b2i a) := by
  have hlm : (T.map (ent t)).length = T.length := List.length_map _
  have := km_addToken (post := post) (b := b) (e := e) (p := p) (a := a) (en := en) (s := s) hT (okT_D hO) (by omega) (by omega) he (fun en' pl' bg' tl' sl' ad' le' st' s' h => by
    rw [hlm]
    exact H en' pl' bg' tl' sl' ad' le' st' s' (okT_snoc hO hb he) (by rw [List.map_append]; exact h))
  rw [hlm] at this
  exact this
theorem km_cutRow_loop {post : Int32 → Int32 → Int32 → (Nat → Int32) → (Nat → Int32) → (Nat → Int32) → (Nat → Int32) → (Nat → Int32) → (Nat → Int32) → (Nat → Int32) → (Nat → Int32) → Prop} {t : Nat → Int32} {b e : Nat} {F : List (Nat × Nat × Nat × Bool) × Nat} (he : e ≤ 1500) (hb : b < e) (hw : cWord (t b) = true) (hl : cWord (t (e - 1)) = true) (hF : F.1.length ≤ 900)
    (H : ∀ (en : Int32) (pl bg tl sl ad le st s : Nat → Int32), okT F.1 → tokM (F.1.map (ent t)) pl bg tl sl ad le st → post (nI F.1.length) (nI F.2) en pl bg tl sl ad le st s) :
    ∀ (g k P : Nat) (T : List (Nat × Nat × Nat × Bool)) (en : Int32) (pl bg tl sl ad le st s : Nat → Int32), e - k ≤ g → (k < e → RS t e k) → k ≤ e + 1 → okT T → tokM (T.map (ent t)) pl bg tl sl ad le st → rowT t b e k T P = F → wlX8_cutRow_2 post t (nI b) (nI e) (g + 1) (nI T.length) (nI P) en pl bg tl sl ad le st s (nI k) := by
  intro g
  induction g with
  | zero =>
    intro k P T en pl bg tl sl ad le st s hg hR hk hO hT hFe
    rw [rowT_ge (by omega)] at hFe
    subst hFe
    exact ⟨fun _ => H en pl bg tl sl ad le st s hO hT, fun q => absurd (nI_le (by omega) (by omega)) q⟩
  | succ g ih =>
    intro k P T en pl bg tl sl ad le st s hg hR hk hO hT hFe
    refine ⟨fun q => ?_, fun q => ?_⟩
    · rw [nI_leI (by omega) (by omega)] at q
      rw [rowT_ge (by omega)] at hFe
      subst hFe
      exact H en pl bg tl sl ad le st s hO hT
    · rw [nI_leI (by omega) (by omega)] at q
      have hR := hR (by omega)
      obtain ⟨s1, s2, s3, s4⟩ := RS_step hR
      refine km_piece he (by omega) ?_
      rw [rowT_lt (by omega)] at hFe
      have hlen := (rowT_len (t := t) (b := b) (e := e) (k := pieceEnd t e k + 1) (P := P + 1) (T := T ++ newT t b e k P)).1
      rw [hFe] at hlen
      have hnl : T.length + 1 ≤ (T ++ newT t b e k P).length := by
        rw [List.length_append, newT]; split <;> simp
      have nx : ∀ (en' : Int32) (pl' bg' tl' sl' ad' le' st' s' : Nat → Int32), okT (T ++ newT t b e k P) → tokM ((T ++ newT t b e k P).map (ent t)) pl' bg' tl' sl' ad' le' st' → wjX8_cutRow_52 (fun m_tokens m_places m_end m_place m_begin m_tokenLong m_stemLong m_address m_letters m_stems m_s x3 => wlX8_cutRow_2 post t (nI b) (nI e) (g + 1) m_tokens m_places m_end m_place m_begin m_tokenLong m_stemLong m_address m_letters m_stems m_s x3) post t (nI b) (nI e) (nI (T ++ newT t b e k P).length) (nI P) en' pl' bg' tl' sl' ad' le' st' s' (nI (pieceEnd t e k)) := by
        intro en' pl' bg' tl' sl' ad' le' st' s' hO' hT' y ey y2 ey2
        rw [ey, ey2, nI_1, nI_1]
        refine ih _ _ _ _ _ _ _ _ _ _ _ _ (by omega) (fun c => ?_) (by omega) hO' hT' hFe
        rcases s4 with u | u
        · omega
        · exact u.2.2
      have one : ¬ (k = b ∧ adF t e (e - b) b = true) → newT t b e k P = [(k, pieceEnd t e k, P, false)] := fun c => by rw [newT, if_neg c]
      refine km_addTokenT false hT hO (by omega) s1 (by omega) (fun en1 pl1 bg1 tl1 sl1 ad1 le1 st1 ss1 hO1 hT1 => ⟨fun c => ?_, fun c => ?_⟩)
      · have e1 := one (fun c2 => c (by rw [c2.1]))
        have := nx en1 pl1 bg1 tl1 sl1 ad1 le1 st1 ss1 (by rw [e1]; exact hO1) (by rw [e1]; exact hT1)
        rw [e1, List.length_append] at this
        exact this
      · rw [nI_eq (by omega) (by omega)] at c
        refine km_addr he (by omega) hw hl (b_ifz (fun z => ?_) (fun z => ?_))
        · have e1 := one (fun c2 => by rw [z] at c2; cases c2.2)
          have := nx en1 pl1 bg1 tl1 sl1 ad1 le1 st1 ss1 (by rw [e1]; exact hO1) (by rw [e1]; exact hT1)
          rw [e1, List.length_append] at this
          exact this
        · have e2 : newT t b e k P = [(k, pieceEnd t e k, P, false), (b, e, P, true)] := by rw [newT, if_pos ⟨c, z⟩]
          rw [e2] at nx hnl hlen
          have hl2 : (T ++ [(k, pieceEnd t e k, P, false), (b, e, P, true)]).length = T.length + 2 := by simp
          have hl1 : (T ++ [(k, pieceEnd t e k, P, false)]).length = T.length + 1 := by simp
          rw [hl2] at nx hlen
          have := km_addTokenT (post := fun a1 a2 a3 a4 a5 a6 a7 a8 a9 a10 => wjX8_cutRow_52 (fun m_tokens m_places m_end m_place m_begin m_tokenLong m_stemLong m_address m_letters m_stems m_s x3 => wlX8_cutRow_2 post t (nI b) (nI e) (g + 1) m_tokens m_places m_end m_place m_begin m_tokenLong m_stemLong m_address m_letters m_stems m_s x3) post t (nI b) (nI e) a1 (nI P) a2 a3 a4 a5 a6 a7 a8 a9 a10 (nI (pieceEnd t e k))) (b := b) (e := e) (p := P) (en := en1) (s := ss1) true hT1 hO1 (by omega) hb he (fun en2 pl2 bg2 tl2 sl2 ad2 le2 st2 ss2 hO2 hT2 => by
            rw [hl1]
            rw [List.append_assoc] at hO2 hT2
            exact nx en2 pl2 bg2 tl2 sl2 ad2 le2 st2 ss2 hO2 hT2)
          rw [hl1] at this
          exact this
theorem km_cutRow {post : Int32 → Int32 → Int32 → (Nat → Int32) → (Nat → Int32) → (Nat → Int32) → (Nat → Int32) → (Nat → Int32) → (Nat → Int32) → (Nat → Int32) → (Nat → Int32) → Prop} {t : Nat → Int32} {b e P : Nat} {T : List (Nat × Nat × Nat × Bool)} {en : Int32} {pl bg tl sl ad le st s : Nat → Int32} (he : e ≤ 1500) (hR : RS t e b) (hl : cWord (t (e - 1)) = true) (hO : okT T) (hT : tokM (T.map (ent t)) pl bg tl sl ad le st) (hF : (rowT t b e b T P).1.length ≤ 900)
    (H : ∀ (en : Int32) (pl bg tl sl ad le st s : Nat → Int32), okT (rowT t b e b T P).1 → tokM ((rowT t b e b T P).1.map (ent t)) pl bg tl sl ad le st → post (nI (rowT t b e b T P).1.length) (nI (rowT t b e b T P).2) en pl bg tl sl ad le st s) : wpX8_cutRow post (nI T.length) (nI P) en t pl bg tl sl ad le st s (nI b) (nI e) := by
  have h1 := hR.1
  exact ⟨_, km_cutRow_loop (F := rowT t b e b T P) he h1 hR.2.1 hl hF H (e - b) b P T en pl bg tl sl ad le st s (Nat.le_refl _) (fun _ => hR) (by omega) hO hT rfl⟩
theorem km_cutLine_loop {post : Int32 → Int32 → Int32 → (Nat → Int32) → (Nat → Int32) → (Nat → Int32) → (Nat → Int32) → (Nat → Int32) → (Nat → Int32) → (Nat → Int32) → (Nat → Int32) → Prop} {t : Nat → Int32} {e : Nat} {x1 : Int32} {F : List (Nat × Nat × Nat × Bool) × Nat} (he : e ≤ 1500) (hF : F.1.length ≤ 900)
    (H : ∀ (en : Int32) (pl bg tl sl ad le st s : Nat → Int32), okT F.1 → tokM (F.1.map (ent t)) pl bg tl sl ad le st → post (nI F.1.length) (nI F.2) en pl bg tl sl ad le st s) :
    ∀ (g k P : Nat) (T : List (Nat × Nat × Nat × Bool)) (en : Int32) (pl bg tl sl ad le st s : Nat → Int32), e - k ≤ g → k ≤ e → P ≤ T.length → okT T → tokM (T.map (ent t)) pl bg tl sl ad le st → cutR t e k T P = F → wlX8_cutLine_2 post t x1 (nI e) (g + 1) (nI T.length) (nI P) en pl bg tl sl ad le st s (nI k) := by
  intro g
  induction g with
  | zero =>
    intro k P T en pl bg tl sl ad le st s hg hk hP hO hT hFe
    rw [cutR_stop (by omega)] at hFe
    subst hFe
    exact ⟨fun _ => H en pl bg tl sl ad le st s hO hT, fun q => absurd (nI_le (by omega) (by omega)) q⟩
  | succ g ih =>
    intro k P T en pl bg tl sl ad le st s hg hk hP hO hT hFe
    have hlen := (cutR_len (t := t) (e := e) (k := k) (P := P) (T := T)).1
    rw [hFe] at hlen
    refine ⟨fun q => ?_, fun q => ⟨vp_in_nI (by rw [nI_leI (by omega) (by omega)] at q; omega) (by omega), ?_⟩⟩
    · rw [nI_leI (by omega) (by omega)] at q
      rw [cutR_stop (by omega)] at hFe
      subst hFe
      exact H en pl bg tl sl ad le st s hO hT
    · rw [nI_leI (by omega) (by omega)] at q
      rw [nI_clamp (by omega)]
      refine km_isWord (b_ifz (fun w y ey => ?_) (fun w => ?_))
      · rw [ey, nI_1]
        rw [cutR_n (by omega) w] at hFe
        exact ih _ _ _ _ _ _ _ _ _ _ _ _ (by omega) (by omega) hP hO hT hFe
      · rw [show (nI P < (300 : Int32)) = (P < 300) from propext (nI_ltI (b := 300) (by omega) (by decide))]
        refine ⟨fun q2 => ?_, fun q2 => ?_⟩
        · obtain ⟨r1, r2, r3, r4, r5⟩ := RS_of (t := t) (show k < e by omega) w
          rw [cutR_w (by omega) q2 w] at hFe
          have hlen2 := (cutR_len (t := t) (e := e) (k := rowEnd t e k) (P := (rowT t k (rowEnd t e k) k T P).2) (T := (rowT t k (rowEnd t e k) k T P).1)).1
          rw [hFe] at hlen2
          refine km_rowEnd he (by omega) (km_cutRow (by omega) r1 r4 hO hT (by omega) (fun en' pl' bg' tl' sl' ad' le' st' s' hO' hT' => ?_))
          exact ih _ _ _ _ _ _ _ _ _ _ _ _ (by omega) (by omega) (rowT_len.2 hP) hO' hT' hFe
        · rw [cutR_stop (by omega)] at hFe
          subst hFe
          exact H en pl bg tl sl ad le st s hO hT
theorem km_cutLine {post : Int32 → Int32 → Int32 → (Nat → Int32) → (Nat → Int32) → (Nat → Int32) → (Nat → Int32) → (Nat → Int32) → (Nat → Int32) → (Nat → Int32) → (Nat → Int32) → Prop} {t : Nat → Int32} {e k P : Nat} {T : List (Nat × Nat × Nat × Bool)} {en : Int32} {pl bg tl sl ad le st s : Nat → Int32} (he : e ≤ 1500) (hk : k ≤ e) (hP : P ≤ T.length) (hO : okT T) (hT : tokM (T.map (ent t)) pl bg tl sl ad le st) (hF : (cutR t e k T P).1.length ≤ 900)
    (H : ∀ (en : Int32) (pl bg tl sl ad le st s : Nat → Int32), okT (cutR t e k T P).1 → tokM ((cutR t e k T P).1.map (ent t)) pl bg tl sl ad le st → post (nI (cutR t e k T P).1.length) (nI (cutR t e k T P).2) en pl bg tl sl ad le st s) : wpX8_cutLine post (nI T.length) (nI P) en t pl bg tl sl ad le st s (nI k) (nI e) :=
  ⟨_, km_cutLine_loop he hF H (e - k) k P T en pl bg tl sl ad le st s (Nat.le_refl _) hk hP hO hT rfl⟩
