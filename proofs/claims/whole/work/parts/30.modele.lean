set_option maxHeartbeats 4000000 in
set_option maxRecDepth 100000 in
theorem sX8_turns (l : Launch) (dC : Nat → ClassId) (dI : Nat → Nat → Nat) (ad : Nat → Nat) (cI cZ : ClassId) (sa sv : Nat → Nat) (m_thrown : Int32) (m_size : Int32) (m_outLong : Int32) (m_lines : Int32) (m_toldLines : Int32) (m_tokens : Int32) (m_places : Int32) (m_p : Int32) (m_pre : Int32) (m_end : Int32) (m_text : Nat → Int32) (m_out : Nat → Int32) (m_lineAt : Nat → Int32) (m_lineLong : Nat → Int32) (m_depth : Nat → Int32) (m_signed : Nat → Int32) (m_led : Nat → Int32) (m_told : Nat → Int32) (m_place : Nat → Int32) (m_begin : Nat → Int32) (m_tokenLong : Nat → Int32) (m_stemLong : Nat → Int32) (m_address : Nat → Int32) (m_letters : Nat → Int32) (m_stems : Nat → Int32) (m_s : Nat → Int32) (x1 : Int64) (x3 : Int64) (x5 : Int32) {post : Int32 → Int32 → (Nat → Int32) → Prop} (h : wpX8_turns post m_end m_s x1 x3 x5) : xMi l (dC, dI) vwCl [(cI, .int), (cZ, .boolean)] (sI sa sv) yX8_turns wsX8_turns ({ frames := 3, cells := 0, slots := 0, locals := 69 }) (mW ad cI cZ m_thrown m_size m_outLong m_lines m_toldLines m_tokens m_places m_p m_pre m_end m_text m_out m_lineAt m_lineLong m_depth m_signed m_led m_told m_place m_begin m_tokenLong m_stemLong m_address m_letters m_stems m_s) [.ref (ad 0), .long x1, .long x3, .int x5] (fun (r : Int32) (u : Int32 × (Nat → Int32)) => post r u.1 u.2) (fun u : Int32 × (Nat → Int32) => (mW ad cI cZ m_thrown m_size m_outLong m_lines m_toldLines m_tokens m_places m_p m_pre u.1 m_text m_out m_lineAt m_lineLong m_depth m_signed m_led m_told m_place m_begin m_tokenLong m_stemLong m_address m_letters m_stems u.2)) := by
  intro sz
  refine Met.ofW (cc := cX8_turns) (maxL := 7) (ret := (some .boolean)) (by decide) rfl ?_
  intro p e s m args below meth c s₁ B hml hv
  obtain ⟨rfl, hsz, hP, hK, hD0, hI⟩ := hv
  have hx := B.exec
  have hb := B.bytes
  have hr := B.returns
  have hts := atoms_spec (ws := wsX8_turns) B.pre
  have hown : s.vm.findClass RX8 = some m.cls := findClass_of_methodNamed B.named
  have hlocks := B.notSynchronized
  subst hsz
  have hD := hD0.self (sz := s.heap.size)
  generalize hAe : va_A (mW ad cI cZ m_thrown m_size m_outLong m_lines m_toldLines m_tokens m_places m_p m_pre m_end m_text m_out m_lineAt m_lineLong m_depth m_signed m_led m_told m_place m_begin m_tokenLong m_stemLong m_address m_letters m_stems m_s) s.heap.size = A at hD hI ⊢
  have hA : ∀ q : Nat, s.heap.size ≤ q → A q := fun q h => by rw [← hAe]; exact Or.inr h
  have hS : va_S A s.heap s.heap [] := va_S.rf
  have Fx : CallFix p m c cX8_turns 7 s ([.ref (ad 0), .long x1, .long x3, .int x5] : List Value).toArray wsX8_turns RX8 := ⟨hx, hb, hml, hown, hts⟩
  have hQ : ∀ (r : Int32) (u : Int32 × (Nat → Int32)) (t : State), (fun (r : Int32) (u : Int32 × (Nat → Int32)) => post r u.1 u.2) r u → va_P (dC, dI) vwCl ((fun u : Int32 × (Nat → Int32) => (mW ad cI cZ m_thrown m_size m_outLong m_lines m_toldLines m_tokens m_places m_p m_pre u.1 m_text m_out m_lineAt m_lineLong m_depth m_signed m_led m_told m_place m_begin m_tokenLong m_stemLong m_address m_letters m_stems u.2)) u) t.heap → va_K (dC, dI) vwCl [(cI, .int), (cZ, .boolean)] t → va_D A ((fun u : Int32 × (Nat → Int32) => (mW ad cI cZ m_thrown m_size m_outLong m_lines m_toldLines m_tokens m_places m_p m_pre u.1 m_text m_out m_lineAt m_lineLong m_depth m_signed m_led m_told m_place m_begin m_tokenLong m_stemLong m_address m_letters m_stems u.2)) u) → va_F A s t → (va_Qi (fun (r : Int32) (u : Int32 × (Nat → Int32)) => post r u.1 u.2) (xB (dC, dI) vwCl [(cI, .int), (cZ, .boolean)] A (fun u : Int32 × (Nat → Int32) => (mW ad cI cZ m_thrown m_size m_outLong m_lines m_toldLines m_tokens m_places m_p m_pre u.1 m_text m_out m_lineAt m_lineLong m_depth m_signed m_led m_told m_place m_begin m_tokenLong m_stemLong m_address m_letters m_stems u.2))) A) ([.ref (ad 0), .long x1, .long x3, .int x5] : List Value).toArray s (.returned (some (.int r))) t := fun r u t h1 h2 h3 h4 h5 => ⟨⟨r, u, rfl, h1, h2, h3, h4⟩, h5⟩
  generalize (va_Qi (fun (r : Int32) (u : Int32 × (Nat → Int32)) => post r u.1 u.2) (xB (dC, dI) vwCl [(cI, .int), (cZ, .boolean)] A (fun u : Int32 × (Nat → Int32) => (mW ad cI cZ m_thrown m_size m_outLong m_lines m_toldLines m_tokens m_places m_p m_pre u.1 m_text m_out m_lineAt m_lineLong m_depth m_signed m_led m_told m_place m_begin m_tokenLong m_stemLong m_address m_letters m_stems u.2))) A) = Qc at hQ ⊢
  have hl := lv_entry ([.ref (ad 0), .long x1, .long x3, .int x5]) (n := 7) (Nat.le_of_ble_eq_true rfl)
  rw [lg_entry_eq]
  generalize (lg_sl ([.ref (ad 0), .long x1, .long x3, .int x5]) ++ List.replicate (7 - (lg_sl ([.ref (ad 0), .long x1, .long x3, .int x5])).length) Slot.unset).toArray = ls at hl ⊢
  have hl : lv_has ls 7 [(0, .ref (ad 0)), (1, .long x1), (3, .long x3), (5, .int x5)] := hl
  refine (fun (key : ∀ (H : Heap) (locs : List Loc), va_P (dC, dI) vwCl (mW ad cI cZ m_thrown m_size m_outLong m_lines m_toldLines m_tokens m_places m_p m_pre m_end m_text m_out m_lineAt m_lineLong m_depth m_signed m_led m_told m_place m_begin m_tokenLong m_stemLong m_address m_letters m_stems m_s) H → va_D A (mW ad cI cZ m_thrown m_size m_outLong m_lines m_toldLines m_tokens m_places m_p m_pre m_end m_text m_out m_lineAt m_lineLong m_depth m_signed m_led m_told m_place m_begin m_tokenLong m_stemLong m_address m_letters m_stems m_s) → va_S A s.heap H locs → W p l e (headSpec wsX8_turns ({ frames := 3, cells := 0, slots := 0, locals := 69 })).room s m ([.ref (ad 0), .long x1, .long x3, .int x5] : List Value).toArray below meth c H locs 0 0 (MQ below Qc ([.ref (ad 0), .long x1, .long x3, .int x5] : List Value).toArray s 0 0 A) (F0 m 0 ls [])) => key _ _ hP hD hS) ?_
  have inX8 : ∀ w ∈ wsX80, w ∈ wsX8_turns := (fun _ h9 => List.mem_cons_of_mem _ (List.mem_append_right _ h9))
  intro H locs hP hD hS
  delta wpX8_turns at h
  refine lv_aload_n hx hb dX8_turns_0 rfl (lv_at hl 0 rfl) ?_
  refine lv_lload_n hx hb dX8_turns_1 rfl (lv_at hl 1 rfl) ?_
  refine xc_vi (As := [.long x1]) (rest := []) xG Fx (sX8_has l dC dI ad cI cZ sa sv m_thrown m_size m_outLong m_lines m_toldLines m_tokens m_places m_p m_pre m_end m_text m_out m_lineAt m_lineLong m_depth m_signed m_led m_told m_place m_begin m_tokenLong m_stemLong m_address m_letters m_stems m_s x1 h) (cwV 1 hts gX8_turns_X8_has rfl rfl rfl hdX8_has ⟨Nat.le_of_ble_eq_true rfl, Nat.le_of_ble_eq_true rfl⟩) (va_recv hK hP (ci := 7) (q0 := 0) rfl rfl) hK hP hD hS hA hI rfl hl.1 rfl (Nat.le_of_ble_eq_true rfl) dX8_turns_2 ⟨Nat.zero_le _, Nat.zero_le _⟩ (fun r_1 u H locs h hP hD hS => ?_)
  refine lv_if_ne (tgt := 10) hx hb dX8_turns_5 (by decide) (fun c9 => ?_) (fun c9 => ?_)
  · have h := h.1 c9
    refine lv_aload_n hx hb dX8_turns_10 rfl (lv_at hl 0 rfl) ?_
    refine va_get (D := (dC, dI)) (ci := 7) (v := .int m_end) (C := RX8) (T := TX8) (N := 26) hx hb hts inX8 hown hK hP 0 rfl rfl 25 (by decide) (hts (.fieldLink RX8 312 "MailWordsModel" "end" "I") (List.mem_of_getElem? (i := 1) rfl)) (fun _ h9 => h9) rfl dX8_turns_11 ?_
    refine lv_lload_n hx hb dX8_turns_14 rfl (lv_at hl 1 rfl) ?_
    refine xc_si (As := [.long x1]) (rest := [.int m_end]) xG Fx (sX8_lengthOf l dC dI ad cI cZ sa sv m_thrown m_size m_outLong m_lines m_toldLines m_tokens m_places m_p m_pre m_end m_text m_out m_lineAt m_lineLong m_depth m_signed m_led m_told m_place m_begin m_tokenLong m_stemLong m_address m_letters m_stems m_s x1 h) (va_cwS 1 hts gX8_turns_X8_lengthOf rfl rfl rfl hdX8_lengthOf ⟨Nat.le_of_ble_eq_true rfl, Nat.le_of_ble_eq_true rfl⟩) hK hP hD hS hA hI rfl hl.1 rfl (Nat.le_of_ble_eq_true rfl) dX8_turns_15 ⟨Nat.zero_le _, Nat.zero_le _⟩ (fun r_2 u H locs h hP hD hS => ?_)
    refine lv_isub hx hb dX8_turns_18 ?_
    refine lv_topi (fun x6_3 ex6_3 => ?_)
    have h := h x6_3 ex6_3
    refine lv_istore (lv' := [(6, .int x6_3), (0, .ref (ad 0)), (1, .long x1), (3, .long x3), (5, .int x5)]) hx hb dX8_turns_19 hl (by decide) rfl (fun ls hl => ?_)
    refine lv_aload_n hx hb dX8_turns_21 rfl (lv_at hl 1 rfl) ?_
    refine lv_iload hx hb dX8_turns_22 (lv_at hl 0 rfl) ?_
    refine xc_vi (As := [.int x6_3]) (rest := []) xG Fx (sX8_measure l dC dI ad cI cZ sa sv m_thrown m_size m_outLong m_lines m_toldLines m_tokens m_places m_p m_pre m_end m_text m_out m_lineAt m_lineLong m_depth m_signed m_led m_told m_place m_begin m_tokenLong m_stemLong m_address m_letters m_stems m_s x6_3 h) (cwV 1 hts gX8_turns_X8_measure rfl rfl rfl hdX8_measure ⟨Nat.le_of_ble_eq_true rfl, Nat.le_of_ble_eq_true rfl⟩) (va_recv hK hP (ci := 7) (q0 := 0) rfl rfl) hK hP hD hS hA hI rfl hl.1 rfl (Nat.le_of_ble_eq_true rfl) dX8_turns_24 ⟨Nat.zero_le _, Nat.zero_le _⟩ (fun r_4 u H locs h hP hD hS => ?_)
    refine lv_iload hx hb dX8_turns_27 (lv_at hl 4 rfl) ?_
    refine lv_icmp_le (tgt := 43) hx hb dX8_turns_29 (by decide) (fun c9 => ?_) (fun c9 => ?_)
    · have h := h.1 c9
      refine lv_iconst (v := 1) hx hb dX8_turns_43 (by decide) ?_
      exact W.zret (v := 1) hx hb hr (bN_nar bN1) (fun t ht hW => hQ 1 (m_end, m_s) t h (by rw [ht]; exact hP) (va_K.moved hW.alike hK) hD (hS.F ht)) hS.2.2 dX8_turns_44
    · have h := h.2 c9
      refine lv_aload_n hx hb dX8_turns_32 rfl (lv_at hl 1 rfl) ?_
      refine lv_iload hx hb dX8_turns_33 (lv_at hl 0 rfl) ?_
      refine va_put (D := (dC, dI)) (ci := 7) (v := .int x6_3) (ty := .int) (C := RX8) (T := TX8) (N := 26) hx hb hts inX8 tyX8 tyX8_ok nmX8 hown hK hP hD hS 0 rfl rfl 25 (by decide) (hts (.fieldLink RX8 312 "MailWordsModel" "end" "I") (List.mem_of_getElem? (i := 1) rfl)) (fun _ h9 => h9) rfl (tyX8_ok 25 (by decide)) rfl rfl (Nat.le_of_ble_eq_true rfl) dX8_turns_35 (fun H locs hP hD hS => ?_)
      have hP : va_P (dC, dI) vwCl (mW ad cI cZ m_thrown m_size m_outLong m_lines m_toldLines m_tokens m_places m_p m_pre x6_3 m_text m_out m_lineAt m_lineLong m_depth m_signed m_led m_told m_place m_begin m_tokenLong m_stemLong m_address m_letters m_stems m_s) H := hP
      have hD : va_D A (mW ad cI cZ m_thrown m_size m_outLong m_lines m_toldLines m_tokens m_places m_p m_pre x6_3 m_text m_out m_lineAt m_lineLong m_depth m_signed m_led m_told m_place m_begin m_tokenLong m_stemLong m_address m_letters m_stems m_s) := hD
      refine lv_aload_n hx hb dX8_turns_38 rfl (lv_at hl 1 rfl) ?_
      refine lv_lload_n hx hb dX8_turns_39 rfl (lv_at hl 3 rfl) ?_
      refine xc_vv (As := [.long x3]) (rest := []) xG Fx (sX8_append l dC dI ad cI cZ sa sv m_thrown m_size m_outLong m_lines m_toldLines m_tokens m_places m_p m_pre x6_3 m_text m_out m_lineAt m_lineLong m_depth m_signed m_led m_told m_place m_begin m_tokenLong m_stemLong m_address m_letters m_stems m_s x3 h) (cwV 1 hts gX8_turns_X8_append rfl rfl rfl hdX8_append ⟨Nat.le_of_ble_eq_true rfl, Nat.le_of_ble_eq_true rfl⟩) (va_recv hK hP (ci := 7) (q0 := 0) rfl rfl) hK hP hD hS hA hI rfl hl.1 rfl (Nat.le_of_ble_eq_true rfl) dX8_turns_40 ⟨Nat.zero_le _, Nat.zero_le _⟩ (fun u H locs h hP hD hS => ?_)
      obtain ⟨m_end_6, m_s_7⟩ := u
      have hP : va_P (dC, dI) vwCl (mW ad cI cZ m_thrown m_size m_outLong m_lines m_toldLines m_tokens m_places m_p m_pre m_end_6 m_text m_out m_lineAt m_lineLong m_depth m_signed m_led m_told m_place m_begin m_tokenLong m_stemLong m_address m_letters m_stems m_s_7) H := hP
      have hD : va_D A (mW ad cI cZ m_thrown m_size m_outLong m_lines m_toldLines m_tokens m_places m_p m_pre m_end_6 m_text m_out m_lineAt m_lineLong m_depth m_signed m_led m_told m_place m_begin m_tokenLong m_stemLong m_address m_letters m_stems m_s_7) := hD
      refine lv_iconst (v := 1) hx hb dX8_turns_43 (by decide) ?_
      exact W.zret (v := 1) hx hb hr (bN_nar bN1) (fun t ht hW => hQ 1 (m_end_6, m_s_7) t h (by rw [ht]; exact hP) (va_K.moved hW.alike hK) hD (hS.F ht)) hS.2.2 dX8_turns_44
  · have h := h.2 c9
    refine lv_iconst (v := 0) hx hb dX8_turns_8 (by decide) ?_
    exact W.zret (v := 0) hx hb hr (bN_nar bN0) (fun t ht hW => hQ 0 (m_end, m_s) t h (by rw [ht]; exact hP) (va_K.moved hW.alike hK) hD (hS.F ht)) hS.2.2 dX8_turns_9
set_option maxHeartbeats 4000000 in
set_option maxRecDepth 100000 in
theorem sX8_second (l : Launch) (dC : Nat → ClassId) (dI : Nat → Nat → Nat) (ad : Nat → Nat) (cI cZ : ClassId) (sa sv : Nat → Nat) (m_thrown : Int32) (m_size : Int32) (m_outLong : Int32) (m_lines : Int32) (m_toldLines : Int32) (m_tokens : Int32) (m_places : Int32) (m_p : Int32) (m_pre : Int32) (m_end : Int32) (m_text : Nat → Int32) (m_out : Nat → Int32) (m_lineAt : Nat → Int32) (m_lineLong : Nat → Int32) (m_depth : Nat → Int32) (m_signed : Nat → Int32) (m_led : Nat → Int32) (m_told : Nat → Int32) (m_place : Nat → Int32) (m_begin : Nat → Int32) (m_tokenLong : Nat → Int32) (m_stemLong : Nat → Int32) (m_address : Nat → Int32) (m_letters : Nat → Int32) (m_stems : Nat → Int32) (m_s : Nat → Int32)  {post : Int32 → (Nat → Int32) → Prop} (h : wpX8_second post m_end m_s) : xMv l (dC, dI) vwCl [(cI, .int), (cZ, .boolean)] (sI sa sv) yX8_second wsX8_second ({ frames := 4, cells := 0, slots := 0, locals := 95 }) (mW ad cI cZ m_thrown m_size m_outLong m_lines m_toldLines m_tokens m_places m_p m_pre m_end m_text m_out m_lineAt m_lineLong m_depth m_signed m_led m_told m_place m_begin m_tokenLong m_stemLong m_address m_letters m_stems m_s) [.ref (ad 0)] (fun u : Int32 × (Nat → Int32) => post u.1 u.2) (fun u : Int32 × (Nat → Int32) => (mW ad cI cZ m_thrown m_size m_outLong m_lines m_toldLines m_tokens m_places m_p m_pre u.1 m_text m_out m_lineAt m_lineLong m_depth m_signed m_led m_told m_place m_begin m_tokenLong m_stemLong m_address m_letters m_stems u.2)) := by
  intro sz
  refine Met.ofW (cc := cX8_second) (maxL := 1) (ret := none) (by decide) rfl ?_
  intro p e s m args below meth c s₁ B hml hv
  obtain ⟨rfl, hsz, hP, hK, hD0, hI⟩ := hv
  have hx := B.exec
  have hb := B.bytes
  have hr := B.returns
  have hts := atoms_spec (ws := wsX8_second) B.pre
  have hown : s.vm.findClass RX8 = some m.cls := findClass_of_methodNamed B.named
  have hlocks := B.notSynchronized
  subst hsz
  have hD := hD0.self (sz := s.heap.size)
  generalize hAe : va_A (mW ad cI cZ m_thrown m_size m_outLong m_lines m_toldLines m_tokens m_places m_p m_pre m_end m_text m_out m_lineAt m_lineLong m_depth m_signed m_led m_told m_place m_begin m_tokenLong m_stemLong m_address m_letters m_stems m_s) s.heap.size = A at hD hI ⊢
  have hA : ∀ q : Nat, s.heap.size ≤ q → A q := fun q h => by rw [← hAe]; exact Or.inr h
  have hS : va_S A s.heap s.heap [] := va_S.rf
  have Fx : CallFix p m c cX8_second 1 s ([.ref (ad 0)] : List Value).toArray wsX8_second RX8 := ⟨hx, hb, hml, hown, hts⟩
  have hQ : ∀ (u : Int32 × (Nat → Int32)) (t : State), (fun u : Int32 × (Nat → Int32) => post u.1 u.2) u → va_P (dC, dI) vwCl ((fun u : Int32 × (Nat → Int32) => (mW ad cI cZ m_thrown m_size m_outLong m_lines m_toldLines m_tokens m_places m_p m_pre u.1 m_text m_out m_lineAt m_lineLong m_depth m_signed m_led m_told m_place m_begin m_tokenLong m_stemLong m_address m_letters m_stems u.2)) u) t.heap → va_K (dC, dI) vwCl [(cI, .int), (cZ, .boolean)] t → va_D A ((fun u : Int32 × (Nat → Int32) => (mW ad cI cZ m_thrown m_size m_outLong m_lines m_toldLines m_tokens m_places m_p m_pre u.1 m_text m_out m_lineAt m_lineLong m_depth m_signed m_led m_told m_place m_begin m_tokenLong m_stemLong m_address m_letters m_stems u.2)) u) → va_F A s t → (va_Qv (fun u : Int32 × (Nat → Int32) => post u.1 u.2) (xB (dC, dI) vwCl [(cI, .int), (cZ, .boolean)] A (fun u : Int32 × (Nat → Int32) => (mW ad cI cZ m_thrown m_size m_outLong m_lines m_toldLines m_tokens m_places m_p m_pre u.1 m_text m_out m_lineAt m_lineLong m_depth m_signed m_led m_told m_place m_begin m_tokenLong m_stemLong m_address m_letters m_stems u.2))) A) ([.ref (ad 0)] : List Value).toArray s (.returned none) t := fun u t h1 h2 h3 h4 h5 => ⟨⟨u, rfl, h1, h2, h3, h4⟩, h5⟩
  generalize (va_Qv (fun u : Int32 × (Nat → Int32) => post u.1 u.2) (xB (dC, dI) vwCl [(cI, .int), (cZ, .boolean)] A (fun u : Int32 × (Nat → Int32) => (mW ad cI cZ m_thrown m_size m_outLong m_lines m_toldLines m_tokens m_places m_p m_pre u.1 m_text m_out m_lineAt m_lineLong m_depth m_signed m_led m_told m_place m_begin m_tokenLong m_stemLong m_address m_letters m_stems u.2))) A) = Qc at hQ ⊢
  have hl := lv_entry ([.ref (ad 0)]) (n := 1) (Nat.le_of_ble_eq_true rfl)
  rw [lg_entry_eq]
  generalize (lg_sl ([.ref (ad 0)]) ++ List.replicate (1 - (lg_sl ([.ref (ad 0)])).length) Slot.unset).toArray = ls at hl ⊢
  have hl : lv_has ls 1 [(0, .ref (ad 0))] := hl
  refine (fun (key : ∀ (H : Heap) (locs : List Loc), va_P (dC, dI) vwCl (mW ad cI cZ m_thrown m_size m_outLong m_lines m_toldLines m_tokens m_places m_p m_pre m_end m_text m_out m_lineAt m_lineLong m_depth m_signed m_led m_told m_place m_begin m_tokenLong m_stemLong m_address m_letters m_stems m_s) H → va_D A (mW ad cI cZ m_thrown m_size m_outLong m_lines m_toldLines m_tokens m_places m_p m_pre m_end m_text m_out m_lineAt m_lineLong m_depth m_signed m_led m_told m_place m_begin m_tokenLong m_stemLong m_address m_letters m_stems m_s) → va_S A s.heap H locs → W p l e (headSpec wsX8_second ({ frames := 4, cells := 0, slots := 0, locals := 95 })).room s m ([.ref (ad 0)] : List Value).toArray below meth c H locs 0 0 (MQ below Qc ([.ref (ad 0)] : List Value).toArray s 0 0 A) (F0 m 0 ls [])) => key _ _ hP hD hS) ?_
  intro H locs hP hD hS
  delta wpX8_second at h
  refine lv_aload_n hx hb dX8_second_0 rfl (lv_at hl 0 rfl) ?_
  refine lv_ldc2 (v := 27431068930826604) hx hb hown (hts (.constantLong RX8 357 (27431068930826604)) (List.mem_of_getElem? (i := 1) rfl)) dX8_second_1 ?_
  refine lv_ldc2 (v := 6386789) hx hb hown (hts (.constantLong RX8 359 (6386789)) (List.mem_of_getElem? (i := 2) rfl)) dX8_second_4 ?_
  refine lv_iconst (v := 0) hx hb dX8_second_7 (by decide) ?_
  refine xc_vi (As := [.long 27431068930826604, .long 6386789, .int 0]) (rest := []) xG Fx (sX8_turns l dC dI ad cI cZ sa sv m_thrown m_size m_outLong m_lines m_toldLines m_tokens m_places m_p m_pre m_end m_text m_out m_lineAt m_lineLong m_depth m_signed m_led m_told m_place m_begin m_tokenLong m_stemLong m_address m_letters m_stems m_s 27431068930826604 6386789 0 h) (cwV 3 hts gX8_second_X8_turns rfl rfl rfl hdX8_turns ⟨Nat.le_of_ble_eq_true rfl, Nat.le_of_ble_eq_true rfl⟩) (va_recv hK hP (ci := 7) (q0 := 0) rfl rfl) hK hP hD hS hA hI rfl hl.1 rfl (Nat.le_of_ble_eq_true rfl) dX8_second_8 ⟨Nat.zero_le _, Nat.zero_le _⟩ (fun r_1 u H locs h hP hD hS => ?_)
  obtain ⟨m_end_2, m_s_3⟩ := u
  have hP : va_P (dC, dI) vwCl (mW ad cI cZ m_thrown m_size m_outLong m_lines m_toldLines m_tokens m_places m_p m_pre m_end_2 m_text m_out m_lineAt m_lineLong m_depth m_signed m_led m_told m_place m_begin m_tokenLong m_stemLong m_address m_letters m_stems m_s_3) H := hP
  have hD : va_D A (mW ad cI cZ m_thrown m_size m_outLong m_lines m_toldLines m_tokens m_places m_p m_pre m_end_2 m_text m_out m_lineAt m_lineLong m_depth m_signed m_led m_told m_place m_begin m_tokenLong m_stemLong m_address m_letters m_stems m_s_3) := hD
  refine lv_if_ne (tgt := 70) hx hb dX8_second_11 (by decide) (fun c9 => ?_) (fun c9 => ?_)
  · have h := h.1 c9
    exact W.vret hx hb hr (fun t ht hW => hQ (m_end_2, m_s_3) t h (by rw [ht]; exact hP) (va_K.moved hW.alike hK) hD (hS.F ht)) hS.2.2 dX8_second_70
  · have h := h.2 c9
    refine lv_aload_n hx hb dX8_second_14 rfl (lv_at hl 0 rfl) ?_
    refine lv_ldc2 (v := 29689431538102126) hx hb hown (hts (.constantLong RX8 365 (29689431538102126)) (List.mem_of_getElem? (i := 3) rfl)) dX8_second_15 ?_
    refine lv_ldc2 (v := 6912613) hx hb hown (hts (.constantLong RX8 367 (6912613)) (List.mem_of_getElem? (i := 4) rfl)) dX8_second_18 ?_
    refine lv_iconst (v := 0) hx hb dX8_second_21 (by decide) ?_
    refine xc_vi (As := [.long 29689431538102126, .long 6912613, .int 0]) (rest := []) xG Fx (sX8_turns l dC dI ad cI cZ sa sv m_thrown m_size m_outLong m_lines m_toldLines m_tokens m_places m_p m_pre m_end_2 m_text m_out m_lineAt m_lineLong m_depth m_signed m_led m_told m_place m_begin m_tokenLong m_stemLong m_address m_letters m_stems m_s_3 29689431538102126 6912613 0 h) (cwV 3 hts gX8_second_X8_turns rfl rfl rfl hdX8_turns ⟨Nat.le_of_ble_eq_true rfl, Nat.le_of_ble_eq_true rfl⟩) (va_recv hK hP (ci := 7) (q0 := 0) rfl rfl) hK hP hD hS hA hI rfl hl.1 rfl (Nat.le_of_ble_eq_true rfl) dX8_second_22 ⟨Nat.zero_le _, Nat.zero_le _⟩ (fun r_4 u H locs h hP hD hS => ?_)
    obtain ⟨m_end_5, m_s_6⟩ := u
    have hP : va_P (dC, dI) vwCl (mW ad cI cZ m_thrown m_size m_outLong m_lines m_toldLines m_tokens m_places m_p m_pre m_end_5 m_text m_out m_lineAt m_lineLong m_depth m_signed m_led m_told m_place m_begin m_tokenLong m_stemLong m_address m_letters m_stems m_s_6) H := hP
    have hD : va_D A (mW ad cI cZ m_thrown m_size m_outLong m_lines m_toldLines m_tokens m_places m_p m_pre m_end_5 m_text m_out m_lineAt m_lineLong m_depth m_signed m_led m_told m_place m_begin m_tokenLong m_stemLong m_address m_letters m_stems m_s_6) := hD
    refine lv_if_ne (tgt := 70) hx hb dX8_second_25 (by decide) (fun c9 => ?_) (fun c9 => ?_)
    · have h := h.1 c9
      exact W.vret hx hb hr (fun t ht hW => hQ (m_end_5, m_s_6) t h (by rw [ht]; exact hP) (va_K.moved hW.alike hK) hD (hS.F ht)) hS.2.2 dX8_second_70
    · have h := h.2 c9
      refine lv_aload_n hx hb dX8_second_28 rfl (lv_at hl 0 rfl) ?_
      refine lv_ldc2 (v := 29685050570535795) hx hb hown (hts (.constantLong RX8 369 (29685050570535795)) (List.mem_of_getElem? (i := 5) rfl)) dX8_second_29 ?_
      refine lv_ldc2 (v := 6911589) hx hb hown (hts (.constantLong RX8 371 (6911589)) (List.mem_of_getElem? (i := 6) rfl)) dX8_second_32 ?_
      refine lv_iconst (v := 0) hx hb dX8_second_35 (by decide) ?_
      refine xc_vi (As := [.long 29685050570535795, .long 6911589, .int 0]) (rest := []) xG Fx (sX8_turns l dC dI ad cI cZ sa sv m_thrown m_size m_outLong m_lines m_toldLines m_tokens m_places m_p m_pre m_end_5 m_text m_out m_lineAt m_lineLong m_depth m_signed m_led m_told m_place m_begin m_tokenLong m_stemLong m_address m_letters m_stems m_s_6 29685050570535795 6911589 0 h) (cwV 3 hts gX8_second_X8_turns rfl rfl rfl hdX8_turns ⟨Nat.le_of_ble_eq_true rfl, Nat.le_of_ble_eq_true rfl⟩) (va_recv hK hP (ci := 7) (q0 := 0) rfl rfl) hK hP hD hS hA hI rfl hl.1 rfl (Nat.le_of_ble_eq_true rfl) dX8_second_36 ⟨Nat.zero_le _, Nat.zero_le _⟩ (fun r_7 u H locs h hP hD hS => ?_)
      obtain ⟨m_end_8, m_s_9⟩ := u
      have hP : va_P (dC, dI) vwCl (mW ad cI cZ m_thrown m_size m_outLong m_lines m_toldLines m_tokens m_places m_p m_pre m_end_8 m_text m_out m_lineAt m_lineLong m_depth m_signed m_led m_told m_place m_begin m_tokenLong m_stemLong m_address m_letters m_stems m_s_9) H := hP
      have hD : va_D A (mW ad cI cZ m_thrown m_size m_outLong m_lines m_toldLines m_tokens m_places m_p m_pre m_end_8 m_text m_out m_lineAt m_lineLong m_depth m_signed m_led m_told m_place m_begin m_tokenLong m_stemLong m_address m_letters m_stems m_s_9) := hD
      refine lv_if_ne (tgt := 70) hx hb dX8_second_39 (by decide) (fun c9 => ?_) (fun c9 => ?_)
      · have h := h.1 c9
        exact W.vret hx hb hr (fun t ht hW => hQ (m_end_8, m_s_9) t h (by rw [ht]; exact hP) (va_K.moved hW.alike hK) hD (hS.F ht)) hS.2.2 dX8_second_70
      · have h := h.2 c9
        refine lv_aload_n hx hb dX8_second_42 rfl (lv_at hl 0 rfl) ?_
        refine lv_ldc2 (v := 28839556193547123) hx hb hown (hts (.constantLong RX8 373 (28839556193547123)) (List.mem_of_getElem? (i := 7) rfl)) dX8_second_43 ?_
        refine lv_ldc2 (v := 6714732) hx hb hown (hts (.constantLong RX8 375 (6714732)) (List.mem_of_getElem? (i := 8) rfl)) dX8_second_46 ?_
        refine lv_iconst (v := 0) hx hb dX8_second_49 (by decide) ?_
        refine xc_vi (As := [.long 28839556193547123, .long 6714732, .int 0]) (rest := []) xG Fx (sX8_turns l dC dI ad cI cZ sa sv m_thrown m_size m_outLong m_lines m_toldLines m_tokens m_places m_p m_pre m_end_8 m_text m_out m_lineAt m_lineLong m_depth m_signed m_led m_told m_place m_begin m_tokenLong m_stemLong m_address m_letters m_stems m_s_9 28839556193547123 6714732 0 h) (cwV 3 hts gX8_second_X8_turns rfl rfl rfl hdX8_turns ⟨Nat.le_of_ble_eq_true rfl, Nat.le_of_ble_eq_true rfl⟩) (va_recv hK hP (ci := 7) (q0 := 0) rfl rfl) hK hP hD hS hA hI rfl hl.1 rfl (Nat.le_of_ble_eq_true rfl) dX8_second_50 ⟨Nat.zero_le _, Nat.zero_le _⟩ (fun r_10 u H locs h hP hD hS => ?_)
        obtain ⟨m_end_11, m_s_12⟩ := u
        have hP : va_P (dC, dI) vwCl (mW ad cI cZ m_thrown m_size m_outLong m_lines m_toldLines m_tokens m_places m_p m_pre m_end_11 m_text m_out m_lineAt m_lineLong m_depth m_signed m_led m_told m_place m_begin m_tokenLong m_stemLong m_address m_letters m_stems m_s_12) H := hP
        have hD : va_D A (mW ad cI cZ m_thrown m_size m_outLong m_lines m_toldLines m_tokens m_places m_p m_pre m_end_11 m_text m_out m_lineAt m_lineLong m_depth m_signed m_led m_told m_place m_begin m_tokenLong m_stemLong m_address m_letters m_stems m_s_12) := hD
        refine lv_if_ne (tgt := 70) hx hb dX8_second_53 (by decide) (fun c9 => ?_) (fun c9 => ?_)
        · have h := h.1 c9
          exact W.vret hx hb hr (fun t ht hW => hQ (m_end_11, m_s_12) t h (by rw [ht]; exact hP) (va_K.moved hW.alike hK) hD (hS.F ht)) hS.2.2 dX8_second_70
        · have h := h.2 c9
          refine lv_aload_n hx hb dX8_second_56 rfl (lv_at hl 0 rfl) ?_
          refine lv_ldc2 (v := 31372861048714099) hx hb hown (hts (.constantLong RX8 377 (31372861048714099)) (List.mem_of_getElem? (i := 9) rfl)) dX8_second_57 ?_
          refine lv_ldc2 (v := 7304563) hx hb hown (hts (.constantLong RX8 379 (7304563)) (List.mem_of_getElem? (i := 10) rfl)) dX8_second_60 ?_
          refine lv_iconst (v := 0) hx hb dX8_second_63 (by decide) ?_
          refine xc_vi (As := [.long 31372861048714099, .long 7304563, .int 0]) (rest := []) xG Fx (sX8_turns l dC dI ad cI cZ sa sv m_thrown m_size m_outLong m_lines m_toldLines m_tokens m_places m_p m_pre m_end_11 m_text m_out m_lineAt m_lineLong m_depth m_signed m_led m_told m_place m_begin m_tokenLong m_stemLong m_address m_letters m_stems m_s_12 31372861048714099 7304563 0 h) (cwV 3 hts gX8_second_X8_turns rfl rfl rfl hdX8_turns ⟨Nat.le_of_ble_eq_true rfl, Nat.le_of_ble_eq_true rfl⟩) (va_recv hK hP (ci := 7) (q0 := 0) rfl rfl) hK hP hD hS hA hI rfl hl.1 rfl (Nat.le_of_ble_eq_true rfl) dX8_second_64 ⟨Nat.zero_le _, Nat.zero_le _⟩ (fun r_13 u H locs h hP hD hS => ?_)
          obtain ⟨m_end_14, m_s_15⟩ := u
          have hP : va_P (dC, dI) vwCl (mW ad cI cZ m_thrown m_size m_outLong m_lines m_toldLines m_tokens m_places m_p m_pre m_end_14 m_text m_out m_lineAt m_lineLong m_depth m_signed m_led m_told m_place m_begin m_tokenLong m_stemLong m_address m_letters m_stems m_s_15) H := hP
          have hD : va_D A (mW ad cI cZ m_thrown m_size m_outLong m_lines m_toldLines m_tokens m_places m_p m_pre m_end_14 m_text m_out m_lineAt m_lineLong m_depth m_signed m_led m_told m_place m_begin m_tokenLong m_stemLong m_address m_letters m_stems m_s_15) := hD
          refine lv_if_eq (tgt := 71) hx hb dX8_second_67 (by decide) (fun c9 => ?_) (fun c9 => ?_)
          · have h := h.1 c9
            refine lv_aload_n hx hb dX8_second_71 rfl (lv_at hl 0 rfl) ?_
            refine lv_ldc2 (v := 127996189892972) hx hb hown (hts (.constantLong RX8 381 (127996189892972)) (List.mem_of_getElem? (i := 11) rfl)) dX8_second_72 ?_
            refine lv_ldc2 (v := 1953066862) hx hb hown (hts (.constantLong RX8 383 (1953066862)) (List.mem_of_getElem? (i := 12) rfl)) dX8_second_75 ?_
            refine lv_iconst (v := 0) hx hb dX8_second_78 (by decide) ?_
            refine xc_vi (As := [.long 127996189892972, .long 1953066862, .int 0]) (rest := []) xG Fx (sX8_turns l dC dI ad cI cZ sa sv m_thrown m_size m_outLong m_lines m_toldLines m_tokens m_places m_p m_pre m_end_14 m_text m_out m_lineAt m_lineLong m_depth m_signed m_led m_told m_place m_begin m_tokenLong m_stemLong m_address m_letters m_stems m_s_15 127996189892972 1953066862 0 h) (cwV 3 hts gX8_second_X8_turns rfl rfl rfl hdX8_turns ⟨Nat.le_of_ble_eq_true rfl, Nat.le_of_ble_eq_true rfl⟩) (va_recv hK hP (ci := 7) (q0 := 0) rfl rfl) hK hP hD hS hA hI rfl hl.1 rfl (Nat.le_of_ble_eq_true rfl) dX8_second_79 ⟨Nat.zero_le _, Nat.zero_le _⟩ (fun r_16 u H locs h hP hD hS => ?_)
            obtain ⟨m_end_17, m_s_18⟩ := u
            have hP : va_P (dC, dI) vwCl (mW ad cI cZ m_thrown m_size m_outLong m_lines m_toldLines m_tokens m_places m_p m_pre m_end_17 m_text m_out m_lineAt m_lineLong m_depth m_signed m_led m_told m_place m_begin m_tokenLong m_stemLong m_address m_letters m_stems m_s_18) H := hP
            have hD : va_D A (mW ad cI cZ m_thrown m_size m_outLong m_lines m_toldLines m_tokens m_places m_p m_pre m_end_17 m_text m_out m_lineAt m_lineLong m_depth m_signed m_led m_told m_place m_begin m_tokenLong m_stemLong m_address m_letters m_stems m_s_18) := hD
            refine lv_if_ne (tgt := 99) hx hb dX8_second_82 (by decide) (fun c9 => ?_) (fun c9 => ?_)
            · have h := h.1 c9
              exact W.vret hx hb hr (fun t ht hW => hQ (m_end_17, m_s_18) t h (by rw [ht]; exact hP) (va_K.moved hW.alike hK) hD (hS.F ht)) hS.2.2 dX8_second_99
            · have h := h.2 c9
              refine lv_aload_n hx hb dX8_second_85 rfl (lv_at hl 0 rfl) ?_
              refine lv_ldc2 (v := 108204929938537) hx hb hown (hts (.constantLong RX8 385 (108204929938537)) (List.mem_of_getElem? (i := 13) rfl)) dX8_second_86 ?_
              refine lv_ldc2 (v := 6450277) hx hb hown (hts (.constantLong RX8 387 (6450277)) (List.mem_of_getElem? (i := 14) rfl)) dX8_second_89 ?_
              refine lv_iconst (v := 0) hx hb dX8_second_92 (by decide) ?_
              refine xc_vi (As := [.long 108204929938537, .long 6450277, .int 0]) (rest := []) xG Fx (sX8_turns l dC dI ad cI cZ sa sv m_thrown m_size m_outLong m_lines m_toldLines m_tokens m_places m_p m_pre m_end_17 m_text m_out m_lineAt m_lineLong m_depth m_signed m_led m_told m_place m_begin m_tokenLong m_stemLong m_address m_letters m_stems m_s_18 108204929938537 6450277 0 h) (cwV 3 hts gX8_second_X8_turns rfl rfl rfl hdX8_turns ⟨Nat.le_of_ble_eq_true rfl, Nat.le_of_ble_eq_true rfl⟩) (va_recv hK hP (ci := 7) (q0 := 0) rfl rfl) hK hP hD hS hA hI rfl hl.1 rfl (Nat.le_of_ble_eq_true rfl) dX8_second_93 ⟨Nat.zero_le _, Nat.zero_le _⟩ (fun r_19 u H locs h hP hD hS => ?_)
              obtain ⟨m_end_20, m_s_21⟩ := u
              have hP : va_P (dC, dI) vwCl (mW ad cI cZ m_thrown m_size m_outLong m_lines m_toldLines m_tokens m_places m_p m_pre m_end_20 m_text m_out m_lineAt m_lineLong m_depth m_signed m_led m_told m_place m_begin m_tokenLong m_stemLong m_address m_letters m_stems m_s_21) H := hP
              have hD : va_D A (mW ad cI cZ m_thrown m_size m_outLong m_lines m_toldLines m_tokens m_places m_p m_pre m_end_20 m_text m_out m_lineAt m_lineLong m_depth m_signed m_led m_told m_place m_begin m_tokenLong m_stemLong m_address m_letters m_stems m_s_21) := hD
              refine lv_if_eq (tgt := 100) hx hb dX8_second_96 (by decide) (fun c9 => ?_) (fun c9 => ?_)
              · have h := h.1 c9
                refine lv_aload_n hx hb dX8_second_100 rfl (lv_at hl 0 rfl) ?_
                refine lv_ldc2 (v := 435644820585) hx hb hown (hts (.constantLong RX8 389 (435644820585)) (List.mem_of_getElem? (i := 15) rfl)) dX8_second_101 ?_
                refine lv_ldc2 (v := 6647412) hx hb hown (hts (.constantLong RX8 391 (6647412)) (List.mem_of_getElem? (i := 16) rfl)) dX8_second_104 ?_
                refine lv_iconst (v := 0) hx hb dX8_second_107 (by decide) ?_
                refine xc_vi (As := [.long 435644820585, .long 6647412, .int 0]) (rest := []) xG Fx (sX8_turns l dC dI ad cI cZ sa sv m_thrown m_size m_outLong m_lines m_toldLines m_tokens m_places m_p m_pre m_end_20 m_text m_out m_lineAt m_lineLong m_depth m_signed m_led m_told m_place m_begin m_tokenLong m_stemLong m_address m_letters m_stems m_s_21 435644820585 6647412 0 h) (cwV 3 hts gX8_second_X8_turns rfl rfl rfl hdX8_turns ⟨Nat.le_of_ble_eq_true rfl, Nat.le_of_ble_eq_true rfl⟩) (va_recv hK hP (ci := 7) (q0 := 0) rfl rfl) hK hP hD hS hA hI rfl hl.1 rfl (Nat.le_of_ble_eq_true rfl) dX8_second_108 ⟨Nat.zero_le _, Nat.zero_le _⟩ (fun r_22 u H locs h hP hD hS => ?_)
                obtain ⟨m_end_23, m_s_24⟩ := u
                have hP : va_P (dC, dI) vwCl (mW ad cI cZ m_thrown m_size m_outLong m_lines m_toldLines m_tokens m_places m_p m_pre m_end_23 m_text m_out m_lineAt m_lineLong m_depth m_signed m_led m_told m_place m_begin m_tokenLong m_stemLong m_address m_letters m_stems m_s_24) H := hP
                have hD : va_D A (mW ad cI cZ m_thrown m_size m_outLong m_lines m_toldLines m_tokens m_places m_p m_pre m_end_23 m_text m_out m_lineAt m_lineLong m_depth m_signed m_led m_told m_place m_begin m_tokenLong m_stemLong m_address m_letters m_stems m_s_24) := hD
                refine lv_if_ne (tgt := 184) hx hb dX8_second_111 (by decide) (fun c9 => ?_) (fun c9 => ?_)
                · have h := h.1 c9
                  exact W.vret hx hb hr (fun t ht hW => hQ (m_end_23, m_s_24) t h (by rw [ht]; exact hP) (va_K.moved hW.alike hK) hD (hS.F ht)) hS.2.2 dX8_second_184
                · have h := h.2 c9
                  refine lv_aload_n hx hb dX8_second_114 rfl (lv_at hl 0 rfl) ?_
                  refine lv_ldc2 (v := 478711868521) hx hb hown (hts (.constantLong RX8 393 (478711868521)) (List.mem_of_getElem? (i := 17) rfl)) dX8_second_115 ?_
                  refine lv_ldc2 (v := 7304563) hx hb hown (hts (.constantLong RX8 379 (7304563)) (List.mem_of_getElem? (i := 10) rfl)) dX8_second_118 ?_
                  refine lv_iconst (v := 0) hx hb dX8_second_121 (by decide) ?_
                  refine xc_vi (As := [.long 478711868521, .long 7304563, .int 0]) (rest := []) xG Fx (sX8_turns l dC dI ad cI cZ sa sv m_thrown m_size m_outLong m_lines m_toldLines m_tokens m_places m_p m_pre m_end_23 m_text m_out m_lineAt m_lineLong m_depth m_signed m_led m_told m_place m_begin m_tokenLong m_stemLong m_address m_letters m_stems m_s_24 478711868521 7304563 0 h) (cwV 3 hts gX8_second_X8_turns rfl rfl rfl hdX8_turns ⟨Nat.le_of_ble_eq_true rfl, Nat.le_of_ble_eq_true rfl⟩) (va_recv hK hP (ci := 7) (q0 := 0) rfl rfl) hK hP hD hS hA hI rfl hl.1 rfl (Nat.le_of_ble_eq_true rfl) dX8_second_122 ⟨Nat.zero_le _, Nat.zero_le _⟩ (fun r_25 u H locs h hP hD hS => ?_)
                  obtain ⟨m_end_26, m_s_27⟩ := u
                  have hP : va_P (dC, dI) vwCl (mW ad cI cZ m_thrown m_size m_outLong m_lines m_toldLines m_tokens m_places m_p m_pre m_end_26 m_text m_out m_lineAt m_lineLong m_depth m_signed m_led m_told m_place m_begin m_tokenLong m_stemLong m_address m_letters m_stems m_s_27) H := hP
                  have hD : va_D A (mW ad cI cZ m_thrown m_size m_outLong m_lines m_toldLines m_tokens m_places m_p m_pre m_end_26 m_text m_out m_lineAt m_lineLong m_depth m_signed m_led m_told m_place m_begin m_tokenLong m_stemLong m_address m_letters m_stems m_s_27) := hD
                  refine lv_if_ne (tgt := 184) hx hb dX8_second_125 (by decide) (fun c9 => ?_) (fun c9 => ?_)
                  · have h := h.1 c9
                    exact W.vret hx hb hr (fun t ht hW => hQ (m_end_26, m_s_27) t h (by rw [ht]; exact hP) (va_K.moved hW.alike hK) hD (hS.F ht)) hS.2.2 dX8_second_184
                  · have h := h.2 c9
                    refine lv_aload_n hx hb dX8_second_128 rfl (lv_at hl 0 rfl) ?_
                    refine lv_ldc2 (v := 418564894574) hx hb hown (hts (.constantLong RX8 395 (418564894574)) (List.mem_of_getElem? (i := 18) rfl)) dX8_second_129 ?_
                    refine lv_ldc2 (v := 6386789) hx hb hown (hts (.constantLong RX8 359 (6386789)) (List.mem_of_getElem? (i := 2) rfl)) dX8_second_132 ?_
                    refine lv_iconst (v := 0) hx hb dX8_second_135 (by decide) ?_
                    refine xc_vi (As := [.long 418564894574, .long 6386789, .int 0]) (rest := []) xG Fx (sX8_turns l dC dI ad cI cZ sa sv m_thrown m_size m_outLong m_lines m_toldLines m_tokens m_places m_p m_pre m_end_26 m_text m_out m_lineAt m_lineLong m_depth m_signed m_led m_told m_place m_begin m_tokenLong m_stemLong m_address m_letters m_stems m_s_27 418564894574 6386789 0 h) (cwV 3 hts gX8_second_X8_turns rfl rfl rfl hdX8_turns ⟨Nat.le_of_ble_eq_true rfl, Nat.le_of_ble_eq_true rfl⟩) (va_recv hK hP (ci := 7) (q0 := 0) rfl rfl) hK hP hD hS hA hI rfl hl.1 rfl (Nat.le_of_ble_eq_true rfl) dX8_second_136 ⟨Nat.zero_le _, Nat.zero_le _⟩ (fun r_28 u H locs h hP hD hS => ?_)
                    obtain ⟨m_end_29, m_s_30⟩ := u
                    have hP : va_P (dC, dI) vwCl (mW ad cI cZ m_thrown m_size m_outLong m_lines m_toldLines m_tokens m_places m_p m_pre m_end_29 m_text m_out m_lineAt m_lineLong m_depth m_signed m_led m_told m_place m_begin m_tokenLong m_stemLong m_address m_letters m_stems m_s_30) H := hP
                    have hD : va_D A (mW ad cI cZ m_thrown m_size m_outLong m_lines m_toldLines m_tokens m_places m_p m_pre m_end_29 m_text m_out m_lineAt m_lineLong m_depth m_signed m_led m_told m_place m_begin m_tokenLong m_stemLong m_address m_letters m_stems m_s_30) := hD
                    refine lv_if_ne (tgt := 184) hx hb dX8_second_139 (by decide) (fun c9 => ?_) (fun c9 => ?_)
                    · have h := h.1 c9
                      exact W.vret hx hb hr (fun t ht hW => hQ (m_end_29, m_s_30) t h (by rw [ht]; exact hP) (va_K.moved hW.alike hK) hD (hS.F ht)) hS.2.2 dX8_second_184
                    · have h := h.2 c9
                      refine lv_aload_n hx hb dX8_second_142 rfl (lv_at hl 0 rfl) ?_
                      refine lv_ldc2 (v := 418430677869) hx hb hown (hts (.constantLong RX8 397 (418430677869)) (List.mem_of_getElem? (i := 19) rfl)) dX8_second_143 ?_
                      refine lv_ldc2 (v := 24940) hx hb hown (hts (.constantLong RX8 399 (24940)) (List.mem_of_getElem? (i := 20) rfl)) dX8_second_146 ?_
                      refine lv_iconst (v := 0) hx hb dX8_second_149 (by decide) ?_
                      refine xc_vi (As := [.long 418430677869, .long 24940, .int 0]) (rest := []) xG Fx (sX8_turns l dC dI ad cI cZ sa sv m_thrown m_size m_outLong m_lines m_toldLines m_tokens m_places m_p m_pre m_end_29 m_text m_out m_lineAt m_lineLong m_depth m_signed m_led m_told m_place m_begin m_tokenLong m_stemLong m_address m_letters m_stems m_s_30 418430677869 24940 0 h) (cwV 3 hts gX8_second_X8_turns rfl rfl rfl hdX8_turns ⟨Nat.le_of_ble_eq_true rfl, Nat.le_of_ble_eq_true rfl⟩) (va_recv hK hP (ci := 7) (q0 := 0) rfl rfl) hK hP hD hS hA hI rfl hl.1 rfl (Nat.le_of_ble_eq_true rfl) dX8_second_150 ⟨Nat.zero_le _, Nat.zero_le _⟩ (fun r_31 u H locs h hP hD hS => ?_)
                      obtain ⟨m_end_32, m_s_33⟩ := u
                      have hP : va_P (dC, dI) vwCl (mW ad cI cZ m_thrown m_size m_outLong m_lines m_toldLines m_tokens m_places m_p m_pre m_end_32 m_text m_out m_lineAt m_lineLong m_depth m_signed m_led m_told m_place m_begin m_tokenLong m_stemLong m_address m_letters m_stems m_s_33) H := hP
                      have hD : va_D A (mW ad cI cZ m_thrown m_size m_outLong m_lines m_toldLines m_tokens m_places m_p m_pre m_end_32 m_text m_out m_lineAt m_lineLong m_depth m_signed m_led m_told m_place m_begin m_tokenLong m_stemLong m_address m_letters m_stems m_s_33) := hD
                      refine lv_if_ne (tgt := 184) hx hb dX8_second_153 (by decide) (fun c9 => ?_) (fun c9 => ?_)
                      · have h := h.1 c9
                        exact W.vret hx hb hr (fun t ht hW => hQ (m_end_32, m_s_33) t h (by rw [ht]; exact hP) (va_K.moved hW.alike hK) hD (hS.F ht)) hS.2.2 dX8_second_184
                      · have h := h.2 c9
                        refine lv_aload_n hx hb dX8_second_156 rfl (lv_at hl 0 rfl) ?_
                        refine lv_ldc2 (v := 418430678121) hx hb hown (hts (.constantLong RX8 401 (418430678121)) (List.mem_of_getElem? (i := 21) rfl)) dX8_second_157 ?_
                        refine lv_ldc2 (v := 24940) hx hb hown (hts (.constantLong RX8 399 (24940)) (List.mem_of_getElem? (i := 20) rfl)) dX8_second_160 ?_
                        refine lv_iconst (v := 0) hx hb dX8_second_163 (by decide) ?_
                        refine xc_vi (As := [.long 418430678121, .long 24940, .int 0]) (rest := []) xG Fx (sX8_turns l dC dI ad cI cZ sa sv m_thrown m_size m_outLong m_lines m_toldLines m_tokens m_places m_p m_pre m_end_32 m_text m_out m_lineAt m_lineLong m_depth m_signed m_led m_told m_place m_begin m_tokenLong m_stemLong m_address m_letters m_stems m_s_33 418430678121 24940 0 h) (cwV 3 hts gX8_second_X8_turns rfl rfl rfl hdX8_turns ⟨Nat.le_of_ble_eq_true rfl, Nat.le_of_ble_eq_true rfl⟩) (va_recv hK hP (ci := 7) (q0 := 0) rfl rfl) hK hP hD hS hA hI rfl hl.1 rfl (Nat.le_of_ble_eq_true rfl) dX8_second_164 ⟨Nat.zero_le _, Nat.zero_le _⟩ (fun r_34 u H locs h hP hD hS => ?_)
                        obtain ⟨m_end_35, m_s_36⟩ := u
                        have hP : va_P (dC, dI) vwCl (mW ad cI cZ m_thrown m_size m_outLong m_lines m_toldLines m_tokens m_places m_p m_pre m_end_35 m_text m_out m_lineAt m_lineLong m_depth m_signed m_led m_told m_place m_begin m_tokenLong m_stemLong m_address m_letters m_stems m_s_36) H := hP
                        have hD : va_D A (mW ad cI cZ m_thrown m_size m_outLong m_lines m_toldLines m_tokens m_places m_p m_pre m_end_35 m_text m_out m_lineAt m_lineLong m_depth m_signed m_led m_told m_place m_begin m_tokenLong m_stemLong m_address m_letters m_stems m_s_36) := hD
                        refine lv_if_ne (tgt := 184) hx hb dX8_second_167 (by decide) (fun c9 => ?_) (fun c9 => ?_)
                        · have h := h.1 c9
                          exact W.vret hx hb hr (fun t ht hW => hQ (m_end_35, m_s_36) t h (by rw [ht]; exact hP) (va_K.moved hW.alike hK) hD (hS.F ht)) hS.2.2 dX8_second_184
                        · have h := h.2 c9
                          refine lv_aload_n hx hb dX8_second_170 rfl (lv_at hl 0 rfl) ?_
                          refine lv_ldc2 (v := 452958188649) hx hb hown (hts (.constantLong RX8 403 (452958188649)) (List.mem_of_getElem? (i := 22) rfl)) dX8_second_171 ?_
                          refine lv_ldc2 (v := 6911589) hx hb hown (hts (.constantLong RX8 371 (6911589)) (List.mem_of_getElem? (i := 6) rfl)) dX8_second_174 ?_
                          refine lv_iconst (v := 0) hx hb dX8_second_177 (by decide) ?_
                          refine xc_vi (As := [.long 452958188649, .long 6911589, .int 0]) (rest := []) xG Fx (sX8_turns l dC dI ad cI cZ sa sv m_thrown m_size m_outLong m_lines m_toldLines m_tokens m_places m_p m_pre m_end_35 m_text m_out m_lineAt m_lineLong m_depth m_signed m_led m_told m_place m_begin m_tokenLong m_stemLong m_address m_letters m_stems m_s_36 452958188649 6911589 0 h) (cwV 3 hts gX8_second_X8_turns rfl rfl rfl hdX8_turns ⟨Nat.le_of_ble_eq_true rfl, Nat.le_of_ble_eq_true rfl⟩) (va_recv hK hP (ci := 7) (q0 := 0) rfl rfl) hK hP hD hS hA hI rfl hl.1 rfl (Nat.le_of_ble_eq_true rfl) dX8_second_178 ⟨Nat.zero_le _, Nat.zero_le _⟩ (fun r_37 u H locs h hP hD hS => ?_)
                          obtain ⟨m_end_38, m_s_39⟩ := u
                          have hP : va_P (dC, dI) vwCl (mW ad cI cZ m_thrown m_size m_outLong m_lines m_toldLines m_tokens m_places m_p m_pre m_end_38 m_text m_out m_lineAt m_lineLong m_depth m_signed m_led m_told m_place m_begin m_tokenLong m_stemLong m_address m_letters m_stems m_s_39) H := hP
                          have hD : va_D A (mW ad cI cZ m_thrown m_size m_outLong m_lines m_toldLines m_tokens m_places m_p m_pre m_end_38 m_text m_out m_lineAt m_lineLong m_depth m_signed m_led m_told m_place m_begin m_tokenLong m_stemLong m_address m_letters m_stems m_s_39) := hD
                          refine lv_if_eq (tgt := 185) hx hb dX8_second_181 (by decide) (fun c9 => ?_) (fun c9 => ?_)
                          · have h := h.1 c9
                            refine lv_aload_n hx hb dX8_second_185 rfl (lv_at hl 0 rfl) ?_
                            refine lv_ldc2 (v := 1701733225) hx hb hown (hts (.constantLong RX8 405 (1701733225)) (List.mem_of_getElem? (i := 23) rfl)) dX8_second_186 ?_
                            refine lv_ldc2 (v := 1701733221) hx hb hown (hts (.constantLong RX8 407 (1701733221)) (List.mem_of_getElem? (i := 24) rfl)) dX8_second_189 ?_
                            refine lv_iconst (v := 0) hx hb dX8_second_192 (by decide) ?_
                            refine xc_vi (As := [.long 1701733225, .long 1701733221, .int 0]) (rest := []) xG Fx (sX8_turns l dC dI ad cI cZ sa sv m_thrown m_size m_outLong m_lines m_toldLines m_tokens m_places m_p m_pre m_end_38 m_text m_out m_lineAt m_lineLong m_depth m_signed m_led m_told m_place m_begin m_tokenLong m_stemLong m_address m_letters m_stems m_s_39 1701733225 1701733221 0 h) (cwV 3 hts gX8_second_X8_turns rfl rfl rfl hdX8_turns ⟨Nat.le_of_ble_eq_true rfl, Nat.le_of_ble_eq_true rfl⟩) (va_recv hK hP (ci := 7) (q0 := 0) rfl rfl) hK hP hD hS hA hI rfl hl.1 rfl (Nat.le_of_ble_eq_true rfl) dX8_second_193 ⟨Nat.zero_le _, Nat.zero_le _⟩ (fun r_40 u H locs h hP hD hS => ?_)
                            obtain ⟨m_end_41, m_s_42⟩ := u
                            have hP : va_P (dC, dI) vwCl (mW ad cI cZ m_thrown m_size m_outLong m_lines m_toldLines m_tokens m_places m_p m_pre m_end_41 m_text m_out m_lineAt m_lineLong m_depth m_signed m_led m_told m_place m_begin m_tokenLong m_stemLong m_address m_letters m_stems m_s_42) H := hP
                            have hD : va_D A (mW ad cI cZ m_thrown m_size m_outLong m_lines m_toldLines m_tokens m_places m_p m_pre m_end_41 m_text m_out m_lineAt m_lineLong m_depth m_signed m_led m_told m_place m_begin m_tokenLong m_stemLong m_address m_letters m_stems m_s_42) := hD
                            refine lv_if_ne (tgt := 269) hx hb dX8_second_196 (by decide) (fun c9 => ?_) (fun c9 => ?_)
                            · have h := h.1 c9
                              exact W.vret hx hb hr (fun t ht hW => hQ (m_end_41, m_s_42) t h (by rw [ht]; exact hP) (va_K.moved hW.alike hK) hD (hS.F ht)) hS.2.2 dX8_second_269
                            · have h := h.2 c9
                              refine lv_aload_n hx hb dX8_second_199 rfl (lv_at hl 0 rfl) ?_
                              refine lv_ldc2 (v := 1634624361) hx hb hown (hts (.constantLong RX8 409 (1634624361)) (List.mem_of_getElem? (i := 25) rfl)) dX8_second_200 ?_
                              refine lv_ldc2 (v := 1634624357) hx hb hown (hts (.constantLong RX8 411 (1634624357)) (List.mem_of_getElem? (i := 26) rfl)) dX8_second_203 ?_
                              refine lv_iconst (v := 0) hx hb dX8_second_206 (by decide) ?_
                              refine xc_vi (As := [.long 1634624361, .long 1634624357, .int 0]) (rest := []) xG Fx (sX8_turns l dC dI ad cI cZ sa sv m_thrown m_size m_outLong m_lines m_toldLines m_tokens m_places m_p m_pre m_end_41 m_text m_out m_lineAt m_lineLong m_depth m_signed m_led m_told m_place m_begin m_tokenLong m_stemLong m_address m_letters m_stems m_s_42 1634624361 1634624357 0 h) (cwV 3 hts gX8_second_X8_turns rfl rfl rfl hdX8_turns ⟨Nat.le_of_ble_eq_true rfl, Nat.le_of_ble_eq_true rfl⟩) (va_recv hK hP (ci := 7) (q0 := 0) rfl rfl) hK hP hD hS hA hI rfl hl.1 rfl (Nat.le_of_ble_eq_true rfl) dX8_second_207 ⟨Nat.zero_le _, Nat.zero_le _⟩ (fun r_43 u H locs h hP hD hS => ?_)
                              obtain ⟨m_end_44, m_s_45⟩ := u
                              have hP : va_P (dC, dI) vwCl (mW ad cI cZ m_thrown m_size m_outLong m_lines m_toldLines m_tokens m_places m_p m_pre m_end_44 m_text m_out m_lineAt m_lineLong m_depth m_signed m_led m_told m_place m_begin m_tokenLong m_stemLong m_address m_letters m_stems m_s_45) H := hP
                              have hD : va_D A (mW ad cI cZ m_thrown m_size m_outLong m_lines m_toldLines m_tokens m_places m_p m_pre m_end_44 m_text m_out m_lineAt m_lineLong m_depth m_signed m_led m_told m_place m_begin m_tokenLong m_stemLong m_address m_letters m_stems m_s_45) := hD
                              refine lv_if_ne (tgt := 269) hx hb dX8_second_210 (by decide) (fun c9 => ?_) (fun c9 => ?_)
                              · have h := h.1 c9
                                exact W.vret hx hb hr (fun t ht hW => hQ (m_end_44, m_s_45) t h (by rw [ht]; exact hP) (va_K.moved hW.alike hK) hD (hS.F ht)) hS.2.2 dX8_second_269
                              · have h := h.2 c9
                                refine lv_aload_n hx hb dX8_second_213 rfl (lv_at hl 0 rfl) ?_
                                refine lv_ldc2 (v := 1769629042) hx hb hown (hts (.constantLong RX8 413 (1769629042)) (List.mem_of_getElem? (i := 27) rfl)) dX8_second_214 ?_
                                refine lv_ldc2 (v := 6912613) hx hb hown (hts (.constantLong RX8 367 (6912613)) (List.mem_of_getElem? (i := 4) rfl)) dX8_second_217 ?_
                                refine lv_iconst (v := 0) hx hb dX8_second_220 (by decide) ?_
                                refine xc_vi (As := [.long 1769629042, .long 6912613, .int 0]) (rest := []) xG Fx (sX8_turns l dC dI ad cI cZ sa sv m_thrown m_size m_outLong m_lines m_toldLines m_tokens m_places m_p m_pre m_end_44 m_text m_out m_lineAt m_lineLong m_depth m_signed m_led m_told m_place m_begin m_tokenLong m_stemLong m_address m_letters m_stems m_s_45 1769629042 6912613 0 h) (cwV 3 hts gX8_second_X8_turns rfl rfl rfl hdX8_turns ⟨Nat.le_of_ble_eq_true rfl, Nat.le_of_ble_eq_true rfl⟩) (va_recv hK hP (ci := 7) (q0 := 0) rfl rfl) hK hP hD hS hA hI rfl hl.1 rfl (Nat.le_of_ble_eq_true rfl) dX8_second_221 ⟨Nat.zero_le _, Nat.zero_le _⟩ (fun r_46 u H locs h hP hD hS => ?_)
                                obtain ⟨m_end_47, m_s_48⟩ := u
                                have hP : va_P (dC, dI) vwCl (mW ad cI cZ m_thrown m_size m_outLong m_lines m_toldLines m_tokens m_places m_p m_pre m_end_47 m_text m_out m_lineAt m_lineLong m_depth m_signed m_led m_told m_place m_begin m_tokenLong m_stemLong m_address m_letters m_stems m_s_48) H := hP
                                have hD : va_D A (mW ad cI cZ m_thrown m_size m_outLong m_lines m_toldLines m_tokens m_places m_p m_pre m_end_47 m_text m_out m_lineAt m_lineLong m_depth m_signed m_led m_told m_place m_begin m_tokenLong m_stemLong m_address m_letters m_stems m_s_48) := hD
                                refine lv_if_ne (tgt := 269) hx hb dX8_second_224 (by decide) (fun c9 => ?_) (fun c9 => ?_)
                                · have h := h.1 c9
                                  exact W.vret hx hb hr (fun t ht hW => hQ (m_end_47, m_s_48) t h (by rw [ht]; exact hP) (va_K.moved hW.alike hK) hD (hS.F ht)) hS.2.2 dX8_second_269
                                · have h := h.2 c9
                                  refine lv_aload_n hx hb dX8_second_227 rfl (lv_at hl 0 rfl) ?_
                                  refine lv_ldc2 (v := 1633840233) hx hb hown (hts (.constantLong RX8 415 (1633840233)) (List.mem_of_getElem? (i := 28) rfl)) dX8_second_228 ?_
                                  refine lv_ldc2 (v := 1633840229) hx hb hown (hts (.constantLong RX8 417 (1633840229)) (List.mem_of_getElem? (i := 29) rfl)) dX8_second_231 ?_
                                  refine lv_iconst (v := 0) hx hb dX8_second_234 (by decide) ?_
                                  refine xc_vi (As := [.long 1633840233, .long 1633840229, .int 0]) (rest := []) xG Fx (sX8_turns l dC dI ad cI cZ sa sv m_thrown m_size m_outLong m_lines m_toldLines m_tokens m_places m_p m_pre m_end_47 m_text m_out m_lineAt m_lineLong m_depth m_signed m_led m_told m_place m_begin m_tokenLong m_stemLong m_address m_letters m_stems m_s_48 1633840233 1633840229 0 h) (cwV 3 hts gX8_second_X8_turns rfl rfl rfl hdX8_turns ⟨Nat.le_of_ble_eq_true rfl, Nat.le_of_ble_eq_true rfl⟩) (va_recv hK hP (ci := 7) (q0 := 0) rfl rfl) hK hP hD hS hA hI rfl hl.1 rfl (Nat.le_of_ble_eq_true rfl) dX8_second_235 ⟨Nat.zero_le _, Nat.zero_le _⟩ (fun r_49 u H locs h hP hD hS => ?_)
                                  obtain ⟨m_end_50, m_s_51⟩ := u
                                  have hP : va_P (dC, dI) vwCl (mW ad cI cZ m_thrown m_size m_outLong m_lines m_toldLines m_tokens m_places m_p m_pre m_end_50 m_text m_out m_lineAt m_lineLong m_depth m_signed m_led m_told m_place m_begin m_tokenLong m_stemLong m_address m_letters m_stems m_s_51) H := hP
                                  have hD : va_D A (mW ad cI cZ m_thrown m_size m_outLong m_lines m_toldLines m_tokens m_places m_p m_pre m_end_50 m_text m_out m_lineAt m_lineLong m_depth m_signed m_led m_told m_place m_begin m_tokenLong m_stemLong m_address m_letters m_stems m_s_51) := hD
                                  refine lv_if_ne (tgt := 269) hx hb dX8_second_238 (by decide) (fun c9 => ?_) (fun c9 => ?_)
                                  · have h := h.1 c9
                                    exact W.vret hx hb hr (fun t ht hW => hQ (m_end_50, m_s_51) t h (by rw [ht]; exact hP) (va_K.moved hW.alike hK) hD (hS.F ht)) hS.2.2 dX8_second_269
                                  · have h := h.2 c9
                                    refine lv_aload_n hx hb dX8_second_241 rfl (lv_at hl 0 rfl) ?_
                                    refine lv_ldc2 (v := 1634495593) hx hb hown (hts (.constantLong RX8 419 (1634495593)) (List.mem_of_getElem? (i := 30) rfl)) dX8_second_242 ?_
                                    refine lv_ldc2 (v := 24940) hx hb hown (hts (.constantLong RX8 399 (24940)) (List.mem_of_getElem? (i := 20) rfl)) dX8_second_245 ?_
                                    refine lv_iconst (v := 0) hx hb dX8_second_248 (by decide) ?_
                                    refine xc_vi (As := [.long 1634495593, .long 24940, .int 0]) (rest := []) xG Fx (sX8_turns l dC dI ad cI cZ sa sv m_thrown m_size m_outLong m_lines m_toldLines m_tokens m_places m_p m_pre m_end_50 m_text m_out m_lineAt m_lineLong m_depth m_signed m_led m_told m_place m_begin m_tokenLong m_stemLong m_address m_letters m_stems m_s_51 1634495593 24940 0 h) (cwV 3 hts gX8_second_X8_turns rfl rfl rfl hdX8_turns ⟨Nat.le_of_ble_eq_true rfl, Nat.le_of_ble_eq_true rfl⟩) (va_recv hK hP (ci := 7) (q0 := 0) rfl rfl) hK hP hD hS hA hI rfl hl.1 rfl (Nat.le_of_ble_eq_true rfl) dX8_second_249 ⟨Nat.zero_le _, Nat.zero_le _⟩ (fun r_52 u H locs h hP hD hS => ?_)
                                    obtain ⟨m_end_53, m_s_54⟩ := u
                                    have hP : va_P (dC, dI) vwCl (mW ad cI cZ m_thrown m_size m_outLong m_lines m_toldLines m_tokens m_places m_p m_pre m_end_53 m_text m_out m_lineAt m_lineLong m_depth m_signed m_led m_told m_place m_begin m_tokenLong m_stemLong m_address m_letters m_stems m_s_54) H := hP
                                    have hD : va_D A (mW ad cI cZ m_thrown m_size m_outLong m_lines m_toldLines m_tokens m_places m_p m_pre m_end_53 m_text m_out m_lineAt m_lineLong m_depth m_signed m_led m_told m_place m_begin m_tokenLong m_stemLong m_address m_letters m_stems m_s_54) := hD
                                    refine lv_if_ne (tgt := 269) hx hb dX8_second_252 (by decide) (fun c9 => ?_) (fun c9 => ?_)
                                    · have h := h.1 c9
                                      exact W.vret hx hb hr (fun t ht hW => hQ (m_end_53, m_s_54) t h (by rw [ht]; exact hP) (va_K.moved hW.alike hK) hD (hS.F ht)) hS.2.2 dX8_second_269
                                    · have h := h.2 c9
                                      refine lv_aload_n hx hb dX8_second_255 rfl (lv_at hl 0 rfl) ?_
                                      refine lv_ldc2 (v := 1635020658) hx hb hown (hts (.constantLong RX8 421 (1635020658)) (List.mem_of_getElem? (i := 31) rfl)) dX8_second_256 ?_
                                      refine lv_ldc2 (v := 6386789) hx hb hown (hts (.constantLong RX8 359 (6386789)) (List.mem_of_getElem? (i := 2) rfl)) dX8_second_259 ?_
                                      refine lv_iconst (v := 0) hx hb dX8_second_262 (by decide) ?_
                                      refine xc_vi (As := [.long 1635020658, .long 6386789, .int 0]) (rest := []) xG Fx (sX8_turns l dC dI ad cI cZ sa sv m_thrown m_size m_outLong m_lines m_toldLines m_tokens m_places m_p m_pre m_end_53 m_text m_out m_lineAt m_lineLong m_depth m_signed m_led m_told m_place m_begin m_tokenLong m_stemLong m_address m_letters m_stems m_s_54 1635020658 6386789 0 h) (cwV 3 hts gX8_second_X8_turns rfl rfl rfl hdX8_turns ⟨Nat.le_of_ble_eq_true rfl, Nat.le_of_ble_eq_true rfl⟩) (va_recv hK hP (ci := 7) (q0 := 0) rfl rfl) hK hP hD hS hA hI rfl hl.1 rfl (Nat.le_of_ble_eq_true rfl) dX8_second_263 ⟨Nat.zero_le _, Nat.zero_le _⟩ (fun r_55 u H locs h hP hD hS => ?_)
                                      obtain ⟨m_end_56, m_s_57⟩ := u
                                      have hP : va_P (dC, dI) vwCl (mW ad cI cZ m_thrown m_size m_outLong m_lines m_toldLines m_tokens m_places m_p m_pre m_end_56 m_text m_out m_lineAt m_lineLong m_depth m_signed m_led m_told m_place m_begin m_tokenLong m_stemLong m_address m_letters m_stems m_s_57) H := hP
                                      have hD : va_D A (mW ad cI cZ m_thrown m_size m_outLong m_lines m_toldLines m_tokens m_places m_p m_pre m_end_56 m_text m_out m_lineAt m_lineLong m_depth m_signed m_led m_told m_place m_begin m_tokenLong m_stemLong m_address m_letters m_stems m_s_57) := hD
                                      refine lv_if_eq (tgt := 270) hx hb dX8_second_266 (by decide) (fun c9 => ?_) (fun c9 => ?_)
                                      · have h := h.1 c9
                                        refine lv_aload_n hx hb dX8_second_270 rfl (lv_at hl 0 rfl) ?_
                                        refine lv_ldc2 (v := 6646889) hx hb hown (hts (.constantLong RX8 423 (6646889)) (List.mem_of_getElem? (i := 32) rfl)) dX8_second_271 ?_
                                        refine lv_ldc2 (v := 101) hx hb hown (hts (.constantLong RX8 352 (101)) (List.mem_of_getElem? (i := 33) rfl)) dX8_second_274 ?_
                                        refine lv_iconst (v := 0) hx hb dX8_second_277 (by decide) ?_
                                        refine xc_vi (As := [.long 6646889, .long 101, .int 0]) (rest := []) xG Fx (sX8_turns l dC dI ad cI cZ sa sv m_thrown m_size m_outLong m_lines m_toldLines m_tokens m_places m_p m_pre m_end_56 m_text m_out m_lineAt m_lineLong m_depth m_signed m_led m_told m_place m_begin m_tokenLong m_stemLong m_address m_letters m_stems m_s_57 6646889 101 0 h) (cwV 3 hts gX8_second_X8_turns rfl rfl rfl hdX8_turns ⟨Nat.le_of_ble_eq_true rfl, Nat.le_of_ble_eq_true rfl⟩) (va_recv hK hP (ci := 7) (q0 := 0) rfl rfl) hK hP hD hS hA hI rfl hl.1 rfl (Nat.le_of_ble_eq_true rfl) dX8_second_278 ⟨Nat.zero_le _, Nat.zero_le _⟩ (fun r_58 u H locs h hP hD hS => ?_)
                                        obtain ⟨m_end_59, m_s_60⟩ := u
                                        have hP : va_P (dC, dI) vwCl (mW ad cI cZ m_thrown m_size m_outLong m_lines m_toldLines m_tokens m_places m_p m_pre m_end_59 m_text m_out m_lineAt m_lineLong m_depth m_signed m_led m_told m_place m_begin m_tokenLong m_stemLong m_address m_letters m_stems m_s_60) H := hP
                                        have hD : va_D A (mW ad cI cZ m_thrown m_size m_outLong m_lines m_toldLines m_tokens m_places m_p m_pre m_end_59 m_text m_out m_lineAt m_lineLong m_depth m_signed m_led m_told m_place m_begin m_tokenLong m_stemLong m_address m_letters m_stems m_s_60) := hD
                                        refine lv_pop hx hb dX8_second_281 rfl ?_
                                        exact W.vret hx hb hr (fun t ht hW => hQ (m_end_59, m_s_60) t h (by rw [ht]; exact hP) (va_K.moved hW.alike hK) hD (hS.F ht)) hS.2.2 dX8_second_282
                                      · have h := h.2 c9
                                        exact W.vret hx hb hr (fun t ht hW => hQ (m_end_56, m_s_57) t h (by rw [ht]; exact hP) (va_K.moved hW.alike hK) hD (hS.F ht)) hS.2.2 dX8_second_269
                          · have h := h.2 c9
                            exact W.vret hx hb hr (fun t ht hW => hQ (m_end_38, m_s_39) t h (by rw [ht]; exact hP) (va_K.moved hW.alike hK) hD (hS.F ht)) hS.2.2 dX8_second_184
              · have h := h.2 c9
                exact W.vret hx hb hr (fun t ht hW => hQ (m_end_20, m_s_21) t h (by rw [ht]; exact hP) (va_K.moved hW.alike hK) hD (hS.F ht)) hS.2.2 dX8_second_99
          · have h := h.2 c9
            exact W.vret hx hb hr (fun t ht hW => hQ (m_end_14, m_s_15) t h (by rw [ht]; exact hP) (va_K.moved hW.alike hK) hD (hS.F ht)) hS.2.2 dX8_second_70
set_option maxHeartbeats 4000000 in
set_option maxRecDepth 100000 in
theorem sX8_third (l : Launch) (dC : Nat → ClassId) (dI : Nat → Nat → Nat) (ad : Nat → Nat) (cI cZ : ClassId) (sa sv : Nat → Nat) (m_thrown : Int32) (m_size : Int32) (m_outLong : Int32) (m_lines : Int32) (m_toldLines : Int32) (m_tokens : Int32) (m_places : Int32) (m_p : Int32) (m_pre : Int32) (m_end : Int32) (m_text : Nat → Int32) (m_out : Nat → Int32) (m_lineAt : Nat → Int32) (m_lineLong : Nat → Int32) (m_depth : Nat → Int32) (m_signed : Nat → Int32) (m_led : Nat → Int32) (m_told : Nat → Int32) (m_place : Nat → Int32) (m_begin : Nat → Int32) (m_tokenLong : Nat → Int32) (m_stemLong : Nat → Int32) (m_address : Nat → Int32) (m_letters : Nat → Int32) (m_stems : Nat → Int32) (m_s : Nat → Int32)  {post : Int32 → (Nat → Int32) → Prop} (h : wpX8_third post m_end m_s) : xMv l (dC, dI) vwCl [(cI, .int), (cZ, .boolean)] (sI sa sv) yX8_third wsX8_third ({ frames := 4, cells := 0, slots := 0, locals := 95 }) (mW ad cI cZ m_thrown m_size m_outLong m_lines m_toldLines m_tokens m_places m_p m_pre m_end m_text m_out m_lineAt m_lineLong m_depth m_signed m_led m_told m_place m_begin m_tokenLong m_stemLong m_address m_letters m_stems m_s) [.ref (ad 0)] (fun u : Int32 × (Nat → Int32) => post u.1 u.2) (fun u : Int32 × (Nat → Int32) => (mW ad cI cZ m_thrown m_size m_outLong m_lines m_toldLines m_tokens m_places m_p m_pre u.1 m_text m_out m_lineAt m_lineLong m_depth m_signed m_led m_told m_place m_begin m_tokenLong m_stemLong m_address m_letters m_stems u.2)) := by
  intro sz
  refine Met.ofW (cc := cX8_third) (maxL := 1) (ret := none) (by decide) rfl ?_
  intro p e s m args below meth c s₁ B hml hv
  obtain ⟨rfl, hsz, hP, hK, hD0, hI⟩ := hv
  have hx := B.exec
  have hb := B.bytes
  have hr := B.returns
  have hts := atoms_spec (ws := wsX8_third) B.pre
  have hown : s.vm.findClass RX8 = some m.cls := findClass_of_methodNamed B.named
  have hlocks := B.notSynchronized
  subst hsz
  have hD := hD0.self (sz := s.heap.size)
  generalize hAe : va_A (mW ad cI cZ m_thrown m_size m_outLong m_lines m_toldLines m_tokens m_places m_p m_pre m_end m_text m_out m_lineAt m_lineLong m_depth m_signed m_led m_told m_place m_begin m_tokenLong m_stemLong m_address m_letters m_stems m_s) s.heap.size = A at hD hI ⊢
  have hA : ∀ q : Nat, s.heap.size ≤ q → A q := fun q h => by rw [← hAe]; exact Or.inr h
  have hS : va_S A s.heap s.heap [] := va_S.rf
  have Fx : CallFix p m c cX8_third 1 s ([.ref (ad 0)] : List Value).toArray wsX8_third RX8 := ⟨hx, hb, hml, hown, hts⟩
  have hQ : ∀ (u : Int32 × (Nat → Int32)) (t : State), (fun u : Int32 × (Nat → Int32) => post u.1 u.2) u → va_P (dC, dI) vwCl ((fun u : Int32 × (Nat → Int32) => (mW ad cI cZ m_thrown m_size m_outLong m_lines m_toldLines m_tokens m_places m_p m_pre u.1 m_text m_out m_lineAt m_lineLong m_depth m_signed m_led m_told m_place m_begin m_tokenLong m_stemLong m_address m_letters m_stems u.2)) u) t.heap → va_K (dC, dI) vwCl [(cI, .int), (cZ, .boolean)] t → va_D A ((fun u : Int32 × (Nat → Int32) => (mW ad cI cZ m_thrown m_size m_outLong m_lines m_toldLines m_tokens m_places m_p m_pre u.1 m_text m_out m_lineAt m_lineLong m_depth m_signed m_led m_told m_place m_begin m_tokenLong m_stemLong m_address m_letters m_stems u.2)) u) → va_F A s t → (va_Qv (fun u : Int32 × (Nat → Int32) => post u.1 u.2) (xB (dC, dI) vwCl [(cI, .int), (cZ, .boolean)] A (fun u : Int32 × (Nat → Int32) => (mW ad cI cZ m_thrown m_size m_outLong m_lines m_toldLines m_tokens m_places m_p m_pre u.1 m_text m_out m_lineAt m_lineLong m_depth m_signed m_led m_told m_place m_begin m_tokenLong m_stemLong m_address m_letters m_stems u.2))) A) ([.ref (ad 0)] : List Value).toArray s (.returned none) t := fun u t h1 h2 h3 h4 h5 => ⟨⟨u, rfl, h1, h2, h3, h4⟩, h5⟩
  generalize (va_Qv (fun u : Int32 × (Nat → Int32) => post u.1 u.2) (xB (dC, dI) vwCl [(cI, .int), (cZ, .boolean)] A (fun u : Int32 × (Nat → Int32) => (mW ad cI cZ m_thrown m_size m_outLong m_lines m_toldLines m_tokens m_places m_p m_pre u.1 m_text m_out m_lineAt m_lineLong m_depth m_signed m_led m_told m_place m_begin m_tokenLong m_stemLong m_address m_letters m_stems u.2))) A) = Qc at hQ ⊢
  have hl := lv_entry ([.ref (ad 0)]) (n := 1) (Nat.le_of_ble_eq_true rfl)
  rw [lg_entry_eq]
  generalize (lg_sl ([.ref (ad 0)]) ++ List.replicate (1 - (lg_sl ([.ref (ad 0)])).length) Slot.unset).toArray = ls at hl ⊢
  have hl : lv_has ls 1 [(0, .ref (ad 0))] := hl
  refine (fun (key : ∀ (H : Heap) (locs : List Loc), va_P (dC, dI) vwCl (mW ad cI cZ m_thrown m_size m_outLong m_lines m_toldLines m_tokens m_places m_p m_pre m_end m_text m_out m_lineAt m_lineLong m_depth m_signed m_led m_told m_place m_begin m_tokenLong m_stemLong m_address m_letters m_stems m_s) H → va_D A (mW ad cI cZ m_thrown m_size m_outLong m_lines m_toldLines m_tokens m_places m_p m_pre m_end m_text m_out m_lineAt m_lineLong m_depth m_signed m_led m_told m_place m_begin m_tokenLong m_stemLong m_address m_letters m_stems m_s) → va_S A s.heap H locs → W p l e (headSpec wsX8_third ({ frames := 4, cells := 0, slots := 0, locals := 95 })).room s m ([.ref (ad 0)] : List Value).toArray below meth c H locs 0 0 (MQ below Qc ([.ref (ad 0)] : List Value).toArray s 0 0 A) (F0 m 0 ls [])) => key _ _ hP hD hS) ?_
  intro H locs hP hD hS
  delta wpX8_third at h
  refine lv_aload_n hx hb dX8_third_0 rfl (lv_at hl 0 rfl) ?_
  refine lv_ldc2 (v := 452638897253) hx hb hown (hts (.constantLong RX8 425 (452638897253)) (List.mem_of_getElem? (i := 1) rfl)) dX8_third_1 ?_
  refine lv_ldc2 (v := 26979) hx hb hown (hts (.constantLong RX8 427 (26979)) (List.mem_of_getElem? (i := 2) rfl)) dX8_third_4 ?_
  refine lv_iconst (v := 0) hx hb dX8_third_7 (by decide) ?_
  refine xc_vi (As := [.long 452638897253, .long 26979, .int 0]) (rest := []) xG Fx (sX8_turns l dC dI ad cI cZ sa sv m_thrown m_size m_outLong m_lines m_toldLines m_tokens m_places m_p m_pre m_end m_text m_out m_lineAt m_lineLong m_depth m_signed m_led m_told m_place m_begin m_tokenLong m_stemLong m_address m_letters m_stems m_s 452638897253 26979 0 h) (cwV 3 hts gX8_third_X8_turns rfl rfl rfl hdX8_turns ⟨Nat.le_of_ble_eq_true rfl, Nat.le_of_ble_eq_true rfl⟩) (va_recv hK hP (ci := 7) (q0 := 0) rfl rfl) hK hP hD hS hA hI rfl hl.1 rfl (Nat.le_of_ble_eq_true rfl) dX8_third_8 ⟨Nat.zero_le _, Nat.zero_le _⟩ (fun r_1 u H locs h hP hD hS => ?_)
  obtain ⟨m_end_2, m_s_3⟩ := u
  have hP : va_P (dC, dI) vwCl (mW ad cI cZ m_thrown m_size m_outLong m_lines m_toldLines m_tokens m_places m_p m_pre m_end_2 m_text m_out m_lineAt m_lineLong m_depth m_signed m_led m_told m_place m_begin m_tokenLong m_stemLong m_address m_letters m_stems m_s_3) H := hP
  have hD : va_D A (mW ad cI cZ m_thrown m_size m_outLong m_lines m_toldLines m_tokens m_places m_p m_pre m_end_2 m_text m_out m_lineAt m_lineLong m_depth m_signed m_led m_told m_place m_begin m_tokenLong m_stemLong m_address m_letters m_stems m_s_3) := hD
  refine lv_if_ne (tgt := 54) hx hb dX8_third_11 (by decide) (fun c9 => ?_) (fun c9 => ?_)
  · have h := h.1 c9
    exact W.vret hx hb hr (fun t ht hW => hQ (m_end_2, m_s_3) t h (by rw [ht]; exact hP) (va_K.moved hW.alike hK) hD (hS.F ht)) hS.2.2 dX8_third_54
  · have h := h.2 c9
    refine lv_aload_n hx hb dX8_third_14 rfl (lv_at hl 0 rfl) ?_
    refine lv_ldc2 (v := 452639421545) hx hb hown (hts (.constantLong RX8 429 (452639421545)) (List.mem_of_getElem? (i := 3) rfl)) dX8_third_15 ?_
    refine lv_ldc2 (v := 26979) hx hb hown (hts (.constantLong RX8 427 (26979)) (List.mem_of_getElem? (i := 2) rfl)) dX8_third_18 ?_
    refine lv_iconst (v := 0) hx hb dX8_third_21 (by decide) ?_
    refine xc_vi (As := [.long 452639421545, .long 26979, .int 0]) (rest := []) xG Fx (sX8_turns l dC dI ad cI cZ sa sv m_thrown m_size m_outLong m_lines m_toldLines m_tokens m_places m_p m_pre m_end_2 m_text m_out m_lineAt m_lineLong m_depth m_signed m_led m_told m_place m_begin m_tokenLong m_stemLong m_address m_letters m_stems m_s_3 452639421545 26979 0 h) (cwV 3 hts gX8_third_X8_turns rfl rfl rfl hdX8_turns ⟨Nat.le_of_ble_eq_true rfl, Nat.le_of_ble_eq_true rfl⟩) (va_recv hK hP (ci := 7) (q0 := 0) rfl rfl) hK hP hD hS hA hI rfl hl.1 rfl (Nat.le_of_ble_eq_true rfl) dX8_third_22 ⟨Nat.zero_le _, Nat.zero_le _⟩ (fun r_4 u H locs h hP hD hS => ?_)
    obtain ⟨m_end_5, m_s_6⟩ := u
    have hP : va_P (dC, dI) vwCl (mW ad cI cZ m_thrown m_size m_outLong m_lines m_toldLines m_tokens m_places m_p m_pre m_end_5 m_text m_out m_lineAt m_lineLong m_depth m_signed m_led m_told m_place m_begin m_tokenLong m_stemLong m_address m_letters m_stems m_s_6) H := hP
    have hD : va_D A (mW ad cI cZ m_thrown m_size m_outLong m_lines m_toldLines m_tokens m_places m_p m_pre m_end_5 m_text m_out m_lineAt m_lineLong m_depth m_signed m_led m_told m_place m_begin m_tokenLong m_stemLong m_address m_letters m_stems m_s_6) := hD
    refine lv_if_ne (tgt := 54) hx hb dX8_third_25 (by decide) (fun c9 => ?_) (fun c9 => ?_)
    · have h := h.1 c9
      exact W.vret hx hb hr (fun t ht hW => hQ (m_end_5, m_s_6) t h (by rw [ht]; exact hP) (va_K.moved hW.alike hK) hD (hS.F ht)) hS.2.2 dX8_third_54
    · have h := h.2 c9
      refine lv_aload_n hx hb dX8_third_28 rfl (lv_at hl 0 rfl) ?_
      refine lv_ldc2 (v := 418564896357) hx hb hown (hts (.constantLong RX8 431 (418564896357)) (List.mem_of_getElem? (i := 4) rfl)) dX8_third_29 ?_
      refine lv_lconst (v := 0) hx hb dX8_third_32 (by decide) ?_
      refine lv_iconst (v := 0) hx hb dX8_third_33 (by decide) ?_
      refine xc_vi (As := [.long 418564896357, .long 0, .int 0]) (rest := []) xG Fx (sX8_turns l dC dI ad cI cZ sa sv m_thrown m_size m_outLong m_lines m_toldLines m_tokens m_places m_p m_pre m_end_5 m_text m_out m_lineAt m_lineLong m_depth m_signed m_led m_told m_place m_begin m_tokenLong m_stemLong m_address m_letters m_stems m_s_6 418564896357 0 0 h) (cwV 3 hts gX8_third_X8_turns rfl rfl rfl hdX8_turns ⟨Nat.le_of_ble_eq_true rfl, Nat.le_of_ble_eq_true rfl⟩) (va_recv hK hP (ci := 7) (q0 := 0) rfl rfl) hK hP hD hS hA hI rfl hl.1 rfl (Nat.le_of_ble_eq_true rfl) dX8_third_34 ⟨Nat.zero_le _, Nat.zero_le _⟩ (fun r_7 u H locs h hP hD hS => ?_)
      obtain ⟨m_end_8, m_s_9⟩ := u
      have hP : va_P (dC, dI) vwCl (mW ad cI cZ m_thrown m_size m_outLong m_lines m_toldLines m_tokens m_places m_p m_pre m_end_8 m_text m_out m_lineAt m_lineLong m_depth m_signed m_led m_told m_place m_begin m_tokenLong m_stemLong m_address m_letters m_stems m_s_9) H := hP
      have hD : va_D A (mW ad cI cZ m_thrown m_size m_outLong m_lines m_toldLines m_tokens m_places m_p m_pre m_end_8 m_text m_out m_lineAt m_lineLong m_depth m_signed m_led m_told m_place m_begin m_tokenLong m_stemLong m_address m_letters m_stems m_s_9) := hD
      refine lv_if_ne (tgt := 54) hx hb dX8_third_37 (by decide) (fun c9 => ?_) (fun c9 => ?_)
      · have h := h.1 c9
        exact W.vret hx hb hr (fun t ht hW => hQ (m_end_8, m_s_9) t h (by rw [ht]; exact hP) (va_K.moved hW.alike hK) hD (hS.F ht)) hS.2.2 dX8_third_54
      · have h := h.2 c9
        refine lv_aload_n hx hb dX8_third_40 rfl (lv_at hl 0 rfl) ?_
        refine lv_ldc2 (v := 418430679653) hx hb hown (hts (.constantLong RX8 433 (418430679653)) (List.mem_of_getElem? (i := 5) rfl)) dX8_third_41 ?_
        refine lv_ldc2 (v := 24940) hx hb hown (hts (.constantLong RX8 399 (24940)) (List.mem_of_getElem? (i := 6) rfl)) dX8_third_44 ?_
        refine lv_iconst (v := 0) hx hb dX8_third_47 (by decide) ?_
        refine xc_vi (As := [.long 418430679653, .long 24940, .int 0]) (rest := []) xG Fx (sX8_turns l dC dI ad cI cZ sa sv m_thrown m_size m_outLong m_lines m_toldLines m_tokens m_places m_p m_pre m_end_8 m_text m_out m_lineAt m_lineLong m_depth m_signed m_led m_told m_place m_begin m_tokenLong m_stemLong m_address m_letters m_stems m_s_9 418430679653 24940 0 h) (cwV 3 hts gX8_third_X8_turns rfl rfl rfl hdX8_turns ⟨Nat.le_of_ble_eq_true rfl, Nat.le_of_ble_eq_true rfl⟩) (va_recv hK hP (ci := 7) (q0 := 0) rfl rfl) hK hP hD hS hA hI rfl hl.1 rfl (Nat.le_of_ble_eq_true rfl) dX8_third_48 ⟨Nat.zero_le _, Nat.zero_le _⟩ (fun r_10 u H locs h hP hD hS => ?_)
        obtain ⟨m_end_11, m_s_12⟩ := u
        have hP : va_P (dC, dI) vwCl (mW ad cI cZ m_thrown m_size m_outLong m_lines m_toldLines m_tokens m_places m_p m_pre m_end_11 m_text m_out m_lineAt m_lineLong m_depth m_signed m_led m_told m_place m_begin m_tokenLong m_stemLong m_address m_letters m_stems m_s_12) H := hP
        have hD : va_D A (mW ad cI cZ m_thrown m_size m_outLong m_lines m_toldLines m_tokens m_places m_p m_pre m_end_11 m_text m_out m_lineAt m_lineLong m_depth m_signed m_led m_told m_place m_begin m_tokenLong m_stemLong m_address m_letters m_stems m_s_12) := hD
        refine lv_if_eq (tgt := 55) hx hb dX8_third_51 (by decide) (fun c9 => ?_) (fun c9 => ?_)
        · have h := h.1 c9
          refine lv_aload_n hx hb dX8_third_55 rfl (lv_at hl 0 rfl) ?_
          refine lv_ldc2 (v := 1768120684) hx hb hown (hts (.constantLong RX8 435 (1768120684)) (List.mem_of_getElem? (i := 7) rfl)) dX8_third_56 ?_
          refine lv_ldc2 (v := 26979) hx hb hown (hts (.constantLong RX8 427 (26979)) (List.mem_of_getElem? (i := 2) rfl)) dX8_third_59 ?_
          refine lv_iconst (v := 0) hx hb dX8_third_62 (by decide) ?_
          refine xc_vi (As := [.long 1768120684, .long 26979, .int 0]) (rest := []) xG Fx (sX8_turns l dC dI ad cI cZ sa sv m_thrown m_size m_outLong m_lines m_toldLines m_tokens m_places m_p m_pre m_end_11 m_text m_out m_lineAt m_lineLong m_depth m_signed m_led m_told m_place m_begin m_tokenLong m_stemLong m_address m_letters m_stems m_s_12 1768120684 26979 0 h) (cwV 3 hts gX8_third_X8_turns rfl rfl rfl hdX8_turns ⟨Nat.le_of_ble_eq_true rfl, Nat.le_of_ble_eq_true rfl⟩) (va_recv hK hP (ci := 7) (q0 := 0) rfl rfl) hK hP hD hS hA hI rfl hl.1 rfl (Nat.le_of_ble_eq_true rfl) dX8_third_63 ⟨Nat.zero_le _, Nat.zero_le _⟩ (fun r_13 u H locs h hP hD hS => ?_)
          obtain ⟨m_end_14, m_s_15⟩ := u
          have hP : va_P (dC, dI) vwCl (mW ad cI cZ m_thrown m_size m_outLong m_lines m_toldLines m_tokens m_places m_p m_pre m_end_14 m_text m_out m_lineAt m_lineLong m_depth m_signed m_led m_told m_place m_begin m_tokenLong m_stemLong m_address m_letters m_stems m_s_15) H := hP
          have hD : va_D A (mW ad cI cZ m_thrown m_size m_outLong m_lines m_toldLines m_tokens m_places m_p m_pre m_end_14 m_text m_out m_lineAt m_lineLong m_depth m_signed m_led m_told m_place m_begin m_tokenLong m_stemLong m_address m_letters m_stems m_s_15) := hD
          refine lv_if_ne (tgt := 81) hx hb dX8_third_66 (by decide) (fun c9 => ?_) (fun c9 => ?_)
          · have h := h.1 c9
            exact W.vret hx hb hr (fun t ht hW => hQ (m_end_14, m_s_15) t h (by rw [ht]; exact hP) (va_K.moved hW.alike hK) hD (hS.F ht)) hS.2.2 dX8_third_81
          · have h := h.2 c9
            refine lv_aload_n hx hb dX8_third_69 rfl (lv_at hl 0 rfl) ?_
            refine lv_ldc2 (v := 1852142451) hx hb hown (hts (.constantLong RX8 437 (1852142451)) (List.mem_of_getElem? (i := 8) rfl)) dX8_third_70 ?_
            refine lv_lconst (v := 0) hx hb dX8_third_73 (by decide) ?_
            refine lv_iconst (v := 0) hx hb dX8_third_74 (by decide) ?_
            refine xc_vi (As := [.long 1852142451, .long 0, .int 0]) (rest := []) xG Fx (sX8_turns l dC dI ad cI cZ sa sv m_thrown m_size m_outLong m_lines m_toldLines m_tokens m_places m_p m_pre m_end_14 m_text m_out m_lineAt m_lineLong m_depth m_signed m_led m_told m_place m_begin m_tokenLong m_stemLong m_address m_letters m_stems m_s_15 1852142451 0 0 h) (cwV 3 hts gX8_third_X8_turns rfl rfl rfl hdX8_turns ⟨Nat.le_of_ble_eq_true rfl, Nat.le_of_ble_eq_true rfl⟩) (va_recv hK hP (ci := 7) (q0 := 0) rfl rfl) hK hP hD hS hA hI rfl hl.1 rfl (Nat.le_of_ble_eq_true rfl) dX8_third_75 ⟨Nat.zero_le _, Nat.zero_le _⟩ (fun r_16 u H locs h hP hD hS => ?_)
            obtain ⟨m_end_17, m_s_18⟩ := u
            have hP : va_P (dC, dI) vwCl (mW ad cI cZ m_thrown m_size m_outLong m_lines m_toldLines m_tokens m_places m_p m_pre m_end_17 m_text m_out m_lineAt m_lineLong m_depth m_signed m_led m_told m_place m_begin m_tokenLong m_stemLong m_address m_letters m_stems m_s_18) H := hP
            have hD : va_D A (mW ad cI cZ m_thrown m_size m_outLong m_lines m_toldLines m_tokens m_places m_p m_pre m_end_17 m_text m_out m_lineAt m_lineLong m_depth m_signed m_led m_told m_place m_begin m_tokenLong m_stemLong m_address m_letters m_stems m_s_18) := hD
            refine lv_if_eq (tgt := 82) hx hb dX8_third_78 (by decide) (fun c9 => ?_) (fun c9 => ?_)
            · have h := h.1 c9
              refine lv_aload_n hx hb dX8_third_82 rfl (lv_at hl 0 rfl) ?_
              refine lv_ldc2 (v := 6714732) hx hb hown (hts (.constantLong RX8 375 (6714732)) (List.mem_of_getElem? (i := 9) rfl)) dX8_third_83 ?_
              refine lv_lconst (v := 0) hx hb dX8_third_86 (by decide) ?_
              refine lv_iconst (v := 0) hx hb dX8_third_87 (by decide) ?_
              refine xc_vi (As := [.long 6714732, .long 0, .int 0]) (rest := []) xG Fx (sX8_turns l dC dI ad cI cZ sa sv m_thrown m_size m_outLong m_lines m_toldLines m_tokens m_places m_p m_pre m_end_17 m_text m_out m_lineAt m_lineLong m_depth m_signed m_led m_told m_place m_begin m_tokenLong m_stemLong m_address m_letters m_stems m_s_18 6714732 0 0 h) (cwV 3 hts gX8_third_X8_turns rfl rfl rfl hdX8_turns ⟨Nat.le_of_ble_eq_true rfl, Nat.le_of_ble_eq_true rfl⟩) (va_recv hK hP (ci := 7) (q0 := 0) rfl rfl) hK hP hD hS hA hI rfl hl.1 rfl (Nat.le_of_ble_eq_true rfl) dX8_third_88 ⟨Nat.zero_le _, Nat.zero_le _⟩ (fun r_19 u H locs h hP hD hS => ?_)
              obtain ⟨m_end_20, m_s_21⟩ := u
              have hP : va_P (dC, dI) vwCl (mW ad cI cZ m_thrown m_size m_outLong m_lines m_toldLines m_tokens m_places m_p m_pre m_end_20 m_text m_out m_lineAt m_lineLong m_depth m_signed m_led m_told m_place m_begin m_tokenLong m_stemLong m_address m_letters m_stems m_s_21) H := hP
              have hD : va_D A (mW ad cI cZ m_thrown m_size m_outLong m_lines m_toldLines m_tokens m_places m_p m_pre m_end_20 m_text m_out m_lineAt m_lineLong m_depth m_signed m_led m_told m_place m_begin m_tokenLong m_stemLong m_address m_letters m_stems m_s_21) := hD
              refine lv_pop hx hb dX8_third_91 rfl ?_
              exact W.vret hx hb hr (fun t ht hW => hQ (m_end_20, m_s_21) t h (by rw [ht]; exact hP) (va_K.moved hW.alike hK) hD (hS.F ht)) hS.2.2 dX8_third_92
            · have h := h.2 c9
              exact W.vret hx hb hr (fun t ht hW => hQ (m_end_17, m_s_18) t h (by rw [ht]; exact hP) (va_K.moved hW.alike hK) hD (hS.F ht)) hS.2.2 dX8_third_81
        · have h := h.2 c9
          exact W.vret hx hb hr (fun t ht hW => hQ (m_end_11, m_s_12) t h (by rw [ht]; exact hP) (va_K.moved hW.alike hK) hD (hS.F ht)) hS.2.2 dX8_third_54
set_option maxHeartbeats 4000000 in
set_option maxRecDepth 100000 in
theorem sX8_fourth (l : Launch) (dC : Nat → ClassId) (dI : Nat → Nat → Nat) (ad : Nat → Nat) (cI cZ : ClassId) (sa sv : Nat → Nat) (m_thrown : Int32) (m_size : Int32) (m_outLong : Int32) (m_lines : Int32) (m_toldLines : Int32) (m_tokens : Int32) (m_places : Int32) (m_p : Int32) (m_pre : Int32) (m_end : Int32) (m_text : Nat → Int32) (m_out : Nat → Int32) (m_lineAt : Nat → Int32) (m_lineLong : Nat → Int32) (m_depth : Nat → Int32) (m_signed : Nat → Int32) (m_led : Nat → Int32) (m_told : Nat → Int32) (m_place : Nat → Int32) (m_begin : Nat → Int32) (m_tokenLong : Nat → Int32) (m_stemLong : Nat → Int32) (m_address : Nat → Int32) (m_letters : Nat → Int32) (m_stems : Nat → Int32) (m_s : Nat → Int32)  {post : Int32 → (Nat → Int32) → Prop} (h : wpX8_fourth post m_end m_s) : xMv l (dC, dI) vwCl [(cI, .int), (cZ, .boolean)] (sI sa sv) yX8_fourth wsX8_fourth ({ frames := 4, cells := 0, slots := 0, locals := 95 }) (mW ad cI cZ m_thrown m_size m_outLong m_lines m_toldLines m_tokens m_places m_p m_pre m_end m_text m_out m_lineAt m_lineLong m_depth m_signed m_led m_told m_place m_begin m_tokenLong m_stemLong m_address m_letters m_stems m_s) [.ref (ad 0)] (fun u : Int32 × (Nat → Int32) => post u.1 u.2) (fun u : Int32 × (Nat → Int32) => (mW ad cI cZ m_thrown m_size m_outLong m_lines m_toldLines m_tokens m_places m_p m_pre u.1 m_text m_out m_lineAt m_lineLong m_depth m_signed m_led m_told m_place m_begin m_tokenLong m_stemLong m_address m_letters m_stems u.2)) := by
  intro sz
  refine Met.ofW (cc := cX8_fourth) (maxL := 1) (ret := none) (by decide) rfl ?_
  intro p e s m args below meth c s₁ B hml hv
  obtain ⟨rfl, hsz, hP, hK, hD0, hI⟩ := hv
  have hx := B.exec
  have hb := B.bytes
  have hr := B.returns
  have hts := atoms_spec (ws := wsX8_fourth) B.pre
  have hown : s.vm.findClass RX8 = some m.cls := findClass_of_methodNamed B.named
  have hlocks := B.notSynchronized
  subst hsz
  have hD := hD0.self (sz := s.heap.size)
  generalize hAe : va_A (mW ad cI cZ m_thrown m_size m_outLong m_lines m_toldLines m_tokens m_places m_p m_pre m_end m_text m_out m_lineAt m_lineLong m_depth m_signed m_led m_told m_place m_begin m_tokenLong m_stemLong m_address m_letters m_stems m_s) s.heap.size = A at hD hI ⊢
  have hA : ∀ q : Nat, s.heap.size ≤ q → A q := fun q h => by rw [← hAe]; exact Or.inr h
  have hS : va_S A s.heap s.heap [] := va_S.rf
  have Fx : CallFix p m c cX8_fourth 1 s ([.ref (ad 0)] : List Value).toArray wsX8_fourth RX8 := ⟨hx, hb, hml, hown, hts⟩
  have hQ : ∀ (u : Int32 × (Nat → Int32)) (t : State), (fun u : Int32 × (Nat → Int32) => post u.1 u.2) u → va_P (dC, dI) vwCl ((fun u : Int32 × (Nat → Int32) => (mW ad cI cZ m_thrown m_size m_outLong m_lines m_toldLines m_tokens m_places m_p m_pre u.1 m_text m_out m_lineAt m_lineLong m_depth m_signed m_led m_told m_place m_begin m_tokenLong m_stemLong m_address m_letters m_stems u.2)) u) t.heap → va_K (dC, dI) vwCl [(cI, .int), (cZ, .boolean)] t → va_D A ((fun u : Int32 × (Nat → Int32) => (mW ad cI cZ m_thrown m_size m_outLong m_lines m_toldLines m_tokens m_places m_p m_pre u.1 m_text m_out m_lineAt m_lineLong m_depth m_signed m_led m_told m_place m_begin m_tokenLong m_stemLong m_address m_letters m_stems u.2)) u) → va_F A s t → (va_Qv (fun u : Int32 × (Nat → Int32) => post u.1 u.2) (xB (dC, dI) vwCl [(cI, .int), (cZ, .boolean)] A (fun u : Int32 × (Nat → Int32) => (mW ad cI cZ m_thrown m_size m_outLong m_lines m_toldLines m_tokens m_places m_p m_pre u.1 m_text m_out m_lineAt m_lineLong m_depth m_signed m_led m_told m_place m_begin m_tokenLong m_stemLong m_address m_letters m_stems u.2))) A) ([.ref (ad 0)] : List Value).toArray s (.returned none) t := fun u t h1 h2 h3 h4 h5 => ⟨⟨u, rfl, h1, h2, h3, h4⟩, h5⟩
  generalize (va_Qv (fun u : Int32 × (Nat → Int32) => post u.1 u.2) (xB (dC, dI) vwCl [(cI, .int), (cZ, .boolean)] A (fun u : Int32 × (Nat → Int32) => (mW ad cI cZ m_thrown m_size m_outLong m_lines m_toldLines m_tokens m_places m_p m_pre u.1 m_text m_out m_lineAt m_lineLong m_depth m_signed m_led m_told m_place m_begin m_tokenLong m_stemLong m_address m_letters m_stems u.2))) A) = Qc at hQ ⊢
  have hl := lv_entry ([.ref (ad 0)]) (n := 1) (Nat.le_of_ble_eq_true rfl)
  rw [lg_entry_eq]
  generalize (lg_sl ([.ref (ad 0)]) ++ List.replicate (1 - (lg_sl ([.ref (ad 0)])).length) Slot.unset).toArray = ls at hl ⊢
  have hl : lv_has ls 1 [(0, .ref (ad 0))] := hl
  refine (fun (key : ∀ (H : Heap) (locs : List Loc), va_P (dC, dI) vwCl (mW ad cI cZ m_thrown m_size m_outLong m_lines m_toldLines m_tokens m_places m_p m_pre m_end m_text m_out m_lineAt m_lineLong m_depth m_signed m_led m_told m_place m_begin m_tokenLong m_stemLong m_address m_letters m_stems m_s) H → va_D A (mW ad cI cZ m_thrown m_size m_outLong m_lines m_toldLines m_tokens m_places m_p m_pre m_end m_text m_out m_lineAt m_lineLong m_depth m_signed m_led m_told m_place m_begin m_tokenLong m_stemLong m_address m_letters m_stems m_s) → va_S A s.heap H locs → W p l e (headSpec wsX8_fourth ({ frames := 4, cells := 0, slots := 0, locals := 95 })).room s m ([.ref (ad 0)] : List Value).toArray below meth c H locs 0 0 (MQ below Qc ([.ref (ad 0)] : List Value).toArray s 0 0 A) (F0 m 0 ls [])) => key _ _ hP hD hS) ?_
  have inX8 : ∀ w ∈ wsX80, w ∈ wsX8_fourth := (fun _ h9 => List.mem_cons_of_mem _ (List.mem_append_right _ h9))
  have J124 : ∀ (m_end : Int32) (m_s : Nat → Int32) (H : Heap) (locs : List Loc) (ls : Array Slot), lv_has ls 1 [(0, .ref (ad 0))] → va_P (dC, dI) vwCl (mW ad cI cZ m_thrown m_size m_outLong m_lines m_toldLines m_tokens m_places m_p m_pre m_end m_text m_out m_lineAt m_lineLong m_depth m_signed m_led m_told m_place m_begin m_tokenLong m_stemLong m_address m_letters m_stems m_s) H → va_D A (mW ad cI cZ m_thrown m_size m_outLong m_lines m_toldLines m_tokens m_places m_p m_pre m_end m_text m_out m_lineAt m_lineLong m_depth m_signed m_led m_told m_place m_begin m_tokenLong m_stemLong m_address m_letters m_stems m_s) → va_S A s.heap H locs → wjX8_fourth_124 post m_end m_s → W p l e (headSpec wsX8_fourth ({ frames := 4, cells := 0, slots := 0, locals := 95 })).room s m ([.ref (ad 0)] : List Value).toArray below meth c H locs 0 0 (MQ below Qc ([.ref (ad 0)] : List Value).toArray s 0 0 A) (F0 m 124 ls []) := by
    intro m_end m_s H locs ls hl hP hD hS h
    delta wjX8_fourth_124 at h
    refine lv_aload_n hx hb dX8_fourth_124 rfl (lv_at hl 0 rfl) ?_
    refine lv_ldc2 (v := 6909806) hx hb hown (hts (.constantLong RX8 445 (6909806)) (List.mem_of_getElem? (i := 7) rfl)) dX8_fourth_125 ?_
    refine lv_lconst (v := 0) hx hb dX8_fourth_128 (by decide) ?_
    refine lv_iconst (v := 1) hx hb dX8_fourth_129 (by decide) ?_
    refine xc_vi (As := [.long 6909806, .long 0, .int 1]) (rest := []) xG Fx (sX8_turns l dC dI ad cI cZ sa sv m_thrown m_size m_outLong m_lines m_toldLines m_tokens m_places m_p m_pre m_end m_text m_out m_lineAt m_lineLong m_depth m_signed m_led m_told m_place m_begin m_tokenLong m_stemLong m_address m_letters m_stems m_s 6909806 0 1 h) (cwV 3 hts gX8_fourth_X8_turns rfl rfl rfl hdX8_turns ⟨Nat.le_of_ble_eq_true rfl, Nat.le_of_ble_eq_true rfl⟩) (va_recv hK hP (ci := 7) (q0 := 0) rfl rfl) hK hP hD hS hA hI rfl hl.1 rfl (Nat.le_of_ble_eq_true rfl) dX8_fourth_130 ⟨Nat.zero_le _, Nat.zero_le _⟩ (fun r_1 u H locs h hP hD hS => ?_)
    obtain ⟨m_end_2, m_s_3⟩ := u
    have hP : va_P (dC, dI) vwCl (mW ad cI cZ m_thrown m_size m_outLong m_lines m_toldLines m_tokens m_places m_p m_pre m_end_2 m_text m_out m_lineAt m_lineLong m_depth m_signed m_led m_told m_place m_begin m_tokenLong m_stemLong m_address m_letters m_stems m_s_3) H := hP
    have hD : va_D A (mW ad cI cZ m_thrown m_size m_outLong m_lines m_toldLines m_tokens m_places m_p m_pre m_end_2 m_text m_out m_lineAt m_lineLong m_depth m_signed m_led m_told m_place m_begin m_tokenLong m_stemLong m_address m_letters m_stems m_s_3) := hD
    refine lv_pop hx hb dX8_fourth_133 rfl ?_
    exact W.vret hx hb hr (fun t ht hW => hQ (m_end_2, m_s_3) t h (by rw [ht]; exact hP) (va_K.moved hW.alike hK) hD (hS.F ht)) hS.2.2 dX8_fourth_134
  intro H locs hP hD hS
  delta wpX8_fourth at h
  refine lv_aload_n hx hb dX8_fourth_0 rfl (lv_at hl 0 rfl) ?_
  refine lv_ldc2 (v := 435627060852) hx hb hown (hts (.constantLong RX8 439 (435627060852)) (List.mem_of_getElem? (i := 1) rfl)) dX8_fourth_1 ?_
  refine lv_lconst (v := 0) hx hb dX8_fourth_4 (by decide) ?_
  refine lv_iconst (v := 1) hx hb dX8_fourth_5 (by decide) ?_
  refine xc_vi (As := [.long 435627060852, .long 0, .int 1]) (rest := []) xG Fx (sX8_turns l dC dI ad cI cZ sa sv m_thrown m_size m_outLong m_lines m_toldLines m_tokens m_places m_p m_pre m_end m_text m_out m_lineAt m_lineLong m_depth m_signed m_led m_told m_place m_begin m_tokenLong m_stemLong m_address m_letters m_stems m_s 435627060852 0 1 h) (cwV 3 hts gX8_fourth_X8_turns rfl rfl rfl hdX8_turns ⟨Nat.le_of_ble_eq_true rfl, Nat.le_of_ble_eq_true rfl⟩) (va_recv hK hP (ci := 7) (q0 := 0) rfl rfl) hK hP hD hS hA hI rfl hl.1 rfl (Nat.le_of_ble_eq_true rfl) dX8_fourth_6 ⟨Nat.zero_le _, Nat.zero_le _⟩ (fun r_4 u H locs h hP hD hS => ?_)
  obtain ⟨m_end_5, m_s_6⟩ := u
  have hP : va_P (dC, dI) vwCl (mW ad cI cZ m_thrown m_size m_outLong m_lines m_toldLines m_tokens m_places m_p m_pre m_end_5 m_text m_out m_lineAt m_lineLong m_depth m_signed m_led m_told m_place m_begin m_tokenLong m_stemLong m_address m_letters m_stems m_s_6) H := hP
  have hD : va_D A (mW ad cI cZ m_thrown m_size m_outLong m_lines m_toldLines m_tokens m_places m_p m_pre m_end_5 m_text m_out m_lineAt m_lineLong m_depth m_signed m_led m_told m_place m_begin m_tokenLong m_stemLong m_address m_letters m_stems m_s_6) := hD
  refine lv_if_eq (tgt := 13) hx hb dX8_fourth_9 (by decide) (fun c9 => ?_) (fun c9 => ?_)
  · have h := h.1 c9
    refine lv_aload_n hx hb dX8_fourth_13 rfl (lv_at hl 0 rfl) ?_
    refine lv_ldc2 (v := 1634624357) hx hb hown (hts (.constantLong RX8 411 (1634624357)) (List.mem_of_getElem? (i := 2) rfl)) dX8_fourth_14 ?_
    refine lv_lconst (v := 0) hx hb dX8_fourth_17 (by decide) ?_
    refine lv_iconst (v := 1) hx hb dX8_fourth_18 (by decide) ?_
    refine xc_vi (As := [.long 1634624357, .long 0, .int 1]) (rest := []) xG Fx (sX8_turns l dC dI ad cI cZ sa sv m_thrown m_size m_outLong m_lines m_toldLines m_tokens m_places m_p m_pre m_end_5 m_text m_out m_lineAt m_lineLong m_depth m_signed m_led m_told m_place m_begin m_tokenLong m_stemLong m_address m_letters m_stems m_s_6 1634624357 0 1 h) (cwV 3 hts gX8_fourth_X8_turns rfl rfl rfl hdX8_turns ⟨Nat.le_of_ble_eq_true rfl, Nat.le_of_ble_eq_true rfl⟩) (va_recv hK hP (ci := 7) (q0 := 0) rfl rfl) hK hP hD hS hA hI rfl hl.1 rfl (Nat.le_of_ble_eq_true rfl) dX8_fourth_19 ⟨Nat.zero_le _, Nat.zero_le _⟩ (fun r_7 u H locs h hP hD hS => ?_)
    obtain ⟨m_end_8, m_s_9⟩ := u
    have hP : va_P (dC, dI) vwCl (mW ad cI cZ m_thrown m_size m_outLong m_lines m_toldLines m_tokens m_places m_p m_pre m_end_8 m_text m_out m_lineAt m_lineLong m_depth m_signed m_led m_told m_place m_begin m_tokenLong m_stemLong m_address m_letters m_stems m_s_9) H := hP
    have hD : va_D A (mW ad cI cZ m_thrown m_size m_outLong m_lines m_toldLines m_tokens m_places m_p m_pre m_end_8 m_text m_out m_lineAt m_lineLong m_depth m_signed m_led m_told m_place m_begin m_tokenLong m_stemLong m_address m_letters m_stems m_s_9) := hD
    refine lv_if_ne (tgt := 73) hx hb dX8_fourth_22 (by decide) (fun c9 => ?_) (fun c9 => ?_)
    · have h := h.1 c9
      exact W.vret hx hb hr (fun t ht hW => hQ (m_end_8, m_s_9) t h (by rw [ht]; exact hP) (va_K.moved hW.alike hK) hD (hS.F ht)) hS.2.2 dX8_fourth_73
    · have h := h.2 c9
      refine lv_aload_n hx hb dX8_fourth_25 rfl (lv_at hl 0 rfl) ?_
      refine lv_ldc2 (v := 1701733221) hx hb hown (hts (.constantLong RX8 407 (1701733221)) (List.mem_of_getElem? (i := 3) rfl)) dX8_fourth_26 ?_
      refine lv_lconst (v := 0) hx hb dX8_fourth_29 (by decide) ?_
      refine lv_iconst (v := 1) hx hb dX8_fourth_30 (by decide) ?_
      refine xc_vi (As := [.long 1701733221, .long 0, .int 1]) (rest := []) xG Fx (sX8_turns l dC dI ad cI cZ sa sv m_thrown m_size m_outLong m_lines m_toldLines m_tokens m_places m_p m_pre m_end_8 m_text m_out m_lineAt m_lineLong m_depth m_signed m_led m_told m_place m_begin m_tokenLong m_stemLong m_address m_letters m_stems m_s_9 1701733221 0 1 h) (cwV 3 hts gX8_fourth_X8_turns rfl rfl rfl hdX8_turns ⟨Nat.le_of_ble_eq_true rfl, Nat.le_of_ble_eq_true rfl⟩) (va_recv hK hP (ci := 7) (q0 := 0) rfl rfl) hK hP hD hS hA hI rfl hl.1 rfl (Nat.le_of_ble_eq_true rfl) dX8_fourth_31 ⟨Nat.zero_le _, Nat.zero_le _⟩ (fun r_10 u H locs h hP hD hS => ?_)
      obtain ⟨m_end_11, m_s_12⟩ := u
      have hP : va_P (dC, dI) vwCl (mW ad cI cZ m_thrown m_size m_outLong m_lines m_toldLines m_tokens m_places m_p m_pre m_end_11 m_text m_out m_lineAt m_lineLong m_depth m_signed m_led m_told m_place m_begin m_tokenLong m_stemLong m_address m_letters m_stems m_s_12) H := hP
      have hD : va_D A (mW ad cI cZ m_thrown m_size m_outLong m_lines m_toldLines m_tokens m_places m_p m_pre m_end_11 m_text m_out m_lineAt m_lineLong m_depth m_signed m_led m_told m_place m_begin m_tokenLong m_stemLong m_address m_letters m_stems m_s_12) := hD
      refine lv_if_ne (tgt := 73) hx hb dX8_fourth_34 (by decide) (fun c9 => ?_) (fun c9 => ?_)
      · have h := h.1 c9
        exact W.vret hx hb hr (fun t ht hW => hQ (m_end_11, m_s_12) t h (by rw [ht]; exact hP) (va_K.moved hW.alike hK) hD (hS.F ht)) hS.2.2 dX8_fourth_73
      · have h := h.2 c9
        refine lv_aload_n hx hb dX8_fourth_37 rfl (lv_at hl 0 rfl) ?_
        refine lv_ldc2 (v := 1633840229) hx hb hown (hts (.constantLong RX8 417 (1633840229)) (List.mem_of_getElem? (i := 4) rfl)) dX8_fourth_38 ?_
        refine lv_lconst (v := 0) hx hb dX8_fourth_41 (by decide) ?_
        refine lv_iconst (v := 1) hx hb dX8_fourth_42 (by decide) ?_
        refine xc_vi (As := [.long 1633840229, .long 0, .int 1]) (rest := []) xG Fx (sX8_turns l dC dI ad cI cZ sa sv m_thrown m_size m_outLong m_lines m_toldLines m_tokens m_places m_p m_pre m_end_11 m_text m_out m_lineAt m_lineLong m_depth m_signed m_led m_told m_place m_begin m_tokenLong m_stemLong m_address m_letters m_stems m_s_12 1633840229 0 1 h) (cwV 3 hts gX8_fourth_X8_turns rfl rfl rfl hdX8_turns ⟨Nat.le_of_ble_eq_true rfl, Nat.le_of_ble_eq_true rfl⟩) (va_recv hK hP (ci := 7) (q0 := 0) rfl rfl) hK hP hD hS hA hI rfl hl.1 rfl (Nat.le_of_ble_eq_true rfl) dX8_fourth_43 ⟨Nat.zero_le _, Nat.zero_le _⟩ (fun r_13 u H locs h hP hD hS => ?_)
        obtain ⟨m_end_14, m_s_15⟩ := u
        have hP : va_P (dC, dI) vwCl (mW ad cI cZ m_thrown m_size m_outLong m_lines m_toldLines m_tokens m_places m_p m_pre m_end_14 m_text m_out m_lineAt m_lineLong m_depth m_signed m_led m_told m_place m_begin m_tokenLong m_stemLong m_address m_letters m_stems m_s_15) H := hP
        have hD : va_D A (mW ad cI cZ m_thrown m_size m_outLong m_lines m_toldLines m_tokens m_places m_p m_pre m_end_14 m_text m_out m_lineAt m_lineLong m_depth m_signed m_led m_told m_place m_begin m_tokenLong m_stemLong m_address m_letters m_stems m_s_15) := hD
        refine lv_if_ne (tgt := 73) hx hb dX8_fourth_46 (by decide) (fun c9 => ?_) (fun c9 => ?_)
        · have h := h.1 c9
          exact W.vret hx hb hr (fun t ht hW => hQ (m_end_14, m_s_15) t h (by rw [ht]; exact hP) (va_K.moved hW.alike hK) hD (hS.F ht)) hS.2.2 dX8_fourth_73
        · have h := h.2 c9
          refine lv_aload_n hx hb dX8_fourth_49 rfl (lv_at hl 0 rfl) ?_
          refine lv_ldc2 (v := 1768057957) hx hb hown (hts (.constantLong RX8 441 (1768057957)) (List.mem_of_getElem? (i := 5) rfl)) dX8_fourth_50 ?_
          refine lv_lconst (v := 0) hx hb dX8_fourth_53 (by decide) ?_
          refine lv_iconst (v := 1) hx hb dX8_fourth_54 (by decide) ?_
          refine xc_vi (As := [.long 1768057957, .long 0, .int 1]) (rest := []) xG Fx (sX8_turns l dC dI ad cI cZ sa sv m_thrown m_size m_outLong m_lines m_toldLines m_tokens m_places m_p m_pre m_end_14 m_text m_out m_lineAt m_lineLong m_depth m_signed m_led m_told m_place m_begin m_tokenLong m_stemLong m_address m_letters m_stems m_s_15 1768057957 0 1 h) (cwV 3 hts gX8_fourth_X8_turns rfl rfl rfl hdX8_turns ⟨Nat.le_of_ble_eq_true rfl, Nat.le_of_ble_eq_true rfl⟩) (va_recv hK hP (ci := 7) (q0 := 0) rfl rfl) hK hP hD hS hA hI rfl hl.1 rfl (Nat.le_of_ble_eq_true rfl) dX8_fourth_55 ⟨Nat.zero_le _, Nat.zero_le _⟩ (fun r_16 u H locs h hP hD hS => ?_)
          obtain ⟨m_end_17, m_s_18⟩ := u
          have hP : va_P (dC, dI) vwCl (mW ad cI cZ m_thrown m_size m_outLong m_lines m_toldLines m_tokens m_places m_p m_pre m_end_17 m_text m_out m_lineAt m_lineLong m_depth m_signed m_led m_told m_place m_begin m_tokenLong m_stemLong m_address m_letters m_stems m_s_18) H := hP
          have hD : va_D A (mW ad cI cZ m_thrown m_size m_outLong m_lines m_toldLines m_tokens m_places m_p m_pre m_end_17 m_text m_out m_lineAt m_lineLong m_depth m_signed m_led m_told m_place m_begin m_tokenLong m_stemLong m_address m_letters m_stems m_s_18) := hD
          refine lv_if_ne (tgt := 73) hx hb dX8_fourth_58 (by decide) (fun c9 => ?_) (fun c9 => ?_)
          · have h := h.1 c9
            exact W.vret hx hb hr (fun t ht hW => hQ (m_end_17, m_s_18) t h (by rw [ht]; exact hP) (va_K.moved hW.alike hK) hD (hS.F ht)) hS.2.2 dX8_fourth_73
          · have h := h.2 c9
            refine lv_aload_n hx hb dX8_fourth_61 rfl (lv_at hl 0 rfl) ?_
            refine lv_ldc2 (v := 1835363956) hx hb hown (hts (.constantLong RX8 443 (1835363956)) (List.mem_of_getElem? (i := 6) rfl)) dX8_fourth_62 ?_
            refine lv_lconst (v := 0) hx hb dX8_fourth_65 (by decide) ?_
            refine lv_iconst (v := 1) hx hb dX8_fourth_66 (by decide) ?_
            refine xc_vi (As := [.long 1835363956, .long 0, .int 1]) (rest := []) xG Fx (sX8_turns l dC dI ad cI cZ sa sv m_thrown m_size m_outLong m_lines m_toldLines m_tokens m_places m_p m_pre m_end_17 m_text m_out m_lineAt m_lineLong m_depth m_signed m_led m_told m_place m_begin m_tokenLong m_stemLong m_address m_letters m_stems m_s_18 1835363956 0 1 h) (cwV 3 hts gX8_fourth_X8_turns rfl rfl rfl hdX8_turns ⟨Nat.le_of_ble_eq_true rfl, Nat.le_of_ble_eq_true rfl⟩) (va_recv hK hP (ci := 7) (q0 := 0) rfl rfl) hK hP hD hS hA hI rfl hl.1 rfl (Nat.le_of_ble_eq_true rfl) dX8_fourth_67 ⟨Nat.zero_le _, Nat.zero_le _⟩ (fun r_19 u H locs h hP hD hS => ?_)
            obtain ⟨m_end_20, m_s_21⟩ := u
            have hP : va_P (dC, dI) vwCl (mW ad cI cZ m_thrown m_size m_outLong m_lines m_toldLines m_tokens m_places m_p m_pre m_end_20 m_text m_out m_lineAt m_lineLong m_depth m_signed m_led m_told m_place m_begin m_tokenLong m_stemLong m_address m_letters m_stems m_s_21) H := hP
            have hD : va_D A (mW ad cI cZ m_thrown m_size m_outLong m_lines m_toldLines m_tokens m_places m_p m_pre m_end_20 m_text m_out m_lineAt m_lineLong m_depth m_signed m_led m_told m_place m_begin m_tokenLong m_stemLong m_address m_letters m_stems m_s_21) := hD
            refine lv_if_eq (tgt := 74) hx hb dX8_fourth_70 (by decide) (fun c9 => ?_) (fun c9 => ?_)
            · have h := h.1 c9
              refine lv_aload_n hx hb dX8_fourth_74 rfl (lv_at hl 0 rfl) ?_
              refine lv_ldc2 (v := 6909806) hx hb hown (hts (.constantLong RX8 445 (6909806)) (List.mem_of_getElem? (i := 7) rfl)) dX8_fourth_75 ?_
              refine xc_vi (As := [.long 6909806]) (rest := []) xG Fx (sX8_has l dC dI ad cI cZ sa sv m_thrown m_size m_outLong m_lines m_toldLines m_tokens m_places m_p m_pre m_end_20 m_text m_out m_lineAt m_lineLong m_depth m_signed m_led m_told m_place m_begin m_tokenLong m_stemLong m_address m_letters m_stems m_s_21 6909806 h) (cwV 1 hts gX8_fourth_X8_has rfl rfl rfl hdX8_has ⟨Nat.le_of_ble_eq_true rfl, Nat.le_of_ble_eq_true rfl⟩) (va_recv hK hP (ci := 7) (q0 := 0) rfl rfl) hK hP hD hS hA hI rfl hl.1 rfl (Nat.le_of_ble_eq_true rfl) dX8_fourth_78 ⟨Nat.zero_le _, Nat.zero_le _⟩ (fun r_22 u H locs h hP hD hS => ?_)
              refine lv_if_eq (tgt := 135) hx hb dX8_fourth_81 (by decide) (fun c9 => ?_) (fun c9 => ?_)
              · have h := h.1 c9
                refine lv_aload_n hx hb dX8_fourth_135 rfl (lv_at hl 0 rfl) ?_
                refine lv_ldc2 (v := 6385268) hx hb hown (hts (.constantLong RX8 447 (6385268)) (List.mem_of_getElem? (i := 10) rfl)) dX8_fourth_136 ?_
                refine lv_lconst (v := 0) hx hb dX8_fourth_139 (by decide) ?_
                refine lv_iconst (v := 1) hx hb dX8_fourth_140 (by decide) ?_
                refine xc_vi (As := [.long 6385268, .long 0, .int 1]) (rest := []) xG Fx (sX8_turns l dC dI ad cI cZ sa sv m_thrown m_size m_outLong m_lines m_toldLines m_tokens m_places m_p m_pre m_end_20 m_text m_out m_lineAt m_lineLong m_depth m_signed m_led m_told m_place m_begin m_tokenLong m_stemLong m_address m_letters m_stems m_s_21 6385268 0 1 h) (cwV 3 hts gX8_fourth_X8_turns rfl rfl rfl hdX8_turns ⟨Nat.le_of_ble_eq_true rfl, Nat.le_of_ble_eq_true rfl⟩) (va_recv hK hP (ci := 7) (q0 := 0) rfl rfl) hK hP hD hS hA hI rfl hl.1 rfl (Nat.le_of_ble_eq_true rfl) dX8_fourth_141 ⟨Nat.zero_le _, Nat.zero_le _⟩ (fun r_23 u H locs h hP hD hS => ?_)
                obtain ⟨m_end_24, m_s_25⟩ := u
                have hP : va_P (dC, dI) vwCl (mW ad cI cZ m_thrown m_size m_outLong m_lines m_toldLines m_tokens m_places m_p m_pre m_end_24 m_text m_out m_lineAt m_lineLong m_depth m_signed m_led m_told m_place m_begin m_tokenLong m_stemLong m_address m_letters m_stems m_s_25) H := hP
                have hD : va_D A (mW ad cI cZ m_thrown m_size m_outLong m_lines m_toldLines m_tokens m_places m_p m_pre m_end_24 m_text m_out m_lineAt m_lineLong m_depth m_signed m_led m_told m_place m_begin m_tokenLong m_stemLong m_address m_letters m_stems m_s_25) := hD
                refine lv_if_ne (tgt := 231) hx hb dX8_fourth_144 (by decide) (fun c9 => ?_) (fun c9 => ?_)
                · have h := h.1 c9
                  exact W.vret hx hb hr (fun t ht hW => hQ (m_end_24, m_s_25) t h (by rw [ht]; exact hP) (va_K.moved hW.alike hK) hD (hS.F ht)) hS.2.2 dX8_fourth_231
                · have h := h.2 c9
                  refine lv_aload_n hx hb dX8_fourth_147 rfl (lv_at hl 0 rfl) ?_
                  refine lv_ldc2 (v := 6647412) hx hb hown (hts (.constantLong RX8 391 (6647412)) (List.mem_of_getElem? (i := 11) rfl)) dX8_fourth_148 ?_
                  refine lv_lconst (v := 0) hx hb dX8_fourth_151 (by decide) ?_
                  refine lv_iconst (v := 1) hx hb dX8_fourth_152 (by decide) ?_
                  refine xc_vi (As := [.long 6647412, .long 0, .int 1]) (rest := []) xG Fx (sX8_turns l dC dI ad cI cZ sa sv m_thrown m_size m_outLong m_lines m_toldLines m_tokens m_places m_p m_pre m_end_24 m_text m_out m_lineAt m_lineLong m_depth m_signed m_led m_told m_place m_begin m_tokenLong m_stemLong m_address m_letters m_stems m_s_25 6647412 0 1 h) (cwV 3 hts gX8_fourth_X8_turns rfl rfl rfl hdX8_turns ⟨Nat.le_of_ble_eq_true rfl, Nat.le_of_ble_eq_true rfl⟩) (va_recv hK hP (ci := 7) (q0 := 0) rfl rfl) hK hP hD hS hA hI rfl hl.1 rfl (Nat.le_of_ble_eq_true rfl) dX8_fourth_153 ⟨Nat.zero_le _, Nat.zero_le _⟩ (fun r_26 u H locs h hP hD hS => ?_)
                  obtain ⟨m_end_27, m_s_28⟩ := u
                  have hP : va_P (dC, dI) vwCl (mW ad cI cZ m_thrown m_size m_outLong m_lines m_toldLines m_tokens m_places m_p m_pre m_end_27 m_text m_out m_lineAt m_lineLong m_depth m_signed m_led m_told m_place m_begin m_tokenLong m_stemLong m_address m_letters m_stems m_s_28) H := hP
                  have hD : va_D A (mW ad cI cZ m_thrown m_size m_outLong m_lines m_toldLines m_tokens m_places m_p m_pre m_end_27 m_text m_out m_lineAt m_lineLong m_depth m_signed m_led m_told m_place m_begin m_tokenLong m_stemLong m_address m_letters m_stems m_s_28) := hD
                  refine lv_if_ne (tgt := 231) hx hb dX8_fourth_156 (by decide) (fun c9 => ?_) (fun c9 => ?_)
                  · have h := h.1 c9
                    exact W.vret hx hb hr (fun t ht hW => hQ (m_end_27, m_s_28) t h (by rw [ht]; exact hP) (va_K.moved hW.alike hK) hD (hS.F ht)) hS.2.2 dX8_fourth_231
                  · have h := h.2 c9
                    refine lv_aload_n hx hb dX8_fourth_159 rfl (lv_at hl 0 rfl) ?_
                    refine lv_ldc2 (v := 6910829) hx hb hown (hts (.constantLong RX8 449 (6910829)) (List.mem_of_getElem? (i := 12) rfl)) dX8_fourth_160 ?_
                    refine lv_lconst (v := 0) hx hb dX8_fourth_163 (by decide) ?_
                    refine lv_iconst (v := 1) hx hb dX8_fourth_164 (by decide) ?_
                    refine xc_vi (As := [.long 6910829, .long 0, .int 1]) (rest := []) xG Fx (sX8_turns l dC dI ad cI cZ sa sv m_thrown m_size m_outLong m_lines m_toldLines m_tokens m_places m_p m_pre m_end_27 m_text m_out m_lineAt m_lineLong m_depth m_signed m_led m_told m_place m_begin m_tokenLong m_stemLong m_address m_letters m_stems m_s_28 6910829 0 1 h) (cwV 3 hts gX8_fourth_X8_turns rfl rfl rfl hdX8_turns ⟨Nat.le_of_ble_eq_true rfl, Nat.le_of_ble_eq_true rfl⟩) (va_recv hK hP (ci := 7) (q0 := 0) rfl rfl) hK hP hD hS hA hI rfl hl.1 rfl (Nat.le_of_ble_eq_true rfl) dX8_fourth_165 ⟨Nat.zero_le _, Nat.zero_le _⟩ (fun r_29 u H locs h hP hD hS => ?_)
                    obtain ⟨m_end_30, m_s_31⟩ := u
                    have hP : va_P (dC, dI) vwCl (mW ad cI cZ m_thrown m_size m_outLong m_lines m_toldLines m_tokens m_places m_p m_pre m_end_30 m_text m_out m_lineAt m_lineLong m_depth m_signed m_led m_told m_place m_begin m_tokenLong m_stemLong m_address m_letters m_stems m_s_31) H := hP
                    have hD : va_D A (mW ad cI cZ m_thrown m_size m_outLong m_lines m_toldLines m_tokens m_places m_p m_pre m_end_30 m_text m_out m_lineAt m_lineLong m_depth m_signed m_led m_told m_place m_begin m_tokenLong m_stemLong m_address m_letters m_stems m_s_31) := hD
                    refine lv_if_ne (tgt := 231) hx hb dX8_fourth_168 (by decide) (fun c9 => ?_) (fun c9 => ?_)
                    · have h := h.1 c9
                      exact W.vret hx hb hr (fun t ht hW => hQ (m_end_30, m_s_31) t h (by rw [ht]; exact hP) (va_K.moved hW.alike hK) hD (hS.F ht)) hS.2.2 dX8_fourth_231
                    · have h := h.2 c9
                      refine lv_aload_n hx hb dX8_fourth_171 rfl (lv_at hl 0 rfl) ?_
                      refine lv_ldc2 (v := 6386789) hx hb hown (hts (.constantLong RX8 359 (6386789)) (List.mem_of_getElem? (i := 13) rfl)) dX8_fourth_172 ?_
                      refine lv_lconst (v := 0) hx hb dX8_fourth_175 (by decide) ?_
                      refine lv_iconst (v := 1) hx hb dX8_fourth_176 (by decide) ?_
                      refine xc_vi (As := [.long 6386789, .long 0, .int 1]) (rest := []) xG Fx (sX8_turns l dC dI ad cI cZ sa sv m_thrown m_size m_outLong m_lines m_toldLines m_tokens m_places m_p m_pre m_end_30 m_text m_out m_lineAt m_lineLong m_depth m_signed m_led m_told m_place m_begin m_tokenLong m_stemLong m_address m_letters m_stems m_s_31 6386789 0 1 h) (cwV 3 hts gX8_fourth_X8_turns rfl rfl rfl hdX8_turns ⟨Nat.le_of_ble_eq_true rfl, Nat.le_of_ble_eq_true rfl⟩) (va_recv hK hP (ci := 7) (q0 := 0) rfl rfl) hK hP hD hS hA hI rfl hl.1 rfl (Nat.le_of_ble_eq_true rfl) dX8_fourth_177 ⟨Nat.zero_le _, Nat.zero_le _⟩ (fun r_32 u H locs h hP hD hS => ?_)
                      obtain ⟨m_end_33, m_s_34⟩ := u
                      have hP : va_P (dC, dI) vwCl (mW ad cI cZ m_thrown m_size m_outLong m_lines m_toldLines m_tokens m_places m_p m_pre m_end_33 m_text m_out m_lineAt m_lineLong m_depth m_signed m_led m_told m_place m_begin m_tokenLong m_stemLong m_address m_letters m_stems m_s_34) H := hP
                      have hD : va_D A (mW ad cI cZ m_thrown m_size m_outLong m_lines m_toldLines m_tokens m_places m_p m_pre m_end_33 m_text m_out m_lineAt m_lineLong m_depth m_signed m_led m_told m_place m_begin m_tokenLong m_stemLong m_address m_letters m_stems m_s_34) := hD
                      refine lv_if_ne (tgt := 231) hx hb dX8_fourth_180 (by decide) (fun c9 => ?_) (fun c9 => ?_)
                      · have h := h.1 c9
                        exact W.vret hx hb hr (fun t ht hW => hQ (m_end_33, m_s_34) t h (by rw [ht]; exact hP) (va_K.moved hW.alike hK) hD (hS.F ht)) hS.2.2 dX8_fourth_231
                      · have h := h.2 c9
                        refine lv_aload_n hx hb dX8_fourth_183 rfl (lv_at hl 0 rfl) ?_
                        refine lv_ldc2 (v := 6911081) hx hb hown (hts (.constantLong RX8 451 (6911081)) (List.mem_of_getElem? (i := 14) rfl)) dX8_fourth_184 ?_
                        refine lv_lconst (v := 0) hx hb dX8_fourth_187 (by decide) ?_
                        refine lv_iconst (v := 1) hx hb dX8_fourth_188 (by decide) ?_
                        refine xc_vi (As := [.long 6911081, .long 0, .int 1]) (rest := []) xG Fx (sX8_turns l dC dI ad cI cZ sa sv m_thrown m_size m_outLong m_lines m_toldLines m_tokens m_places m_p m_pre m_end_33 m_text m_out m_lineAt m_lineLong m_depth m_signed m_led m_told m_place m_begin m_tokenLong m_stemLong m_address m_letters m_stems m_s_34 6911081 0 1 h) (cwV 3 hts gX8_fourth_X8_turns rfl rfl rfl hdX8_turns ⟨Nat.le_of_ble_eq_true rfl, Nat.le_of_ble_eq_true rfl⟩) (va_recv hK hP (ci := 7) (q0 := 0) rfl rfl) hK hP hD hS hA hI rfl hl.1 rfl (Nat.le_of_ble_eq_true rfl) dX8_fourth_189 ⟨Nat.zero_le _, Nat.zero_le _⟩ (fun r_35 u H locs h hP hD hS => ?_)
                        obtain ⟨m_end_36, m_s_37⟩ := u
                        have hP : va_P (dC, dI) vwCl (mW ad cI cZ m_thrown m_size m_outLong m_lines m_toldLines m_tokens m_places m_p m_pre m_end_36 m_text m_out m_lineAt m_lineLong m_depth m_signed m_led m_told m_place m_begin m_tokenLong m_stemLong m_address m_letters m_stems m_s_37) H := hP
                        have hD : va_D A (mW ad cI cZ m_thrown m_size m_outLong m_lines m_toldLines m_tokens m_places m_p m_pre m_end_36 m_text m_out m_lineAt m_lineLong m_depth m_signed m_led m_told m_place m_begin m_tokenLong m_stemLong m_address m_letters m_stems m_s_37) := hD
                        refine lv_if_ne (tgt := 231) hx hb dX8_fourth_192 (by decide) (fun c9 => ?_) (fun c9 => ?_)
                        · have h := h.1 c9
                          exact W.vret hx hb hr (fun t ht hW => hQ (m_end_36, m_s_37) t h (by rw [ht]; exact hP) (va_K.moved hW.alike hK) hD (hS.F ht)) hS.2.2 dX8_fourth_231
                        · have h := h.2 c9
                          refine lv_aload_n hx hb dX8_fourth_195 rfl (lv_at hl 0 rfl) ?_
                          refine lv_ldc2 (v := 7304563) hx hb hown (hts (.constantLong RX8 379 (7304563)) (List.mem_of_getElem? (i := 15) rfl)) dX8_fourth_196 ?_
                          refine lv_lconst (v := 0) hx hb dX8_fourth_199 (by decide) ?_
                          refine lv_iconst (v := 1) hx hb dX8_fourth_200 (by decide) ?_
                          refine xc_vi (As := [.long 7304563, .long 0, .int 1]) (rest := []) xG Fx (sX8_turns l dC dI ad cI cZ sa sv m_thrown m_size m_outLong m_lines m_toldLines m_tokens m_places m_p m_pre m_end_36 m_text m_out m_lineAt m_lineLong m_depth m_signed m_led m_told m_place m_begin m_tokenLong m_stemLong m_address m_letters m_stems m_s_37 7304563 0 1 h) (cwV 3 hts gX8_fourth_X8_turns rfl rfl rfl hdX8_turns ⟨Nat.le_of_ble_eq_true rfl, Nat.le_of_ble_eq_true rfl⟩) (va_recv hK hP (ci := 7) (q0 := 0) rfl rfl) hK hP hD hS hA hI rfl hl.1 rfl (Nat.le_of_ble_eq_true rfl) dX8_fourth_201 ⟨Nat.zero_le _, Nat.zero_le _⟩ (fun r_38 u H locs h hP hD hS => ?_)
                          obtain ⟨m_end_39, m_s_40⟩ := u
                          have hP : va_P (dC, dI) vwCl (mW ad cI cZ m_thrown m_size m_outLong m_lines m_toldLines m_tokens m_places m_p m_pre m_end_39 m_text m_out m_lineAt m_lineLong m_depth m_signed m_led m_told m_place m_begin m_tokenLong m_stemLong m_address m_letters m_stems m_s_40) H := hP
                          have hD : va_D A (mW ad cI cZ m_thrown m_size m_outLong m_lines m_toldLines m_tokens m_places m_p m_pre m_end_39 m_text m_out m_lineAt m_lineLong m_depth m_signed m_led m_told m_place m_begin m_tokenLong m_stemLong m_address m_letters m_stems m_s_40) := hD
                          refine lv_if_ne (tgt := 231) hx hb dX8_fourth_204 (by decide) (fun c9 => ?_) (fun c9 => ?_)
                          · have h := h.1 c9
                            exact W.vret hx hb hr (fun t ht hW => hQ (m_end_39, m_s_40) t h (by rw [ht]; exact hP) (va_K.moved hW.alike hK) hD (hS.F ht)) hS.2.2 dX8_fourth_231
                          · have h := h.2 c9
                            refine lv_aload_n hx hb dX8_fourth_207 rfl (lv_at hl 0 rfl) ?_
                            refine lv_ldc2 (v := 6911589) hx hb hown (hts (.constantLong RX8 371 (6911589)) (List.mem_of_getElem? (i := 16) rfl)) dX8_fourth_208 ?_
                            refine lv_lconst (v := 0) hx hb dX8_fourth_211 (by decide) ?_
                            refine lv_iconst (v := 1) hx hb dX8_fourth_212 (by decide) ?_
                            refine xc_vi (As := [.long 6911589, .long 0, .int 1]) (rest := []) xG Fx (sX8_turns l dC dI ad cI cZ sa sv m_thrown m_size m_outLong m_lines m_toldLines m_tokens m_places m_p m_pre m_end_39 m_text m_out m_lineAt m_lineLong m_depth m_signed m_led m_told m_place m_begin m_tokenLong m_stemLong m_address m_letters m_stems m_s_40 6911589 0 1 h) (cwV 3 hts gX8_fourth_X8_turns rfl rfl rfl hdX8_turns ⟨Nat.le_of_ble_eq_true rfl, Nat.le_of_ble_eq_true rfl⟩) (va_recv hK hP (ci := 7) (q0 := 0) rfl rfl) hK hP hD hS hA hI rfl hl.1 rfl (Nat.le_of_ble_eq_true rfl) dX8_fourth_213 ⟨Nat.zero_le _, Nat.zero_le _⟩ (fun r_41 u H locs h hP hD hS => ?_)
                            obtain ⟨m_end_42, m_s_43⟩ := u
                            have hP : va_P (dC, dI) vwCl (mW ad cI cZ m_thrown m_size m_outLong m_lines m_toldLines m_tokens m_places m_p m_pre m_end_42 m_text m_out m_lineAt m_lineLong m_depth m_signed m_led m_told m_place m_begin m_tokenLong m_stemLong m_address m_letters m_stems m_s_43) H := hP
                            have hD : va_D A (mW ad cI cZ m_thrown m_size m_outLong m_lines m_toldLines m_tokens m_places m_p m_pre m_end_42 m_text m_out m_lineAt m_lineLong m_depth m_signed m_led m_told m_place m_begin m_tokenLong m_stemLong m_address m_letters m_stems m_s_43) := hD
                            refine lv_if_ne (tgt := 231) hx hb dX8_fourth_216 (by decide) (fun c9 => ?_) (fun c9 => ?_)
                            · have h := h.1 c9
                              exact W.vret hx hb hr (fun t ht hW => hQ (m_end_42, m_s_43) t h (by rw [ht]; exact hP) (va_K.moved hW.alike hK) hD (hS.F ht)) hS.2.2 dX8_fourth_231
                            · have h := h.2 c9
                              refine lv_aload_n hx hb dX8_fourth_219 rfl (lv_at hl 0 rfl) ?_
                              refine lv_ldc2 (v := 6912613) hx hb hown (hts (.constantLong RX8 367 (6912613)) (List.mem_of_getElem? (i := 17) rfl)) dX8_fourth_220 ?_
                              refine lv_lconst (v := 0) hx hb dX8_fourth_223 (by decide) ?_
                              refine lv_iconst (v := 1) hx hb dX8_fourth_224 (by decide) ?_
                              refine xc_vi (As := [.long 6912613, .long 0, .int 1]) (rest := []) xG Fx (sX8_turns l dC dI ad cI cZ sa sv m_thrown m_size m_outLong m_lines m_toldLines m_tokens m_places m_p m_pre m_end_42 m_text m_out m_lineAt m_lineLong m_depth m_signed m_led m_told m_place m_begin m_tokenLong m_stemLong m_address m_letters m_stems m_s_43 6912613 0 1 h) (cwV 3 hts gX8_fourth_X8_turns rfl rfl rfl hdX8_turns ⟨Nat.le_of_ble_eq_true rfl, Nat.le_of_ble_eq_true rfl⟩) (va_recv hK hP (ci := 7) (q0 := 0) rfl rfl) hK hP hD hS hA hI rfl hl.1 rfl (Nat.le_of_ble_eq_true rfl) dX8_fourth_225 ⟨Nat.zero_le _, Nat.zero_le _⟩ (fun r_44 u H locs h hP hD hS => ?_)
                              obtain ⟨m_end_45, m_s_46⟩ := u
                              have hP : va_P (dC, dI) vwCl (mW ad cI cZ m_thrown m_size m_outLong m_lines m_toldLines m_tokens m_places m_p m_pre m_end_45 m_text m_out m_lineAt m_lineLong m_depth m_signed m_led m_told m_place m_begin m_tokenLong m_stemLong m_address m_letters m_stems m_s_46) H := hP
                              have hD : va_D A (mW ad cI cZ m_thrown m_size m_outLong m_lines m_toldLines m_tokens m_places m_p m_pre m_end_45 m_text m_out m_lineAt m_lineLong m_depth m_signed m_led m_told m_place m_begin m_tokenLong m_stemLong m_address m_letters m_stems m_s_46) := hD
                              refine lv_if_eq (tgt := 232) hx hb dX8_fourth_228 (by decide) (fun c9 => ?_) (fun c9 => ?_)
                              · have h := h.1 c9
                                refine lv_aload_n hx hb dX8_fourth_232 rfl (lv_at hl 0 rfl) ?_
                                refine lv_ldc2 (v := 24940) hx hb hown (hts (.constantLong RX8 399 (24940)) (List.mem_of_getElem? (i := 18) rfl)) dX8_fourth_233 ?_
                                refine lv_lconst (v := 0) hx hb dX8_fourth_236 (by decide) ?_
                                refine lv_iconst (v := 1) hx hb dX8_fourth_237 (by decide) ?_
                                refine xc_vi (As := [.long 24940, .long 0, .int 1]) (rest := []) xG Fx (sX8_turns l dC dI ad cI cZ sa sv m_thrown m_size m_outLong m_lines m_toldLines m_tokens m_places m_p m_pre m_end_45 m_text m_out m_lineAt m_lineLong m_depth m_signed m_led m_told m_place m_begin m_tokenLong m_stemLong m_address m_letters m_stems m_s_46 24940 0 1 h) (cwV 3 hts gX8_fourth_X8_turns rfl rfl rfl hdX8_turns ⟨Nat.le_of_ble_eq_true rfl, Nat.le_of_ble_eq_true rfl⟩) (va_recv hK hP (ci := 7) (q0 := 0) rfl rfl) hK hP hD hS hA hI rfl hl.1 rfl (Nat.le_of_ble_eq_true rfl) dX8_fourth_238 ⟨Nat.zero_le _, Nat.zero_le _⟩ (fun r_47 u H locs h hP hD hS => ?_)
                                obtain ⟨m_end_48, m_s_49⟩ := u
                                have hP : va_P (dC, dI) vwCl (mW ad cI cZ m_thrown m_size m_outLong m_lines m_toldLines m_tokens m_places m_p m_pre m_end_48 m_text m_out m_lineAt m_lineLong m_depth m_signed m_led m_told m_place m_begin m_tokenLong m_stemLong m_address m_letters m_stems m_s_49) H := hP
                                have hD : va_D A (mW ad cI cZ m_thrown m_size m_outLong m_lines m_toldLines m_tokens m_places m_p m_pre m_end_48 m_text m_out m_lineAt m_lineLong m_depth m_signed m_led m_told m_place m_begin m_tokenLong m_stemLong m_address m_letters m_stems m_s_49) := hD
                                refine lv_if_ne (tgt := 268) hx hb dX8_fourth_241 (by decide) (fun c9 => ?_) (fun c9 => ?_)
                                · have h := h.1 c9
                                  exact W.vret hx hb hr (fun t ht hW => hQ (m_end_48, m_s_49) t h (by rw [ht]; exact hP) (va_K.moved hW.alike hK) hD (hS.F ht)) hS.2.2 dX8_fourth_268
                                · have h := h.2 c9
                                  refine lv_aload_n hx hb dX8_fourth_244 rfl (lv_at hl 0 rfl) ?_
                                  refine lv_ldc2 (v := 25970) hx hb hown (hts (.constantLong RX8 453 (25970)) (List.mem_of_getElem? (i := 19) rfl)) dX8_fourth_245 ?_
                                  refine lv_lconst (v := 0) hx hb dX8_fourth_248 (by decide) ?_
                                  refine lv_iconst (v := 1) hx hb dX8_fourth_249 (by decide) ?_
                                  refine xc_vi (As := [.long 25970, .long 0, .int 1]) (rest := []) xG Fx (sX8_turns l dC dI ad cI cZ sa sv m_thrown m_size m_outLong m_lines m_toldLines m_tokens m_places m_p m_pre m_end_48 m_text m_out m_lineAt m_lineLong m_depth m_signed m_led m_told m_place m_begin m_tokenLong m_stemLong m_address m_letters m_stems m_s_49 25970 0 1 h) (cwV 3 hts gX8_fourth_X8_turns rfl rfl rfl hdX8_turns ⟨Nat.le_of_ble_eq_true rfl, Nat.le_of_ble_eq_true rfl⟩) (va_recv hK hP (ci := 7) (q0 := 0) rfl rfl) hK hP hD hS hA hI rfl hl.1 rfl (Nat.le_of_ble_eq_true rfl) dX8_fourth_250 ⟨Nat.zero_le _, Nat.zero_le _⟩ (fun r_50 u H locs h hP hD hS => ?_)
                                  obtain ⟨m_end_51, m_s_52⟩ := u
                                  have hP : va_P (dC, dI) vwCl (mW ad cI cZ m_thrown m_size m_outLong m_lines m_toldLines m_tokens m_places m_p m_pre m_end_51 m_text m_out m_lineAt m_lineLong m_depth m_signed m_led m_told m_place m_begin m_tokenLong m_stemLong m_address m_letters m_stems m_s_52) H := hP
                                  have hD : va_D A (mW ad cI cZ m_thrown m_size m_outLong m_lines m_toldLines m_tokens m_places m_p m_pre m_end_51 m_text m_out m_lineAt m_lineLong m_depth m_signed m_led m_told m_place m_begin m_tokenLong m_stemLong m_address m_letters m_stems m_s_52) := hD
                                  refine lv_if_ne (tgt := 268) hx hb dX8_fourth_253 (by decide) (fun c9 => ?_) (fun c9 => ?_)
                                  · have h := h.1 c9
                                    exact W.vret hx hb hr (fun t ht hW => hQ (m_end_51, m_s_52) t h (by rw [ht]; exact hP) (va_K.moved hW.alike hK) hD (hS.F ht)) hS.2.2 dX8_fourth_268
                                  · have h := h.2 c9
                                    refine lv_aload_n hx hb dX8_fourth_256 rfl (lv_at hl 0 rfl) ?_
                                    refine lv_ldc2 (v := 26979) hx hb hown (hts (.constantLong RX8 427 (26979)) (List.mem_of_getElem? (i := 20) rfl)) dX8_fourth_257 ?_
                                    refine lv_lconst (v := 0) hx hb dX8_fourth_260 (by decide) ?_
                                    refine lv_iconst (v := 1) hx hb dX8_fourth_261 (by decide) ?_
                                    refine xc_vi (As := [.long 26979, .long 0, .int 1]) (rest := []) xG Fx (sX8_turns l dC dI ad cI cZ sa sv m_thrown m_size m_outLong m_lines m_toldLines m_tokens m_places m_p m_pre m_end_51 m_text m_out m_lineAt m_lineLong m_depth m_signed m_led m_told m_place m_begin m_tokenLong m_stemLong m_address m_letters m_stems m_s_52 26979 0 1 h) (cwV 3 hts gX8_fourth_X8_turns rfl rfl rfl hdX8_turns ⟨Nat.le_of_ble_eq_true rfl, Nat.le_of_ble_eq_true rfl⟩) (va_recv hK hP (ci := 7) (q0 := 0) rfl rfl) hK hP hD hS hA hI rfl hl.1 rfl (Nat.le_of_ble_eq_true rfl) dX8_fourth_262 ⟨Nat.zero_le _, Nat.zero_le _⟩ (fun r_53 u H locs h hP hD hS => ?_)
                                    obtain ⟨m_end_54, m_s_55⟩ := u
                                    have hP : va_P (dC, dI) vwCl (mW ad cI cZ m_thrown m_size m_outLong m_lines m_toldLines m_tokens m_places m_p m_pre m_end_54 m_text m_out m_lineAt m_lineLong m_depth m_signed m_led m_told m_place m_begin m_tokenLong m_stemLong m_address m_letters m_stems m_s_55) H := hP
                                    have hD : va_D A (mW ad cI cZ m_thrown m_size m_outLong m_lines m_toldLines m_tokens m_places m_p m_pre m_end_54 m_text m_out m_lineAt m_lineLong m_depth m_signed m_led m_told m_place m_begin m_tokenLong m_stemLong m_address m_letters m_stems m_s_55) := hD
                                    refine lv_if_eq (tgt := 269) hx hb dX8_fourth_265 (by decide) (fun c9 => ?_) (fun c9 => ?_)
                                    · have h := h.1 c9
                                      refine lv_aload_n hx hb dX8_fourth_269 rfl (lv_at hl 0 rfl) ?_
                                      refine lv_ldc2 (v := 28533) hx hb hown (hts (.constantLong RX8 455 (28533)) (List.mem_of_getElem? (i := 21) rfl)) dX8_fourth_270 ?_
                                      refine lv_lconst (v := 0) hx hb dX8_fourth_273 (by decide) ?_
                                      refine lv_iconst (v := 1) hx hb dX8_fourth_274 (by decide) ?_
                                      refine xc_vi (As := [.long 28533, .long 0, .int 1]) (rest := []) xG Fx (sX8_turns l dC dI ad cI cZ sa sv m_thrown m_size m_outLong m_lines m_toldLines m_tokens m_places m_p m_pre m_end_54 m_text m_out m_lineAt m_lineLong m_depth m_signed m_led m_told m_place m_begin m_tokenLong m_stemLong m_address m_letters m_stems m_s_55 28533 0 1 h) (cwV 3 hts gX8_fourth_X8_turns rfl rfl rfl hdX8_turns ⟨Nat.le_of_ble_eq_true rfl, Nat.le_of_ble_eq_true rfl⟩) (va_recv hK hP (ci := 7) (q0 := 0) rfl rfl) hK hP hD hS hA hI rfl hl.1 rfl (Nat.le_of_ble_eq_true rfl) dX8_fourth_275 ⟨Nat.zero_le _, Nat.zero_le _⟩ (fun r_56 u H locs h hP hD hS => ?_)
                                      obtain ⟨m_end_57, m_s_58⟩ := u
                                      have hP : va_P (dC, dI) vwCl (mW ad cI cZ m_thrown m_size m_outLong m_lines m_toldLines m_tokens m_places m_p m_pre m_end_57 m_text m_out m_lineAt m_lineLong m_depth m_signed m_led m_told m_place m_begin m_tokenLong m_stemLong m_address m_letters m_stems m_s_58) H := hP
                                      have hD : va_D A (mW ad cI cZ m_thrown m_size m_outLong m_lines m_toldLines m_tokens m_places m_p m_pre m_end_57 m_text m_out m_lineAt m_lineLong m_depth m_signed m_led m_told m_place m_begin m_tokenLong m_stemLong m_address m_letters m_stems m_s_58) := hD
                                      refine lv_pop hx hb dX8_fourth_278 rfl ?_
                                      exact W.vret hx hb hr (fun t ht hW => hQ (m_end_57, m_s_58) t h (by rw [ht]; exact hP) (va_K.moved hW.alike hK) hD (hS.F ht)) hS.2.2 dX8_fourth_279
                                    · have h := h.2 c9
                                      exact W.vret hx hb hr (fun t ht hW => hQ (m_end_54, m_s_55) t h (by rw [ht]; exact hP) (va_K.moved hW.alike hK) hD (hS.F ht)) hS.2.2 dX8_fourth_268
                              · have h := h.2 c9
                                exact W.vret hx hb hr (fun t ht hW => hQ (m_end_45, m_s_46) t h (by rw [ht]; exact hP) (va_K.moved hW.alike hK) hD (hS.F ht)) hS.2.2 dX8_fourth_231
              · have h := h.2 c9
                refine lv_aload_n hx hb dX8_fourth_84 rfl (lv_at hl 0 rfl) ?_
                refine va_get (D := (dC, dI)) (ci := 7) (v := .int m_end_20) (C := RX8) (T := TX8) (N := 26) hx hb hts inX8 hown hK hP 0 rfl rfl 25 (by decide) (hts (.fieldLink RX8 312 "MailWordsModel" "end" "I") (List.mem_of_getElem? (i := 8) rfl)) (fun _ h9 => h9) rfl dX8_fourth_85 ?_
                refine lv_iconst (v := 3) hx hb dX8_fourth_88 (by decide) ?_
                refine lv_icmp_le (tgt := 134) hx hb dX8_fourth_89 (by decide) (fun c9 => ?_) (fun c9 => ?_)
                · have h := h.1 c9
                  exact W.vret hx hb hr (fun t ht hW => hQ (m_end_20, m_s_21) t h (by rw [ht]; exact hP) (va_K.moved hW.alike hK) hD (hS.F ht)) hS.2.2 dX8_fourth_134
                · have h := h.2 c9
                  refine lv_aload_n hx hb dX8_fourth_92 rfl (lv_at hl 0 rfl) ?_
                  refine va_get (D := (dC, dI)) (ci := 7) (v := .ref (ad 16)) (C := RX8) (T := TX8) (N := 26) hx hb hts inX8 hown hK hP 0 rfl rfl 24 (by decide) (hts (.fieldLink RX8 57 "MailWordsModel" "s" "[I") (List.mem_of_getElem? (i := 9) rfl)) (fun _ h9 => h9) rfl dX8_fourth_93 ?_
                  refine lv_aload_n hx hb dX8_fourth_96 rfl (lv_at hl 0 rfl) ?_
                  refine va_get (D := (dC, dI)) (ci := 7) (v := .int m_end_20) (C := RX8) (T := TX8) (N := 26) hx hb hts inX8 hown hK hP 0 rfl rfl 25 (by decide) (hts (.fieldLink RX8 312 "MailWordsModel" "end" "I") (List.mem_of_getElem? (i := 8) rfl)) (fun _ h9 => h9) rfl dX8_fourth_97 ?_
                  refine lv_iconst (v := 4) hx hb dX8_fourth_100 (by decide) ?_
                  refine lv_isub hx hb dX8_fourth_101 ?_
                  have hi9 := h.1
                  have h := h.2
                  refine va_iald hx hb hK hP 16 0 rfl rfl hi9 dX8_fourth_102 ?_
                  refine lv_bipush (v := 115) hx hb dX8_fourth_103 (by decide) ?_
                  refine lv_icmp_eq (tgt := 124) hx hb dX8_fourth_105 (by decide) (fun c9 => ?_) (fun c9 => ?_)
                  · have h := h.1 c9
                    exact J124 m_end_20 m_s_21 H locs ls (lv_sub hl [0] rfl) hP hD hS h
                  · have h := h.2 c9
                    refine lv_aload_n hx hb dX8_fourth_108 rfl (lv_at hl 0 rfl) ?_
                    refine va_get (D := (dC, dI)) (ci := 7) (v := .ref (ad 16)) (C := RX8) (T := TX8) (N := 26) hx hb hts inX8 hown hK hP 0 rfl rfl 24 (by decide) (hts (.fieldLink RX8 57 "MailWordsModel" "s" "[I") (List.mem_of_getElem? (i := 9) rfl)) (fun _ h9 => h9) rfl dX8_fourth_109 ?_
                    refine lv_aload_n hx hb dX8_fourth_112 rfl (lv_at hl 0 rfl) ?_
                    refine va_get (D := (dC, dI)) (ci := 7) (v := .int m_end_20) (C := RX8) (T := TX8) (N := 26) hx hb hts inX8 hown hK hP 0 rfl rfl 25 (by decide) (hts (.fieldLink RX8 312 "MailWordsModel" "end" "I") (List.mem_of_getElem? (i := 8) rfl)) (fun _ h9 => h9) rfl dX8_fourth_113 ?_
                    refine lv_iconst (v := 4) hx hb dX8_fourth_116 (by decide) ?_
                    refine lv_isub hx hb dX8_fourth_117 ?_
                    have hi9 := h.1
                    have h := h.2
                    refine va_iald hx hb hK hP 16 0 rfl rfl hi9 dX8_fourth_118 ?_
                    refine lv_bipush (v := 116) hx hb dX8_fourth_119 (by decide) ?_
                    refine lv_icmp_ne (tgt := 134) hx hb dX8_fourth_121 (by decide) (fun c9 => ?_) (fun c9 => ?_)
                    · have h := h.1 c9
                      exact W.vret hx hb hr (fun t ht hW => hQ (m_end_20, m_s_21) t h (by rw [ht]; exact hP) (va_K.moved hW.alike hK) hD (hS.F ht)) hS.2.2 dX8_fourth_134
                    · have h := h.2 c9
                      exact J124 m_end_20 m_s_21 H locs ls (lv_sub hl [0] rfl) hP hD hS h
            · have h := h.2 c9
              exact W.vret hx hb hr (fun t ht hW => hQ (m_end_20, m_s_21) t h (by rw [ht]; exact hP) (va_K.moved hW.alike hK) hD (hS.F ht)) hS.2.2 dX8_fourth_73
  · have h := h.2 c9
    exact W.vret hx hb hr (fun t ht hW => hQ (m_end_5, m_s_6) t h (by rw [ht]; exact hP) (va_K.moved hW.alike hK) hD (hS.F ht)) hS.2.2 dX8_fourth_12
set_option maxHeartbeats 4000000 in
set_option maxRecDepth 100000 in
theorem sX8_fifth (l : Launch) (dC : Nat → ClassId) (dI : Nat → Nat → Nat) (ad : Nat → Nat) (cI cZ : ClassId) (sa sv : Nat → Nat) (m_thrown : Int32) (m_size : Int32) (m_outLong : Int32) (m_lines : Int32) (m_toldLines : Int32) (m_tokens : Int32) (m_places : Int32) (m_p : Int32) (m_pre : Int32) (m_end : Int32) (m_text : Nat → Int32) (m_out : Nat → Int32) (m_lineAt : Nat → Int32) (m_lineLong : Nat → Int32) (m_depth : Nat → Int32) (m_signed : Nat → Int32) (m_led : Nat → Int32) (m_told : Nat → Int32) (m_place : Nat → Int32) (m_begin : Nat → Int32) (m_tokenLong : Nat → Int32) (m_stemLong : Nat → Int32) (m_address : Nat → Int32) (m_letters : Nat → Int32) (m_stems : Nat → Int32) (m_s : Nat → Int32)  {post : Int32 → Prop} (h : wpX8_fifth post m_end m_s) : xMv l (dC, dI) vwCl [(cI, .int), (cZ, .boolean)] (sI sa sv) yX8_fifth wsX8_fifth ({ frames := 3, cells := 0, slots := 0, locals := 69 }) (mW ad cI cZ m_thrown m_size m_outLong m_lines m_toldLines m_tokens m_places m_p m_pre m_end m_text m_out m_lineAt m_lineLong m_depth m_signed m_led m_told m_place m_begin m_tokenLong m_stemLong m_address m_letters m_stems m_s) [.ref (ad 0)] (fun u : Int32 => post u) (fun u : Int32 => (mW ad cI cZ m_thrown m_size m_outLong m_lines m_toldLines m_tokens m_places m_p m_pre u m_text m_out m_lineAt m_lineLong m_depth m_signed m_led m_told m_place m_begin m_tokenLong m_stemLong m_address m_letters m_stems m_s)) := by
  intro sz
  refine Met.ofW (cc := cX8_fifth) (maxL := 2) (ret := none) (by decide) rfl ?_
  intro p e s m args below meth c s₁ B hml hv
  obtain ⟨rfl, hsz, hP, hK, hD0, hI⟩ := hv
  have hx := B.exec
  have hb := B.bytes
  have hr := B.returns
  have hts := atoms_spec (ws := wsX8_fifth) B.pre
  have hown : s.vm.findClass RX8 = some m.cls := findClass_of_methodNamed B.named
  have hlocks := B.notSynchronized
  subst hsz
  have hD := hD0.self (sz := s.heap.size)
  generalize hAe : va_A (mW ad cI cZ m_thrown m_size m_outLong m_lines m_toldLines m_tokens m_places m_p m_pre m_end m_text m_out m_lineAt m_lineLong m_depth m_signed m_led m_told m_place m_begin m_tokenLong m_stemLong m_address m_letters m_stems m_s) s.heap.size = A at hD hI ⊢
  have hA : ∀ q : Nat, s.heap.size ≤ q → A q := fun q h => by rw [← hAe]; exact Or.inr h
  have hS : va_S A s.heap s.heap [] := va_S.rf
  have Fx : CallFix p m c cX8_fifth 2 s ([.ref (ad 0)] : List Value).toArray wsX8_fifth RX8 := ⟨hx, hb, hml, hown, hts⟩
  have hQ : ∀ (u : Int32) (t : State), (fun u : Int32 => post u) u → va_P (dC, dI) vwCl ((fun u : Int32 => (mW ad cI cZ m_thrown m_size m_outLong m_lines m_toldLines m_tokens m_places m_p m_pre u m_text m_out m_lineAt m_lineLong m_depth m_signed m_led m_told m_place m_begin m_tokenLong m_stemLong m_address m_letters m_stems m_s)) u) t.heap → va_K (dC, dI) vwCl [(cI, .int), (cZ, .boolean)] t → va_D A ((fun u : Int32 => (mW ad cI cZ m_thrown m_size m_outLong m_lines m_toldLines m_tokens m_places m_p m_pre u m_text m_out m_lineAt m_lineLong m_depth m_signed m_led m_told m_place m_begin m_tokenLong m_stemLong m_address m_letters m_stems m_s)) u) → va_F A s t → (va_Qv (fun u : Int32 => post u) (xB (dC, dI) vwCl [(cI, .int), (cZ, .boolean)] A (fun u : Int32 => (mW ad cI cZ m_thrown m_size m_outLong m_lines m_toldLines m_tokens m_places m_p m_pre u m_text m_out m_lineAt m_lineLong m_depth m_signed m_led m_told m_place m_begin m_tokenLong m_stemLong m_address m_letters m_stems m_s))) A) ([.ref (ad 0)] : List Value).toArray s (.returned none) t := fun u t h1 h2 h3 h4 h5 => ⟨⟨u, rfl, h1, h2, h3, h4⟩, h5⟩
  generalize (va_Qv (fun u : Int32 => post u) (xB (dC, dI) vwCl [(cI, .int), (cZ, .boolean)] A (fun u : Int32 => (mW ad cI cZ m_thrown m_size m_outLong m_lines m_toldLines m_tokens m_places m_p m_pre u m_text m_out m_lineAt m_lineLong m_depth m_signed m_led m_told m_place m_begin m_tokenLong m_stemLong m_address m_letters m_stems m_s))) A) = Qc at hQ ⊢
  have hl := lv_entry ([.ref (ad 0)]) (n := 2) (Nat.le_of_ble_eq_true rfl)
  rw [lg_entry_eq]
  generalize (lg_sl ([.ref (ad 0)]) ++ List.replicate (2 - (lg_sl ([.ref (ad 0)])).length) Slot.unset).toArray = ls at hl ⊢
  have hl : lv_has ls 2 [(0, .ref (ad 0))] := hl
  refine (fun (key : ∀ (H : Heap) (locs : List Loc), va_P (dC, dI) vwCl (mW ad cI cZ m_thrown m_size m_outLong m_lines m_toldLines m_tokens m_places m_p m_pre m_end m_text m_out m_lineAt m_lineLong m_depth m_signed m_led m_told m_place m_begin m_tokenLong m_stemLong m_address m_letters m_stems m_s) H → va_D A (mW ad cI cZ m_thrown m_size m_outLong m_lines m_toldLines m_tokens m_places m_p m_pre m_end m_text m_out m_lineAt m_lineLong m_depth m_signed m_led m_told m_place m_begin m_tokenLong m_stemLong m_address m_letters m_stems m_s) → va_S A s.heap H locs → W p l e (headSpec wsX8_fifth ({ frames := 3, cells := 0, slots := 0, locals := 69 })).room s m ([.ref (ad 0)] : List Value).toArray below meth c H locs 0 0 (MQ below Qc ([.ref (ad 0)] : List Value).toArray s 0 0 A) (F0 m 0 ls [])) => key _ _ hP hD hS) ?_
  have inX8 : ∀ w ∈ wsX80, w ∈ wsX8_fifth := (fun _ h9 => List.mem_cons_of_mem _ (List.mem_append_right _ h9))
  have J54 : ∀ (m_end : Int32) (H : Heap) (locs : List Loc) (ls : Array Slot), lv_has ls 2 [(0, .ref (ad 0))] → va_P (dC, dI) vwCl (mW ad cI cZ m_thrown m_size m_outLong m_lines m_toldLines m_tokens m_places m_p m_pre m_end m_text m_out m_lineAt m_lineLong m_depth m_signed m_led m_told m_place m_begin m_tokenLong m_stemLong m_address m_letters m_stems m_s) H → va_D A (mW ad cI cZ m_thrown m_size m_outLong m_lines m_toldLines m_tokens m_places m_p m_pre m_end m_text m_out m_lineAt m_lineLong m_depth m_signed m_led m_told m_place m_begin m_tokenLong m_stemLong m_address m_letters m_stems m_s) → va_S A s.heap H locs → wjX8_fifth_54 post m_s m_end → W p l e (headSpec wsX8_fifth ({ frames := 3, cells := 0, slots := 0, locals := 69 })).room s m ([.ref (ad 0)] : List Value).toArray below meth c H locs 0 0 (MQ below Qc ([.ref (ad 0)] : List Value).toArray s 0 0 A) (F0 m 54 ls []) := by
    intro m_end H locs ls hl hP hD hS h
    delta wjX8_fifth_54 at h
    refine lv_aload_n hx hb dX8_fifth_54 rfl (lv_at hl 0 rfl) ?_
    refine lv_ldc2 (v := 27756) hx hb hown (hts (.constantLong RX8 457 (27756)) (List.mem_of_getElem? (i := 3) rfl)) dX8_fifth_55 ?_
    refine xc_vi (As := [.long 27756]) (rest := []) xG Fx (sX8_has l dC dI ad cI cZ sa sv m_thrown m_size m_outLong m_lines m_toldLines m_tokens m_places m_p m_pre m_end m_text m_out m_lineAt m_lineLong m_depth m_signed m_led m_told m_place m_begin m_tokenLong m_stemLong m_address m_letters m_stems m_s 27756 h) (cwV 1 hts gX8_fifth_X8_has rfl rfl rfl hdX8_has ⟨Nat.le_of_ble_eq_true rfl, Nat.le_of_ble_eq_true rfl⟩) (va_recv hK hP (ci := 7) (q0 := 0) rfl rfl) hK hP hD hS hA hI rfl hl.1 rfl (Nat.le_of_ble_eq_true rfl) dX8_fifth_58 ⟨Nat.zero_le _, Nat.zero_le _⟩ (fun r_1 u H locs h hP hD hS => ?_)
    refine lv_if_eq (tgt := 88) hx hb dX8_fifth_61 (by decide) (fun c9 => ?_) (fun c9 => ?_)
    · have h := h.1 c9
      exact W.vret hx hb hr (fun t ht hW => hQ m_end t h (by rw [ht]; exact hP) (va_K.moved hW.alike hK) hD (hS.F ht)) hS.2.2 dX8_fifth_88
    · have h := h.2 c9
      refine lv_aload_n hx hb dX8_fifth_64 rfl (lv_at hl 0 rfl) ?_
      refine lv_aload_n hx hb dX8_fifth_65 rfl (lv_at hl 0 rfl) ?_
      refine va_get (D := (dC, dI)) (ci := 7) (v := .int m_end) (C := RX8) (T := TX8) (N := 26) hx hb hts inX8 hown hK hP 0 rfl rfl 25 (by decide) (hts (.fieldLink RX8 312 "MailWordsModel" "end" "I") (List.mem_of_getElem? (i := 2) rfl)) (fun _ h9 => h9) rfl dX8_fifth_66 ?_
      refine lv_iconst (v := 1) hx hb dX8_fifth_69 (by decide) ?_
      refine lv_isub hx hb dX8_fifth_70 ?_
      refine xc_vi (As := [.int (m_end - 1)]) (rest := []) xG Fx (sX8_measure l dC dI ad cI cZ sa sv m_thrown m_size m_outLong m_lines m_toldLines m_tokens m_places m_p m_pre m_end m_text m_out m_lineAt m_lineLong m_depth m_signed m_led m_told m_place m_begin m_tokenLong m_stemLong m_address m_letters m_stems m_s (m_end - 1) h) (cwV 1 hts gX8_fifth_X8_measure rfl rfl rfl hdX8_measure ⟨Nat.le_of_ble_eq_true rfl, Nat.le_of_ble_eq_true rfl⟩) (va_recv hK hP (ci := 7) (q0 := 0) rfl rfl) hK hP hD hS hA hI rfl hl.1 rfl (Nat.le_of_ble_eq_true rfl) dX8_fifth_71 ⟨Nat.zero_le _, Nat.zero_le _⟩ (fun r_2 u H locs h hP hD hS => ?_)
      refine lv_iconst (v := 1) hx hb dX8_fifth_74 (by decide) ?_
      refine lv_icmp_le (tgt := 88) hx hb dX8_fifth_75 (by decide) (fun c9 => ?_) (fun c9 => ?_)
      · have h := h.1 c9
        exact W.vret hx hb hr (fun t ht hW => hQ m_end t h (by rw [ht]; exact hP) (va_K.moved hW.alike hK) hD (hS.F ht)) hS.2.2 dX8_fifth_88
      · have h := h.2 c9
        refine lv_aload_n hx hb dX8_fifth_78 rfl (lv_at hl 0 rfl) ?_
        refine lv_dup hx hb dX8_fifth_79 rfl ?_
        refine va_get (D := (dC, dI)) (ci := 7) (v := .int m_end) (C := RX8) (T := TX8) (N := 26) hx hb hts inX8 hown hK hP 0 rfl rfl 25 (by decide) (hts (.fieldLink RX8 312 "MailWordsModel" "end" "I") (List.mem_of_getElem? (i := 2) rfl)) (fun _ h9 => h9) rfl dX8_fifth_80 ?_
        refine lv_iconst (v := 1) hx hb dX8_fifth_83 (by decide) ?_
        refine lv_isub hx hb dX8_fifth_84 ?_
        refine lv_topi (fun m_end_3 em_end_3 => ?_)
        have h := h m_end_3 em_end_3
        refine va_put (D := (dC, dI)) (ci := 7) (v := .int m_end_3) (ty := .int) (C := RX8) (T := TX8) (N := 26) hx hb hts inX8 tyX8 tyX8_ok nmX8 hown hK hP hD hS 0 rfl rfl 25 (by decide) (hts (.fieldLink RX8 312 "MailWordsModel" "end" "I") (List.mem_of_getElem? (i := 2) rfl)) (fun _ h9 => h9) rfl (tyX8_ok 25 (by decide)) rfl rfl (Nat.le_of_ble_eq_true rfl) dX8_fifth_85 (fun H locs hP hD hS => ?_)
        have hP : va_P (dC, dI) vwCl (mW ad cI cZ m_thrown m_size m_outLong m_lines m_toldLines m_tokens m_places m_p m_pre m_end_3 m_text m_out m_lineAt m_lineLong m_depth m_signed m_led m_told m_place m_begin m_tokenLong m_stemLong m_address m_letters m_stems m_s) H := hP
        have hD : va_D A (mW ad cI cZ m_thrown m_size m_outLong m_lines m_toldLines m_tokens m_places m_p m_pre m_end_3 m_text m_out m_lineAt m_lineLong m_depth m_signed m_led m_told m_place m_begin m_tokenLong m_stemLong m_address m_letters m_stems m_s) := hD
        exact W.vret hx hb hr (fun t ht hW => hQ m_end_3 t h (by rw [ht]; exact hP) (va_K.moved hW.alike hK) hD (hS.F ht)) hS.2.2 dX8_fifth_88
  have J44 : ∀ (m_end : Int32) (H : Heap) (locs : List Loc) (ls : Array Slot), lv_has ls 2 [(0, .ref (ad 0))] → va_P (dC, dI) vwCl (mW ad cI cZ m_thrown m_size m_outLong m_lines m_toldLines m_tokens m_places m_p m_pre m_end m_text m_out m_lineAt m_lineLong m_depth m_signed m_led m_told m_place m_begin m_tokenLong m_stemLong m_address m_letters m_stems m_s) H → va_D A (mW ad cI cZ m_thrown m_size m_outLong m_lines m_toldLines m_tokens m_places m_p m_pre m_end m_text m_out m_lineAt m_lineLong m_depth m_signed m_led m_told m_place m_begin m_tokenLong m_stemLong m_address m_letters m_stems m_s) → va_S A s.heap H locs → wjX8_fifth_44 post m_s m_end → W p l e (headSpec wsX8_fifth ({ frames := 3, cells := 0, slots := 0, locals := 69 })).room s m ([.ref (ad 0)] : List Value).toArray below meth c H locs 0 0 (MQ below Qc ([.ref (ad 0)] : List Value).toArray s 0 0 A) (F0 m 44 ls []) := by
    intro m_end H locs ls hl hP hD hS h
    delta wjX8_fifth_44 at h
    refine lv_aload_n hx hb dX8_fifth_44 rfl (lv_at hl 0 rfl) ?_
    refine lv_dup hx hb dX8_fifth_45 rfl ?_
    refine va_get (D := (dC, dI)) (ci := 7) (v := .int m_end) (C := RX8) (T := TX8) (N := 26) hx hb hts inX8 hown hK hP 0 rfl rfl 25 (by decide) (hts (.fieldLink RX8 312 "MailWordsModel" "end" "I") (List.mem_of_getElem? (i := 2) rfl)) (fun _ h9 => h9) rfl dX8_fifth_46 ?_
    refine lv_iconst (v := 1) hx hb dX8_fifth_49 (by decide) ?_
    refine lv_isub hx hb dX8_fifth_50 ?_
    refine lv_topi (fun m_end_4 em_end_4 => ?_)
    have h := h m_end_4 em_end_4
    refine va_put (D := (dC, dI)) (ci := 7) (v := .int m_end_4) (ty := .int) (C := RX8) (T := TX8) (N := 26) hx hb hts inX8 tyX8 tyX8_ok nmX8 hown hK hP hD hS 0 rfl rfl 25 (by decide) (hts (.fieldLink RX8 312 "MailWordsModel" "end" "I") (List.mem_of_getElem? (i := 2) rfl)) (fun _ h9 => h9) rfl (tyX8_ok 25 (by decide)) rfl rfl (Nat.le_of_ble_eq_true rfl) dX8_fifth_51 (fun H locs hP hD hS => ?_)
    have hP : va_P (dC, dI) vwCl (mW ad cI cZ m_thrown m_size m_outLong m_lines m_toldLines m_tokens m_places m_p m_pre m_end_4 m_text m_out m_lineAt m_lineLong m_depth m_signed m_led m_told m_place m_begin m_tokenLong m_stemLong m_address m_letters m_stems m_s) H := hP
    have hD : va_D A (mW ad cI cZ m_thrown m_size m_outLong m_lines m_toldLines m_tokens m_places m_p m_pre m_end_4 m_text m_out m_lineAt m_lineLong m_depth m_signed m_led m_told m_place m_begin m_tokenLong m_stemLong m_address m_letters m_stems m_s) := hD
    exact J54 m_end_4 H locs ls (lv_sub hl [0] rfl) hP hD hS h
  intro H locs hP hD hS
  delta wpX8_fifth at h
  refine lv_aload_n hx hb dX8_fifth_0 rfl (lv_at hl 0 rfl) ?_
  refine lv_ldc2 (v := 101) hx hb hown (hts (.constantLong RX8 352 (101)) (List.mem_of_getElem? (i := 1) rfl)) dX8_fifth_1 ?_
  refine xc_vi (As := [.long 101]) (rest := []) xG Fx (sX8_has l dC dI ad cI cZ sa sv m_thrown m_size m_outLong m_lines m_toldLines m_tokens m_places m_p m_pre m_end m_text m_out m_lineAt m_lineLong m_depth m_signed m_led m_told m_place m_begin m_tokenLong m_stemLong m_address m_letters m_stems m_s 101 h) (cwV 1 hts gX8_fifth_X8_has rfl rfl rfl hdX8_has ⟨Nat.le_of_ble_eq_true rfl, Nat.le_of_ble_eq_true rfl⟩) (va_recv hK hP (ci := 7) (q0 := 0) rfl rfl) hK hP hD hS hA hI rfl hl.1 rfl (Nat.le_of_ble_eq_true rfl) dX8_fifth_4 ⟨Nat.zero_le _, Nat.zero_le _⟩ (fun r_5 u H locs h hP hD hS => ?_)
  refine lv_if_eq (tgt := 54) hx hb dX8_fifth_7 (by decide) (fun c9 => ?_) (fun c9 => ?_)
  · have h := h.1 c9
    exact J54 m_end H locs ls (lv_sub hl [0] rfl) hP hD hS h
  · have h := h.2 c9
    refine lv_aload_n hx hb dX8_fifth_10 rfl (lv_at hl 0 rfl) ?_
    refine lv_aload_n hx hb dX8_fifth_11 rfl (lv_at hl 0 rfl) ?_
    refine va_get (D := (dC, dI)) (ci := 7) (v := .int m_end) (C := RX8) (T := TX8) (N := 26) hx hb hts inX8 hown hK hP 0 rfl rfl 25 (by decide) (hts (.fieldLink RX8 312 "MailWordsModel" "end" "I") (List.mem_of_getElem? (i := 2) rfl)) (fun _ h9 => h9) rfl dX8_fifth_12 ?_
    refine lv_iconst (v := 1) hx hb dX8_fifth_15 (by decide) ?_
    refine lv_isub hx hb dX8_fifth_16 ?_
    refine xc_vi (As := [.int (m_end - 1)]) (rest := []) xG Fx (sX8_measure l dC dI ad cI cZ sa sv m_thrown m_size m_outLong m_lines m_toldLines m_tokens m_places m_p m_pre m_end m_text m_out m_lineAt m_lineLong m_depth m_signed m_led m_told m_place m_begin m_tokenLong m_stemLong m_address m_letters m_stems m_s (m_end - 1) h) (cwV 1 hts gX8_fifth_X8_measure rfl rfl rfl hdX8_measure ⟨Nat.le_of_ble_eq_true rfl, Nat.le_of_ble_eq_true rfl⟩) (va_recv hK hP (ci := 7) (q0 := 0) rfl rfl) hK hP hD hS hA hI rfl hl.1 rfl (Nat.le_of_ble_eq_true rfl) dX8_fifth_17 ⟨Nat.zero_le _, Nat.zero_le _⟩ (fun r_6 u H locs h hP hD hS => ?_)
    refine lv_istore_n (lv' := [(1, .int r_6), (0, .ref (ad 0))]) hx hb dX8_fifth_20 rfl hl (by decide) rfl (fun ls hl => ?_)
    refine lv_iload_n hx hb dX8_fifth_21 rfl (lv_at hl 0 rfl) ?_
    refine lv_iconst (v := 1) hx hb dX8_fifth_22 (by decide) ?_
    refine lv_icmp_gt (tgt := 44) hx hb dX8_fifth_23 (by decide) (fun c9 => ?_) (fun c9 => ?_)
    · have h := h.1 c9
      exact J44 m_end H locs ls (lv_sub hl [1] rfl) hP hD hS h
    · have h := h.2 c9
      refine lv_iload_n hx hb dX8_fifth_26 rfl (lv_at hl 0 rfl) ?_
      refine lv_iconst (v := 1) hx hb dX8_fifth_27 (by decide) ?_
      refine lv_icmp_ne (tgt := 54) hx hb dX8_fifth_28 (by decide) (fun c9 => ?_) (fun c9 => ?_)
      · have h := h.1 c9
        exact J54 m_end H locs ls (lv_sub hl [1] rfl) hP hD hS h
      · have h := h.2 c9
        refine lv_aload_n hx hb dX8_fifth_31 rfl (lv_at hl 1 rfl) ?_
        refine lv_aload_n hx hb dX8_fifth_32 rfl (lv_at hl 1 rfl) ?_
        refine va_get (D := (dC, dI)) (ci := 7) (v := .int m_end) (C := RX8) (T := TX8) (N := 26) hx hb hts inX8 hown hK hP 0 rfl rfl 25 (by decide) (hts (.fieldLink RX8 312 "MailWordsModel" "end" "I") (List.mem_of_getElem? (i := 2) rfl)) (fun _ h9 => h9) rfl dX8_fifth_33 ?_
        refine lv_iconst (v := 1) hx hb dX8_fifth_36 (by decide) ?_
        refine lv_isub hx hb dX8_fifth_37 ?_
        refine xc_vi (As := [.int (m_end - 1)]) (rest := []) xG Fx (sX8_cvc l dC dI ad cI cZ sa sv m_thrown m_size m_outLong m_lines m_toldLines m_tokens m_places m_p m_pre m_end m_text m_out m_lineAt m_lineLong m_depth m_signed m_led m_told m_place m_begin m_tokenLong m_stemLong m_address m_letters m_stems m_s (m_end - 1) h) (cwV 1 hts gX8_fifth_X8_cvc rfl rfl rfl hdX8_cvc ⟨Nat.le_of_ble_eq_true rfl, Nat.le_of_ble_eq_true rfl⟩) (va_recv hK hP (ci := 7) (q0 := 0) rfl rfl) hK hP hD hS hA hI rfl hl.1 rfl (Nat.le_of_ble_eq_true rfl) dX8_fifth_38 ⟨Nat.zero_le _, Nat.zero_le _⟩ (fun r_7 u H locs h hP hD hS => ?_)
        refine lv_if_ne (tgt := 54) hx hb dX8_fifth_41 (by decide) (fun c9 => ?_) (fun c9 => ?_)
        · have h := h.1 c9
          exact J54 m_end H locs ls (lv_sub hl [1] rfl) hP hD hS h
        · have h := h.2 c9
          exact J44 m_end H locs ls (lv_sub hl [1] rfl) hP hD hS h
set_option maxHeartbeats 4000000 in
set_option maxRecDepth 100000 in
theorem sX8_stem (l : Launch) (dC : Nat → ClassId) (dI : Nat → Nat → Nat) (ad : Nat → Nat) (cI cZ : ClassId) (sa sv : Nat → Nat) (m_thrown : Int32) (m_size : Int32) (m_outLong : Int32) (m_lines : Int32) (m_toldLines : Int32) (m_tokens : Int32) (m_places : Int32) (m_p : Int32) (m_pre : Int32) (m_end : Int32) (m_text : Nat → Int32) (m_out : Nat → Int32) (m_lineAt : Nat → Int32) (m_lineLong : Nat → Int32) (m_depth : Nat → Int32) (m_signed : Nat → Int32) (m_led : Nat → Int32) (m_told : Nat → Int32) (m_place : Nat → Int32) (m_begin : Nat → Int32) (m_tokenLong : Nat → Int32) (m_stemLong : Nat → Int32) (m_address : Nat → Int32) (m_letters : Nat → Int32) (m_stems : Nat → Int32) (m_s : Nat → Int32) (x1 : Int32) {post : Int32 → (Nat → Int32) → (Nat → Int32) → (Nat → Int32) → Prop} (h : wpX8_stem post m_end m_tokenLong m_stemLong m_letters m_stems m_s x1) : xMv l (dC, dI) vwCl [(cI, .int), (cZ, .boolean)] (sI sa sv) yX8_stem wsX8_stem ({ frames := 5, cells := 0, slots := 0, locals := 115 }) (mW ad cI cZ m_thrown m_size m_outLong m_lines m_toldLines m_tokens m_places m_p m_pre m_end m_text m_out m_lineAt m_lineLong m_depth m_signed m_led m_told m_place m_begin m_tokenLong m_stemLong m_address m_letters m_stems m_s) [.ref (ad 0), .int x1] (fun u : Int32 × (Nat → Int32) × (Nat → Int32) × (Nat → Int32) => post u.1 u.2.1 u.2.2.1 u.2.2.2) (fun u : Int32 × (Nat → Int32) × (Nat → Int32) × (Nat → Int32) => (mW ad cI cZ m_thrown m_size m_outLong m_lines m_toldLines m_tokens m_places m_p m_pre u.1 m_text m_out m_lineAt m_lineLong m_depth m_signed m_led m_told m_place m_begin m_tokenLong u.2.1 m_address m_letters u.2.2.1 u.2.2.2)) := by
  intro sz
  refine Met.ofW (cc := cX8_stem) (maxL := 3) (ret := none) (by decide) rfl ?_
  intro p e s m args below meth c s₁ B hml hv
  obtain ⟨rfl, hsz, hP, hK, hD0, hI⟩ := hv
  have hx := B.exec
  have hb := B.bytes
  have hr := B.returns
  have hts := atoms_spec (ws := wsX8_stem) B.pre
  have hown : s.vm.findClass RX8 = some m.cls := findClass_of_methodNamed B.named
  have hlocks := B.notSynchronized
  subst hsz
  have hD := hD0.self (sz := s.heap.size)
  generalize hAe : va_A (mW ad cI cZ m_thrown m_size m_outLong m_lines m_toldLines m_tokens m_places m_p m_pre m_end m_text m_out m_lineAt m_lineLong m_depth m_signed m_led m_told m_place m_begin m_tokenLong m_stemLong m_address m_letters m_stems m_s) s.heap.size = A at hD hI ⊢
  have hA : ∀ q : Nat, s.heap.size ≤ q → A q := fun q h => by rw [← hAe]; exact Or.inr h
  have hS : va_S A s.heap s.heap [] := va_S.rf
  have Fx : CallFix p m c cX8_stem 3 s ([.ref (ad 0), .int x1] : List Value).toArray wsX8_stem RX8 := ⟨hx, hb, hml, hown, hts⟩
  have hQ : ∀ (u : Int32 × (Nat → Int32) × (Nat → Int32) × (Nat → Int32)) (t : State), (fun u : Int32 × (Nat → Int32) × (Nat → Int32) × (Nat → Int32) => post u.1 u.2.1 u.2.2.1 u.2.2.2) u → va_P (dC, dI) vwCl ((fun u : Int32 × (Nat → Int32) × (Nat → Int32) × (Nat → Int32) => (mW ad cI cZ m_thrown m_size m_outLong m_lines m_toldLines m_tokens m_places m_p m_pre u.1 m_text m_out m_lineAt m_lineLong m_depth m_signed m_led m_told m_place m_begin m_tokenLong u.2.1 m_address m_letters u.2.2.1 u.2.2.2)) u) t.heap → va_K (dC, dI) vwCl [(cI, .int), (cZ, .boolean)] t → va_D A ((fun u : Int32 × (Nat → Int32) × (Nat → Int32) × (Nat → Int32) => (mW ad cI cZ m_thrown m_size m_outLong m_lines m_toldLines m_tokens m_places m_p m_pre u.1 m_text m_out m_lineAt m_lineLong m_depth m_signed m_led m_told m_place m_begin m_tokenLong u.2.1 m_address m_letters u.2.2.1 u.2.2.2)) u) → va_F A s t → (va_Qv (fun u : Int32 × (Nat → Int32) × (Nat → Int32) × (Nat → Int32) => post u.1 u.2.1 u.2.2.1 u.2.2.2) (xB (dC, dI) vwCl [(cI, .int), (cZ, .boolean)] A (fun u : Int32 × (Nat → Int32) × (Nat → Int32) × (Nat → Int32) => (mW ad cI cZ m_thrown m_size m_outLong m_lines m_toldLines m_tokens m_places m_p m_pre u.1 m_text m_out m_lineAt m_lineLong m_depth m_signed m_led m_told m_place m_begin m_tokenLong u.2.1 m_address m_letters u.2.2.1 u.2.2.2))) A) ([.ref (ad 0), .int x1] : List Value).toArray s (.returned none) t := fun u t h1 h2 h3 h4 h5 => ⟨⟨u, rfl, h1, h2, h3, h4⟩, h5⟩
  generalize (va_Qv (fun u : Int32 × (Nat → Int32) × (Nat → Int32) × (Nat → Int32) => post u.1 u.2.1 u.2.2.1 u.2.2.2) (xB (dC, dI) vwCl [(cI, .int), (cZ, .boolean)] A (fun u : Int32 × (Nat → Int32) × (Nat → Int32) × (Nat → Int32) => (mW ad cI cZ m_thrown m_size m_outLong m_lines m_toldLines m_tokens m_places m_p m_pre u.1 m_text m_out m_lineAt m_lineLong m_depth m_signed m_led m_told m_place m_begin m_tokenLong u.2.1 m_address m_letters u.2.2.1 u.2.2.2))) A) = Qc at hQ ⊢
  have hl := lv_entry ([.ref (ad 0), .int x1]) (n := 3) (Nat.le_of_ble_eq_true rfl)
  rw [lg_entry_eq]
  generalize (lg_sl ([.ref (ad 0), .int x1]) ++ List.replicate (3 - (lg_sl ([.ref (ad 0), .int x1])).length) Slot.unset).toArray = ls at hl ⊢
  have hl : lv_has ls 3 [(0, .ref (ad 0)), (1, .int x1)] := hl
  refine (fun (key : ∀ (H : Heap) (locs : List Loc), va_P (dC, dI) vwCl (mW ad cI cZ m_thrown m_size m_outLong m_lines m_toldLines m_tokens m_places m_p m_pre m_end m_text m_out m_lineAt m_lineLong m_depth m_signed m_led m_told m_place m_begin m_tokenLong m_stemLong m_address m_letters m_stems m_s) H → va_D A (mW ad cI cZ m_thrown m_size m_outLong m_lines m_toldLines m_tokens m_places m_p m_pre m_end m_text m_out m_lineAt m_lineLong m_depth m_signed m_led m_told m_place m_begin m_tokenLong m_stemLong m_address m_letters m_stems m_s) → va_S A s.heap H locs → W p l e (headSpec wsX8_stem ({ frames := 5, cells := 0, slots := 0, locals := 115 })).room s m ([.ref (ad 0), .int x1] : List Value).toArray below meth c H locs 0 0 (MQ below Qc ([.ref (ad 0), .int x1] : List Value).toArray s 0 0 A) (F0 m 0 ls [])) => key _ _ hP hD hS) ?_
  have inX8 : ∀ w ∈ wsX80, w ∈ wsX8_stem := (fun _ h9 => List.mem_cons_of_mem _ (List.mem_append_right _ h9))
  have L65 : ∀ (m_end : Int32) (m_stemLong : Nat → Int32) (m_s : Nat → Int32) (n : Nat) (m_stems : Nat → Int32) (x2 : Int32) (H : Heap) (locs : List Loc) (ls : Array Slot), lv_has ls 3 [(0, .ref (ad 0)), (1, .int x1), (2, .int x2)] → va_P (dC, dI) vwCl (mW ad cI cZ m_thrown m_size m_outLong m_lines m_toldLines m_tokens m_places m_p m_pre m_end m_text m_out m_lineAt m_lineLong m_depth m_signed m_led m_told m_place m_begin m_tokenLong m_stemLong m_address m_letters m_stems m_s) H → va_D A (mW ad cI cZ m_thrown m_size m_outLong m_lines m_toldLines m_tokens m_places m_p m_pre m_end m_text m_out m_lineAt m_lineLong m_depth m_signed m_led m_told m_place m_begin m_tokenLong m_stemLong m_address m_letters m_stems m_s) → va_S A s.heap H locs → wlX8_stem_65 post m_tokenLong m_letters x1 m_end m_stemLong m_s n m_stems x2 → W p l e (headSpec wsX8_stem ({ frames := 5, cells := 0, slots := 0, locals := 115 })).room s m ([.ref (ad 0), .int x1] : List Value).toArray below meth c H locs 0 0 (MQ below Qc ([.ref (ad 0), .int x1] : List Value).toArray s 0 0 A) (F0 m 65 ls []) := by
    intro m_end m_stemLong m_s
    intro n
    induction n with
    | zero => intro m_stems x2 H locs ls _ _ _ _ h; exact absurd h (fun z => z)
    | succ n65 ih65 =>
      intro m_stems x2 H locs ls hl hP hD hS h
      rw [wlX8_stem_65] at h
      refine lv_iload_n hx hb dX8_stem_65 rfl (lv_at hl 2 rfl) ?_
      refine lv_aload_n hx hb dX8_stem_66 rfl (lv_at hl 0 rfl) ?_
      refine va_get (D := (dC, dI)) (ci := 7) (v := .int m_end) (C := RX8) (T := TX8) (N := 26) hx hb hts inX8 hown hK hP 0 rfl rfl 25 (by decide) (hts (.fieldLink RX8 312 "MailWordsModel" "end" "I") (List.mem_of_getElem? (i := 2) rfl)) (fun _ h9 => h9) rfl dX8_stem_67 ?_
      refine lv_icmp_ge (tgt := 96) hx hb dX8_stem_70 (by decide) (fun c9 => ?_) (fun c9 => ?_)
      · have h := h.1 c9
        refine lv_aload_n hx hb dX8_stem_96 rfl (lv_at hl 0 rfl) ?_
        refine va_get (D := (dC, dI)) (ci := 7) (v := .ref (ad 12)) (C := RX8) (T := TX8) (N := 26) hx hb hts inX8 hown hK hP 0 rfl rfl 18 (by decide) (hts (.fieldLink RX8 44 "MailWordsModel" "stemLong" "[I") (List.mem_of_getElem? (i := 6) rfl)) (fun _ h9 => h9) rfl dX8_stem_97 ?_
        refine lv_iload_n hx hb dX8_stem_100 rfl (lv_at hl 1 rfl) ?_
        refine lv_aload_n hx hb dX8_stem_101 rfl (lv_at hl 0 rfl) ?_
        refine va_get (D := (dC, dI)) (ci := 7) (v := .int m_end) (C := RX8) (T := TX8) (N := 26) hx hb hts inX8 hown hK hP 0 rfl rfl 25 (by decide) (hts (.fieldLink RX8 312 "MailWordsModel" "end" "I") (List.mem_of_getElem? (i := 2) rfl)) (fun _ h9 => h9) rfl dX8_stem_102 ?_
        have hi9 := h.1
        have h := h.2
        refine va_iast hx hb hK hP hD hS 12 0 rfl rfl hi9 dX8_stem_105 (fun H locs hP hD hS => ?_)
        have hP : va_P (dC, dI) vwCl (mW ad cI cZ m_thrown m_size m_outLong m_lines m_toldLines m_tokens m_places m_p m_pre m_end m_text m_out m_lineAt m_lineLong m_depth m_signed m_led m_told m_place m_begin m_tokenLong (upd m_stemLong x1.toNatClampNeg m_end) m_address m_letters m_stems m_s) H := hP
        have hD : va_D A (mW ad cI cZ m_thrown m_size m_outLong m_lines m_toldLines m_tokens m_places m_p m_pre m_end m_text m_out m_lineAt m_lineLong m_depth m_signed m_led m_told m_place m_begin m_tokenLong (upd m_stemLong x1.toNatClampNeg m_end) m_address m_letters m_stems m_s) := hD
        exact W.vret hx hb hr (fun t ht hW => hQ (m_end, (upd m_stemLong x1.toNatClampNeg m_end), m_stems, m_s) t h (by rw [ht]; exact hP) (va_K.moved hW.alike hK) hD (hS.F ht)) hS.2.2 dX8_stem_106
      · have h := h.2 c9
        refine lv_aload_n hx hb dX8_stem_73 rfl (lv_at hl 0 rfl) ?_
        refine va_get (D := (dC, dI)) (ci := 7) (v := .ref (ad 15)) (C := RX8) (T := TX8) (N := 26) hx hb hts inX8 hown hK hP 0 rfl rfl 21 (by decide) (hts (.fieldLink RX8 54 "MailWordsModel" "stems" "[I") (List.mem_of_getElem? (i := 5) rfl)) (fun _ h9 => h9) rfl dX8_stem_74 ?_
        refine lv_bipush (v := 30) hx hb dX8_stem_77 (by decide) ?_
        refine lv_iload_n hx hb dX8_stem_79 rfl (lv_at hl 1 rfl) ?_
        refine lv_imul hx hb dX8_stem_80 ?_
        refine lv_iload_n hx hb dX8_stem_81 rfl (lv_at hl 2 rfl) ?_
        refine lv_iadd hx hb dX8_stem_82 ?_
        refine lv_aload_n hx hb dX8_stem_83 rfl (lv_at hl 0 rfl) ?_
        refine va_get (D := (dC, dI)) (ci := 7) (v := .ref (ad 16)) (C := RX8) (T := TX8) (N := 26) hx hb hts inX8 hown hK hP 0 rfl rfl 24 (by decide) (hts (.fieldLink RX8 57 "MailWordsModel" "s" "[I") (List.mem_of_getElem? (i := 3) rfl)) (fun _ h9 => h9) rfl dX8_stem_84 ?_
        refine lv_iload_n hx hb dX8_stem_87 rfl (lv_at hl 2 rfl) ?_
        have hi9 := h.1
        have h := h.2
        refine va_iald hx hb hK hP 16 0 rfl rfl hi9 dX8_stem_88 ?_
        have hi9 := h.1
        have h := h.2
        refine va_iast hx hb hK hP hD hS 15 0 rfl rfl hi9 dX8_stem_89 (fun H locs hP hD hS => ?_)
        have hP : va_P (dC, dI) vwCl (mW ad cI cZ m_thrown m_size m_outLong m_lines m_toldLines m_tokens m_places m_p m_pre m_end m_text m_out m_lineAt m_lineLong m_depth m_signed m_led m_told m_place m_begin m_tokenLong m_stemLong m_address m_letters (upd m_stems (((30 * x1) + x2) : Int32).toNatClampNeg (m_s x2.toNatClampNeg)) m_s) H := hP
        have hD : va_D A (mW ad cI cZ m_thrown m_size m_outLong m_lines m_toldLines m_tokens m_places m_p m_pre m_end m_text m_out m_lineAt m_lineLong m_depth m_signed m_led m_told m_place m_begin m_tokenLong m_stemLong m_address m_letters (upd m_stems (((30 * x1) + x2) : Int32).toNatClampNeg (m_s x2.toNatClampNeg)) m_s) := hD
        obtain ⟨x2_1, ex2_1⟩ : ∃ y : Int32, y = x2 + 1 := ⟨_, rfl⟩
        have h := h x2_1 ex2_1
        refine lv_iinc (v := x2_1) (lv' := [(2, .int x2_1), (0, .ref (ad 0)), (1, .int x1)]) hx hb dX8_stem_90 hl (k := 2) rfl (by rw [ex2_1]; rfl) (by decide) rfl (fun ls hl => ?_)
        refine lv_goto (tgt := 65) hx hb dX8_stem_93 (by decide) ?_
        exact ih65 (upd m_stems (((30 * x1) + x2) : Int32).toNatClampNeg (m_s x2.toNatClampNeg)) x2_1 H locs ls (lv_sub hl [1, 2, 0] rfl) hP hD hS h
  have L12 : ∀ (m_end : Int32) (m_stemLong : Nat → Int32) (m_stems : Nat → Int32) (n : Nat) (m_s : Nat → Int32) (x2 : Int32) (H : Heap) (locs : List Loc) (ls : Array Slot), lv_has ls 3 [(0, .ref (ad 0)), (1, .int x1), (2, .int x2)] → va_P (dC, dI) vwCl (mW ad cI cZ m_thrown m_size m_outLong m_lines m_toldLines m_tokens m_places m_p m_pre m_end m_text m_out m_lineAt m_lineLong m_depth m_signed m_led m_told m_place m_begin m_tokenLong m_stemLong m_address m_letters m_stems m_s) H → va_D A (mW ad cI cZ m_thrown m_size m_outLong m_lines m_toldLines m_tokens m_places m_p m_pre m_end m_text m_out m_lineAt m_lineLong m_depth m_signed m_led m_told m_place m_begin m_tokenLong m_stemLong m_address m_letters m_stems m_s) → va_S A s.heap H locs → wlX8_stem_12 post m_tokenLong m_letters x1 m_end m_stemLong m_stems n m_s x2 → W p l e (headSpec wsX8_stem ({ frames := 5, cells := 0, slots := 0, locals := 115 })).room s m ([.ref (ad 0), .int x1] : List Value).toArray below meth c H locs 0 0 (MQ below Qc ([.ref (ad 0), .int x1] : List Value).toArray s 0 0 A) (F0 m 12 ls []) := by
    intro m_end m_stemLong m_stems
    intro n
    induction n with
    | zero => intro m_s x2 H locs ls _ _ _ _ h; exact absurd h (fun z => z)
    | succ n12 ih12 =>
      intro m_s x2 H locs ls hl hP hD hS h
      rw [wlX8_stem_12] at h
      refine lv_iload_n hx hb dX8_stem_12 rfl (lv_at hl 2 rfl) ?_
      refine lv_aload_n hx hb dX8_stem_13 rfl (lv_at hl 0 rfl) ?_
      refine va_get (D := (dC, dI)) (ci := 7) (v := .int m_end) (C := RX8) (T := TX8) (N := 26) hx hb hts inX8 hown hK hP 0 rfl rfl 25 (by decide) (hts (.fieldLink RX8 312 "MailWordsModel" "end" "I") (List.mem_of_getElem? (i := 2) rfl)) (fun _ h9 => h9) rfl dX8_stem_14 ?_
      refine lv_icmp_ge (tgt := 43) hx hb dX8_stem_17 (by decide) (fun c9 => ?_) (fun c9 => ?_)
      · have h := h.1 c9
        refine lv_aload_n hx hb dX8_stem_43 rfl (lv_at hl 0 rfl) ?_
        refine xc_vv (As := []) (rest := []) xG Fx (sX8_first l dC dI ad cI cZ sa sv m_thrown m_size m_outLong m_lines m_toldLines m_tokens m_places m_p m_pre m_end m_text m_out m_lineAt m_lineLong m_depth m_signed m_led m_told m_place m_begin m_tokenLong m_stemLong m_address m_letters m_stems m_s h) (cwV 0 hts gX8_stem_X8_first rfl rfl rfl hdX8_first ⟨Nat.le_of_ble_eq_true rfl, Nat.le_of_ble_eq_true rfl⟩) (va_recv hK hP (ci := 7) (q0 := 0) rfl rfl) hK hP hD hS hA hI rfl hl.1 rfl (Nat.le_of_ble_eq_true rfl) dX8_stem_44 ⟨Nat.zero_le _, Nat.zero_le _⟩ (fun u H locs h hP hD hS => ?_)
        obtain ⟨m_end_3, m_s_4⟩ := u
        have hP : va_P (dC, dI) vwCl (mW ad cI cZ m_thrown m_size m_outLong m_lines m_toldLines m_tokens m_places m_p m_pre m_end_3 m_text m_out m_lineAt m_lineLong m_depth m_signed m_led m_told m_place m_begin m_tokenLong m_stemLong m_address m_letters m_stems m_s_4) H := hP
        have hD : va_D A (mW ad cI cZ m_thrown m_size m_outLong m_lines m_toldLines m_tokens m_places m_p m_pre m_end_3 m_text m_out m_lineAt m_lineLong m_depth m_signed m_led m_told m_place m_begin m_tokenLong m_stemLong m_address m_letters m_stems m_s_4) := hD
        refine lv_aload_n hx hb dX8_stem_47 rfl (lv_at hl 0 rfl) ?_
        refine xc_vv (As := []) (rest := []) xG Fx (sX8_second l dC dI ad cI cZ sa sv m_thrown m_size m_outLong m_lines m_toldLines m_tokens m_places m_p m_pre m_end_3 m_text m_out m_lineAt m_lineLong m_depth m_signed m_led m_told m_place m_begin m_tokenLong m_stemLong m_address m_letters m_stems m_s_4 h) (cwV 0 hts gX8_stem_X8_second rfl rfl rfl hdX8_second ⟨Nat.le_of_ble_eq_true rfl, Nat.le_of_ble_eq_true rfl⟩) (va_recv hK hP (ci := 7) (q0 := 0) rfl rfl) hK hP hD hS hA hI rfl hl.1 rfl (Nat.le_of_ble_eq_true rfl) dX8_stem_48 ⟨Nat.zero_le _, Nat.zero_le _⟩ (fun u H locs h hP hD hS => ?_)
        obtain ⟨m_end_6, m_s_7⟩ := u
        have hP : va_P (dC, dI) vwCl (mW ad cI cZ m_thrown m_size m_outLong m_lines m_toldLines m_tokens m_places m_p m_pre m_end_6 m_text m_out m_lineAt m_lineLong m_depth m_signed m_led m_told m_place m_begin m_tokenLong m_stemLong m_address m_letters m_stems m_s_7) H := hP
        have hD : va_D A (mW ad cI cZ m_thrown m_size m_outLong m_lines m_toldLines m_tokens m_places m_p m_pre m_end_6 m_text m_out m_lineAt m_lineLong m_depth m_signed m_led m_told m_place m_begin m_tokenLong m_stemLong m_address m_letters m_stems m_s_7) := hD
        refine lv_aload_n hx hb dX8_stem_51 rfl (lv_at hl 0 rfl) ?_
        refine xc_vv (As := []) (rest := []) xG Fx (sX8_third l dC dI ad cI cZ sa sv m_thrown m_size m_outLong m_lines m_toldLines m_tokens m_places m_p m_pre m_end_6 m_text m_out m_lineAt m_lineLong m_depth m_signed m_led m_told m_place m_begin m_tokenLong m_stemLong m_address m_letters m_stems m_s_7 h) (cwV 0 hts gX8_stem_X8_third rfl rfl rfl hdX8_third ⟨Nat.le_of_ble_eq_true rfl, Nat.le_of_ble_eq_true rfl⟩) (va_recv hK hP (ci := 7) (q0 := 0) rfl rfl) hK hP hD hS hA hI rfl hl.1 rfl (Nat.le_of_ble_eq_true rfl) dX8_stem_52 ⟨Nat.zero_le _, Nat.zero_le _⟩ (fun u H locs h hP hD hS => ?_)
        obtain ⟨m_end_9, m_s_10⟩ := u
        have hP : va_P (dC, dI) vwCl (mW ad cI cZ m_thrown m_size m_outLong m_lines m_toldLines m_tokens m_places m_p m_pre m_end_9 m_text m_out m_lineAt m_lineLong m_depth m_signed m_led m_told m_place m_begin m_tokenLong m_stemLong m_address m_letters m_stems m_s_10) H := hP
        have hD : va_D A (mW ad cI cZ m_thrown m_size m_outLong m_lines m_toldLines m_tokens m_places m_p m_pre m_end_9 m_text m_out m_lineAt m_lineLong m_depth m_signed m_led m_told m_place m_begin m_tokenLong m_stemLong m_address m_letters m_stems m_s_10) := hD
        refine lv_aload_n hx hb dX8_stem_55 rfl (lv_at hl 0 rfl) ?_
        refine xc_vv (As := []) (rest := []) xG Fx (sX8_fourth l dC dI ad cI cZ sa sv m_thrown m_size m_outLong m_lines m_toldLines m_tokens m_places m_p m_pre m_end_9 m_text m_out m_lineAt m_lineLong m_depth m_signed m_led m_told m_place m_begin m_tokenLong m_stemLong m_address m_letters m_stems m_s_10 h) (cwV 0 hts gX8_stem_X8_fourth rfl rfl rfl hdX8_fourth ⟨Nat.le_of_ble_eq_true rfl, Nat.le_of_ble_eq_true rfl⟩) (va_recv hK hP (ci := 7) (q0 := 0) rfl rfl) hK hP hD hS hA hI rfl hl.1 rfl (Nat.le_of_ble_eq_true rfl) dX8_stem_56 ⟨Nat.zero_le _, Nat.zero_le _⟩ (fun u H locs h hP hD hS => ?_)
        obtain ⟨m_end_12, m_s_13⟩ := u
        have hP : va_P (dC, dI) vwCl (mW ad cI cZ m_thrown m_size m_outLong m_lines m_toldLines m_tokens m_places m_p m_pre m_end_12 m_text m_out m_lineAt m_lineLong m_depth m_signed m_led m_told m_place m_begin m_tokenLong m_stemLong m_address m_letters m_stems m_s_13) H := hP
        have hD : va_D A (mW ad cI cZ m_thrown m_size m_outLong m_lines m_toldLines m_tokens m_places m_p m_pre m_end_12 m_text m_out m_lineAt m_lineLong m_depth m_signed m_led m_told m_place m_begin m_tokenLong m_stemLong m_address m_letters m_stems m_s_13) := hD
        refine lv_aload_n hx hb dX8_stem_59 rfl (lv_at hl 0 rfl) ?_
        refine xc_vv (As := []) (rest := []) xG Fx (sX8_fifth l dC dI ad cI cZ sa sv m_thrown m_size m_outLong m_lines m_toldLines m_tokens m_places m_p m_pre m_end_12 m_text m_out m_lineAt m_lineLong m_depth m_signed m_led m_told m_place m_begin m_tokenLong m_stemLong m_address m_letters m_stems m_s_13 h) (cwV 0 hts gX8_stem_X8_fifth rfl rfl rfl hdX8_fifth ⟨Nat.le_of_ble_eq_true rfl, Nat.le_of_ble_eq_true rfl⟩) (va_recv hK hP (ci := 7) (q0 := 0) rfl rfl) hK hP hD hS hA hI rfl hl.1 rfl (Nat.le_of_ble_eq_true rfl) dX8_stem_60 ⟨Nat.zero_le _, Nat.zero_le _⟩ (fun m_end_15 H locs h hP hD hS => ?_)
        have hP : va_P (dC, dI) vwCl (mW ad cI cZ m_thrown m_size m_outLong m_lines m_toldLines m_tokens m_places m_p m_pre m_end_15 m_text m_out m_lineAt m_lineLong m_depth m_signed m_led m_told m_place m_begin m_tokenLong m_stemLong m_address m_letters m_stems m_s_13) H := hP
        have hD : va_D A (mW ad cI cZ m_thrown m_size m_outLong m_lines m_toldLines m_tokens m_places m_p m_pre m_end_15 m_text m_out m_lineAt m_lineLong m_depth m_signed m_led m_told m_place m_begin m_tokenLong m_stemLong m_address m_letters m_stems m_s_13) := hD
        refine lv_iconst (v := 0) hx hb dX8_stem_63 (by decide) ?_
        refine lv_istore_n (lv' := [(2, .int 0), (0, .ref (ad 0)), (1, .int x1)]) hx hb dX8_stem_64 rfl hl (by decide) rfl (fun ls hl => ?_)
        obtain ⟨n, h⟩ := h
        exact L65 m_end_15 m_stemLong m_s_13 n m_stems 0 H locs ls (lv_sub hl [1, 2, 0] rfl) hP hD hS h
      · have h := h.2 c9
        refine lv_aload_n hx hb dX8_stem_20 rfl (lv_at hl 0 rfl) ?_
        refine va_get (D := (dC, dI)) (ci := 7) (v := .ref (ad 16)) (C := RX8) (T := TX8) (N := 26) hx hb hts inX8 hown hK hP 0 rfl rfl 24 (by decide) (hts (.fieldLink RX8 57 "MailWordsModel" "s" "[I") (List.mem_of_getElem? (i := 3) rfl)) (fun _ h9 => h9) rfl dX8_stem_21 ?_
        refine lv_iload_n hx hb dX8_stem_24 rfl (lv_at hl 2 rfl) ?_
        refine lv_aload_n hx hb dX8_stem_25 rfl (lv_at hl 0 rfl) ?_
        refine va_get (D := (dC, dI)) (ci := 7) (v := .ref (ad 14)) (C := RX8) (T := TX8) (N := 26) hx hb hts inX8 hown hK hP 0 rfl rfl 20 (by decide) (hts (.fieldLink RX8 51 "MailWordsModel" "letters" "[I") (List.mem_of_getElem? (i := 4) rfl)) (fun _ h9 => h9) rfl dX8_stem_26 ?_
        refine lv_bipush (v := 30) hx hb dX8_stem_29 (by decide) ?_
        refine lv_iload_n hx hb dX8_stem_31 rfl (lv_at hl 1 rfl) ?_
        refine lv_imul hx hb dX8_stem_32 ?_
        refine lv_iload_n hx hb dX8_stem_33 rfl (lv_at hl 2 rfl) ?_
        refine lv_iadd hx hb dX8_stem_34 ?_
        have hi9 := h.1
        have h := h.2
        refine va_iald hx hb hK hP 14 0 rfl rfl hi9 dX8_stem_35 ?_
        have hi9 := h.1
        have h := h.2
        refine va_iast hx hb hK hP hD hS 16 0 rfl rfl hi9 dX8_stem_36 (fun H locs hP hD hS => ?_)
        have hP : va_P (dC, dI) vwCl (mW ad cI cZ m_thrown m_size m_outLong m_lines m_toldLines m_tokens m_places m_p m_pre m_end m_text m_out m_lineAt m_lineLong m_depth m_signed m_led m_told m_place m_begin m_tokenLong m_stemLong m_address m_letters m_stems (upd m_s x2.toNatClampNeg (m_letters (((30 * x1) + x2) : Int32).toNatClampNeg))) H := hP
        have hD : va_D A (mW ad cI cZ m_thrown m_size m_outLong m_lines m_toldLines m_tokens m_places m_p m_pre m_end m_text m_out m_lineAt m_lineLong m_depth m_signed m_led m_told m_place m_begin m_tokenLong m_stemLong m_address m_letters m_stems (upd m_s x2.toNatClampNeg (m_letters (((30 * x1) + x2) : Int32).toNatClampNeg))) := hD
        obtain ⟨x2_16, ex2_16⟩ : ∃ y : Int32, y = x2 + 1 := ⟨_, rfl⟩
        have h := h x2_16 ex2_16
        refine lv_iinc (v := x2_16) (lv' := [(2, .int x2_16), (0, .ref (ad 0)), (1, .int x1)]) hx hb dX8_stem_37 hl (k := 2) rfl (by rw [ex2_16]; rfl) (by decide) rfl (fun ls hl => ?_)
        refine lv_goto (tgt := 12) hx hb dX8_stem_40 (by decide) ?_
        exact ih12 (upd m_s x2.toNatClampNeg (m_letters (((30 * x1) + x2) : Int32).toNatClampNeg)) x2_16 H locs ls (lv_sub hl [1, 2, 0] rfl) hP hD hS h
  intro H locs hP hD hS
  delta wpX8_stem at h
  refine lv_aload_n hx hb dX8_stem_0 rfl (lv_at hl 0 rfl) ?_
  refine lv_aload_n hx hb dX8_stem_1 rfl (lv_at hl 0 rfl) ?_
  refine va_get (D := (dC, dI)) (ci := 7) (v := .ref (ad 11)) (C := RX8) (T := TX8) (N := 26) hx hb hts inX8 hown hK hP 0 rfl rfl 17 (by decide) (hts (.fieldLink RX8 41 "MailWordsModel" "tokenLong" "[I") (List.mem_of_getElem? (i := 1) rfl)) (fun _ h9 => h9) rfl dX8_stem_2 ?_
  refine lv_iload_n hx hb dX8_stem_5 rfl (lv_at hl 1 rfl) ?_
  have hi9 := h.1
  have h := h.2
  refine va_iald hx hb hK hP 11 0 rfl rfl hi9 dX8_stem_6 ?_
  refine lv_topi (fun m_end_17 em_end_17 => ?_)
  have h := h m_end_17 em_end_17
  refine va_put (D := (dC, dI)) (ci := 7) (v := .int m_end_17) (ty := .int) (C := RX8) (T := TX8) (N := 26) hx hb hts inX8 tyX8 tyX8_ok nmX8 hown hK hP hD hS 0 rfl rfl 25 (by decide) (hts (.fieldLink RX8 312 "MailWordsModel" "end" "I") (List.mem_of_getElem? (i := 2) rfl)) (fun _ h9 => h9) rfl (tyX8_ok 25 (by decide)) rfl rfl (Nat.le_of_ble_eq_true rfl) dX8_stem_7 (fun H locs hP hD hS => ?_)
  have hP : va_P (dC, dI) vwCl (mW ad cI cZ m_thrown m_size m_outLong m_lines m_toldLines m_tokens m_places m_p m_pre m_end_17 m_text m_out m_lineAt m_lineLong m_depth m_signed m_led m_told m_place m_begin m_tokenLong m_stemLong m_address m_letters m_stems m_s) H := hP
  have hD : va_D A (mW ad cI cZ m_thrown m_size m_outLong m_lines m_toldLines m_tokens m_places m_p m_pre m_end_17 m_text m_out m_lineAt m_lineLong m_depth m_signed m_led m_told m_place m_begin m_tokenLong m_stemLong m_address m_letters m_stems m_s) := hD
  refine lv_iconst (v := 0) hx hb dX8_stem_10 (by decide) ?_
  refine lv_istore_n (lv' := [(2, .int 0), (0, .ref (ad 0)), (1, .int x1)]) hx hb dX8_stem_11 rfl hl (by decide) rfl (fun ls hl => ?_)
  obtain ⟨n, h⟩ := h
  exact L12 m_end_17 m_stemLong m_stems n m_s 0 H locs ls (lv_sub hl [1, 2, 0] rfl) hP hD hS h
set_option maxHeartbeats 4000000 in
set_option maxRecDepth 100000 in
theorem sX8_addToken (l : Launch) (dC : Nat → ClassId) (dI : Nat → Nat → Nat) (ad : Nat → Nat) (cI cZ : ClassId) (sa sv : Nat → Nat) (m_thrown : Int32) (m_size : Int32) (m_outLong : Int32) (m_lines : Int32) (m_toldLines : Int32) (m_tokens : Int32) (m_places : Int32) (m_p : Int32) (m_pre : Int32) (m_end : Int32) (m_text : Nat → Int32) (m_out : Nat → Int32) (m_lineAt : Nat → Int32) (m_lineLong : Nat → Int32) (m_depth : Nat → Int32) (m_signed : Nat → Int32) (m_led : Nat → Int32) (m_told : Nat → Int32) (m_place : Nat → Int32) (m_begin : Nat → Int32) (m_tokenLong : Nat → Int32) (m_stemLong : Nat → Int32) (m_address : Nat → Int32) (m_letters : Nat → Int32) (m_stems : Nat → Int32) (m_s : Nat → Int32) (x1 : Int32) (x2 : Int32) (x3 : Int32) (x4 : Int32) {post : Int32 → Int32 → (Nat → Int32) → (Nat → Int32) → (Nat → Int32) → (Nat → Int32) → (Nat → Int32) → (Nat → Int32) → (Nat → Int32) → (Nat → Int32) → Prop} (h : wpX8_addToken post m_tokens m_end m_text m_place m_begin m_tokenLong m_stemLong m_address m_letters m_stems m_s x1 x2 x3 x4) : xMv l (dC, dI) vwCl [(cI, .int), (cZ, .boolean)] (sI sa sv) yX8_addToken wsX8_addToken ({ frames := 6, cells := 0, slots := 0, locals := 137 }) (mW ad cI cZ m_thrown m_size m_outLong m_lines m_toldLines m_tokens m_places m_p m_pre m_end m_text m_out m_lineAt m_lineLong m_depth m_signed m_led m_told m_place m_begin m_tokenLong m_stemLong m_address m_letters m_stems m_s) [.ref (ad 0), .int x1, .int x2, .int x3, .int x4] (fun u : Int32 × Int32 × (Nat → Int32) × (Nat → Int32) × (Nat → Int32) × (Nat → Int32) × (Nat → Int32) × (Nat → Int32) × (Nat → Int32) × (Nat → Int32) => post u.1 u.2.1 u.2.2.1 u.2.2.2.1 u.2.2.2.2.1 u.2.2.2.2.2.1 u.2.2.2.2.2.2.1 u.2.2.2.2.2.2.2.1 u.2.2.2.2.2.2.2.2.1 u.2.2.2.2.2.2.2.2.2) (fun u : Int32 × Int32 × (Nat → Int32) × (Nat → Int32) × (Nat → Int32) × (Nat → Int32) × (Nat → Int32) × (Nat → Int32) × (Nat → Int32) × (Nat → Int32) => (mW ad cI cZ m_thrown m_size m_outLong m_lines m_toldLines u.1 m_places m_p m_pre u.2.1 m_text m_out m_lineAt m_lineLong m_depth m_signed m_led m_told u.2.2.1 u.2.2.2.1 u.2.2.2.2.1 u.2.2.2.2.2.1 u.2.2.2.2.2.2.1 u.2.2.2.2.2.2.2.1 u.2.2.2.2.2.2.2.2.1 u.2.2.2.2.2.2.2.2.2)) := by
  intro sz
  refine Met.ofW (cc := cX8_addToken) (maxL := 9) (ret := none) (by decide) rfl ?_
  intro p e s m args below meth c s₁ B hml hv
  obtain ⟨rfl, hsz, hP, hK, hD0, hI⟩ := hv
  have hx := B.exec
  have hb := B.bytes
  have hr := B.returns
  have hts := atoms_spec (ws := wsX8_addToken) B.pre
  have hown : s.vm.findClass RX8 = some m.cls := findClass_of_methodNamed B.named
  have hlocks := B.notSynchronized
  subst hsz
  have hD := hD0.self (sz := s.heap.size)
  generalize hAe : va_A (mW ad cI cZ m_thrown m_size m_outLong m_lines m_toldLines m_tokens m_places m_p m_pre m_end m_text m_out m_lineAt m_lineLong m_depth m_signed m_led m_told m_place m_begin m_tokenLong m_stemLong m_address m_letters m_stems m_s) s.heap.size = A at hD hI ⊢
  have hA : ∀ q : Nat, s.heap.size ≤ q → A q := fun q h => by rw [← hAe]; exact Or.inr h
  have hS : va_S A s.heap s.heap [] := va_S.rf
  have Fx : CallFix p m c cX8_addToken 9 s ([.ref (ad 0), .int x1, .int x2, .int x3, .int x4] : List Value).toArray wsX8_addToken RX8 := ⟨hx, hb, hml, hown, hts⟩
  have hQ : ∀ (u : Int32 × Int32 × (Nat → Int32) × (Nat → Int32) × (Nat → Int32) × (Nat → Int32) × (Nat → Int32) × (Nat → Int32) × (Nat → Int32) × (Nat → Int32)) (t : State), (fun u : Int32 × Int32 × (Nat → Int32) × (Nat → Int32) × (Nat → Int32) × (Nat → Int32) × (Nat → Int32) × (Nat → Int32) × (Nat → Int32) × (Nat → Int32) => post u.1 u.2.1 u.2.2.1 u.2.2.2.1 u.2.2.2.2.1 u.2.2.2.2.2.1 u.2.2.2.2.2.2.1 u.2.2.2.2.2.2.2.1 u.2.2.2.2.2.2.2.2.1 u.2.2.2.2.2.2.2.2.2) u → va_P (dC, dI) vwCl ((fun u : Int32 × Int32 × (Nat → Int32) × (Nat → Int32) × (Nat → Int32) × (Nat → Int32) × (Nat → Int32) × (Nat → Int32) × (Nat → Int32) × (Nat → Int32) => (mW ad cI cZ m_thrown m_size m_outLong m_lines m_toldLines u.1 m_places m_p m_pre u.2.1 m_text m_out m_lineAt m_lineLong m_depth m_signed m_led m_told u.2.2.1 u.2.2.2.1 u.2.2.2.2.1 u.2.2.2.2.2.1 u.2.2.2.2.2.2.1 u.2.2.2.2.2.2.2.1 u.2.2.2.2.2.2.2.2.1 u.2.2.2.2.2.2.2.2.2)) u) t.heap → va_K (dC, dI) vwCl [(cI, .int), (cZ, .boolean)] t → va_D A ((fun u : Int32 × Int32 × (Nat → Int32) × (Nat → Int32) × (Nat → Int32) × (Nat → Int32) × (Nat → Int32) × (Nat → Int32) × (Nat → Int32) × (Nat → Int32) => (mW ad cI cZ m_thrown m_size m_outLong m_lines m_toldLines u.1 m_places m_p m_pre u.2.1 m_text m_out m_lineAt m_lineLong m_depth m_signed m_led m_told u.2.2.1 u.2.2.2.1 u.2.2.2.2.1 u.2.2.2.2.2.1 u.2.2.2.2.2.2.1 u.2.2.2.2.2.2.2.1 u.2.2.2.2.2.2.2.2.1 u.2.2.2.2.2.2.2.2.2)) u) → va_F A s t → (va_Qv (fun u : Int32 × Int32 × (Nat → Int32) × (Nat → Int32) × (Nat → Int32) × (Nat → Int32) × (Nat → Int32) × (Nat → Int32) × (Nat → Int32) × (Nat → Int32) => post u.1 u.2.1 u.2.2.1 u.2.2.2.1 u.2.2.2.2.1 u.2.2.2.2.2.1 u.2.2.2.2.2.2.1 u.2.2.2.2.2.2.2.1 u.2.2.2.2.2.2.2.2.1 u.2.2.2.2.2.2.2.2.2) (xB (dC, dI) vwCl [(cI, .int), (cZ, .boolean)] A (fun u : Int32 × Int32 × (Nat → Int32) × (Nat → Int32) × (Nat → Int32) × (Nat → Int32) × (Nat → Int32) × (Nat → Int32) × (Nat → Int32) × (Nat → Int32) => (mW ad cI cZ m_thrown m_size m_outLong m_lines m_toldLines u.1 m_places m_p m_pre u.2.1 m_text m_out m_lineAt m_lineLong m_depth m_signed m_led m_told u.2.2.1 u.2.2.2.1 u.2.2.2.2.1 u.2.2.2.2.2.1 u.2.2.2.2.2.2.1 u.2.2.2.2.2.2.2.1 u.2.2.2.2.2.2.2.2.1 u.2.2.2.2.2.2.2.2.2))) A) ([.ref (ad 0), .int x1, .int x2, .int x3, .int x4] : List Value).toArray s (.returned none) t := fun u t h1 h2 h3 h4 h5 => ⟨⟨u, rfl, h1, h2, h3, h4⟩, h5⟩
  generalize (va_Qv (fun u : Int32 × Int32 × (Nat → Int32) × (Nat → Int32) × (Nat → Int32) × (Nat → Int32) × (Nat → Int32) × (Nat → Int32) × (Nat → Int32) × (Nat → Int32) => post u.1 u.2.1 u.2.2.1 u.2.2.2.1 u.2.2.2.2.1 u.2.2.2.2.2.1 u.2.2.2.2.2.2.1 u.2.2.2.2.2.2.2.1 u.2.2.2.2.2.2.2.2.1 u.2.2.2.2.2.2.2.2.2) (xB (dC, dI) vwCl [(cI, .int), (cZ, .boolean)] A (fun u : Int32 × Int32 × (Nat → Int32) × (Nat → Int32) × (Nat → Int32) × (Nat → Int32) × (Nat → Int32) × (Nat → Int32) × (Nat → Int32) × (Nat → Int32) => (mW ad cI cZ m_thrown m_size m_outLong m_lines m_toldLines u.1 m_places m_p m_pre u.2.1 m_text m_out m_lineAt m_lineLong m_depth m_signed m_led m_told u.2.2.1 u.2.2.2.1 u.2.2.2.2.1 u.2.2.2.2.2.1 u.2.2.2.2.2.2.1 u.2.2.2.2.2.2.2.1 u.2.2.2.2.2.2.2.2.1 u.2.2.2.2.2.2.2.2.2))) A) = Qc at hQ ⊢
  have hl := lv_entry ([.ref (ad 0), .int x1, .int x2, .int x3, .int x4]) (n := 9) (Nat.le_of_ble_eq_true rfl)
  rw [lg_entry_eq]
  generalize (lg_sl ([.ref (ad 0), .int x1, .int x2, .int x3, .int x4]) ++ List.replicate (9 - (lg_sl ([.ref (ad 0), .int x1, .int x2, .int x3, .int x4])).length) Slot.unset).toArray = ls at hl ⊢
  have hl : lv_has ls 9 [(0, .ref (ad 0)), (1, .int x1), (2, .int x2), (3, .int x3), (4, .int x4)] := hl
  refine (fun (key : ∀ (H : Heap) (locs : List Loc), va_P (dC, dI) vwCl (mW ad cI cZ m_thrown m_size m_outLong m_lines m_toldLines m_tokens m_places m_p m_pre m_end m_text m_out m_lineAt m_lineLong m_depth m_signed m_led m_told m_place m_begin m_tokenLong m_stemLong m_address m_letters m_stems m_s) H → va_D A (mW ad cI cZ m_thrown m_size m_outLong m_lines m_toldLines m_tokens m_places m_p m_pre m_end m_text m_out m_lineAt m_lineLong m_depth m_signed m_led m_told m_place m_begin m_tokenLong m_stemLong m_address m_letters m_stems m_s) → va_S A s.heap H locs → W p l e (headSpec wsX8_addToken ({ frames := 6, cells := 0, slots := 0, locals := 137 })).room s m ([.ref (ad 0), .int x1, .int x2, .int x3, .int x4] : List Value).toArray below meth c H locs 0 0 (MQ below Qc ([.ref (ad 0), .int x1, .int x2, .int x3, .int x4] : List Value).toArray s 0 0 A) (F0 m 0 ls [])) => key _ _ hP hD hS) ?_
  have inX8 : ∀ w ∈ wsX80, w ∈ wsX8_addToken := (fun _ h9 => List.mem_cons_of_mem _ (List.mem_append_right _ h9))
  have J175 : ∀ (m_tokens : Int32) (m_end : Int32) (m_place : Nat → Int32) (m_begin : Nat → Int32) (m_tokenLong : Nat → Int32) (m_stemLong : Nat → Int32) (m_address : Nat → Int32) (m_letters : Nat → Int32) (m_stems : Nat → Int32) (m_s : Nat → Int32) (H : Heap) (locs : List Loc) (ls : Array Slot), lv_has ls 9 [(0, .ref (ad 0))] → va_P (dC, dI) vwCl (mW ad cI cZ m_thrown m_size m_outLong m_lines m_toldLines m_tokens m_places m_p m_pre m_end m_text m_out m_lineAt m_lineLong m_depth m_signed m_led m_told m_place m_begin m_tokenLong m_stemLong m_address m_letters m_stems m_s) H → va_D A (mW ad cI cZ m_thrown m_size m_outLong m_lines m_toldLines m_tokens m_places m_p m_pre m_end m_text m_out m_lineAt m_lineLong m_depth m_signed m_led m_told m_place m_begin m_tokenLong m_stemLong m_address m_letters m_stems m_s) → va_S A s.heap H locs → wjX8_addToken_175 post m_text x1 x2 x3 x4 m_tokens m_end m_place m_begin m_tokenLong m_stemLong m_address m_letters m_stems m_s → W p l e (headSpec wsX8_addToken ({ frames := 6, cells := 0, slots := 0, locals := 137 })).room s m ([.ref (ad 0), .int x1, .int x2, .int x3, .int x4] : List Value).toArray below meth c H locs 0 0 (MQ below Qc ([.ref (ad 0), .int x1, .int x2, .int x3, .int x4] : List Value).toArray s 0 0 A) (F0 m 175 ls []) := by
    intro m_tokens m_end m_place m_begin m_tokenLong m_stemLong m_address m_letters m_stems m_s H locs ls hl hP hD hS h
    delta wjX8_addToken_175 at h
    refine lv_aload_n hx hb dX8_addToken_175 rfl (lv_at hl 0 rfl) ?_
    refine lv_dup hx hb dX8_addToken_176 rfl ?_
    refine va_get (D := (dC, dI)) (ci := 7) (v := .int m_tokens) (C := RX8) (T := TX8) (N := 26) hx hb hts inX8 hown hK hP 0 rfl rfl 13 (by decide) (hts (.fieldLink RX8 268 "MailWordsModel" "tokens" "I") (List.mem_of_getElem? (i := 3) rfl)) (fun _ h9 => h9) rfl dX8_addToken_177 ?_
    refine lv_iconst (v := 1) hx hb dX8_addToken_180 (by decide) ?_
    refine lv_iadd hx hb dX8_addToken_181 ?_
    refine lv_topi (fun m_tokens_1 em_tokens_1 => ?_)
    have h := h m_tokens_1 em_tokens_1
    refine va_put (D := (dC, dI)) (ci := 7) (v := .int m_tokens_1) (ty := .int) (C := RX8) (T := TX8) (N := 26) hx hb hts inX8 tyX8 tyX8_ok nmX8 hown hK hP hD hS 0 rfl rfl 13 (by decide) (hts (.fieldLink RX8 268 "MailWordsModel" "tokens" "I") (List.mem_of_getElem? (i := 3) rfl)) (fun _ h9 => h9) rfl (tyX8_ok 13 (by decide)) rfl rfl (Nat.le_of_ble_eq_true rfl) dX8_addToken_182 (fun H locs hP hD hS => ?_)
    have hP : va_P (dC, dI) vwCl (mW ad cI cZ m_thrown m_size m_outLong m_lines m_toldLines m_tokens_1 m_places m_p m_pre m_end m_text m_out m_lineAt m_lineLong m_depth m_signed m_led m_told m_place m_begin m_tokenLong m_stemLong m_address m_letters m_stems m_s) H := hP
    have hD : va_D A (mW ad cI cZ m_thrown m_size m_outLong m_lines m_toldLines m_tokens_1 m_places m_p m_pre m_end m_text m_out m_lineAt m_lineLong m_depth m_signed m_led m_told m_place m_begin m_tokenLong m_stemLong m_address m_letters m_stems m_s) := hD
    exact W.vret hx hb hr (fun t ht hW => hQ (m_tokens_1, m_end, m_place, m_begin, m_tokenLong, m_stemLong, m_address, m_letters, m_stems, m_s) t h (by rw [ht]; exact hP) (va_K.moved hW.alike hK) hD (hS.F ht)) hS.2.2 dX8_addToken_185
  have J103 : ∀ (m_tokens : Int32) (m_end : Int32) (m_place : Nat → Int32) (m_begin : Nat → Int32) (m_tokenLong : Nat → Int32) (m_stemLong : Nat → Int32) (m_address : Nat → Int32) (m_letters : Nat → Int32) (m_stems : Nat → Int32) (m_s : Nat → Int32) (x5 : Int32) (x6 : Int32) (H : Heap) (locs : List Loc) (ls : Array Slot), lv_has ls 9 [(0, .ref (ad 0)), (1, .int x1), (3, .int x3), (4, .int x4), (5, .int x5), (6, .int x6)] → va_P (dC, dI) vwCl (mW ad cI cZ m_thrown m_size m_outLong m_lines m_toldLines m_tokens m_places m_p m_pre m_end m_text m_out m_lineAt m_lineLong m_depth m_signed m_led m_told m_place m_begin m_tokenLong m_stemLong m_address m_letters m_stems m_s) H → va_D A (mW ad cI cZ m_thrown m_size m_outLong m_lines m_toldLines m_tokens m_places m_p m_pre m_end m_text m_out m_lineAt m_lineLong m_depth m_signed m_led m_told m_place m_begin m_tokenLong m_stemLong m_address m_letters m_stems m_s) → va_S A s.heap H locs → wjX8_addToken_103 post m_text x1 x2 x3 x4 m_tokens m_end m_place m_begin m_tokenLong m_stemLong m_address m_letters m_stems m_s x5 x6 → W p l e (headSpec wsX8_addToken ({ frames := 6, cells := 0, slots := 0, locals := 137 })).room s m ([.ref (ad 0), .int x1, .int x2, .int x3, .int x4] : List Value).toArray below meth c H locs 0 0 (MQ below Qc ([.ref (ad 0), .int x1, .int x2, .int x3, .int x4] : List Value).toArray s 0 0 A) (F0 m 103 ls []) := by
    intro m_tokens m_end m_place m_begin m_tokenLong m_stemLong m_address m_letters m_stems m_s x5 x6 H locs ls hl hP hD hS h
    delta wjX8_addToken_103 at h
    refine lv_aload_n hx hb dX8_addToken_103 rfl (lv_at hl 0 rfl) ?_
    refine va_get (D := (dC, dI)) (ci := 7) (v := .ref (ad 9)) (C := RX8) (T := TX8) (N := 26) hx hb hts inX8 hown hK hP 0 rfl rfl 15 (by decide) (hts (.fieldLink RX8 35 "MailWordsModel" "place" "[I") (List.mem_of_getElem? (i := 5) rfl)) (fun _ h9 => h9) rfl dX8_addToken_104 ?_
    refine lv_aload_n hx hb dX8_addToken_107 rfl (lv_at hl 0 rfl) ?_
    refine va_get (D := (dC, dI)) (ci := 7) (v := .int m_tokens) (C := RX8) (T := TX8) (N := 26) hx hb hts inX8 hown hK hP 0 rfl rfl 13 (by decide) (hts (.fieldLink RX8 268 "MailWordsModel" "tokens" "I") (List.mem_of_getElem? (i := 3) rfl)) (fun _ h9 => h9) rfl dX8_addToken_108 ?_
    refine lv_iload_n hx hb dX8_addToken_111 rfl (lv_at hl 2 rfl) ?_
    have hi9 := h.1
    have h := h.2
    refine va_iast hx hb hK hP hD hS 9 0 rfl rfl hi9 dX8_addToken_112 (fun H locs hP hD hS => ?_)
    have hP : va_P (dC, dI) vwCl (mW ad cI cZ m_thrown m_size m_outLong m_lines m_toldLines m_tokens m_places m_p m_pre m_end m_text m_out m_lineAt m_lineLong m_depth m_signed m_led m_told (upd m_place m_tokens.toNatClampNeg x3) m_begin m_tokenLong m_stemLong m_address m_letters m_stems m_s) H := hP
    have hD : va_D A (mW ad cI cZ m_thrown m_size m_outLong m_lines m_toldLines m_tokens m_places m_p m_pre m_end m_text m_out m_lineAt m_lineLong m_depth m_signed m_led m_told (upd m_place m_tokens.toNatClampNeg x3) m_begin m_tokenLong m_stemLong m_address m_letters m_stems m_s) := hD
    refine lv_aload_n hx hb dX8_addToken_113 rfl (lv_at hl 0 rfl) ?_
    refine va_get (D := (dC, dI)) (ci := 7) (v := .ref (ad 10)) (C := RX8) (T := TX8) (N := 26) hx hb hts inX8 hown hK hP 0 rfl rfl 16 (by decide) (hts (.fieldLink RX8 38 "MailWordsModel" "begin" "[I") (List.mem_of_getElem? (i := 6) rfl)) (fun _ h9 => h9) rfl dX8_addToken_114 ?_
    refine lv_aload_n hx hb dX8_addToken_117 rfl (lv_at hl 0 rfl) ?_
    refine va_get (D := (dC, dI)) (ci := 7) (v := .int m_tokens) (C := RX8) (T := TX8) (N := 26) hx hb hts inX8 hown hK hP 0 rfl rfl 13 (by decide) (hts (.fieldLink RX8 268 "MailWordsModel" "tokens" "I") (List.mem_of_getElem? (i := 3) rfl)) (fun _ h9 => h9) rfl dX8_addToken_118 ?_
    refine lv_iload_n hx hb dX8_addToken_121 rfl (lv_at hl 1 rfl) ?_
    have hi9 := h.1
    have h := h.2
    refine va_iast hx hb hK hP hD hS 10 0 rfl rfl hi9 dX8_addToken_122 (fun H locs hP hD hS => ?_)
    have hP : va_P (dC, dI) vwCl (mW ad cI cZ m_thrown m_size m_outLong m_lines m_toldLines m_tokens m_places m_p m_pre m_end m_text m_out m_lineAt m_lineLong m_depth m_signed m_led m_told (upd m_place m_tokens.toNatClampNeg x3) (upd m_begin m_tokens.toNatClampNeg x1) m_tokenLong m_stemLong m_address m_letters m_stems m_s) H := hP
    have hD : va_D A (mW ad cI cZ m_thrown m_size m_outLong m_lines m_toldLines m_tokens m_places m_p m_pre m_end m_text m_out m_lineAt m_lineLong m_depth m_signed m_led m_told (upd m_place m_tokens.toNatClampNeg x3) (upd m_begin m_tokens.toNatClampNeg x1) m_tokenLong m_stemLong m_address m_letters m_stems m_s) := hD
    refine lv_aload_n hx hb dX8_addToken_123 rfl (lv_at hl 0 rfl) ?_
    refine va_get (D := (dC, dI)) (ci := 7) (v := .ref (ad 11)) (C := RX8) (T := TX8) (N := 26) hx hb hts inX8 hown hK hP 0 rfl rfl 17 (by decide) (hts (.fieldLink RX8 41 "MailWordsModel" "tokenLong" "[I") (List.mem_of_getElem? (i := 7) rfl)) (fun _ h9 => h9) rfl dX8_addToken_124 ?_
    refine lv_aload_n hx hb dX8_addToken_127 rfl (lv_at hl 0 rfl) ?_
    refine va_get (D := (dC, dI)) (ci := 7) (v := .int m_tokens) (C := RX8) (T := TX8) (N := 26) hx hb hts inX8 hown hK hP 0 rfl rfl 13 (by decide) (hts (.fieldLink RX8 268 "MailWordsModel" "tokens" "I") (List.mem_of_getElem? (i := 3) rfl)) (fun _ h9 => h9) rfl dX8_addToken_128 ?_
    refine lv_iload hx hb dX8_addToken_131 (lv_at hl 4 rfl) ?_
    have hi9 := h.1
    have h := h.2
    refine va_iast hx hb hK hP hD hS 11 0 rfl rfl hi9 dX8_addToken_133 (fun H locs hP hD hS => ?_)
    have hP : va_P (dC, dI) vwCl (mW ad cI cZ m_thrown m_size m_outLong m_lines m_toldLines m_tokens m_places m_p m_pre m_end m_text m_out m_lineAt m_lineLong m_depth m_signed m_led m_told (upd m_place m_tokens.toNatClampNeg x3) (upd m_begin m_tokens.toNatClampNeg x1) (upd m_tokenLong m_tokens.toNatClampNeg x5) m_stemLong m_address m_letters m_stems m_s) H := hP
    have hD : va_D A (mW ad cI cZ m_thrown m_size m_outLong m_lines m_toldLines m_tokens m_places m_p m_pre m_end m_text m_out m_lineAt m_lineLong m_depth m_signed m_led m_told (upd m_place m_tokens.toNatClampNeg x3) (upd m_begin m_tokens.toNatClampNeg x1) (upd m_tokenLong m_tokens.toNatClampNeg x5) m_stemLong m_address m_letters m_stems m_s) := hD
    refine lv_aload_n hx hb dX8_addToken_134 rfl (lv_at hl 0 rfl) ?_
    refine va_get (D := (dC, dI)) (ci := 7) (v := .ref (ad 13)) (C := RX8) (T := TX8) (N := 26) hx hb hts inX8 hown hK hP 0 rfl rfl 19 (by decide) (hts (.fieldLink RX8 47 "MailWordsModel" "address" "[Z") (List.mem_of_getElem? (i := 8) rfl)) (fun _ h9 => h9) rfl dX8_addToken_135 ?_
    refine lv_aload_n hx hb dX8_addToken_138 rfl (lv_at hl 0 rfl) ?_
    refine va_get (D := (dC, dI)) (ci := 7) (v := .int m_tokens) (C := RX8) (T := TX8) (N := 26) hx hb hts inX8 hown hK hP 0 rfl rfl 13 (by decide) (hts (.fieldLink RX8 268 "MailWordsModel" "tokens" "I") (List.mem_of_getElem? (i := 3) rfl)) (fun _ h9 => h9) rfl dX8_addToken_139 ?_
    refine lv_iload hx hb dX8_addToken_142 (lv_at hl 3 rfl) ?_
    have hi9 := h.1
    have h := h.2
    have hb9 := h.1
    have h := h.2
    refine va_zast hx hb hK hP hD hS 13 1 rfl rfl hi9 dX8_addToken_144 (fun H locs hP hD hS => ?_)
    rw [bN_vp hb9] at hP hD
    have hP : va_P (dC, dI) vwCl (mW ad cI cZ m_thrown m_size m_outLong m_lines m_toldLines m_tokens m_places m_p m_pre m_end m_text m_out m_lineAt m_lineLong m_depth m_signed m_led m_told (upd m_place m_tokens.toNatClampNeg x3) (upd m_begin m_tokens.toNatClampNeg x1) (upd m_tokenLong m_tokens.toNatClampNeg x5) m_stemLong (upd m_address m_tokens.toNatClampNeg x4) m_letters m_stems m_s) H := hP
    have hD : va_D A (mW ad cI cZ m_thrown m_size m_outLong m_lines m_toldLines m_tokens m_places m_p m_pre m_end m_text m_out m_lineAt m_lineLong m_depth m_signed m_led m_told (upd m_place m_tokens.toNatClampNeg x3) (upd m_begin m_tokens.toNatClampNeg x1) (upd m_tokenLong m_tokens.toNatClampNeg x5) m_stemLong (upd m_address m_tokens.toNatClampNeg x4) m_letters m_stems m_s) := hD
    refine lv_aload_n hx hb dX8_addToken_145 rfl (lv_at hl 0 rfl) ?_
    refine va_get (D := (dC, dI)) (ci := 7) (v := .ref (ad 12)) (C := RX8) (T := TX8) (N := 26) hx hb hts inX8 hown hK hP 0 rfl rfl 18 (by decide) (hts (.fieldLink RX8 44 "MailWordsModel" "stemLong" "[I") (List.mem_of_getElem? (i := 9) rfl)) (fun _ h9 => h9) rfl dX8_addToken_146 ?_
    refine lv_aload_n hx hb dX8_addToken_149 rfl (lv_at hl 0 rfl) ?_
    refine va_get (D := (dC, dI)) (ci := 7) (v := .int m_tokens) (C := RX8) (T := TX8) (N := 26) hx hb hts inX8 hown hK hP 0 rfl rfl 13 (by decide) (hts (.fieldLink RX8 268 "MailWordsModel" "tokens" "I") (List.mem_of_getElem? (i := 3) rfl)) (fun _ h9 => h9) rfl dX8_addToken_150 ?_
    refine lv_iload hx hb dX8_addToken_153 (lv_at hl 4 rfl) ?_
    have hi9 := h.1
    have h := h.2
    refine va_iast hx hb hK hP hD hS 12 0 rfl rfl hi9 dX8_addToken_155 (fun H locs hP hD hS => ?_)
    have hP : va_P (dC, dI) vwCl (mW ad cI cZ m_thrown m_size m_outLong m_lines m_toldLines m_tokens m_places m_p m_pre m_end m_text m_out m_lineAt m_lineLong m_depth m_signed m_led m_told (upd m_place m_tokens.toNatClampNeg x3) (upd m_begin m_tokens.toNatClampNeg x1) (upd m_tokenLong m_tokens.toNatClampNeg x5) (upd m_stemLong m_tokens.toNatClampNeg x5) (upd m_address m_tokens.toNatClampNeg x4) m_letters m_stems m_s) H := hP
    have hD : va_D A (mW ad cI cZ m_thrown m_size m_outLong m_lines m_toldLines m_tokens m_places m_p m_pre m_end m_text m_out m_lineAt m_lineLong m_depth m_signed m_led m_told (upd m_place m_tokens.toNatClampNeg x3) (upd m_begin m_tokens.toNatClampNeg x1) (upd m_tokenLong m_tokens.toNatClampNeg x5) (upd m_stemLong m_tokens.toNatClampNeg x5) (upd m_address m_tokens.toNatClampNeg x4) m_letters m_stems m_s) := hD
    refine lv_iload hx hb dX8_addToken_156 (lv_at hl 5 rfl) ?_
    refine lv_if_eq (tgt := 175) hx hb dX8_addToken_158 (by decide) (fun c9 => ?_) (fun c9 => ?_)
    · have h := h.1 c9
      exact J175 m_tokens m_end (upd m_place m_tokens.toNatClampNeg x3) (upd m_begin m_tokens.toNatClampNeg x1) (upd m_tokenLong m_tokens.toNatClampNeg x5) (upd m_stemLong m_tokens.toNatClampNeg x5) (upd m_address m_tokens.toNatClampNeg x4) m_letters m_stems m_s H locs ls (lv_sub hl [0] rfl) hP hD hS h
    · have h := h.2 c9
      refine lv_iload hx hb dX8_addToken_161 (lv_at hl 4 rfl) ?_
      refine lv_iconst (v := 3) hx hb dX8_addToken_163 (by decide) ?_
      refine lv_icmp_lt (tgt := 175) hx hb dX8_addToken_164 (by decide) (fun c9 => ?_) (fun c9 => ?_)
      · have h := h.1 c9
        exact J175 m_tokens m_end (upd m_place m_tokens.toNatClampNeg x3) (upd m_begin m_tokens.toNatClampNeg x1) (upd m_tokenLong m_tokens.toNatClampNeg x5) (upd m_stemLong m_tokens.toNatClampNeg x5) (upd m_address m_tokens.toNatClampNeg x4) m_letters m_stems m_s H locs ls (lv_sub hl [0] rfl) hP hD hS h
      · have h := h.2 c9
        refine lv_aload_n hx hb dX8_addToken_167 rfl (lv_at hl 0 rfl) ?_
        refine lv_aload_n hx hb dX8_addToken_168 rfl (lv_at hl 0 rfl) ?_
        refine va_get (D := (dC, dI)) (ci := 7) (v := .int m_tokens) (C := RX8) (T := TX8) (N := 26) hx hb hts inX8 hown hK hP 0 rfl rfl 13 (by decide) (hts (.fieldLink RX8 268 "MailWordsModel" "tokens" "I") (List.mem_of_getElem? (i := 3) rfl)) (fun _ h9 => h9) rfl dX8_addToken_169 ?_
        refine xc_vv (As := [.int m_tokens]) (rest := []) xG Fx (sX8_stem l dC dI ad cI cZ sa sv m_thrown m_size m_outLong m_lines m_toldLines m_tokens m_places m_p m_pre m_end m_text m_out m_lineAt m_lineLong m_depth m_signed m_led m_told (upd m_place m_tokens.toNatClampNeg x3) (upd m_begin m_tokens.toNatClampNeg x1) (upd m_tokenLong m_tokens.toNatClampNeg x5) (upd m_stemLong m_tokens.toNatClampNeg x5) (upd m_address m_tokens.toNatClampNeg x4) m_letters m_stems m_s m_tokens h) (cwV 1 hts gX8_addToken_X8_stem rfl rfl rfl hdX8_stem ⟨Nat.le_of_ble_eq_true rfl, Nat.le_of_ble_eq_true rfl⟩) (va_recv hK hP (ci := 7) (q0 := 0) rfl rfl) hK hP hD hS hA hI rfl hl.1 rfl (Nat.le_of_ble_eq_true rfl) dX8_addToken_172 ⟨Nat.zero_le _, Nat.zero_le _⟩ (fun u H locs h hP hD hS => ?_)
        obtain ⟨m_end_3, m_stemLong_4, m_stems_5, m_s_6⟩ := u
        have hP : va_P (dC, dI) vwCl (mW ad cI cZ m_thrown m_size m_outLong m_lines m_toldLines m_tokens m_places m_p m_pre m_end_3 m_text m_out m_lineAt m_lineLong m_depth m_signed m_led m_told (upd m_place m_tokens.toNatClampNeg x3) (upd m_begin m_tokens.toNatClampNeg x1) (upd m_tokenLong m_tokens.toNatClampNeg x5) m_stemLong_4 (upd m_address m_tokens.toNatClampNeg x4) m_letters m_stems_5 m_s_6) H := hP
        have hD : va_D A (mW ad cI cZ m_thrown m_size m_outLong m_lines m_toldLines m_tokens m_places m_p m_pre m_end_3 m_text m_out m_lineAt m_lineLong m_depth m_signed m_led m_told (upd m_place m_tokens.toNatClampNeg x3) (upd m_begin m_tokens.toNatClampNeg x1) (upd m_tokenLong m_tokens.toNatClampNeg x5) m_stemLong_4 (upd m_address m_tokens.toNatClampNeg x4) m_letters m_stems_5 m_s_6) := hD
        exact J175 m_tokens m_end_3 (upd m_place m_tokens.toNatClampNeg x3) (upd m_begin m_tokens.toNatClampNeg x1) (upd m_tokenLong m_tokens.toNatClampNeg x5) m_stemLong_4 (upd m_address m_tokens.toNatClampNeg x4) m_letters m_stems_5 m_s_6 H locs ls (lv_sub hl [0] rfl) hP hD hS h
  have L18 : ∀ (m_tokens : Int32) (m_end : Int32) (m_place : Nat → Int32) (m_begin : Nat → Int32) (m_tokenLong : Nat → Int32) (m_stemLong : Nat → Int32) (m_address : Nat → Int32) (m_s : Nat → Int32) (n : Nat) (m_letters : Nat → Int32) (m_stems : Nat → Int32) (x5 : Int32) (x6 : Int32) (x7 : Int32) (H : Heap) (locs : List Loc) (ls : Array Slot), lv_has ls 9 [(0, .ref (ad 0)), (1, .int x1), (2, .int x2), (3, .int x3), (4, .int x4), (5, .int x5), (6, .int x6), (7, .int x7)] → va_P (dC, dI) vwCl (mW ad cI cZ m_thrown m_size m_outLong m_lines m_toldLines m_tokens m_places m_p m_pre m_end m_text m_out m_lineAt m_lineLong m_depth m_signed m_led m_told m_place m_begin m_tokenLong m_stemLong m_address m_letters m_stems m_s) H → va_D A (mW ad cI cZ m_thrown m_size m_outLong m_lines m_toldLines m_tokens m_places m_p m_pre m_end m_text m_out m_lineAt m_lineLong m_depth m_signed m_led m_told m_place m_begin m_tokenLong m_stemLong m_address m_letters m_stems m_s) → va_S A s.heap H locs → wlX8_addToken_18 post m_text x1 x2 x3 x4 m_tokens m_end m_place m_begin m_tokenLong m_stemLong m_address m_s n m_letters m_stems x5 x6 x7 → W p l e (headSpec wsX8_addToken ({ frames := 6, cells := 0, slots := 0, locals := 137 })).room s m ([.ref (ad 0), .int x1, .int x2, .int x3, .int x4] : List Value).toArray below meth c H locs 0 0 (MQ below Qc ([.ref (ad 0), .int x1, .int x2, .int x3, .int x4] : List Value).toArray s 0 0 A) (F0 m 18 ls []) := by
    intro m_tokens m_end m_place m_begin m_tokenLong m_stemLong m_address m_s
    intro n
    induction n with
    | zero => intro m_letters m_stems x5 x6 x7 H locs ls _ _ _ _ h; exact absurd h (fun z => z)
    | succ n18 ih18 =>
      intro m_letters m_stems x5 x6 x7 H locs ls hl hP hD hS h
      have J94 : ∀ (m_letters : Nat → Int32) (m_stems : Nat → Int32) (x5 : Int32) (x6 : Int32) (x7 : Int32) (H : Heap) (locs : List Loc) (ls : Array Slot), lv_has ls 9 [(0, .ref (ad 0)), (1, .int x1), (2, .int x2), (3, .int x3), (4, .int x4), (5, .int x5), (6, .int x6), (7, .int x7)] → va_P (dC, dI) vwCl (mW ad cI cZ m_thrown m_size m_outLong m_lines m_toldLines m_tokens m_places m_p m_pre m_end m_text m_out m_lineAt m_lineLong m_depth m_signed m_led m_told m_place m_begin m_tokenLong m_stemLong m_address m_letters m_stems m_s) H → va_D A (mW ad cI cZ m_thrown m_size m_outLong m_lines m_toldLines m_tokens m_places m_p m_pre m_end m_text m_out m_lineAt m_lineLong m_depth m_signed m_led m_told m_place m_begin m_tokenLong m_stemLong m_address m_letters m_stems m_s) → va_S A s.heap H locs → wjX8_addToken_94 (fun m_letters m_stems x5 x6 x7 => wlX8_addToken_18 post m_text x1 x2 x3 x4 m_tokens m_end m_place m_begin m_tokenLong m_stemLong m_address m_s n18 m_letters m_stems x5 x6 x7) post m_text x1 x2 x3 x4 m_tokens m_end m_place m_begin m_tokenLong m_stemLong m_address m_letters m_stems m_s x5 x6 x7 → W p l e (headSpec wsX8_addToken ({ frames := 6, cells := 0, slots := 0, locals := 137 })).room s m ([.ref (ad 0), .int x1, .int x2, .int x3, .int x4] : List Value).toArray below meth c H locs 0 0 (MQ below Qc ([.ref (ad 0), .int x1, .int x2, .int x3, .int x4] : List Value).toArray s 0 0 A) (F0 m 94 ls []) := by
        intro m_letters m_stems x5 x6 x7 H locs ls hl hP hD hS h
        delta wjX8_addToken_94 at h
        obtain ⟨x5_7, ex5_7⟩ : ∃ y : Int32, y = x5 + 1 := ⟨_, rfl⟩
        have h := h x5_7 ex5_7
        refine lv_iinc (v := x5_7) (lv' := [(5, .int x5_7), (0, .ref (ad 0)), (1, .int x1), (2, .int x2), (3, .int x3), (4, .int x4), (6, .int x6), (7, .int x7)]) hx hb dX8_addToken_94 hl (k := 5) rfl (by rw [ex5_7]; rfl) (by decide) rfl (fun ls hl => ?_)
        obtain ⟨x7_8, ex7_8⟩ : ∃ y : Int32, y = x7 + 1 := ⟨_, rfl⟩
        have h := h x7_8 ex7_8
        refine lv_iinc (v := x7_8) (lv' := [(7, .int x7_8), (5, .int x5_7), (0, .ref (ad 0)), (1, .int x1), (2, .int x2), (3, .int x3), (4, .int x4), (6, .int x6)]) hx hb dX8_addToken_97 hl (k := 7) rfl (by rw [ex7_8]; rfl) (by decide) rfl (fun ls hl => ?_)
        refine lv_goto (tgt := 18) hx hb dX8_addToken_100 (by decide) ?_
        exact ih18 m_letters m_stems x5_7 x6 x7_8 H locs ls (lv_sub hl [2, 3, 4, 5, 6, 1, 7, 0] rfl) hP hD hS h
      have J91 : ∀ (m_letters : Nat → Int32) (m_stems : Nat → Int32) (x5 : Int32) (x7 : Int32) (H : Heap) (locs : List Loc) (ls : Array Slot), lv_has ls 9 [(0, .ref (ad 0)), (1, .int x1), (2, .int x2), (3, .int x3), (4, .int x4), (5, .int x5), (7, .int x7)] → va_P (dC, dI) vwCl (mW ad cI cZ m_thrown m_size m_outLong m_lines m_toldLines m_tokens m_places m_p m_pre m_end m_text m_out m_lineAt m_lineLong m_depth m_signed m_led m_told m_place m_begin m_tokenLong m_stemLong m_address m_letters m_stems m_s) H → va_D A (mW ad cI cZ m_thrown m_size m_outLong m_lines m_toldLines m_tokens m_places m_p m_pre m_end m_text m_out m_lineAt m_lineLong m_depth m_signed m_led m_told m_place m_begin m_tokenLong m_stemLong m_address m_letters m_stems m_s) → va_S A s.heap H locs → wjX8_addToken_91 (fun m_letters m_stems x5 x6 x7 => wlX8_addToken_18 post m_text x1 x2 x3 x4 m_tokens m_end m_place m_begin m_tokenLong m_stemLong m_address m_s n18 m_letters m_stems x5 x6 x7) post m_text x1 x2 x3 x4 m_tokens m_end m_place m_begin m_tokenLong m_stemLong m_address m_letters m_stems m_s x5 x7 → W p l e (headSpec wsX8_addToken ({ frames := 6, cells := 0, slots := 0, locals := 137 })).room s m ([.ref (ad 0), .int x1, .int x2, .int x3, .int x4] : List Value).toArray below meth c H locs 0 0 (MQ below Qc ([.ref (ad 0), .int x1, .int x2, .int x3, .int x4] : List Value).toArray s 0 0 A) (F0 m 91 ls []) := by
        intro m_letters m_stems x5 x7 H locs ls hl hP hD hS h
        delta wjX8_addToken_91 at h
        refine lv_iconst (v := 0) hx hb dX8_addToken_91 (by decide) ?_
        refine lv_istore (lv' := [(6, .int 0), (0, .ref (ad 0)), (1, .int x1), (2, .int x2), (3, .int x3), (4, .int x4), (5, .int x5), (7, .int x7)]) hx hb dX8_addToken_92 hl (by decide) rfl (fun ls hl => ?_)
        exact J94 m_letters m_stems x5 0 x7 H locs ls (lv_sub hl [1, 2, 3, 4, 5, 6, 0, 7] rfl) hP hD hS h
      rw [wlX8_addToken_18] at h
      refine lv_iload hx hb dX8_addToken_18 (lv_at hl 7 rfl) ?_
      refine lv_iload_n hx hb dX8_addToken_20 rfl (lv_at hl 2 rfl) ?_
      refine lv_icmp_ge (tgt := 103) hx hb dX8_addToken_21 (by decide) (fun c9 => ?_) (fun c9 => ?_)
      · have h := h.1 c9
        exact J103 m_tokens m_end m_place m_begin m_tokenLong m_stemLong m_address m_letters m_stems m_s x5 x6 H locs ls (lv_sub hl [0, 1, 3, 4, 5, 6] rfl) hP hD hS h
      · have h := h.2 c9
        refine lv_iload hx hb dX8_addToken_24 (lv_at hl 5 rfl) ?_
        refine lv_bipush (v := 30) hx hb dX8_addToken_26 (by decide) ?_
        refine lv_icmp_ge (tgt := 103) hx hb dX8_addToken_28 (by decide) (fun c9 => ?_) (fun c9 => ?_)
        · have h := h.1 c9
          exact J103 m_tokens m_end m_place m_begin m_tokenLong m_stemLong m_address m_letters m_stems m_s x5 x6 H locs ls (lv_sub hl [0, 1, 3, 4, 5, 6] rfl) hP hD hS h
        · have h := h.2 c9
          refine lv_aload_n hx hb dX8_addToken_31 rfl (lv_at hl 0 rfl) ?_
          refine va_get (D := (dC, dI)) (ci := 7) (v := .ref (ad 1)) (C := RX8) (T := TX8) (N := 26) hx hb hts inX8 hown hK hP 0 rfl rfl 1 (by decide) (hts (.fieldLink RX8 7 "MailWordsModel" "text" "[I") (List.mem_of_getElem? (i := 1) rfl)) (fun _ h9 => h9) rfl dX8_addToken_32 ?_
          refine lv_iload hx hb dX8_addToken_35 (lv_at hl 7 rfl) ?_
          have hi9 := h.1
          have h := h.2
          refine va_iald hx hb hK hP 1 0 rfl rfl hi9 dX8_addToken_37 ?_
          refine xc_si (As := [.int (m_text x7.toNatClampNeg)]) (rest := []) xG Fx (sX8_small l dC dI ad cI cZ sa sv m_thrown m_size m_outLong m_lines m_toldLines m_tokens m_places m_p m_pre m_end m_text m_out m_lineAt m_lineLong m_depth m_signed m_led m_told m_place m_begin m_tokenLong m_stemLong m_address m_letters m_stems m_s (m_text x7.toNatClampNeg) h) (va_cwS 1 hts gX8_addToken_X8_small rfl rfl rfl hdX8_small ⟨Nat.le_of_ble_eq_true rfl, Nat.le_of_ble_eq_true rfl⟩) hK hP hD hS hA hI rfl hl.1 rfl (Nat.le_of_ble_eq_true rfl) dX8_addToken_38 ⟨Nat.zero_le _, Nat.zero_le _⟩ (fun r_9 u H locs h hP hD hS => ?_)
          refine lv_istore (lv' := [(8, .int r_9), (0, .ref (ad 0)), (1, .int x1), (2, .int x2), (3, .int x3), (4, .int x4), (5, .int x5), (6, .int x6), (7, .int x7)]) hx hb dX8_addToken_41 hl (by decide) rfl (fun ls hl => ?_)
          refine lv_aload_n hx hb dX8_addToken_43 rfl (lv_at hl 1 rfl) ?_
          refine va_get (D := (dC, dI)) (ci := 7) (v := .ref (ad 14)) (C := RX8) (T := TX8) (N := 26) hx hb hts inX8 hown hK hP 0 rfl rfl 20 (by decide) (hts (.fieldLink RX8 51 "MailWordsModel" "letters" "[I") (List.mem_of_getElem? (i := 2) rfl)) (fun _ h9 => h9) rfl dX8_addToken_44 ?_
          refine lv_bipush (v := 30) hx hb dX8_addToken_47 (by decide) ?_
          refine lv_aload_n hx hb dX8_addToken_49 rfl (lv_at hl 1 rfl) ?_
          refine va_get (D := (dC, dI)) (ci := 7) (v := .int m_tokens) (C := RX8) (T := TX8) (N := 26) hx hb hts inX8 hown hK hP 0 rfl rfl 13 (by decide) (hts (.fieldLink RX8 268 "MailWordsModel" "tokens" "I") (List.mem_of_getElem? (i := 3) rfl)) (fun _ h9 => h9) rfl dX8_addToken_50 ?_
          refine lv_imul hx hb dX8_addToken_53 ?_
          refine lv_iload hx hb dX8_addToken_54 (lv_at hl 6 rfl) ?_
          refine lv_iadd hx hb dX8_addToken_56 ?_
          refine lv_iload hx hb dX8_addToken_57 (lv_at hl 0 rfl) ?_
          have hi9 := h.1
          have h := h.2
          refine va_iast hx hb hK hP hD hS 14 0 rfl rfl hi9 dX8_addToken_59 (fun H locs hP hD hS => ?_)
          have hP : va_P (dC, dI) vwCl (mW ad cI cZ m_thrown m_size m_outLong m_lines m_toldLines m_tokens m_places m_p m_pre m_end m_text m_out m_lineAt m_lineLong m_depth m_signed m_led m_told m_place m_begin m_tokenLong m_stemLong m_address (upd m_letters (((30 * m_tokens) + x5) : Int32).toNatClampNeg r_9) m_stems m_s) H := hP
          have hD : va_D A (mW ad cI cZ m_thrown m_size m_outLong m_lines m_toldLines m_tokens m_places m_p m_pre m_end m_text m_out m_lineAt m_lineLong m_depth m_signed m_led m_told m_place m_begin m_tokenLong m_stemLong m_address (upd m_letters (((30 * m_tokens) + x5) : Int32).toNatClampNeg r_9) m_stems m_s) := hD
          refine lv_aload_n hx hb dX8_addToken_60 rfl (lv_at hl 1 rfl) ?_
          refine va_get (D := (dC, dI)) (ci := 7) (v := .ref (ad 15)) (C := RX8) (T := TX8) (N := 26) hx hb hts inX8 hown hK hP 0 rfl rfl 21 (by decide) (hts (.fieldLink RX8 54 "MailWordsModel" "stems" "[I") (List.mem_of_getElem? (i := 4) rfl)) (fun _ h9 => h9) rfl dX8_addToken_61 ?_
          refine lv_bipush (v := 30) hx hb dX8_addToken_64 (by decide) ?_
          refine lv_aload_n hx hb dX8_addToken_66 rfl (lv_at hl 1 rfl) ?_
          refine va_get (D := (dC, dI)) (ci := 7) (v := .int m_tokens) (C := RX8) (T := TX8) (N := 26) hx hb hts inX8 hown hK hP 0 rfl rfl 13 (by decide) (hts (.fieldLink RX8 268 "MailWordsModel" "tokens" "I") (List.mem_of_getElem? (i := 3) rfl)) (fun _ h9 => h9) rfl dX8_addToken_67 ?_
          refine lv_imul hx hb dX8_addToken_70 ?_
          refine lv_iload hx hb dX8_addToken_71 (lv_at hl 6 rfl) ?_
          refine lv_iadd hx hb dX8_addToken_73 ?_
          refine lv_iload hx hb dX8_addToken_74 (lv_at hl 0 rfl) ?_
          have hi9 := h.1
          have h := h.2
          refine va_iast hx hb hK hP hD hS 15 0 rfl rfl hi9 dX8_addToken_76 (fun H locs hP hD hS => ?_)
          have hP : va_P (dC, dI) vwCl (mW ad cI cZ m_thrown m_size m_outLong m_lines m_toldLines m_tokens m_places m_p m_pre m_end m_text m_out m_lineAt m_lineLong m_depth m_signed m_led m_told m_place m_begin m_tokenLong m_stemLong m_address (upd m_letters (((30 * m_tokens) + x5) : Int32).toNatClampNeg r_9) (upd m_stems (((30 * m_tokens) + x5) : Int32).toNatClampNeg r_9) m_s) H := hP
          have hD : va_D A (mW ad cI cZ m_thrown m_size m_outLong m_lines m_toldLines m_tokens m_places m_p m_pre m_end m_text m_out m_lineAt m_lineLong m_depth m_signed m_led m_told m_place m_begin m_tokenLong m_stemLong m_address (upd m_letters (((30 * m_tokens) + x5) : Int32).toNatClampNeg r_9) (upd m_stems (((30 * m_tokens) + x5) : Int32).toNatClampNeg r_9) m_s) := hD
          refine lv_iload hx hb dX8_addToken_77 (lv_at hl 0 rfl) ?_
          refine lv_bipush (v := 97) hx hb dX8_addToken_79 (by decide) ?_
          refine lv_icmp_lt (tgt := 91) hx hb dX8_addToken_81 (by decide) (fun c9 => ?_) (fun c9 => ?_)
          · have h := h.1 c9
            exact J91 (upd m_letters (((30 * m_tokens) + x5) : Int32).toNatClampNeg r_9) (upd m_stems (((30 * m_tokens) + x5) : Int32).toNatClampNeg r_9) x5 x7 H locs ls (lv_sub hl [1, 2, 3, 4, 5, 6, 8] rfl) hP hD hS h
          · have h := h.2 c9
            refine lv_iload hx hb dX8_addToken_84 (lv_at hl 0 rfl) ?_
            refine lv_bipush (v := 122) hx hb dX8_addToken_86 (by decide) ?_
            refine lv_icmp_le (tgt := 94) hx hb dX8_addToken_88 (by decide) (fun c9 => ?_) (fun c9 => ?_)
            · have h := h.1 c9
              exact J94 (upd m_letters (((30 * m_tokens) + x5) : Int32).toNatClampNeg r_9) (upd m_stems (((30 * m_tokens) + x5) : Int32).toNatClampNeg r_9) x5 x6 x7 H locs ls (lv_sub hl [1, 2, 3, 4, 5, 6, 7, 8] rfl) hP hD hS h
            · have h := h.2 c9
              exact J91 (upd m_letters (((30 * m_tokens) + x5) : Int32).toNatClampNeg r_9) (upd m_stems (((30 * m_tokens) + x5) : Int32).toNatClampNeg r_9) x5 x7 H locs ls (lv_sub hl [1, 2, 3, 4, 5, 6, 8] rfl) hP hD hS h
  have J13 : ∀ (m_tokens : Int32) (m_end : Int32) (m_place : Nat → Int32) (m_begin : Nat → Int32) (m_tokenLong : Nat → Int32) (m_stemLong : Nat → Int32) (m_address : Nat → Int32) (m_letters : Nat → Int32) (m_stems : Nat → Int32) (m_s : Nat → Int32) (x5 : Int32) (s0 : Int32) (H : Heap) (locs : List Loc) (ls : Array Slot), lv_has ls 9 [(0, .ref (ad 0)), (1, .int x1), (2, .int x2), (3, .int x3), (4, .int x4), (5, .int x5)] → va_P (dC, dI) vwCl (mW ad cI cZ m_thrown m_size m_outLong m_lines m_toldLines m_tokens m_places m_p m_pre m_end m_text m_out m_lineAt m_lineLong m_depth m_signed m_led m_told m_place m_begin m_tokenLong m_stemLong m_address m_letters m_stems m_s) H → va_D A (mW ad cI cZ m_thrown m_size m_outLong m_lines m_toldLines m_tokens m_places m_p m_pre m_end m_text m_out m_lineAt m_lineLong m_depth m_signed m_led m_told m_place m_begin m_tokenLong m_stemLong m_address m_letters m_stems m_s) → va_S A s.heap H locs → wjX8_addToken_13 post m_text x1 x2 x3 x4 m_tokens m_end m_place m_begin m_tokenLong m_stemLong m_address m_letters m_stems m_s x5 s0 → W p l e (headSpec wsX8_addToken ({ frames := 6, cells := 0, slots := 0, locals := 137 })).room s m ([.ref (ad 0), .int x1, .int x2, .int x3, .int x4] : List Value).toArray below meth c H locs 0 0 (MQ below Qc ([.ref (ad 0), .int x1, .int x2, .int x3, .int x4] : List Value).toArray s 0 0 A) (F0 m 13 ls [.int s0]) := by
    intro m_tokens m_end m_place m_begin m_tokenLong m_stemLong m_address m_letters m_stems m_s x5 s0 H locs ls hl hP hD hS h
    delta wjX8_addToken_13 at h
    refine lv_istore (lv' := [(6, .int s0), (0, .ref (ad 0)), (1, .int x1), (2, .int x2), (3, .int x3), (4, .int x4), (5, .int x5)]) hx hb dX8_addToken_13 hl (by decide) rfl (fun ls hl => ?_)
    refine lv_iload_n hx hb dX8_addToken_15 rfl (lv_at hl 2 rfl) ?_
    refine lv_istore (lv' := [(7, .int x1), (6, .int s0), (0, .ref (ad 0)), (1, .int x1), (2, .int x2), (3, .int x3), (4, .int x4), (5, .int x5)]) hx hb dX8_addToken_16 hl (by decide) rfl (fun ls hl => ?_)
    obtain ⟨n, h⟩ := h
    exact L18 m_tokens m_end m_place m_begin m_tokenLong m_stemLong m_address m_s n m_letters m_stems x5 s0 x1 H locs ls (lv_sub hl [2, 3, 4, 5, 6, 7, 1, 0] rfl) hP hD hS h
  intro H locs hP hD hS
  delta wpX8_addToken at h
  refine lv_iconst (v := 0) hx hb dX8_addToken_0 (by decide) ?_
  refine lv_istore (lv' := [(5, .int 0), (0, .ref (ad 0)), (1, .int x1), (2, .int x2), (3, .int x3), (4, .int x4)]) hx hb dX8_addToken_1 hl (by decide) rfl (fun ls hl => ?_)
  refine lv_iload hx hb dX8_addToken_3 (lv_at hl 5 rfl) ?_
  refine lv_if_ne (tgt := 12) hx hb dX8_addToken_5 (by decide) (fun c9 => ?_) (fun c9 => ?_)
  · have h := h.1 c9
    refine lv_iconst (v := 0) hx hb dX8_addToken_12 (by decide) ?_
    exact J13 m_tokens m_end m_place m_begin m_tokenLong m_stemLong m_address m_letters m_stems m_s 0 0 H locs ls (lv_sub hl [1, 2, 3, 4, 5, 0] rfl) hP hD hS h
  · have h := h.2 c9
    refine lv_iconst (v := 1) hx hb dX8_addToken_8 (by decide) ?_
    refine lv_goto (tgt := 13) hx hb dX8_addToken_9 (by decide) ?_
    exact J13 m_tokens m_end m_place m_begin m_tokenLong m_stemLong m_address m_letters m_stems m_s 0 1 H locs ls (lv_sub hl [1, 2, 3, 4, 5, 0] rfl) hP hD hS h
set_option maxHeartbeats 4000000 in
set_option maxRecDepth 100000 in
theorem sX8_pieceEnd (l : Launch) (dC : Nat → ClassId) (dI : Nat → Nat → Nat) (ad : Nat → Nat) (cI cZ : ClassId) (sa sv : Nat → Nat) (m_thrown : Int32) (m_size : Int32) (m_outLong : Int32) (m_lines : Int32) (m_toldLines : Int32) (m_tokens : Int32) (m_places : Int32) (m_p : Int32) (m_pre : Int32) (m_end : Int32) (m_text : Nat → Int32) (m_out : Nat → Int32) (m_lineAt : Nat → Int32) (m_lineLong : Nat → Int32) (m_depth : Nat → Int32) (m_signed : Nat → Int32) (m_led : Nat → Int32) (m_told : Nat → Int32) (m_place : Nat → Int32) (m_begin : Nat → Int32) (m_tokenLong : Nat → Int32) (m_stemLong : Nat → Int32) (m_address : Nat → Int32) (m_letters : Nat → Int32) (m_stems : Nat → Int32) (m_s : Nat → Int32) (x1 : Int32) (x2 : Int32) {post : Int32 → Prop} (h : wpX8_pieceEnd post m_text x1 x2) : xMi l (dC, dI) vwCl [(cI, .int), (cZ, .boolean)] (sI sa sv) yX8_pieceEnd wsX8_pieceEnd ({ frames := 3, cells := 0, slots := 0, locals := 60 }) (mW ad cI cZ m_thrown m_size m_outLong m_lines m_toldLines m_tokens m_places m_p m_pre m_end m_text m_out m_lineAt m_lineLong m_depth m_signed m_led m_told m_place m_begin m_tokenLong m_stemLong m_address m_letters m_stems m_s) [.ref (ad 0), .int x1, .int x2] (fun (r : Int32) (u : Unit) => post r ) (fun u : Unit => (mW ad cI cZ m_thrown m_size m_outLong m_lines m_toldLines m_tokens m_places m_p m_pre m_end m_text m_out m_lineAt m_lineLong m_depth m_signed m_led m_told m_place m_begin m_tokenLong m_stemLong m_address m_letters m_stems m_s)) := by
  intro sz
  refine Met.ofW (cc := cX8_pieceEnd) (maxL := 4) (ret := (some .int)) (by decide) rfl ?_
  intro p e s m args below meth c s₁ B hml hv
  obtain ⟨rfl, hsz, hP, hK, hD0, hI⟩ := hv
  have hx := B.exec
  have hb := B.bytes
  have hr := B.returns
  have hts := atoms_spec (ws := wsX8_pieceEnd) B.pre
  have hown : s.vm.findClass RX8 = some m.cls := findClass_of_methodNamed B.named
  have hlocks := B.notSynchronized
  subst hsz
  have hD := hD0.self (sz := s.heap.size)
  generalize hAe : va_A (mW ad cI cZ m_thrown m_size m_outLong m_lines m_toldLines m_tokens m_places m_p m_pre m_end m_text m_out m_lineAt m_lineLong m_depth m_signed m_led m_told m_place m_begin m_tokenLong m_stemLong m_address m_letters m_stems m_s) s.heap.size = A at hD hI ⊢
  have hA : ∀ q : Nat, s.heap.size ≤ q → A q := fun q h => by rw [← hAe]; exact Or.inr h
  have hS : va_S A s.heap s.heap [] := va_S.rf
  have Fx : CallFix p m c cX8_pieceEnd 4 s ([.ref (ad 0), .int x1, .int x2] : List Value).toArray wsX8_pieceEnd RX8 := ⟨hx, hb, hml, hown, hts⟩
  have hQ : ∀ (r : Int32) (u : Unit) (t : State), (fun (r : Int32) (u : Unit) => post r ) r u → va_P (dC, dI) vwCl ((fun u : Unit => (mW ad cI cZ m_thrown m_size m_outLong m_lines m_toldLines m_tokens m_places m_p m_pre m_end m_text m_out m_lineAt m_lineLong m_depth m_signed m_led m_told m_place m_begin m_tokenLong m_stemLong m_address m_letters m_stems m_s)) u) t.heap → va_K (dC, dI) vwCl [(cI, .int), (cZ, .boolean)] t → va_D A ((fun u : Unit => (mW ad cI cZ m_thrown m_size m_outLong m_lines m_toldLines m_tokens m_places m_p m_pre m_end m_text m_out m_lineAt m_lineLong m_depth m_signed m_led m_told m_place m_begin m_tokenLong m_stemLong m_address m_letters m_stems m_s)) u) → va_F A s t → (va_Qi (fun (r : Int32) (u : Unit) => post r ) (xB (dC, dI) vwCl [(cI, .int), (cZ, .boolean)] A (fun u : Unit => (mW ad cI cZ m_thrown m_size m_outLong m_lines m_toldLines m_tokens m_places m_p m_pre m_end m_text m_out m_lineAt m_lineLong m_depth m_signed m_led m_told m_place m_begin m_tokenLong m_stemLong m_address m_letters m_stems m_s))) A) ([.ref (ad 0), .int x1, .int x2] : List Value).toArray s (.returned (some (.int r))) t := fun r u t h1 h2 h3 h4 h5 => ⟨⟨r, u, rfl, h1, h2, h3, h4⟩, h5⟩
  generalize (va_Qi (fun (r : Int32) (u : Unit) => post r ) (xB (dC, dI) vwCl [(cI, .int), (cZ, .boolean)] A (fun u : Unit => (mW ad cI cZ m_thrown m_size m_outLong m_lines m_toldLines m_tokens m_places m_p m_pre m_end m_text m_out m_lineAt m_lineLong m_depth m_signed m_led m_told m_place m_begin m_tokenLong m_stemLong m_address m_letters m_stems m_s))) A) = Qc at hQ ⊢
  have hl := lv_entry ([.ref (ad 0), .int x1, .int x2]) (n := 4) (Nat.le_of_ble_eq_true rfl)
  rw [lg_entry_eq]
  generalize (lg_sl ([.ref (ad 0), .int x1, .int x2]) ++ List.replicate (4 - (lg_sl ([.ref (ad 0), .int x1, .int x2])).length) Slot.unset).toArray = ls at hl ⊢
  have hl : lv_has ls 4 [(0, .ref (ad 0)), (1, .int x1), (2, .int x2)] := hl
  refine (fun (key : ∀ (H : Heap) (locs : List Loc), va_P (dC, dI) vwCl (mW ad cI cZ m_thrown m_size m_outLong m_lines m_toldLines m_tokens m_places m_p m_pre m_end m_text m_out m_lineAt m_lineLong m_depth m_signed m_led m_told m_place m_begin m_tokenLong m_stemLong m_address m_letters m_stems m_s) H → va_D A (mW ad cI cZ m_thrown m_size m_outLong m_lines m_toldLines m_tokens m_places m_p m_pre m_end m_text m_out m_lineAt m_lineLong m_depth m_signed m_led m_told m_place m_begin m_tokenLong m_stemLong m_address m_letters m_stems m_s) → va_S A s.heap H locs → W p l e (headSpec wsX8_pieceEnd ({ frames := 3, cells := 0, slots := 0, locals := 60 })).room s m ([.ref (ad 0), .int x1, .int x2] : List Value).toArray below meth c H locs 0 0 (MQ below Qc ([.ref (ad 0), .int x1, .int x2] : List Value).toArray s 0 0 A) (F0 m 0 ls [])) => key _ _ hP hD hS) ?_
  have inX8 : ∀ w ∈ wsX80, w ∈ wsX8_pieceEnd := (fun _ h9 => List.mem_cons_of_mem _ (List.mem_append_right _ h9))
  have L2 : ∀ (n : Nat) (x3 : Int32) (H : Heap) (locs : List Loc) (ls : Array Slot), lv_has ls 4 [(0, .ref (ad 0)), (2, .int x2), (3, .int x3)] → va_P (dC, dI) vwCl (mW ad cI cZ m_thrown m_size m_outLong m_lines m_toldLines m_tokens m_places m_p m_pre m_end m_text m_out m_lineAt m_lineLong m_depth m_signed m_led m_told m_place m_begin m_tokenLong m_stemLong m_address m_letters m_stems m_s) H → va_D A (mW ad cI cZ m_thrown m_size m_outLong m_lines m_toldLines m_tokens m_places m_p m_pre m_end m_text m_out m_lineAt m_lineLong m_depth m_signed m_led m_told m_place m_begin m_tokenLong m_stemLong m_address m_letters m_stems m_s) → va_S A s.heap H locs → wlX8_pieceEnd_2 post m_text x1 x2 n x3 → W p l e (headSpec wsX8_pieceEnd ({ frames := 3, cells := 0, slots := 0, locals := 60 })).room s m ([.ref (ad 0), .int x1, .int x2] : List Value).toArray below meth c H locs 0 0 (MQ below Qc ([.ref (ad 0), .int x1, .int x2] : List Value).toArray s 0 0 A) (F0 m 2 ls []) := by
    intro n
    induction n with
    | zero => intro x3 H locs ls _ _ _ _ h; exact absurd h (fun z => z)
    | succ n2 ih2 =>
      intro x3 H locs ls hl hP hD hS h
      rw [wlX8_pieceEnd_2] at h
      refine lv_iload_n hx hb dX8_pieceEnd_2 rfl (lv_at hl 2 rfl) ?_
      refine lv_iload_n hx hb dX8_pieceEnd_3 rfl (lv_at hl 1 rfl) ?_
      refine lv_icmp_ge (tgt := 25) hx hb dX8_pieceEnd_4 (by decide) (fun c9 => ?_) (fun c9 => ?_)
      · have h := h.1 c9
        refine lv_iload_n hx hb dX8_pieceEnd_25 rfl (lv_at hl 2 rfl) ?_
        exact W.iret (v := x3) hx hb hr (fun t ht hW => hQ x3 () t h (by rw [ht]; exact hP) (va_K.moved hW.alike hK) hD (hS.F ht)) hS.2.2 dX8_pieceEnd_26
      · have h := h.2 c9
        refine lv_aload_n hx hb dX8_pieceEnd_7 rfl (lv_at hl 0 rfl) ?_
        refine va_get (D := (dC, dI)) (ci := 7) (v := .ref (ad 1)) (C := RX8) (T := TX8) (N := 26) hx hb hts inX8 hown hK hP 0 rfl rfl 1 (by decide) (hts (.fieldLink RX8 7 "MailWordsModel" "text" "[I") (List.mem_of_getElem? (i := 1) rfl)) (fun _ h9 => h9) rfl dX8_pieceEnd_8 ?_
        refine lv_iload_n hx hb dX8_pieceEnd_11 rfl (lv_at hl 2 rfl) ?_
        have hi9 := h.1
        have h := h.2
        refine va_iald hx hb hK hP 1 0 rfl rfl hi9 dX8_pieceEnd_12 ?_
        refine xc_si (As := [.int (m_text x3.toNatClampNeg)]) (rest := []) xG Fx (sX8_isWord l dC dI ad cI cZ sa sv m_thrown m_size m_outLong m_lines m_toldLines m_tokens m_places m_p m_pre m_end m_text m_out m_lineAt m_lineLong m_depth m_signed m_led m_told m_place m_begin m_tokenLong m_stemLong m_address m_letters m_stems m_s (m_text x3.toNatClampNeg) h) (va_cwS 1 hts gX8_pieceEnd_X8_isWord rfl rfl rfl hdX8_isWord ⟨Nat.le_of_ble_eq_true rfl, Nat.le_of_ble_eq_true rfl⟩) hK hP hD hS hA hI rfl hl.1 rfl (Nat.le_of_ble_eq_true rfl) dX8_pieceEnd_13 ⟨Nat.zero_le _, Nat.zero_le _⟩ (fun r_1 u H locs h hP hD hS => ?_)
        refine lv_if_eq (tgt := 25) hx hb dX8_pieceEnd_16 (by decide) (fun c9 => ?_) (fun c9 => ?_)
        · have h := h.1 c9
          refine lv_iload_n hx hb dX8_pieceEnd_25 rfl (lv_at hl 2 rfl) ?_
          exact W.iret (v := x3) hx hb hr (fun t ht hW => hQ x3 () t h (by rw [ht]; exact hP) (va_K.moved hW.alike hK) hD (hS.F ht)) hS.2.2 dX8_pieceEnd_26
        · have h := h.2 c9
          obtain ⟨x3_2, ex3_2⟩ : ∃ y : Int32, y = x3 + 1 := ⟨_, rfl⟩
          have h := h x3_2 ex3_2
          refine lv_iinc (v := x3_2) (lv' := [(3, .int x3_2), (0, .ref (ad 0)), (2, .int x2)]) hx hb dX8_pieceEnd_19 hl (k := 2) rfl (by rw [ex3_2]; rfl) (by decide) rfl (fun ls hl => ?_)
          refine lv_goto (tgt := 2) hx hb dX8_pieceEnd_22 (by decide) ?_
          exact ih2 x3_2 H locs ls (lv_sub hl [1, 2, 0] rfl) hP hD hS h
  intro H locs hP hD hS
  delta wpX8_pieceEnd at h
  refine lv_iload_n hx hb dX8_pieceEnd_0 rfl (lv_at hl 1 rfl) ?_
  refine lv_istore_n (lv' := [(3, .int x1), (0, .ref (ad 0)), (1, .int x1), (2, .int x2)]) hx hb dX8_pieceEnd_1 rfl hl (by decide) rfl (fun ls hl => ?_)
  obtain ⟨n, h⟩ := h
  exact L2  n x1 H locs ls (lv_sub hl [1, 3, 0] rfl) hP hD hS h
set_option maxHeartbeats 4000000 in
set_option maxRecDepth 100000 in
theorem sX8_isAddress (l : Launch) (dC : Nat → ClassId) (dI : Nat → Nat → Nat) (ad : Nat → Nat) (cI cZ : ClassId) (sa sv : Nat → Nat) (m_thrown : Int32) (m_size : Int32) (m_outLong : Int32) (m_lines : Int32) (m_toldLines : Int32) (m_tokens : Int32) (m_places : Int32) (m_p : Int32) (m_pre : Int32) (m_end : Int32) (m_text : Nat → Int32) (m_out : Nat → Int32) (m_lineAt : Nat → Int32) (m_lineLong : Nat → Int32) (m_depth : Nat → Int32) (m_signed : Nat → Int32) (m_led : Nat → Int32) (m_told : Nat → Int32) (m_place : Nat → Int32) (m_begin : Nat → Int32) (m_tokenLong : Nat → Int32) (m_stemLong : Nat → Int32) (m_address : Nat → Int32) (m_letters : Nat → Int32) (m_stems : Nat → Int32) (m_s : Nat → Int32) (x1 : Int32) (x2 : Int32) {post : Int32 → Prop} (h : wpX8_isAddress post m_text x1 x2) : xMi l (dC, dI) vwCl [(cI, .int), (cZ, .boolean)] (sI sa sv) yX8_isAddress wsX8_isAddress ({ frames := 2, cells := 0, slots := 0, locals := 40 }) (mW ad cI cZ m_thrown m_size m_outLong m_lines m_toldLines m_tokens m_places m_p m_pre m_end m_text m_out m_lineAt m_lineLong m_depth m_signed m_led m_told m_place m_begin m_tokenLong m_stemLong m_address m_letters m_stems m_s) [.ref (ad 0), .int x1, .int x2] (fun (r : Int32) (u : Unit) => post r ) (fun u : Unit => (mW ad cI cZ m_thrown m_size m_outLong m_lines m_toldLines m_tokens m_places m_p m_pre m_end m_text m_out m_lineAt m_lineLong m_depth m_signed m_led m_told m_place m_begin m_tokenLong m_stemLong m_address m_letters m_stems m_s)) := by
  intro sz
  refine Met.ofW (cc := cX8_isAddress) (maxL := 4) (ret := (some .boolean)) (by decide) rfl ?_
  intro p e s m args below meth c s₁ B hml hv
  obtain ⟨rfl, hsz, hP, hK, hD0, hI⟩ := hv
  have hx := B.exec
  have hb := B.bytes
  have hr := B.returns
  have hts := atoms_spec (ws := wsX8_isAddress) B.pre
  have hown : s.vm.findClass RX8 = some m.cls := findClass_of_methodNamed B.named
  have hlocks := B.notSynchronized
  subst hsz
  have hD := hD0.self (sz := s.heap.size)
  generalize hAe : va_A (mW ad cI cZ m_thrown m_size m_outLong m_lines m_toldLines m_tokens m_places m_p m_pre m_end m_text m_out m_lineAt m_lineLong m_depth m_signed m_led m_told m_place m_begin m_tokenLong m_stemLong m_address m_letters m_stems m_s) s.heap.size = A at hD hI ⊢
  have hA : ∀ q : Nat, s.heap.size ≤ q → A q := fun q h => by rw [← hAe]; exact Or.inr h
  have hS : va_S A s.heap s.heap [] := va_S.rf
  have Fx : CallFix p m c cX8_isAddress 4 s ([.ref (ad 0), .int x1, .int x2] : List Value).toArray wsX8_isAddress RX8 := ⟨hx, hb, hml, hown, hts⟩
  have hQ : ∀ (r : Int32) (u : Unit) (t : State), (fun (r : Int32) (u : Unit) => post r ) r u → va_P (dC, dI) vwCl ((fun u : Unit => (mW ad cI cZ m_thrown m_size m_outLong m_lines m_toldLines m_tokens m_places m_p m_pre m_end m_text m_out m_lineAt m_lineLong m_depth m_signed m_led m_told m_place m_begin m_tokenLong m_stemLong m_address m_letters m_stems m_s)) u) t.heap → va_K (dC, dI) vwCl [(cI, .int), (cZ, .boolean)] t → va_D A ((fun u : Unit => (mW ad cI cZ m_thrown m_size m_outLong m_lines m_toldLines m_tokens m_places m_p m_pre m_end m_text m_out m_lineAt m_lineLong m_depth m_signed m_led m_told m_place m_begin m_tokenLong m_stemLong m_address m_letters m_stems m_s)) u) → va_F A s t → (va_Qi (fun (r : Int32) (u : Unit) => post r ) (xB (dC, dI) vwCl [(cI, .int), (cZ, .boolean)] A (fun u : Unit => (mW ad cI cZ m_thrown m_size m_outLong m_lines m_toldLines m_tokens m_places m_p m_pre m_end m_text m_out m_lineAt m_lineLong m_depth m_signed m_led m_told m_place m_begin m_tokenLong m_stemLong m_address m_letters m_stems m_s))) A) ([.ref (ad 0), .int x1, .int x2] : List Value).toArray s (.returned (some (.int r))) t := fun r u t h1 h2 h3 h4 h5 => ⟨⟨r, u, rfl, h1, h2, h3, h4⟩, h5⟩
  generalize (va_Qi (fun (r : Int32) (u : Unit) => post r ) (xB (dC, dI) vwCl [(cI, .int), (cZ, .boolean)] A (fun u : Unit => (mW ad cI cZ m_thrown m_size m_outLong m_lines m_toldLines m_tokens m_places m_p m_pre m_end m_text m_out m_lineAt m_lineLong m_depth m_signed m_led m_told m_place m_begin m_tokenLong m_stemLong m_address m_letters m_stems m_s))) A) = Qc at hQ ⊢
  have hl := lv_entry ([.ref (ad 0), .int x1, .int x2]) (n := 4) (Nat.le_of_ble_eq_true rfl)
  rw [lg_entry_eq]
  generalize (lg_sl ([.ref (ad 0), .int x1, .int x2]) ++ List.replicate (4 - (lg_sl ([.ref (ad 0), .int x1, .int x2])).length) Slot.unset).toArray = ls at hl ⊢
  have hl : lv_has ls 4 [(0, .ref (ad 0)), (1, .int x1), (2, .int x2)] := hl
  refine (fun (key : ∀ (H : Heap) (locs : List Loc), va_P (dC, dI) vwCl (mW ad cI cZ m_thrown m_size m_outLong m_lines m_toldLines m_tokens m_places m_p m_pre m_end m_text m_out m_lineAt m_lineLong m_depth m_signed m_led m_told m_place m_begin m_tokenLong m_stemLong m_address m_letters m_stems m_s) H → va_D A (mW ad cI cZ m_thrown m_size m_outLong m_lines m_toldLines m_tokens m_places m_p m_pre m_end m_text m_out m_lineAt m_lineLong m_depth m_signed m_led m_told m_place m_begin m_tokenLong m_stemLong m_address m_letters m_stems m_s) → va_S A s.heap H locs → W p l e (headSpec wsX8_isAddress ({ frames := 2, cells := 0, slots := 0, locals := 40 })).room s m ([.ref (ad 0), .int x1, .int x2] : List Value).toArray below meth c H locs 0 0 (MQ below Qc ([.ref (ad 0), .int x1, .int x2] : List Value).toArray s 0 0 A) (F0 m 0 ls [])) => key _ _ hP hD hS) ?_
  have inX8 : ∀ w ∈ wsX80, w ∈ wsX8_isAddress := (fun _ h9 => List.mem_cons_of_mem _ (List.mem_append_right _ h9))
  have L2 : ∀ (n : Nat) (x3 : Int32) (H : Heap) (locs : List Loc) (ls : Array Slot), lv_has ls 4 [(0, .ref (ad 0)), (2, .int x2), (3, .int x3)] → va_P (dC, dI) vwCl (mW ad cI cZ m_thrown m_size m_outLong m_lines m_toldLines m_tokens m_places m_p m_pre m_end m_text m_out m_lineAt m_lineLong m_depth m_signed m_led m_told m_place m_begin m_tokenLong m_stemLong m_address m_letters m_stems m_s) H → va_D A (mW ad cI cZ m_thrown m_size m_outLong m_lines m_toldLines m_tokens m_places m_p m_pre m_end m_text m_out m_lineAt m_lineLong m_depth m_signed m_led m_told m_place m_begin m_tokenLong m_stemLong m_address m_letters m_stems m_s) → va_S A s.heap H locs → wlX8_isAddress_2 post m_text x1 x2 n x3 → W p l e (headSpec wsX8_isAddress ({ frames := 2, cells := 0, slots := 0, locals := 40 })).room s m ([.ref (ad 0), .int x1, .int x2] : List Value).toArray below meth c H locs 0 0 (MQ below Qc ([.ref (ad 0), .int x1, .int x2] : List Value).toArray s 0 0 A) (F0 m 2 ls []) := by
    intro n
    induction n with
    | zero => intro x3 H locs ls _ _ _ _ h; exact absurd h (fun z => z)
    | succ n2 ih2 =>
      intro x3 H locs ls hl hP hD hS h
      have J59 : ∀ (x3 : Int32) (H : Heap) (locs : List Loc) (ls : Array Slot), lv_has ls 4 [(0, .ref (ad 0)), (2, .int x2), (3, .int x3)] → va_P (dC, dI) vwCl (mW ad cI cZ m_thrown m_size m_outLong m_lines m_toldLines m_tokens m_places m_p m_pre m_end m_text m_out m_lineAt m_lineLong m_depth m_signed m_led m_told m_place m_begin m_tokenLong m_stemLong m_address m_letters m_stems m_s) H → va_D A (mW ad cI cZ m_thrown m_size m_outLong m_lines m_toldLines m_tokens m_places m_p m_pre m_end m_text m_out m_lineAt m_lineLong m_depth m_signed m_led m_told m_place m_begin m_tokenLong m_stemLong m_address m_letters m_stems m_s) → va_S A s.heap H locs → wjX8_isAddress_59 (fun x3 => wlX8_isAddress_2 post m_text x1 x2 n2 x3) post m_text x1 x2 x3 → W p l e (headSpec wsX8_isAddress ({ frames := 2, cells := 0, slots := 0, locals := 40 })).room s m ([.ref (ad 0), .int x1, .int x2] : List Value).toArray below meth c H locs 0 0 (MQ below Qc ([.ref (ad 0), .int x1, .int x2] : List Value).toArray s 0 0 A) (F0 m 59 ls []) := by
        intro x3 H locs ls hl hP hD hS h
        delta wjX8_isAddress_59 at h
        obtain ⟨x3_1, ex3_1⟩ : ∃ y : Int32, y = x3 + 1 := ⟨_, rfl⟩
        have h := h x3_1 ex3_1
        refine lv_iinc (v := x3_1) (lv' := [(3, .int x3_1), (0, .ref (ad 0)), (2, .int x2)]) hx hb dX8_isAddress_59 hl (k := 2) rfl (by rw [ex3_1]; rfl) (by decide) rfl (fun ls hl => ?_)
        refine lv_goto (tgt := 2) hx hb dX8_isAddress_62 (by decide) ?_
        exact ih2 x3_1 H locs ls (lv_sub hl [1, 2, 0] rfl) hP hD hS h
      rw [wlX8_isAddress_2] at h
      refine lv_iload_n hx hb dX8_isAddress_2 rfl (lv_at hl 2 rfl) ?_
      refine lv_iload_n hx hb dX8_isAddress_3 rfl (lv_at hl 1 rfl) ?_
      refine lv_icmp_ge (tgt := 65) hx hb dX8_isAddress_4 (by decide) (fun c9 => ?_) (fun c9 => ?_)
      · have h := h.1 c9
        refine lv_iconst (v := 0) hx hb dX8_isAddress_65 (by decide) ?_
        exact W.zret (v := 0) hx hb hr (bN_nar bN0) (fun t ht hW => hQ 0 () t h (by rw [ht]; exact hP) (va_K.moved hW.alike hK) hD (hS.F ht)) hS.2.2 dX8_isAddress_66
      · have h := h.2 c9
        refine lv_aload_n hx hb dX8_isAddress_7 rfl (lv_at hl 0 rfl) ?_
        refine va_get (D := (dC, dI)) (ci := 7) (v := .ref (ad 1)) (C := RX8) (T := TX8) (N := 26) hx hb hts inX8 hown hK hP 0 rfl rfl 1 (by decide) (hts (.fieldLink RX8 7 "MailWordsModel" "text" "[I") (List.mem_of_getElem? (i := 1) rfl)) (fun _ h9 => h9) rfl dX8_isAddress_8 ?_
        refine lv_iload_n hx hb dX8_isAddress_11 rfl (lv_at hl 2 rfl) ?_
        have hi9 := h.1
        have h := h.2
        refine va_iald hx hb hK hP 1 0 rfl rfl hi9 dX8_isAddress_12 ?_
        refine lv_bipush (v := 64) hx hb dX8_isAddress_13 (by decide) ?_
        refine lv_icmp_eq (tgt := 57) hx hb dX8_isAddress_15 (by decide) (fun c9 => ?_) (fun c9 => ?_)
        · have h := h.1 c9
          refine lv_iconst (v := 1) hx hb dX8_isAddress_57 (by decide) ?_
          exact W.zret (v := 1) hx hb hr (bN_nar bN1) (fun t ht hW => hQ 1 () t h (by rw [ht]; exact hP) (va_K.moved hW.alike hK) hD (hS.F ht)) hS.2.2 dX8_isAddress_58
        · have h := h.2 c9
          refine lv_aload_n hx hb dX8_isAddress_18 rfl (lv_at hl 0 rfl) ?_
          refine va_get (D := (dC, dI)) (ci := 7) (v := .ref (ad 1)) (C := RX8) (T := TX8) (N := 26) hx hb hts inX8 hown hK hP 0 rfl rfl 1 (by decide) (hts (.fieldLink RX8 7 "MailWordsModel" "text" "[I") (List.mem_of_getElem? (i := 1) rfl)) (fun _ h9 => h9) rfl dX8_isAddress_19 ?_
          refine lv_iload_n hx hb dX8_isAddress_22 rfl (lv_at hl 2 rfl) ?_
          have hi9 := h.1
          have h := h.2
          refine va_iald hx hb hK hP 1 0 rfl rfl hi9 dX8_isAddress_23 ?_
          refine lv_bipush (v := 46) hx hb dX8_isAddress_24 (by decide) ?_
          refine lv_icmp_ne (tgt := 59) hx hb dX8_isAddress_26 (by decide) (fun c9 => ?_) (fun c9 => ?_)
          · have h := h.1 c9
            exact J59 x3 H locs ls (lv_sub hl [0, 1, 2] rfl) hP hD hS h
          · have h := h.2 c9
            refine lv_aload_n hx hb dX8_isAddress_29 rfl (lv_at hl 0 rfl) ?_
            refine va_get (D := (dC, dI)) (ci := 7) (v := .ref (ad 1)) (C := RX8) (T := TX8) (N := 26) hx hb hts inX8 hown hK hP 0 rfl rfl 1 (by decide) (hts (.fieldLink RX8 7 "MailWordsModel" "text" "[I") (List.mem_of_getElem? (i := 1) rfl)) (fun _ h9 => h9) rfl dX8_isAddress_30 ?_
            refine lv_iload_n hx hb dX8_isAddress_33 rfl (lv_at hl 2 rfl) ?_
            refine lv_iconst (v := 1) hx hb dX8_isAddress_34 (by decide) ?_
            refine lv_isub hx hb dX8_isAddress_35 ?_
            have hi9 := h.1
            have h := h.2
            refine va_iald hx hb hK hP 1 0 rfl rfl hi9 dX8_isAddress_36 ?_
            refine xc_si (As := [.int (m_text ((x3 - 1) : Int32).toNatClampNeg)]) (rest := []) xG Fx (sX8_isLetter l dC dI ad cI cZ sa sv m_thrown m_size m_outLong m_lines m_toldLines m_tokens m_places m_p m_pre m_end m_text m_out m_lineAt m_lineLong m_depth m_signed m_led m_told m_place m_begin m_tokenLong m_stemLong m_address m_letters m_stems m_s (m_text ((x3 - 1) : Int32).toNatClampNeg) h) (va_cwS 1 hts gX8_isAddress_X8_isLetter rfl rfl rfl hdX8_isLetter ⟨Nat.le_of_ble_eq_true rfl, Nat.le_of_ble_eq_true rfl⟩) hK hP hD hS hA hI rfl hl.1 rfl (Nat.le_of_ble_eq_true rfl) dX8_isAddress_37 ⟨Nat.zero_le _, Nat.zero_le _⟩ (fun r_2 u H locs h hP hD hS => ?_)
            refine lv_if_eq (tgt := 59) hx hb dX8_isAddress_40 (by decide) (fun c9 => ?_) (fun c9 => ?_)
            · have h := h.1 c9
              exact J59 x3 H locs ls (lv_sub hl [0, 1, 2] rfl) hP hD hS h
            · have h := h.2 c9
              refine lv_aload_n hx hb dX8_isAddress_43 rfl (lv_at hl 0 rfl) ?_
              refine va_get (D := (dC, dI)) (ci := 7) (v := .ref (ad 1)) (C := RX8) (T := TX8) (N := 26) hx hb hts inX8 hown hK hP 0 rfl rfl 1 (by decide) (hts (.fieldLink RX8 7 "MailWordsModel" "text" "[I") (List.mem_of_getElem? (i := 1) rfl)) (fun _ h9 => h9) rfl dX8_isAddress_44 ?_
              refine lv_iload_n hx hb dX8_isAddress_47 rfl (lv_at hl 2 rfl) ?_
              refine lv_iconst (v := 1) hx hb dX8_isAddress_48 (by decide) ?_
              refine lv_iadd hx hb dX8_isAddress_49 ?_
              have hi9 := h.1
              have h := h.2
              refine va_iald hx hb hK hP 1 0 rfl rfl hi9 dX8_isAddress_50 ?_
              refine xc_si (As := [.int (m_text ((x3 + 1) : Int32).toNatClampNeg)]) (rest := []) xG Fx (sX8_isLetter l dC dI ad cI cZ sa sv m_thrown m_size m_outLong m_lines m_toldLines m_tokens m_places m_p m_pre m_end m_text m_out m_lineAt m_lineLong m_depth m_signed m_led m_told m_place m_begin m_tokenLong m_stemLong m_address m_letters m_stems m_s (m_text ((x3 + 1) : Int32).toNatClampNeg) h) (va_cwS 1 hts gX8_isAddress_X8_isLetter rfl rfl rfl hdX8_isLetter ⟨Nat.le_of_ble_eq_true rfl, Nat.le_of_ble_eq_true rfl⟩) hK hP hD hS hA hI rfl hl.1 rfl (Nat.le_of_ble_eq_true rfl) dX8_isAddress_51 ⟨Nat.zero_le _, Nat.zero_le _⟩ (fun r_3 u H locs h hP hD hS => ?_)
              refine lv_if_eq (tgt := 59) hx hb dX8_isAddress_54 (by decide) (fun c9 => ?_) (fun c9 => ?_)
              · have h := h.1 c9
                exact J59 x3 H locs ls (lv_sub hl [0, 1, 2] rfl) hP hD hS h
              · have h := h.2 c9
                refine lv_iconst (v := 1) hx hb dX8_isAddress_57 (by decide) ?_
                exact W.zret (v := 1) hx hb hr (bN_nar bN1) (fun t ht hW => hQ 1 () t h (by rw [ht]; exact hP) (va_K.moved hW.alike hK) hD (hS.F ht)) hS.2.2 dX8_isAddress_58
  intro H locs hP hD hS
  delta wpX8_isAddress at h
  refine lv_iload_n hx hb dX8_isAddress_0 rfl (lv_at hl 1 rfl) ?_
  refine lv_istore_n (lv' := [(3, .int x1), (0, .ref (ad 0)), (1, .int x1), (2, .int x2)]) hx hb dX8_isAddress_1 rfl hl (by decide) rfl (fun ls hl => ?_)
  obtain ⟨n, h⟩ := h
  exact L2  n x1 H locs ls (lv_sub hl [1, 3, 0] rfl) hP hD hS h
set_option maxHeartbeats 4000000 in
set_option maxRecDepth 100000 in
theorem sX8_rowEnd (l : Launch) (dC : Nat → ClassId) (dI : Nat → Nat → Nat) (ad : Nat → Nat) (cI cZ : ClassId) (sa sv : Nat → Nat) (m_thrown : Int32) (m_size : Int32) (m_outLong : Int32) (m_lines : Int32) (m_toldLines : Int32) (m_tokens : Int32) (m_places : Int32) (m_p : Int32) (m_pre : Int32) (m_end : Int32) (m_text : Nat → Int32) (m_out : Nat → Int32) (m_lineAt : Nat → Int32) (m_lineLong : Nat → Int32) (m_depth : Nat → Int32) (m_signed : Nat → Int32) (m_led : Nat → Int32) (m_told : Nat → Int32) (m_place : Nat → Int32) (m_begin : Nat → Int32) (m_tokenLong : Nat → Int32) (m_stemLong : Nat → Int32) (m_address : Nat → Int32) (m_letters : Nat → Int32) (m_stems : Nat → Int32) (m_s : Nat → Int32) (x1 : Int32) (x2 : Int32) {post : Int32 → Prop} (h : wpX8_rowEnd post m_text x1 x2) : xMi l (dC, dI) vwCl [(cI, .int), (cZ, .boolean)] (sI sa sv) yX8_rowEnd wsX8_rowEnd ({ frames := 4, cells := 0, slots := 0, locals := 83 }) (mW ad cI cZ m_thrown m_size m_outLong m_lines m_toldLines m_tokens m_places m_p m_pre m_end m_text m_out m_lineAt m_lineLong m_depth m_signed m_led m_told m_place m_begin m_tokenLong m_stemLong m_address m_letters m_stems m_s) [.ref (ad 0), .int x1, .int x2] (fun (r : Int32) (u : Unit) => post r ) (fun u : Unit => (mW ad cI cZ m_thrown m_size m_outLong m_lines m_toldLines m_tokens m_places m_p m_pre m_end m_text m_out m_lineAt m_lineLong m_depth m_signed m_led m_told m_place m_begin m_tokenLong m_stemLong m_address m_letters m_stems m_s)) := by
  intro sz
  refine Met.ofW (cc := cX8_rowEnd) (maxL := 4) (ret := (some .int)) (by decide) rfl ?_
  intro p e s m args below meth c s₁ B hml hv
  obtain ⟨rfl, hsz, hP, hK, hD0, hI⟩ := hv
  have hx := B.exec
  have hb := B.bytes
  have hr := B.returns
  have hts := atoms_spec (ws := wsX8_rowEnd) B.pre
  have hown : s.vm.findClass RX8 = some m.cls := findClass_of_methodNamed B.named
  have hlocks := B.notSynchronized
  subst hsz
  have hD := hD0.self (sz := s.heap.size)
  generalize hAe : va_A (mW ad cI cZ m_thrown m_size m_outLong m_lines m_toldLines m_tokens m_places m_p m_pre m_end m_text m_out m_lineAt m_lineLong m_depth m_signed m_led m_told m_place m_begin m_tokenLong m_stemLong m_address m_letters m_stems m_s) s.heap.size = A at hD hI ⊢
  have hA : ∀ q : Nat, s.heap.size ≤ q → A q := fun q h => by rw [← hAe]; exact Or.inr h
  have hS : va_S A s.heap s.heap [] := va_S.rf
  have Fx : CallFix p m c cX8_rowEnd 4 s ([.ref (ad 0), .int x1, .int x2] : List Value).toArray wsX8_rowEnd RX8 := ⟨hx, hb, hml, hown, hts⟩
  have hQ : ∀ (r : Int32) (u : Unit) (t : State), (fun (r : Int32) (u : Unit) => post r ) r u → va_P (dC, dI) vwCl ((fun u : Unit => (mW ad cI cZ m_thrown m_size m_outLong m_lines m_toldLines m_tokens m_places m_p m_pre m_end m_text m_out m_lineAt m_lineLong m_depth m_signed m_led m_told m_place m_begin m_tokenLong m_stemLong m_address m_letters m_stems m_s)) u) t.heap → va_K (dC, dI) vwCl [(cI, .int), (cZ, .boolean)] t → va_D A ((fun u : Unit => (mW ad cI cZ m_thrown m_size m_outLong m_lines m_toldLines m_tokens m_places m_p m_pre m_end m_text m_out m_lineAt m_lineLong m_depth m_signed m_led m_told m_place m_begin m_tokenLong m_stemLong m_address m_letters m_stems m_s)) u) → va_F A s t → (va_Qi (fun (r : Int32) (u : Unit) => post r ) (xB (dC, dI) vwCl [(cI, .int), (cZ, .boolean)] A (fun u : Unit => (mW ad cI cZ m_thrown m_size m_outLong m_lines m_toldLines m_tokens m_places m_p m_pre m_end m_text m_out m_lineAt m_lineLong m_depth m_signed m_led m_told m_place m_begin m_tokenLong m_stemLong m_address m_letters m_stems m_s))) A) ([.ref (ad 0), .int x1, .int x2] : List Value).toArray s (.returned (some (.int r))) t := fun r u t h1 h2 h3 h4 h5 => ⟨⟨r, u, rfl, h1, h2, h3, h4⟩, h5⟩
  generalize (va_Qi (fun (r : Int32) (u : Unit) => post r ) (xB (dC, dI) vwCl [(cI, .int), (cZ, .boolean)] A (fun u : Unit => (mW ad cI cZ m_thrown m_size m_outLong m_lines m_toldLines m_tokens m_places m_p m_pre m_end m_text m_out m_lineAt m_lineLong m_depth m_signed m_led m_told m_place m_begin m_tokenLong m_stemLong m_address m_letters m_stems m_s))) A) = Qc at hQ ⊢
  have hl := lv_entry ([.ref (ad 0), .int x1, .int x2]) (n := 4) (Nat.le_of_ble_eq_true rfl)
  rw [lg_entry_eq]
  generalize (lg_sl ([.ref (ad 0), .int x1, .int x2]) ++ List.replicate (4 - (lg_sl ([.ref (ad 0), .int x1, .int x2])).length) Slot.unset).toArray = ls at hl ⊢
  have hl : lv_has ls 4 [(0, .ref (ad 0)), (1, .int x1), (2, .int x2)] := hl
  refine (fun (key : ∀ (H : Heap) (locs : List Loc), va_P (dC, dI) vwCl (mW ad cI cZ m_thrown m_size m_outLong m_lines m_toldLines m_tokens m_places m_p m_pre m_end m_text m_out m_lineAt m_lineLong m_depth m_signed m_led m_told m_place m_begin m_tokenLong m_stemLong m_address m_letters m_stems m_s) H → va_D A (mW ad cI cZ m_thrown m_size m_outLong m_lines m_toldLines m_tokens m_places m_p m_pre m_end m_text m_out m_lineAt m_lineLong m_depth m_signed m_led m_told m_place m_begin m_tokenLong m_stemLong m_address m_letters m_stems m_s) → va_S A s.heap H locs → W p l e (headSpec wsX8_rowEnd ({ frames := 4, cells := 0, slots := 0, locals := 83 })).room s m ([.ref (ad 0), .int x1, .int x2] : List Value).toArray below meth c H locs 0 0 (MQ below Qc ([.ref (ad 0), .int x1, .int x2] : List Value).toArray s 0 0 A) (F0 m 0 ls [])) => key _ _ hP hD hS) ?_
  have inX8 : ∀ w ∈ wsX80, w ∈ wsX8_rowEnd := (fun _ h9 => List.mem_cons_of_mem _ (List.mem_append_right _ h9))
  have L7 : ∀ (n : Nat) (x3 : Int32) (H : Heap) (locs : List Loc) (ls : Array Slot), lv_has ls 4 [(0, .ref (ad 0)), (2, .int x2), (3, .int x3)] → va_P (dC, dI) vwCl (mW ad cI cZ m_thrown m_size m_outLong m_lines m_toldLines m_tokens m_places m_p m_pre m_end m_text m_out m_lineAt m_lineLong m_depth m_signed m_led m_told m_place m_begin m_tokenLong m_stemLong m_address m_letters m_stems m_s) H → va_D A (mW ad cI cZ m_thrown m_size m_outLong m_lines m_toldLines m_tokens m_places m_p m_pre m_end m_text m_out m_lineAt m_lineLong m_depth m_signed m_led m_told m_place m_begin m_tokenLong m_stemLong m_address m_letters m_stems m_s) → va_S A s.heap H locs → wlX8_rowEnd_7 post m_text x1 x2 n x3 → W p l e (headSpec wsX8_rowEnd ({ frames := 4, cells := 0, slots := 0, locals := 83 })).room s m ([.ref (ad 0), .int x1, .int x2] : List Value).toArray below meth c H locs 0 0 (MQ below Qc ([.ref (ad 0), .int x1, .int x2] : List Value).toArray s 0 0 A) (F0 m 7 ls []) := by
    intro n
    induction n with
    | zero => intro x3 H locs ls _ _ _ _ h; exact absurd h (fun z => z)
    | succ n7 ih7 =>
      intro x3 H locs ls hl hP hD hS h
      rw [wlX8_rowEnd_7] at h
      refine lv_iload_n hx hb dX8_rowEnd_7 rfl (lv_at hl 2 rfl) ?_
      refine lv_iconst (v := 1) hx hb dX8_rowEnd_8 (by decide) ?_
      refine lv_iadd hx hb dX8_rowEnd_9 ?_
      refine lv_iload_n hx hb dX8_rowEnd_10 rfl (lv_at hl 1 rfl) ?_
      refine lv_icmp_ge (tgt := 52) hx hb dX8_rowEnd_11 (by decide) (fun c9 => ?_) (fun c9 => ?_)
      · have h := h.1 c9
        refine lv_iload_n hx hb dX8_rowEnd_52 rfl (lv_at hl 2 rfl) ?_
        exact W.iret (v := x3) hx hb hr (fun t ht hW => hQ x3 () t h (by rw [ht]; exact hP) (va_K.moved hW.alike hK) hD (hS.F ht)) hS.2.2 dX8_rowEnd_53
      · have h := h.2 c9
        refine lv_aload_n hx hb dX8_rowEnd_14 rfl (lv_at hl 0 rfl) ?_
        refine va_get (D := (dC, dI)) (ci := 7) (v := .ref (ad 1)) (C := RX8) (T := TX8) (N := 26) hx hb hts inX8 hown hK hP 0 rfl rfl 1 (by decide) (hts (.fieldLink RX8 7 "MailWordsModel" "text" "[I") (List.mem_of_getElem? (i := 1) rfl)) (fun _ h9 => h9) rfl dX8_rowEnd_15 ?_
        refine lv_iload_n hx hb dX8_rowEnd_18 rfl (lv_at hl 2 rfl) ?_
        have hi9 := h.1
        have h := h.2
        refine va_iald hx hb hK hP 1 0 rfl rfl hi9 dX8_rowEnd_19 ?_
        refine xc_si (As := [.int (m_text x3.toNatClampNeg)]) (rest := []) xG Fx (sX8_isSign l dC dI ad cI cZ sa sv m_thrown m_size m_outLong m_lines m_toldLines m_tokens m_places m_p m_pre m_end m_text m_out m_lineAt m_lineLong m_depth m_signed m_led m_told m_place m_begin m_tokenLong m_stemLong m_address m_letters m_stems m_s (m_text x3.toNatClampNeg) h) (va_cwS 1 hts gX8_rowEnd_X8_isSign rfl rfl rfl hdX8_isSign ⟨Nat.le_of_ble_eq_true rfl, Nat.le_of_ble_eq_true rfl⟩) hK hP hD hS hA hI rfl hl.1 rfl (Nat.le_of_ble_eq_true rfl) dX8_rowEnd_20 ⟨Nat.zero_le _, Nat.zero_le _⟩ (fun r_1 u H locs h hP hD hS => ?_)
        refine lv_if_eq (tgt := 52) hx hb dX8_rowEnd_23 (by decide) (fun c9 => ?_) (fun c9 => ?_)
        · have h := h.1 c9
          refine lv_iload_n hx hb dX8_rowEnd_52 rfl (lv_at hl 2 rfl) ?_
          exact W.iret (v := x3) hx hb hr (fun t ht hW => hQ x3 () t h (by rw [ht]; exact hP) (va_K.moved hW.alike hK) hD (hS.F ht)) hS.2.2 dX8_rowEnd_53
        · have h := h.2 c9
          refine lv_aload_n hx hb dX8_rowEnd_26 rfl (lv_at hl 0 rfl) ?_
          refine va_get (D := (dC, dI)) (ci := 7) (v := .ref (ad 1)) (C := RX8) (T := TX8) (N := 26) hx hb hts inX8 hown hK hP 0 rfl rfl 1 (by decide) (hts (.fieldLink RX8 7 "MailWordsModel" "text" "[I") (List.mem_of_getElem? (i := 1) rfl)) (fun _ h9 => h9) rfl dX8_rowEnd_27 ?_
          refine lv_iload_n hx hb dX8_rowEnd_30 rfl (lv_at hl 2 rfl) ?_
          refine lv_iconst (v := 1) hx hb dX8_rowEnd_31 (by decide) ?_
          refine lv_iadd hx hb dX8_rowEnd_32 ?_
          have hi9 := h.1
          have h := h.2
          refine va_iald hx hb hK hP 1 0 rfl rfl hi9 dX8_rowEnd_33 ?_
          refine xc_si (As := [.int (m_text ((x3 + 1) : Int32).toNatClampNeg)]) (rest := []) xG Fx (sX8_isWord l dC dI ad cI cZ sa sv m_thrown m_size m_outLong m_lines m_toldLines m_tokens m_places m_p m_pre m_end m_text m_out m_lineAt m_lineLong m_depth m_signed m_led m_told m_place m_begin m_tokenLong m_stemLong m_address m_letters m_stems m_s (m_text ((x3 + 1) : Int32).toNatClampNeg) h) (va_cwS 1 hts gX8_rowEnd_X8_isWord rfl rfl rfl hdX8_isWord ⟨Nat.le_of_ble_eq_true rfl, Nat.le_of_ble_eq_true rfl⟩) hK hP hD hS hA hI rfl hl.1 rfl (Nat.le_of_ble_eq_true rfl) dX8_rowEnd_34 ⟨Nat.zero_le _, Nat.zero_le _⟩ (fun r_2 u H locs h hP hD hS => ?_)
          refine lv_if_eq (tgt := 52) hx hb dX8_rowEnd_37 (by decide) (fun c9 => ?_) (fun c9 => ?_)
          · have h := h.1 c9
            refine lv_iload_n hx hb dX8_rowEnd_52 rfl (lv_at hl 2 rfl) ?_
            exact W.iret (v := x3) hx hb hr (fun t ht hW => hQ x3 () t h (by rw [ht]; exact hP) (va_K.moved hW.alike hK) hD (hS.F ht)) hS.2.2 dX8_rowEnd_53
          · have h := h.2 c9
            refine lv_aload_n hx hb dX8_rowEnd_40 rfl (lv_at hl 0 rfl) ?_
            refine lv_iload_n hx hb dX8_rowEnd_41 rfl (lv_at hl 2 rfl) ?_
            refine lv_iconst (v := 1) hx hb dX8_rowEnd_42 (by decide) ?_
            refine lv_iadd hx hb dX8_rowEnd_43 ?_
            refine lv_iload_n hx hb dX8_rowEnd_44 rfl (lv_at hl 1 rfl) ?_
            refine xc_vi (As := [.int (x3 + 1), .int x2]) (rest := []) xG Fx (sX8_pieceEnd l dC dI ad cI cZ sa sv m_thrown m_size m_outLong m_lines m_toldLines m_tokens m_places m_p m_pre m_end m_text m_out m_lineAt m_lineLong m_depth m_signed m_led m_told m_place m_begin m_tokenLong m_stemLong m_address m_letters m_stems m_s (x3 + 1) x2 h) (cwV 2 hts gX8_rowEnd_X8_pieceEnd rfl rfl rfl hdX8_pieceEnd ⟨Nat.le_of_ble_eq_true rfl, Nat.le_of_ble_eq_true rfl⟩) (va_recv hK hP (ci := 7) (q0 := 0) rfl rfl) hK hP hD hS hA hI rfl hl.1 rfl (Nat.le_of_ble_eq_true rfl) dX8_rowEnd_45 ⟨Nat.zero_le _, Nat.zero_le _⟩ (fun r_3 u H locs h hP hD hS => ?_)
            refine lv_istore_n (lv' := [(3, .int r_3), (0, .ref (ad 0)), (2, .int x2)]) hx hb dX8_rowEnd_48 rfl hl (by decide) rfl (fun ls hl => ?_)
            refine lv_goto (tgt := 7) hx hb dX8_rowEnd_49 (by decide) ?_
            exact ih7 r_3 H locs ls (lv_sub hl [1, 2, 0] rfl) hP hD hS h
  intro H locs hP hD hS
  delta wpX8_rowEnd at h
  refine lv_aload_n hx hb dX8_rowEnd_0 rfl (lv_at hl 0 rfl) ?_
  refine lv_iload_n hx hb dX8_rowEnd_1 rfl (lv_at hl 1 rfl) ?_
  refine lv_iload_n hx hb dX8_rowEnd_2 rfl (lv_at hl 2 rfl) ?_
  refine xc_vi (As := [.int x1, .int x2]) (rest := []) xG Fx (sX8_pieceEnd l dC dI ad cI cZ sa sv m_thrown m_size m_outLong m_lines m_toldLines m_tokens m_places m_p m_pre m_end m_text m_out m_lineAt m_lineLong m_depth m_signed m_led m_told m_place m_begin m_tokenLong m_stemLong m_address m_letters m_stems m_s x1 x2 h) (cwV 2 hts gX8_rowEnd_X8_pieceEnd rfl rfl rfl hdX8_pieceEnd ⟨Nat.le_of_ble_eq_true rfl, Nat.le_of_ble_eq_true rfl⟩) (va_recv hK hP (ci := 7) (q0 := 0) rfl rfl) hK hP hD hS hA hI rfl hl.1 rfl (Nat.le_of_ble_eq_true rfl) dX8_rowEnd_3 ⟨Nat.zero_le _, Nat.zero_le _⟩ (fun r_4 u H locs h hP hD hS => ?_)
  refine lv_istore_n (lv' := [(3, .int r_4), (0, .ref (ad 0)), (1, .int x1), (2, .int x2)]) hx hb dX8_rowEnd_6 rfl hl (by decide) rfl (fun ls hl => ?_)
  obtain ⟨n, h⟩ := h
  exact L7  n r_4 H locs ls (lv_sub hl [1, 3, 0] rfl) hP hD hS h
set_option maxHeartbeats 4000000 in
set_option maxRecDepth 100000 in
theorem sX8_cutRow (l : Launch) (dC : Nat → ClassId) (dI : Nat → Nat → Nat) (ad : Nat → Nat) (cI cZ : ClassId) (sa sv : Nat → Nat) (m_thrown : Int32) (m_size : Int32) (m_outLong : Int32) (m_lines : Int32) (m_toldLines : Int32) (m_tokens : Int32) (m_places : Int32) (m_p : Int32) (m_pre : Int32) (m_end : Int32) (m_text : Nat → Int32) (m_out : Nat → Int32) (m_lineAt : Nat → Int32) (m_lineLong : Nat → Int32) (m_depth : Nat → Int32) (m_signed : Nat → Int32) (m_led : Nat → Int32) (m_told : Nat → Int32) (m_place : Nat → Int32) (m_begin : Nat → Int32) (m_tokenLong : Nat → Int32) (m_stemLong : Nat → Int32) (m_address : Nat → Int32) (m_letters : Nat → Int32) (m_stems : Nat → Int32) (m_s : Nat → Int32) (x1 : Int32) (x2 : Int32) {post : Int32 → Int32 → Int32 → (Nat → Int32) → (Nat → Int32) → (Nat → Int32) → (Nat → Int32) → (Nat → Int32) → (Nat → Int32) → (Nat → Int32) → (Nat → Int32) → Prop} (h : wpX8_cutRow post m_tokens m_places m_end m_text m_place m_begin m_tokenLong m_stemLong m_address m_letters m_stems m_s x1 x2) : xMv l (dC, dI) vwCl [(cI, .int), (cZ, .boolean)] (sI sa sv) yX8_cutRow wsX8_cutRow ({ frames := 7, cells := 0, slots := 0, locals := 165 }) (mW ad cI cZ m_thrown m_size m_outLong m_lines m_toldLines m_tokens m_places m_p m_pre m_end m_text m_out m_lineAt m_lineLong m_depth m_signed m_led m_told m_place m_begin m_tokenLong m_stemLong m_address m_letters m_stems m_s) [.ref (ad 0), .int x1, .int x2] (fun u : Int32 × Int32 × Int32 × (Nat → Int32) × (Nat → Int32) × (Nat → Int32) × (Nat → Int32) × (Nat → Int32) × (Nat → Int32) × (Nat → Int32) × (Nat → Int32) => post u.1 u.2.1 u.2.2.1 u.2.2.2.1 u.2.2.2.2.1 u.2.2.2.2.2.1 u.2.2.2.2.2.2.1 u.2.2.2.2.2.2.2.1 u.2.2.2.2.2.2.2.2.1 u.2.2.2.2.2.2.2.2.2.1 u.2.2.2.2.2.2.2.2.2.2) (fun u : Int32 × Int32 × Int32 × (Nat → Int32) × (Nat → Int32) × (Nat → Int32) × (Nat → Int32) × (Nat → Int32) × (Nat → Int32) × (Nat → Int32) × (Nat → Int32) => (mW ad cI cZ m_thrown m_size m_outLong m_lines m_toldLines u.1 u.2.1 m_p m_pre u.2.2.1 m_text m_out m_lineAt m_lineLong m_depth m_signed m_led m_told u.2.2.2.1 u.2.2.2.2.1 u.2.2.2.2.2.1 u.2.2.2.2.2.2.1 u.2.2.2.2.2.2.2.1 u.2.2.2.2.2.2.2.2.1 u.2.2.2.2.2.2.2.2.2.1 u.2.2.2.2.2.2.2.2.2.2)) := by
  intro sz
  refine Met.ofW (cc := cX8_cutRow) (maxL := 5) (ret := none) (by decide) rfl ?_
  intro p e s m args below meth c s₁ B hml hv
  obtain ⟨rfl, hsz, hP, hK, hD0, hI⟩ := hv
  have hx := B.exec
  have hb := B.bytes
  have hr := B.returns
  have hts := atoms_spec (ws := wsX8_cutRow) B.pre
  have hown : s.vm.findClass RX8 = some m.cls := findClass_of_methodNamed B.named
  have hlocks := B.notSynchronized
  subst hsz
  have hD := hD0.self (sz := s.heap.size)
  generalize hAe : va_A (mW ad cI cZ m_thrown m_size m_outLong m_lines m_toldLines m_tokens m_places m_p m_pre m_end m_text m_out m_lineAt m_lineLong m_depth m_signed m_led m_told m_place m_begin m_tokenLong m_stemLong m_address m_letters m_stems m_s) s.heap.size = A at hD hI ⊢
  have hA : ∀ q : Nat, s.heap.size ≤ q → A q := fun q h => by rw [← hAe]; exact Or.inr h
  have hS : va_S A s.heap s.heap [] := va_S.rf
  have Fx : CallFix p m c cX8_cutRow 5 s ([.ref (ad 0), .int x1, .int x2] : List Value).toArray wsX8_cutRow RX8 := ⟨hx, hb, hml, hown, hts⟩
  have hQ : ∀ (u : Int32 × Int32 × Int32 × (Nat → Int32) × (Nat → Int32) × (Nat → Int32) × (Nat → Int32) × (Nat → Int32) × (Nat → Int32) × (Nat → Int32) × (Nat → Int32)) (t : State), (fun u : Int32 × Int32 × Int32 × (Nat → Int32) × (Nat → Int32) × (Nat → Int32) × (Nat → Int32) × (Nat → Int32) × (Nat → Int32) × (Nat → Int32) × (Nat → Int32) => post u.1 u.2.1 u.2.2.1 u.2.2.2.1 u.2.2.2.2.1 u.2.2.2.2.2.1 u.2.2.2.2.2.2.1 u.2.2.2.2.2.2.2.1 u.2.2.2.2.2.2.2.2.1 u.2.2.2.2.2.2.2.2.2.1 u.2.2.2.2.2.2.2.2.2.2) u → va_P (dC, dI) vwCl ((fun u : Int32 × Int32 × Int32 × (Nat → Int32) × (Nat → Int32) × (Nat → Int32) × (Nat → Int32) × (Nat → Int32) × (Nat → Int32) × (Nat → Int32) × (Nat → Int32) => (mW ad cI cZ m_thrown m_size m_outLong m_lines m_toldLines u.1 u.2.1 m_p m_pre u.2.2.1 m_text m_out m_lineAt m_lineLong m_depth m_signed m_led m_told u.2.2.2.1 u.2.2.2.2.1 u.2.2.2.2.2.1 u.2.2.2.2.2.2.1 u.2.2.2.2.2.2.2.1 u.2.2.2.2.2.2.2.2.1 u.2.2.2.2.2.2.2.2.2.1 u.2.2.2.2.2.2.2.2.2.2)) u) t.heap → va_K (dC, dI) vwCl [(cI, .int), (cZ, .boolean)] t → va_D A ((fun u : Int32 × Int32 × Int32 × (Nat → Int32) × (Nat → Int32) × (Nat → Int32) × (Nat → Int32) × (Nat → Int32) × (Nat → Int32) × (Nat → Int32) × (Nat → Int32) => (mW ad cI cZ m_thrown m_size m_outLong m_lines m_toldLines u.1 u.2.1 m_p m_pre u.2.2.1 m_text m_out m_lineAt m_lineLong m_depth m_signed m_led m_told u.2.2.2.1 u.2.2.2.2.1 u.2.2.2.2.2.1 u.2.2.2.2.2.2.1 u.2.2.2.2.2.2.2.1 u.2.2.2.2.2.2.2.2.1 u.2.2.2.2.2.2.2.2.2.1 u.2.2.2.2.2.2.2.2.2.2)) u) → va_F A s t → (va_Qv (fun u : Int32 × Int32 × Int32 × (Nat → Int32) × (Nat → Int32) × (Nat → Int32) × (Nat → Int32) × (Nat → Int32) × (Nat → Int32) × (Nat → Int32) × (Nat → Int32) => post u.1 u.2.1 u.2.2.1 u.2.2.2.1 u.2.2.2.2.1 u.2.2.2.2.2.1 u.2.2.2.2.2.2.1 u.2.2.2.2.2.2.2.1 u.2.2.2.2.2.2.2.2.1 u.2.2.2.2.2.2.2.2.2.1 u.2.2.2.2.2.2.2.2.2.2) (xB (dC, dI) vwCl [(cI, .int), (cZ, .boolean)] A (fun u : Int32 × Int32 × Int32 × (Nat → Int32) × (Nat → Int32) × (Nat → Int32) × (Nat → Int32) × (Nat → Int32) × (Nat → Int32) × (Nat → Int32) × (Nat → Int32) => (mW ad cI cZ m_thrown m_size m_outLong m_lines m_toldLines u.1 u.2.1 m_p m_pre u.2.2.1 m_text m_out m_lineAt m_lineLong m_depth m_signed m_led m_told u.2.2.2.1 u.2.2.2.2.1 u.2.2.2.2.2.1 u.2.2.2.2.2.2.1 u.2.2.2.2.2.2.2.1 u.2.2.2.2.2.2.2.2.1 u.2.2.2.2.2.2.2.2.2.1 u.2.2.2.2.2.2.2.2.2.2))) A) ([.ref (ad 0), .int x1, .int x2] : List Value).toArray s (.returned none) t := fun u t h1 h2 h3 h4 h5 => ⟨⟨u, rfl, h1, h2, h3, h4⟩, h5⟩
  generalize (va_Qv (fun u : Int32 × Int32 × Int32 × (Nat → Int32) × (Nat → Int32) × (Nat → Int32) × (Nat → Int32) × (Nat → Int32) × (Nat → Int32) × (Nat → Int32) × (Nat → Int32) => post u.1 u.2.1 u.2.2.1 u.2.2.2.1 u.2.2.2.2.1 u.2.2.2.2.2.1 u.2.2.2.2.2.2.1 u.2.2.2.2.2.2.2.1 u.2.2.2.2.2.2.2.2.1 u.2.2.2.2.2.2.2.2.2.1 u.2.2.2.2.2.2.2.2.2.2) (xB (dC, dI) vwCl [(cI, .int), (cZ, .boolean)] A (fun u : Int32 × Int32 × Int32 × (Nat → Int32) × (Nat → Int32) × (Nat → Int32) × (Nat → Int32) × (Nat → Int32) × (Nat → Int32) × (Nat → Int32) × (Nat → Int32) => (mW ad cI cZ m_thrown m_size m_outLong m_lines m_toldLines u.1 u.2.1 m_p m_pre u.2.2.1 m_text m_out m_lineAt m_lineLong m_depth m_signed m_led m_told u.2.2.2.1 u.2.2.2.2.1 u.2.2.2.2.2.1 u.2.2.2.2.2.2.1 u.2.2.2.2.2.2.2.1 u.2.2.2.2.2.2.2.2.1 u.2.2.2.2.2.2.2.2.2.1 u.2.2.2.2.2.2.2.2.2.2))) A) = Qc at hQ ⊢
  have hl := lv_entry ([.ref (ad 0), .int x1, .int x2]) (n := 5) (Nat.le_of_ble_eq_true rfl)
  rw [lg_entry_eq]
  generalize (lg_sl ([.ref (ad 0), .int x1, .int x2]) ++ List.replicate (5 - (lg_sl ([.ref (ad 0), .int x1, .int x2])).length) Slot.unset).toArray = ls at hl ⊢
  have hl : lv_has ls 5 [(0, .ref (ad 0)), (1, .int x1), (2, .int x2)] := hl
  refine (fun (key : ∀ (H : Heap) (locs : List Loc), va_P (dC, dI) vwCl (mW ad cI cZ m_thrown m_size m_outLong m_lines m_toldLines m_tokens m_places m_p m_pre m_end m_text m_out m_lineAt m_lineLong m_depth m_signed m_led m_told m_place m_begin m_tokenLong m_stemLong m_address m_letters m_stems m_s) H → va_D A (mW ad cI cZ m_thrown m_size m_outLong m_lines m_toldLines m_tokens m_places m_p m_pre m_end m_text m_out m_lineAt m_lineLong m_depth m_signed m_led m_told m_place m_begin m_tokenLong m_stemLong m_address m_letters m_stems m_s) → va_S A s.heap H locs → W p l e (headSpec wsX8_cutRow ({ frames := 7, cells := 0, slots := 0, locals := 165 })).room s m ([.ref (ad 0), .int x1, .int x2] : List Value).toArray below meth c H locs 0 0 (MQ below Qc ([.ref (ad 0), .int x1, .int x2] : List Value).toArray s 0 0 A) (F0 m 0 ls [])) => key _ _ hP hD hS) ?_
  have inX8 : ∀ w ∈ wsX80, w ∈ wsX8_cutRow := (fun _ h9 => List.mem_cons_of_mem _ (List.mem_append_right _ h9))
  have L2 : ∀ (n : Nat) (m_tokens : Int32) (m_places : Int32) (m_end : Int32) (m_place : Nat → Int32) (m_begin : Nat → Int32) (m_tokenLong : Nat → Int32) (m_stemLong : Nat → Int32) (m_address : Nat → Int32) (m_letters : Nat → Int32) (m_stems : Nat → Int32) (m_s : Nat → Int32) (x3 : Int32) (H : Heap) (locs : List Loc) (ls : Array Slot), lv_has ls 5 [(0, .ref (ad 0)), (1, .int x1), (2, .int x2), (3, .int x3)] → va_P (dC, dI) vwCl (mW ad cI cZ m_thrown m_size m_outLong m_lines m_toldLines m_tokens m_places m_p m_pre m_end m_text m_out m_lineAt m_lineLong m_depth m_signed m_led m_told m_place m_begin m_tokenLong m_stemLong m_address m_letters m_stems m_s) H → va_D A (mW ad cI cZ m_thrown m_size m_outLong m_lines m_toldLines m_tokens m_places m_p m_pre m_end m_text m_out m_lineAt m_lineLong m_depth m_signed m_led m_told m_place m_begin m_tokenLong m_stemLong m_address m_letters m_stems m_s) → va_S A s.heap H locs → wlX8_cutRow_2 post m_text x1 x2 n m_tokens m_places m_end m_place m_begin m_tokenLong m_stemLong m_address m_letters m_stems m_s x3 → W p l e (headSpec wsX8_cutRow ({ frames := 7, cells := 0, slots := 0, locals := 165 })).room s m ([.ref (ad 0), .int x1, .int x2] : List Value).toArray below meth c H locs 0 0 (MQ below Qc ([.ref (ad 0), .int x1, .int x2] : List Value).toArray s 0 0 A) (F0 m 2 ls []) := by
    intro n
    induction n with
    | zero => intro m_tokens m_places m_end m_place m_begin m_tokenLong m_stemLong m_address m_letters m_stems m_s x3 H locs ls _ _ _ _ h; exact absurd h (fun z => z)
    | succ n2 ih2 =>
      intro m_tokens m_places m_end m_place m_begin m_tokenLong m_stemLong m_address m_letters m_stems m_s x3 H locs ls hl hP hD hS h
      have J52 : ∀ (m_tokens : Int32) (m_places : Int32) (m_end : Int32) (m_place : Nat → Int32) (m_begin : Nat → Int32) (m_tokenLong : Nat → Int32) (m_stemLong : Nat → Int32) (m_address : Nat → Int32) (m_letters : Nat → Int32) (m_stems : Nat → Int32) (m_s : Nat → Int32) (x4 : Int32) (H : Heap) (locs : List Loc) (ls : Array Slot), lv_has ls 5 [(0, .ref (ad 0)), (1, .int x1), (2, .int x2), (4, .int x4)] → va_P (dC, dI) vwCl (mW ad cI cZ m_thrown m_size m_outLong m_lines m_toldLines m_tokens m_places m_p m_pre m_end m_text m_out m_lineAt m_lineLong m_depth m_signed m_led m_told m_place m_begin m_tokenLong m_stemLong m_address m_letters m_stems m_s) H → va_D A (mW ad cI cZ m_thrown m_size m_outLong m_lines m_toldLines m_tokens m_places m_p m_pre m_end m_text m_out m_lineAt m_lineLong m_depth m_signed m_led m_told m_place m_begin m_tokenLong m_stemLong m_address m_letters m_stems m_s) → va_S A s.heap H locs → wjX8_cutRow_52 (fun m_tokens m_places m_end m_place m_begin m_tokenLong m_stemLong m_address m_letters m_stems m_s x3 => wlX8_cutRow_2 post m_text x1 x2 n2 m_tokens m_places m_end m_place m_begin m_tokenLong m_stemLong m_address m_letters m_stems m_s x3) post m_text x1 x2 m_tokens m_places m_end m_place m_begin m_tokenLong m_stemLong m_address m_letters m_stems m_s x4 → W p l e (headSpec wsX8_cutRow ({ frames := 7, cells := 0, slots := 0, locals := 165 })).room s m ([.ref (ad 0), .int x1, .int x2] : List Value).toArray below meth c H locs 0 0 (MQ below Qc ([.ref (ad 0), .int x1, .int x2] : List Value).toArray s 0 0 A) (F0 m 52 ls []) := by
        intro m_tokens m_places m_end m_place m_begin m_tokenLong m_stemLong m_address m_letters m_stems m_s x4 H locs ls hl hP hD hS h
        delta wjX8_cutRow_52 at h
        refine lv_aload_n hx hb dX8_cutRow_52 rfl (lv_at hl 0 rfl) ?_
        refine lv_dup hx hb dX8_cutRow_53 rfl ?_
        refine va_get (D := (dC, dI)) (ci := 7) (v := .int m_places) (C := RX8) (T := TX8) (N := 26) hx hb hts inX8 hown hK hP 0 rfl rfl 14 (by decide) (hts (.fieldLink RX8 280 "MailWordsModel" "places" "I") (List.mem_of_getElem? (i := 1) rfl)) (fun _ h9 => h9) rfl dX8_cutRow_54 ?_
        refine lv_iconst (v := 1) hx hb dX8_cutRow_57 (by decide) ?_
        refine lv_iadd hx hb dX8_cutRow_58 ?_
        refine lv_topi (fun m_places_1 em_places_1 => ?_)
        have h := h m_places_1 em_places_1
        refine va_put (D := (dC, dI)) (ci := 7) (v := .int m_places_1) (ty := .int) (C := RX8) (T := TX8) (N := 26) hx hb hts inX8 tyX8 tyX8_ok nmX8 hown hK hP hD hS 0 rfl rfl 14 (by decide) (hts (.fieldLink RX8 280 "MailWordsModel" "places" "I") (List.mem_of_getElem? (i := 1) rfl)) (fun _ h9 => h9) rfl (tyX8_ok 14 (by decide)) rfl rfl (Nat.le_of_ble_eq_true rfl) dX8_cutRow_59 (fun H locs hP hD hS => ?_)
        have hP : va_P (dC, dI) vwCl (mW ad cI cZ m_thrown m_size m_outLong m_lines m_toldLines m_tokens m_places_1 m_p m_pre m_end m_text m_out m_lineAt m_lineLong m_depth m_signed m_led m_told m_place m_begin m_tokenLong m_stemLong m_address m_letters m_stems m_s) H := hP
        have hD : va_D A (mW ad cI cZ m_thrown m_size m_outLong m_lines m_toldLines m_tokens m_places_1 m_p m_pre m_end m_text m_out m_lineAt m_lineLong m_depth m_signed m_led m_told m_place m_begin m_tokenLong m_stemLong m_address m_letters m_stems m_s) := hD
        refine lv_iload hx hb dX8_cutRow_62 (lv_at hl 3 rfl) ?_
        refine lv_iconst (v := 1) hx hb dX8_cutRow_64 (by decide) ?_
        refine lv_iadd hx hb dX8_cutRow_65 ?_
        refine lv_topi (fun x3_2 ex3_2 => ?_)
        have h := h x3_2 ex3_2
        refine lv_istore_n (lv' := [(3, .int x3_2), (0, .ref (ad 0)), (1, .int x1), (2, .int x2), (4, .int x4)]) hx hb dX8_cutRow_66 rfl hl (by decide) rfl (fun ls hl => ?_)
        refine lv_goto (tgt := 2) hx hb dX8_cutRow_67 (by decide) ?_
        exact ih2 m_tokens m_places_1 m_end m_place m_begin m_tokenLong m_stemLong m_address m_letters m_stems m_s x3_2 H locs ls (lv_sub hl [1, 2, 3, 0] rfl) hP hD hS h
      rw [wlX8_cutRow_2] at h
      refine lv_iload_n hx hb dX8_cutRow_2 rfl (lv_at hl 3 rfl) ?_
      refine lv_iload_n hx hb dX8_cutRow_3 rfl (lv_at hl 2 rfl) ?_
      refine lv_icmp_ge (tgt := 70) hx hb dX8_cutRow_4 (by decide) (fun c9 => ?_) (fun c9 => ?_)
      · have h := h.1 c9
        exact W.vret hx hb hr (fun t ht hW => hQ (m_tokens, m_places, m_end, m_place, m_begin, m_tokenLong, m_stemLong, m_address, m_letters, m_stems, m_s) t h (by rw [ht]; exact hP) (va_K.moved hW.alike hK) hD (hS.F ht)) hS.2.2 dX8_cutRow_70
      · have h := h.2 c9
        refine lv_aload_n hx hb dX8_cutRow_7 rfl (lv_at hl 0 rfl) ?_
        refine lv_iload_n hx hb dX8_cutRow_8 rfl (lv_at hl 3 rfl) ?_
        refine lv_iload_n hx hb dX8_cutRow_9 rfl (lv_at hl 2 rfl) ?_
        refine xc_vi (As := [.int x3, .int x2]) (rest := []) xG Fx (sX8_pieceEnd l dC dI ad cI cZ sa sv m_thrown m_size m_outLong m_lines m_toldLines m_tokens m_places m_p m_pre m_end m_text m_out m_lineAt m_lineLong m_depth m_signed m_led m_told m_place m_begin m_tokenLong m_stemLong m_address m_letters m_stems m_s x3 x2 h) (cwV 2 hts gX8_cutRow_X8_pieceEnd rfl rfl rfl hdX8_pieceEnd ⟨Nat.le_of_ble_eq_true rfl, Nat.le_of_ble_eq_true rfl⟩) (va_recv hK hP (ci := 7) (q0 := 0) rfl rfl) hK hP hD hS hA hI rfl hl.1 rfl (Nat.le_of_ble_eq_true rfl) dX8_cutRow_10 ⟨Nat.zero_le _, Nat.zero_le _⟩ (fun r_3 u H locs h hP hD hS => ?_)
        refine lv_istore (lv' := [(4, .int r_3), (0, .ref (ad 0)), (1, .int x1), (2, .int x2), (3, .int x3)]) hx hb dX8_cutRow_13 hl (by decide) rfl (fun ls hl => ?_)
        refine lv_aload_n hx hb dX8_cutRow_15 rfl (lv_at hl 1 rfl) ?_
        refine lv_iload_n hx hb dX8_cutRow_16 rfl (lv_at hl 4 rfl) ?_
        refine lv_iload hx hb dX8_cutRow_17 (lv_at hl 0 rfl) ?_
        refine lv_aload_n hx hb dX8_cutRow_19 rfl (lv_at hl 1 rfl) ?_
        refine va_get (D := (dC, dI)) (ci := 7) (v := .int m_places) (C := RX8) (T := TX8) (N := 26) hx hb hts inX8 hown hK hP 0 rfl rfl 14 (by decide) (hts (.fieldLink RX8 280 "MailWordsModel" "places" "I") (List.mem_of_getElem? (i := 1) rfl)) (fun _ h9 => h9) rfl dX8_cutRow_20 ?_
        refine lv_iconst (v := 0) hx hb dX8_cutRow_23 (by decide) ?_
        refine xc_vv (As := [.int x3, .int r_3, .int m_places, .int 0]) (rest := []) xG Fx (sX8_addToken l dC dI ad cI cZ sa sv m_thrown m_size m_outLong m_lines m_toldLines m_tokens m_places m_p m_pre m_end m_text m_out m_lineAt m_lineLong m_depth m_signed m_led m_told m_place m_begin m_tokenLong m_stemLong m_address m_letters m_stems m_s x3 r_3 m_places 0 h) (cwV 4 hts gX8_cutRow_X8_addToken rfl rfl rfl hdX8_addToken ⟨Nat.le_of_ble_eq_true rfl, Nat.le_of_ble_eq_true rfl⟩) (va_recv hK hP (ci := 7) (q0 := 0) rfl rfl) hK hP hD hS hA hI rfl hl.1 rfl (Nat.le_of_ble_eq_true rfl) dX8_cutRow_24 ⟨Nat.zero_le _, Nat.zero_le _⟩ (fun u H locs h hP hD hS => ?_)
        obtain ⟨m_tokens_5, m_end_6, m_place_7, m_begin_8, m_tokenLong_9, m_stemLong_10, m_address_11, m_letters_12, m_stems_13, m_s_14⟩ := u
        have hP : va_P (dC, dI) vwCl (mW ad cI cZ m_thrown m_size m_outLong m_lines m_toldLines m_tokens_5 m_places m_p m_pre m_end_6 m_text m_out m_lineAt m_lineLong m_depth m_signed m_led m_told m_place_7 m_begin_8 m_tokenLong_9 m_stemLong_10 m_address_11 m_letters_12 m_stems_13 m_s_14) H := hP
        have hD : va_D A (mW ad cI cZ m_thrown m_size m_outLong m_lines m_toldLines m_tokens_5 m_places m_p m_pre m_end_6 m_text m_out m_lineAt m_lineLong m_depth m_signed m_led m_told m_place_7 m_begin_8 m_tokenLong_9 m_stemLong_10 m_address_11 m_letters_12 m_stems_13 m_s_14) := hD
        refine lv_iload_n hx hb dX8_cutRow_27 rfl (lv_at hl 4 rfl) ?_
        refine lv_iload_n hx hb dX8_cutRow_28 rfl (lv_at hl 2 rfl) ?_
        refine lv_icmp_ne (tgt := 52) hx hb dX8_cutRow_29 (by decide) (fun c9 => ?_) (fun c9 => ?_)
        · have h := h.1 c9
          exact J52 m_tokens_5 m_places m_end_6 m_place_7 m_begin_8 m_tokenLong_9 m_stemLong_10 m_address_11 m_letters_12 m_stems_13 m_s_14 r_3 H locs ls (lv_sub hl [1, 2, 3, 0] rfl) hP hD hS h
        · have h := h.2 c9
          refine lv_aload_n hx hb dX8_cutRow_32 rfl (lv_at hl 1 rfl) ?_
          refine lv_iload_n hx hb dX8_cutRow_33 rfl (lv_at hl 2 rfl) ?_
          refine lv_iload_n hx hb dX8_cutRow_34 rfl (lv_at hl 3 rfl) ?_
          refine xc_vi (As := [.int x1, .int x2]) (rest := []) xG Fx (sX8_isAddress l dC dI ad cI cZ sa sv m_thrown m_size m_outLong m_lines m_toldLines m_tokens_5 m_places m_p m_pre m_end_6 m_text m_out m_lineAt m_lineLong m_depth m_signed m_led m_told m_place_7 m_begin_8 m_tokenLong_9 m_stemLong_10 m_address_11 m_letters_12 m_stems_13 m_s_14 x1 x2 h) (cwV 2 hts gX8_cutRow_X8_isAddress rfl rfl rfl hdX8_isAddress ⟨Nat.le_of_ble_eq_true rfl, Nat.le_of_ble_eq_true rfl⟩) (va_recv hK hP (ci := 7) (q0 := 0) rfl rfl) hK hP hD hS hA hI rfl hl.1 rfl (Nat.le_of_ble_eq_true rfl) dX8_cutRow_35 ⟨Nat.zero_le _, Nat.zero_le _⟩ (fun r_15 u H locs h hP hD hS => ?_)
          refine lv_if_eq (tgt := 52) hx hb dX8_cutRow_38 (by decide) (fun c9 => ?_) (fun c9 => ?_)
          · have h := h.1 c9
            exact J52 m_tokens_5 m_places m_end_6 m_place_7 m_begin_8 m_tokenLong_9 m_stemLong_10 m_address_11 m_letters_12 m_stems_13 m_s_14 r_3 H locs ls (lv_sub hl [1, 2, 3, 0] rfl) hP hD hS h
          · have h := h.2 c9
            refine lv_aload_n hx hb dX8_cutRow_41 rfl (lv_at hl 1 rfl) ?_
            refine lv_iload_n hx hb dX8_cutRow_42 rfl (lv_at hl 2 rfl) ?_
            refine lv_iload_n hx hb dX8_cutRow_43 rfl (lv_at hl 3 rfl) ?_
            refine lv_aload_n hx hb dX8_cutRow_44 rfl (lv_at hl 1 rfl) ?_
            refine va_get (D := (dC, dI)) (ci := 7) (v := .int m_places) (C := RX8) (T := TX8) (N := 26) hx hb hts inX8 hown hK hP 0 rfl rfl 14 (by decide) (hts (.fieldLink RX8 280 "MailWordsModel" "places" "I") (List.mem_of_getElem? (i := 1) rfl)) (fun _ h9 => h9) rfl dX8_cutRow_45 ?_
            refine lv_iconst (v := 1) hx hb dX8_cutRow_48 (by decide) ?_
            refine xc_vv (As := [.int x1, .int x2, .int m_places, .int 1]) (rest := []) xG Fx (sX8_addToken l dC dI ad cI cZ sa sv m_thrown m_size m_outLong m_lines m_toldLines m_tokens_5 m_places m_p m_pre m_end_6 m_text m_out m_lineAt m_lineLong m_depth m_signed m_led m_told m_place_7 m_begin_8 m_tokenLong_9 m_stemLong_10 m_address_11 m_letters_12 m_stems_13 m_s_14 x1 x2 m_places 1 h) (cwV 4 hts gX8_cutRow_X8_addToken rfl rfl rfl hdX8_addToken ⟨Nat.le_of_ble_eq_true rfl, Nat.le_of_ble_eq_true rfl⟩) (va_recv hK hP (ci := 7) (q0 := 0) rfl rfl) hK hP hD hS hA hI rfl hl.1 rfl (Nat.le_of_ble_eq_true rfl) dX8_cutRow_49 ⟨Nat.zero_le _, Nat.zero_le _⟩ (fun u H locs h hP hD hS => ?_)
            obtain ⟨m_tokens_17, m_end_18, m_place_19, m_begin_20, m_tokenLong_21, m_stemLong_22, m_address_23, m_letters_24, m_stems_25, m_s_26⟩ := u
            have hP : va_P (dC, dI) vwCl (mW ad cI cZ m_thrown m_size m_outLong m_lines m_toldLines m_tokens_17 m_places m_p m_pre m_end_18 m_text m_out m_lineAt m_lineLong m_depth m_signed m_led m_told m_place_19 m_begin_20 m_tokenLong_21 m_stemLong_22 m_address_23 m_letters_24 m_stems_25 m_s_26) H := hP
            have hD : va_D A (mW ad cI cZ m_thrown m_size m_outLong m_lines m_toldLines m_tokens_17 m_places m_p m_pre m_end_18 m_text m_out m_lineAt m_lineLong m_depth m_signed m_led m_told m_place_19 m_begin_20 m_tokenLong_21 m_stemLong_22 m_address_23 m_letters_24 m_stems_25 m_s_26) := hD
            exact J52 m_tokens_17 m_places m_end_18 m_place_19 m_begin_20 m_tokenLong_21 m_stemLong_22 m_address_23 m_letters_24 m_stems_25 m_s_26 r_3 H locs ls (lv_sub hl [1, 2, 3, 0] rfl) hP hD hS h
  intro H locs hP hD hS
  delta wpX8_cutRow at h
  refine lv_iload_n hx hb dX8_cutRow_0 rfl (lv_at hl 1 rfl) ?_
  refine lv_istore_n (lv' := [(3, .int x1), (0, .ref (ad 0)), (1, .int x1), (2, .int x2)]) hx hb dX8_cutRow_1 rfl hl (by decide) rfl (fun ls hl => ?_)
  obtain ⟨n, h⟩ := h
  exact L2  n m_tokens m_places m_end m_place m_begin m_tokenLong m_stemLong m_address m_letters m_stems m_s x1 H locs ls (lv_sub hl [1, 2, 3, 0] rfl) hP hD hS h
set_option maxHeartbeats 4000000 in
set_option maxRecDepth 100000 in
theorem sX8_cutLine (l : Launch) (dC : Nat → ClassId) (dI : Nat → Nat → Nat) (ad : Nat → Nat) (cI cZ : ClassId) (sa sv : Nat → Nat) (m_thrown : Int32) (m_size : Int32) (m_outLong : Int32) (m_lines : Int32) (m_toldLines : Int32) (m_tokens : Int32) (m_places : Int32) (m_p : Int32) (m_pre : Int32) (m_end : Int32) (m_text : Nat → Int32) (m_out : Nat → Int32) (m_lineAt : Nat → Int32) (m_lineLong : Nat → Int32) (m_depth : Nat → Int32) (m_signed : Nat → Int32) (m_led : Nat → Int32) (m_told : Nat → Int32) (m_place : Nat → Int32) (m_begin : Nat → Int32) (m_tokenLong : Nat → Int32) (m_stemLong : Nat → Int32) (m_address : Nat → Int32) (m_letters : Nat → Int32) (m_stems : Nat → Int32) (m_s : Nat → Int32) (x1 : Int32) (x2 : Int32) {post : Int32 → Int32 → Int32 → (Nat → Int32) → (Nat → Int32) → (Nat → Int32) → (Nat → Int32) → (Nat → Int32) → (Nat → Int32) → (Nat → Int32) → (Nat → Int32) → Prop} (h : wpX8_cutLine post m_tokens m_places m_end m_text m_place m_begin m_tokenLong m_stemLong m_address m_letters m_stems m_s x1 x2) : xMv l (dC, dI) vwCl [(cI, .int), (cZ, .boolean)] (sI sa sv) yX8_cutLine wsX8_cutLine ({ frames := 8, cells := 0, slots := 0, locals := 189 }) (mW ad cI cZ m_thrown m_size m_outLong m_lines m_toldLines m_tokens m_places m_p m_pre m_end m_text m_out m_lineAt m_lineLong m_depth m_signed m_led m_told m_place m_begin m_tokenLong m_stemLong m_address m_letters m_stems m_s) [.ref (ad 0), .int x1, .int x2] (fun u : Int32 × Int32 × Int32 × (Nat → Int32) × (Nat → Int32) × (Nat → Int32) × (Nat → Int32) × (Nat → Int32) × (Nat → Int32) × (Nat → Int32) × (Nat → Int32) => post u.1 u.2.1 u.2.2.1 u.2.2.2.1 u.2.2.2.2.1 u.2.2.2.2.2.1 u.2.2.2.2.2.2.1 u.2.2.2.2.2.2.2.1 u.2.2.2.2.2.2.2.2.1 u.2.2.2.2.2.2.2.2.2.1 u.2.2.2.2.2.2.2.2.2.2) (fun u : Int32 × Int32 × Int32 × (Nat → Int32) × (Nat → Int32) × (Nat → Int32) × (Nat → Int32) × (Nat → Int32) × (Nat → Int32) × (Nat → Int32) × (Nat → Int32) => (mW ad cI cZ m_thrown m_size m_outLong m_lines m_toldLines u.1 u.2.1 m_p m_pre u.2.2.1 m_text m_out m_lineAt m_lineLong m_depth m_signed m_led m_told u.2.2.2.1 u.2.2.2.2.1 u.2.2.2.2.2.1 u.2.2.2.2.2.2.1 u.2.2.2.2.2.2.2.1 u.2.2.2.2.2.2.2.2.1 u.2.2.2.2.2.2.2.2.2.1 u.2.2.2.2.2.2.2.2.2.2)) := by
  intro sz
  refine Met.ofW (cc := cX8_cutLine) (maxL := 5) (ret := none) (by decide) rfl ?_
  intro p e s m args below meth c s₁ B hml hv
  obtain ⟨rfl, hsz, hP, hK, hD0, hI⟩ := hv
  have hx := B.exec
  have hb := B.bytes
  have hr := B.returns
  have hts := atoms_spec (ws := wsX8_cutLine) B.pre
  have hown : s.vm.findClass RX8 = some m.cls := findClass_of_methodNamed B.named
  have hlocks := B.notSynchronized
  subst hsz
  have hD := hD0.self (sz := s.heap.size)
  generalize hAe : va_A (mW ad cI cZ m_thrown m_size m_outLong m_lines m_toldLines m_tokens m_places m_p m_pre m_end m_text m_out m_lineAt m_lineLong m_depth m_signed m_led m_told m_place m_begin m_tokenLong m_stemLong m_address m_letters m_stems m_s) s.heap.size = A at hD hI ⊢
  have hA : ∀ q : Nat, s.heap.size ≤ q → A q := fun q h => by rw [← hAe]; exact Or.inr h
  have hS : va_S A s.heap s.heap [] := va_S.rf
  have Fx : CallFix p m c cX8_cutLine 5 s ([.ref (ad 0), .int x1, .int x2] : List Value).toArray wsX8_cutLine RX8 := ⟨hx, hb, hml, hown, hts⟩
  have hQ : ∀ (u : Int32 × Int32 × Int32 × (Nat → Int32) × (Nat → Int32) × (Nat → Int32) × (Nat → Int32) × (Nat → Int32) × (Nat → Int32) × (Nat → Int32) × (Nat → Int32)) (t : State), (fun u : Int32 × Int32 × Int32 × (Nat → Int32) × (Nat → Int32) × (Nat → Int32) × (Nat → Int32) × (Nat → Int32) × (Nat → Int32) × (Nat → Int32) × (Nat → Int32) => post u.1 u.2.1 u.2.2.1 u.2.2.2.1 u.2.2.2.2.1 u.2.2.2.2.2.1 u.2.2.2.2.2.2.1 u.2.2.2.2.2.2.2.1 u.2.2.2.2.2.2.2.2.1 u.2.2.2.2.2.2.2.2.2.1 u.2.2.2.2.2.2.2.2.2.2) u → va_P (dC, dI) vwCl ((fun u : Int32 × Int32 × Int32 × (Nat → Int32) × (Nat → Int32) × (Nat → Int32) × (Nat → Int32) × (Nat → Int32) × (Nat → Int32) × (Nat → Int32) × (Nat → Int32) => (mW ad cI cZ m_thrown m_size m_outLong m_lines m_toldLines u.1 u.2.1 m_p m_pre u.2.2.1 m_text m_out m_lineAt m_lineLong m_depth m_signed m_led m_told u.2.2.2.1 u.2.2.2.2.1 u.2.2.2.2.2.1 u.2.2.2.2.2.2.1 u.2.2.2.2.2.2.2.1 u.2.2.2.2.2.2.2.2.1 u.2.2.2.2.2.2.2.2.2.1 u.2.2.2.2.2.2.2.2.2.2)) u) t.heap → va_K (dC, dI) vwCl [(cI, .int), (cZ, .boolean)] t → va_D A ((fun u : Int32 × Int32 × Int32 × (Nat → Int32) × (Nat → Int32) × (Nat → Int32) × (Nat → Int32) × (Nat → Int32) × (Nat → Int32) × (Nat → Int32) × (Nat → Int32) => (mW ad cI cZ m_thrown m_size m_outLong m_lines m_toldLines u.1 u.2.1 m_p m_pre u.2.2.1 m_text m_out m_lineAt m_lineLong m_depth m_signed m_led m_told u.2.2.2.1 u.2.2.2.2.1 u.2.2.2.2.2.1 u.2.2.2.2.2.2.1 u.2.2.2.2.2.2.2.1 u.2.2.2.2.2.2.2.2.1 u.2.2.2.2.2.2.2.2.2.1 u.2.2.2.2.2.2.2.2.2.2)) u) → va_F A s t → (va_Qv (fun u : Int32 × Int32 × Int32 × (Nat → Int32) × (Nat → Int32) × (Nat → Int32) × (Nat → Int32) × (Nat → Int32) × (Nat → Int32) × (Nat → Int32) × (Nat → Int32) => post u.1 u.2.1 u.2.2.1 u.2.2.2.1 u.2.2.2.2.1 u.2.2.2.2.2.1 u.2.2.2.2.2.2.1 u.2.2.2.2.2.2.2.1 u.2.2.2.2.2.2.2.2.1 u.2.2.2.2.2.2.2.2.2.1 u.2.2.2.2.2.2.2.2.2.2) (xB (dC, dI) vwCl [(cI, .int), (cZ, .boolean)] A (fun u : Int32 × Int32 × Int32 × (Nat → Int32) × (Nat → Int32) × (Nat → Int32) × (Nat → Int32) × (Nat → Int32) × (Nat → Int32) × (Nat → Int32) × (Nat → Int32) => (mW ad cI cZ m_thrown m_size m_outLong m_lines m_toldLines u.1 u.2.1 m_p m_pre u.2.2.1 m_text m_out m_lineAt m_lineLong m_depth m_signed m_led m_told u.2.2.2.1 u.2.2.2.2.1 u.2.2.2.2.2.1 u.2.2.2.2.2.2.1 u.2.2.2.2.2.2.2.1 u.2.2.2.2.2.2.2.2.1 u.2.2.2.2.2.2.2.2.2.1 u.2.2.2.2.2.2.2.2.2.2))) A) ([.ref (ad 0), .int x1, .int x2] : List Value).toArray s (.returned none) t := fun u t h1 h2 h3 h4 h5 => ⟨⟨u, rfl, h1, h2, h3, h4⟩, h5⟩
  generalize (va_Qv (fun u : Int32 × Int32 × Int32 × (Nat → Int32) × (Nat → Int32) × (Nat → Int32) × (Nat → Int32) × (Nat → Int32) × (Nat → Int32) × (Nat → Int32) × (Nat → Int32) => post u.1 u.2.1 u.2.2.1 u.2.2.2.1 u.2.2.2.2.1 u.2.2.2.2.2.1 u.2.2.2.2.2.2.1 u.2.2.2.2.2.2.2.1 u.2.2.2.2.2.2.2.2.1 u.2.2.2.2.2.2.2.2.2.1 u.2.2.2.2.2.2.2.2.2.2) (xB (dC, dI) vwCl [(cI, .int), (cZ, .boolean)] A (fun u : Int32 × Int32 × Int32 × (Nat → Int32) × (Nat → Int32) × (Nat → Int32) × (Nat → Int32) × (Nat → Int32) × (Nat → Int32) × (Nat → Int32) × (Nat → Int32) => (mW ad cI cZ m_thrown m_size m_outLong m_lines m_toldLines u.1 u.2.1 m_p m_pre u.2.2.1 m_text m_out m_lineAt m_lineLong m_depth m_signed m_led m_told u.2.2.2.1 u.2.2.2.2.1 u.2.2.2.2.2.1 u.2.2.2.2.2.2.1 u.2.2.2.2.2.2.2.1 u.2.2.2.2.2.2.2.2.1 u.2.2.2.2.2.2.2.2.2.1 u.2.2.2.2.2.2.2.2.2.2))) A) = Qc at hQ ⊢
  have hl := lv_entry ([.ref (ad 0), .int x1, .int x2]) (n := 5) (Nat.le_of_ble_eq_true rfl)
  rw [lg_entry_eq]
  generalize (lg_sl ([.ref (ad 0), .int x1, .int x2]) ++ List.replicate (5 - (lg_sl ([.ref (ad 0), .int x1, .int x2])).length) Slot.unset).toArray = ls at hl ⊢
  have hl : lv_has ls 5 [(0, .ref (ad 0)), (1, .int x1), (2, .int x2)] := hl
  refine (fun (key : ∀ (H : Heap) (locs : List Loc), va_P (dC, dI) vwCl (mW ad cI cZ m_thrown m_size m_outLong m_lines m_toldLines m_tokens m_places m_p m_pre m_end m_text m_out m_lineAt m_lineLong m_depth m_signed m_led m_told m_place m_begin m_tokenLong m_stemLong m_address m_letters m_stems m_s) H → va_D A (mW ad cI cZ m_thrown m_size m_outLong m_lines m_toldLines m_tokens m_places m_p m_pre m_end m_text m_out m_lineAt m_lineLong m_depth m_signed m_led m_told m_place m_begin m_tokenLong m_stemLong m_address m_letters m_stems m_s) → va_S A s.heap H locs → W p l e (headSpec wsX8_cutLine ({ frames := 8, cells := 0, slots := 0, locals := 189 })).room s m ([.ref (ad 0), .int x1, .int x2] : List Value).toArray below meth c H locs 0 0 (MQ below Qc ([.ref (ad 0), .int x1, .int x2] : List Value).toArray s 0 0 A) (F0 m 0 ls [])) => key _ _ hP hD hS) ?_
  have inX8 : ∀ w ∈ wsX80, w ∈ wsX8_cutLine := (fun _ h9 => List.mem_cons_of_mem _ (List.mem_append_right _ h9))
  have L2 : ∀ (n : Nat) (m_tokens : Int32) (m_places : Int32) (m_end : Int32) (m_place : Nat → Int32) (m_begin : Nat → Int32) (m_tokenLong : Nat → Int32) (m_stemLong : Nat → Int32) (m_address : Nat → Int32) (m_letters : Nat → Int32) (m_stems : Nat → Int32) (m_s : Nat → Int32) (x3 : Int32) (H : Heap) (locs : List Loc) (ls : Array Slot), lv_has ls 5 [(0, .ref (ad 0)), (2, .int x2), (3, .int x3)] → va_P (dC, dI) vwCl (mW ad cI cZ m_thrown m_size m_outLong m_lines m_toldLines m_tokens m_places m_p m_pre m_end m_text m_out m_lineAt m_lineLong m_depth m_signed m_led m_told m_place m_begin m_tokenLong m_stemLong m_address m_letters m_stems m_s) H → va_D A (mW ad cI cZ m_thrown m_size m_outLong m_lines m_toldLines m_tokens m_places m_p m_pre m_end m_text m_out m_lineAt m_lineLong m_depth m_signed m_led m_told m_place m_begin m_tokenLong m_stemLong m_address m_letters m_stems m_s) → va_S A s.heap H locs → wlX8_cutLine_2 post m_text x1 x2 n m_tokens m_places m_end m_place m_begin m_tokenLong m_stemLong m_address m_letters m_stems m_s x3 → W p l e (headSpec wsX8_cutLine ({ frames := 8, cells := 0, slots := 0, locals := 189 })).room s m ([.ref (ad 0), .int x1, .int x2] : List Value).toArray below meth c H locs 0 0 (MQ below Qc ([.ref (ad 0), .int x1, .int x2] : List Value).toArray s 0 0 A) (F0 m 2 ls []) := by
    intro n
    induction n with
    | zero => intro m_tokens m_places m_end m_place m_begin m_tokenLong m_stemLong m_address m_letters m_stems m_s x3 H locs ls _ _ _ _ h; exact absurd h (fun z => z)
    | succ n2 ih2 =>
      intro m_tokens m_places m_end m_place m_begin m_tokenLong m_stemLong m_address m_letters m_stems m_s x3 H locs ls hl hP hD hS h
      rw [wlX8_cutLine_2] at h
      refine lv_iload_n hx hb dX8_cutLine_2 rfl (lv_at hl 2 rfl) ?_
      refine lv_iload_n hx hb dX8_cutLine_3 rfl (lv_at hl 1 rfl) ?_
      refine lv_icmp_ge (tgt := 57) hx hb dX8_cutLine_4 (by decide) (fun c9 => ?_) (fun c9 => ?_)
      · have h := h.1 c9
        exact W.vret hx hb hr (fun t ht hW => hQ (m_tokens, m_places, m_end, m_place, m_begin, m_tokenLong, m_stemLong, m_address, m_letters, m_stems, m_s) t h (by rw [ht]; exact hP) (va_K.moved hW.alike hK) hD (hS.F ht)) hS.2.2 dX8_cutLine_57
      · have h := h.2 c9
        refine lv_aload_n hx hb dX8_cutLine_7 rfl (lv_at hl 0 rfl) ?_
        refine va_get (D := (dC, dI)) (ci := 7) (v := .ref (ad 1)) (C := RX8) (T := TX8) (N := 26) hx hb hts inX8 hown hK hP 0 rfl rfl 1 (by decide) (hts (.fieldLink RX8 7 "MailWordsModel" "text" "[I") (List.mem_of_getElem? (i := 1) rfl)) (fun _ h9 => h9) rfl dX8_cutLine_8 ?_
        refine lv_iload_n hx hb dX8_cutLine_11 rfl (lv_at hl 2 rfl) ?_
        have hi9 := h.1
        have h := h.2
        refine va_iald hx hb hK hP 1 0 rfl rfl hi9 dX8_cutLine_12 ?_
        refine xc_si (As := [.int (m_text x3.toNatClampNeg)]) (rest := []) xG Fx (sX8_isWord l dC dI ad cI cZ sa sv m_thrown m_size m_outLong m_lines m_toldLines m_tokens m_places m_p m_pre m_end m_text m_out m_lineAt m_lineLong m_depth m_signed m_led m_told m_place m_begin m_tokenLong m_stemLong m_address m_letters m_stems m_s (m_text x3.toNatClampNeg) h) (va_cwS 1 hts gX8_cutLine_X8_isWord rfl rfl rfl hdX8_isWord ⟨Nat.le_of_ble_eq_true rfl, Nat.le_of_ble_eq_true rfl⟩) hK hP hD hS hA hI rfl hl.1 rfl (Nat.le_of_ble_eq_true rfl) dX8_cutLine_13 ⟨Nat.zero_le _, Nat.zero_le _⟩ (fun r_1 u H locs h hP hD hS => ?_)
        refine lv_if_eq (tgt := 51) hx hb dX8_cutLine_16 (by decide) (fun c9 => ?_) (fun c9 => ?_)
        · have h := h.1 c9
          obtain ⟨x3_2, ex3_2⟩ : ∃ y : Int32, y = x3 + 1 := ⟨_, rfl⟩
          have h := h x3_2 ex3_2
          refine lv_iinc (v := x3_2) (lv' := [(3, .int x3_2), (0, .ref (ad 0)), (2, .int x2)]) hx hb dX8_cutLine_51 hl (k := 2) rfl (by rw [ex3_2]; rfl) (by decide) rfl (fun ls hl => ?_)
          refine lv_goto (tgt := 2) hx hb dX8_cutLine_54 (by decide) ?_
          exact ih2 m_tokens m_places m_end m_place m_begin m_tokenLong m_stemLong m_address m_letters m_stems m_s x3_2 H locs ls (lv_sub hl [1, 2, 0] rfl) hP hD hS h
        · have h := h.2 c9
          refine lv_aload_n hx hb dX8_cutLine_19 rfl (lv_at hl 0 rfl) ?_
          refine va_get (D := (dC, dI)) (ci := 7) (v := .int m_places) (C := RX8) (T := TX8) (N := 26) hx hb hts inX8 hown hK hP 0 rfl rfl 14 (by decide) (hts (.fieldLink RX8 280 "MailWordsModel" "places" "I") (List.mem_of_getElem? (i := 2) rfl)) (fun _ h9 => h9) rfl dX8_cutLine_20 ?_
          refine lv_sipush (v := 300) hx hb dX8_cutLine_23 (by decide) ?_
          refine lv_icmp_lt (tgt := 30) hx hb dX8_cutLine_26 (by decide) (fun c9 => ?_) (fun c9 => ?_)
          · have h := h.1 c9
            refine lv_aload_n hx hb dX8_cutLine_30 rfl (lv_at hl 0 rfl) ?_
            refine lv_iload_n hx hb dX8_cutLine_31 rfl (lv_at hl 2 rfl) ?_
            refine lv_iload_n hx hb dX8_cutLine_32 rfl (lv_at hl 1 rfl) ?_
            refine xc_vi (As := [.int x3, .int x2]) (rest := []) xG Fx (sX8_rowEnd l dC dI ad cI cZ sa sv m_thrown m_size m_outLong m_lines m_toldLines m_tokens m_places m_p m_pre m_end m_text m_out m_lineAt m_lineLong m_depth m_signed m_led m_told m_place m_begin m_tokenLong m_stemLong m_address m_letters m_stems m_s x3 x2 h) (cwV 2 hts gX8_cutLine_X8_rowEnd rfl rfl rfl hdX8_rowEnd ⟨Nat.le_of_ble_eq_true rfl, Nat.le_of_ble_eq_true rfl⟩) (va_recv hK hP (ci := 7) (q0 := 0) rfl rfl) hK hP hD hS hA hI rfl hl.1 rfl (Nat.le_of_ble_eq_true rfl) dX8_cutLine_33 ⟨Nat.zero_le _, Nat.zero_le _⟩ (fun r_3 u H locs h hP hD hS => ?_)
            refine lv_istore (lv' := [(4, .int r_3), (0, .ref (ad 0)), (2, .int x2), (3, .int x3)]) hx hb dX8_cutLine_36 hl (by decide) rfl (fun ls hl => ?_)
            refine lv_aload_n hx hb dX8_cutLine_38 rfl (lv_at hl 1 rfl) ?_
            refine lv_iload_n hx hb dX8_cutLine_39 rfl (lv_at hl 3 rfl) ?_
            refine lv_iload hx hb dX8_cutLine_40 (lv_at hl 0 rfl) ?_
            refine xc_vv (As := [.int x3, .int r_3]) (rest := []) xG Fx (sX8_cutRow l dC dI ad cI cZ sa sv m_thrown m_size m_outLong m_lines m_toldLines m_tokens m_places m_p m_pre m_end m_text m_out m_lineAt m_lineLong m_depth m_signed m_led m_told m_place m_begin m_tokenLong m_stemLong m_address m_letters m_stems m_s x3 r_3 h) (cwV 2 hts gX8_cutLine_X8_cutRow rfl rfl rfl hdX8_cutRow ⟨Nat.le_of_ble_eq_true rfl, Nat.le_of_ble_eq_true rfl⟩) (va_recv hK hP (ci := 7) (q0 := 0) rfl rfl) hK hP hD hS hA hI rfl hl.1 rfl (Nat.le_of_ble_eq_true rfl) dX8_cutLine_42 ⟨Nat.zero_le _, Nat.zero_le _⟩ (fun u H locs h hP hD hS => ?_)
            obtain ⟨m_tokens_5, m_places_6, m_end_7, m_place_8, m_begin_9, m_tokenLong_10, m_stemLong_11, m_address_12, m_letters_13, m_stems_14, m_s_15⟩ := u
            have hP : va_P (dC, dI) vwCl (mW ad cI cZ m_thrown m_size m_outLong m_lines m_toldLines m_tokens_5 m_places_6 m_p m_pre m_end_7 m_text m_out m_lineAt m_lineLong m_depth m_signed m_led m_told m_place_8 m_begin_9 m_tokenLong_10 m_stemLong_11 m_address_12 m_letters_13 m_stems_14 m_s_15) H := hP
            have hD : va_D A (mW ad cI cZ m_thrown m_size m_outLong m_lines m_toldLines m_tokens_5 m_places_6 m_p m_pre m_end_7 m_text m_out m_lineAt m_lineLong m_depth m_signed m_led m_told m_place_8 m_begin_9 m_tokenLong_10 m_stemLong_11 m_address_12 m_letters_13 m_stems_14 m_s_15) := hD
            refine lv_iload hx hb dX8_cutLine_45 (lv_at hl 0 rfl) ?_
            refine lv_istore_n (lv' := [(3, .int r_3), (4, .int r_3), (0, .ref (ad 0)), (2, .int x2)]) hx hb dX8_cutLine_47 rfl hl (by decide) rfl (fun ls hl => ?_)
            refine lv_goto (tgt := 2) hx hb dX8_cutLine_48 (by decide) ?_
            exact ih2 m_tokens_5 m_places_6 m_end_7 m_place_8 m_begin_9 m_tokenLong_10 m_stemLong_11 m_address_12 m_letters_13 m_stems_14 m_s_15 r_3 H locs ls (lv_sub hl [2, 3, 0] rfl) hP hD hS h
          · have h := h.2 c9
            exact W.vret hx hb hr (fun t ht hW => hQ (m_tokens, m_places, m_end, m_place, m_begin, m_tokenLong, m_stemLong, m_address, m_letters, m_stems, m_s) t h (by rw [ht]; exact hP) (va_K.moved hW.alike hK) hD (hS.F ht)) hS.2.2 dX8_cutLine_29
  intro H locs hP hD hS
  delta wpX8_cutLine at h
  refine lv_iload_n hx hb dX8_cutLine_0 rfl (lv_at hl 1 rfl) ?_
  refine lv_istore_n (lv' := [(3, .int x1), (0, .ref (ad 0)), (1, .int x1), (2, .int x2)]) hx hb dX8_cutLine_1 rfl hl (by decide) rfl (fun ls hl => ?_)
  obtain ⟨n, h⟩ := h
  exact L2  n m_tokens m_places m_end m_place m_begin m_tokenLong m_stemLong m_address m_letters m_stems m_s x1 H locs ls (lv_sub hl [1, 3, 0] rfl) hP hD hS h
