set_option maxHeartbeats 4000000 in
set_option maxRecDepth 100000 in
theorem sX8_write (l : Launch) (dC : Nat → ClassId) (dI : Nat → Nat → Nat) (ad : Nat → Nat) (cI cZ : ClassId) (sa sv : Nat → Nat) (m_thrown : Int32) (m_size : Int32) (m_outLong : Int32) (m_lines : Int32) (m_toldLines : Int32) (m_tokens : Int32) (m_places : Int32) (m_p : Int32) (m_pre : Int32) (m_end : Int32) (m_text : Nat → Int32) (m_out : Nat → Int32) (m_lineAt : Nat → Int32) (m_lineLong : Nat → Int32) (m_depth : Nat → Int32) (m_signed : Nat → Int32) (m_led : Nat → Int32) (m_told : Nat → Int32) (m_place : Nat → Int32) (m_begin : Nat → Int32) (m_tokenLong : Nat → Int32) (m_stemLong : Nat → Int32) (m_address : Nat → Int32) (m_letters : Nat → Int32) (m_stems : Nat → Int32) (m_s : Nat → Int32) (x1 : Int32) {post : Int32 → (Nat → Int32) → Prop} (h : wpX8_write post m_outLong m_out x1) : xMv l (dC, dI) vwCl [(cI, .int), (cZ, .boolean)] (sI sa sv) yX8_write wsX8_write ({ frames := 0, cells := 0, slots := 0, locals := 0 }) (mW ad cI cZ m_thrown m_size m_outLong m_lines m_toldLines m_tokens m_places m_p m_pre m_end m_text m_out m_lineAt m_lineLong m_depth m_signed m_led m_told m_place m_begin m_tokenLong m_stemLong m_address m_letters m_stems m_s) [.ref (ad 0), .int x1] (fun u : Int32 × (Nat → Int32) => post u.1 u.2) (fun u : Int32 × (Nat → Int32) => (mW ad cI cZ m_thrown m_size u.1 m_lines m_toldLines m_tokens m_places m_p m_pre m_end m_text u.2 m_lineAt m_lineLong m_depth m_signed m_led m_told m_place m_begin m_tokenLong m_stemLong m_address m_letters m_stems m_s)) := by
  intro sz
  refine Met.ofW (cc := cX8_write) (maxL := 2) (ret := none) (by decide) rfl ?_
  intro p e s m args below meth c s₁ B hml hv
  obtain ⟨rfl, hsz, hP, hK, hD0, hI⟩ := hv
  have hx := B.exec
  have hb := B.bytes
  have hr := B.returns
  have hts := atoms_spec (ws := wsX8_write) B.pre
  have hown : s.vm.findClass RX8 = some m.cls := findClass_of_methodNamed B.named
  have hlocks := B.notSynchronized
  subst hsz
  have hD := hD0.self (sz := s.heap.size)
  generalize hAe : va_A (mW ad cI cZ m_thrown m_size m_outLong m_lines m_toldLines m_tokens m_places m_p m_pre m_end m_text m_out m_lineAt m_lineLong m_depth m_signed m_led m_told m_place m_begin m_tokenLong m_stemLong m_address m_letters m_stems m_s) s.heap.size = A at hD hI ⊢
  have hA : ∀ q : Nat, s.heap.size ≤ q → A q := fun q h => by rw [← hAe]; exact Or.inr h
  have hS : va_S A s.heap s.heap [] := va_S.rf
  have Fx : CallFix p m c cX8_write 2 s ([.ref (ad 0), .int x1] : List Value).toArray wsX8_write RX8 := ⟨hx, hb, hml, hown, hts⟩
  have hQ : ∀ (u : Int32 × (Nat → Int32)) (t : State), (fun u : Int32 × (Nat → Int32) => post u.1 u.2) u → va_P (dC, dI) vwCl ((fun u : Int32 × (Nat → Int32) => (mW ad cI cZ m_thrown m_size u.1 m_lines m_toldLines m_tokens m_places m_p m_pre m_end m_text u.2 m_lineAt m_lineLong m_depth m_signed m_led m_told m_place m_begin m_tokenLong m_stemLong m_address m_letters m_stems m_s)) u) t.heap → va_K (dC, dI) vwCl [(cI, .int), (cZ, .boolean)] t → va_D A ((fun u : Int32 × (Nat → Int32) => (mW ad cI cZ m_thrown m_size u.1 m_lines m_toldLines m_tokens m_places m_p m_pre m_end m_text u.2 m_lineAt m_lineLong m_depth m_signed m_led m_told m_place m_begin m_tokenLong m_stemLong m_address m_letters m_stems m_s)) u) → va_F A s t → (va_Qv (fun u : Int32 × (Nat → Int32) => post u.1 u.2) (xB (dC, dI) vwCl [(cI, .int), (cZ, .boolean)] A (fun u : Int32 × (Nat → Int32) => (mW ad cI cZ m_thrown m_size u.1 m_lines m_toldLines m_tokens m_places m_p m_pre m_end m_text u.2 m_lineAt m_lineLong m_depth m_signed m_led m_told m_place m_begin m_tokenLong m_stemLong m_address m_letters m_stems m_s))) A) ([.ref (ad 0), .int x1] : List Value).toArray s (.returned none) t := fun u t h1 h2 h3 h4 h5 => ⟨⟨u, rfl, h1, h2, h3, h4⟩, h5⟩
  generalize (va_Qv (fun u : Int32 × (Nat → Int32) => post u.1 u.2) (xB (dC, dI) vwCl [(cI, .int), (cZ, .boolean)] A (fun u : Int32 × (Nat → Int32) => (mW ad cI cZ m_thrown m_size u.1 m_lines m_toldLines m_tokens m_places m_p m_pre m_end m_text u.2 m_lineAt m_lineLong m_depth m_signed m_led m_told m_place m_begin m_tokenLong m_stemLong m_address m_letters m_stems m_s))) A) = Qc at hQ ⊢
  have hl := lv_entry ([.ref (ad 0), .int x1]) (n := 2) (Nat.le_of_ble_eq_true rfl)
  rw [lg_entry_eq]
  generalize (lg_sl ([.ref (ad 0), .int x1]) ++ List.replicate (2 - (lg_sl ([.ref (ad 0), .int x1])).length) Slot.unset).toArray = ls at hl ⊢
  have hl : lv_has ls 2 [(0, .ref (ad 0)), (1, .int x1)] := hl
  refine (fun (key : ∀ (H : Heap) (locs : List Loc), va_P (dC, dI) vwCl (mW ad cI cZ m_thrown m_size m_outLong m_lines m_toldLines m_tokens m_places m_p m_pre m_end m_text m_out m_lineAt m_lineLong m_depth m_signed m_led m_told m_place m_begin m_tokenLong m_stemLong m_address m_letters m_stems m_s) H → va_D A (mW ad cI cZ m_thrown m_size m_outLong m_lines m_toldLines m_tokens m_places m_p m_pre m_end m_text m_out m_lineAt m_lineLong m_depth m_signed m_led m_told m_place m_begin m_tokenLong m_stemLong m_address m_letters m_stems m_s) → va_S A s.heap H locs → W p l e (headSpec wsX8_write ({ frames := 0, cells := 0, slots := 0, locals := 0 })).room s m ([.ref (ad 0), .int x1] : List Value).toArray below meth c H locs 0 0 (MQ below Qc ([.ref (ad 0), .int x1] : List Value).toArray s 0 0 A) (F0 m 0 ls [])) => key _ _ hP hD hS) ?_
  have inX8 : ∀ w ∈ wsX80, w ∈ wsX8_write := (fun _ h9 => List.mem_cons_of_mem _ (List.mem_append_right _ h9))
  intro H locs hP hD hS
  delta wpX8_write at h
  refine lv_aload_n hx hb dX8_write_0 rfl (lv_at hl 0 rfl) ?_
  refine va_get (D := (dC, dI)) (ci := 7) (v := .ref (ad 2)) (C := RX8) (T := TX8) (N := 26) hx hb hts inX8 hown hK hP 0 rfl rfl 3 (by decide) (hts (.fieldLink RX8 13 "MailWordsModel" "out" "[I") (List.mem_of_getElem? (i := 1) rfl)) (fun _ h9 => h9) rfl dX8_write_1 ?_
  refine lv_aload_n hx hb dX8_write_4 rfl (lv_at hl 0 rfl) ?_
  refine va_get (D := (dC, dI)) (ci := 7) (v := .int m_outLong) (C := RX8) (T := TX8) (N := 26) hx hb hts inX8 hown hK hP 0 rfl rfl 4 (by decide) (hts (.fieldLink RX8 86 "MailWordsModel" "outLong" "I") (List.mem_of_getElem? (i := 2) rfl)) (fun _ h9 => h9) rfl dX8_write_5 ?_
  refine lv_iload_n hx hb dX8_write_8 rfl (lv_at hl 1 rfl) ?_
  have hi9 := h.1
  have h := h.2
  refine va_iast hx hb hK hP hD hS 2 0 rfl rfl hi9 dX8_write_9 (fun H locs hP hD hS => ?_)
  have hP : va_P (dC, dI) vwCl (mW ad cI cZ m_thrown m_size m_outLong m_lines m_toldLines m_tokens m_places m_p m_pre m_end m_text (upd m_out m_outLong.toNatClampNeg x1) m_lineAt m_lineLong m_depth m_signed m_led m_told m_place m_begin m_tokenLong m_stemLong m_address m_letters m_stems m_s) H := hP
  have hD : va_D A (mW ad cI cZ m_thrown m_size m_outLong m_lines m_toldLines m_tokens m_places m_p m_pre m_end m_text (upd m_out m_outLong.toNatClampNeg x1) m_lineAt m_lineLong m_depth m_signed m_led m_told m_place m_begin m_tokenLong m_stemLong m_address m_letters m_stems m_s) := hD
  refine lv_aload_n hx hb dX8_write_10 rfl (lv_at hl 0 rfl) ?_
  refine lv_dup hx hb dX8_write_11 rfl ?_
  refine va_get (D := (dC, dI)) (ci := 7) (v := .int m_outLong) (C := RX8) (T := TX8) (N := 26) hx hb hts inX8 hown hK hP 0 rfl rfl 4 (by decide) (hts (.fieldLink RX8 86 "MailWordsModel" "outLong" "I") (List.mem_of_getElem? (i := 2) rfl)) (fun _ h9 => h9) rfl dX8_write_12 ?_
  refine lv_iconst (v := 1) hx hb dX8_write_15 (by decide) ?_
  refine lv_iadd hx hb dX8_write_16 ?_
  refine lv_topi (fun m_outLong_1 em_outLong_1 => ?_)
  have h := h m_outLong_1 em_outLong_1
  refine va_put (D := (dC, dI)) (ci := 7) (v := .int m_outLong_1) (ty := .int) (C := RX8) (T := TX8) (N := 26) hx hb hts inX8 tyX8 tyX8_ok nmX8 hown hK hP hD hS 0 rfl rfl 4 (by decide) (hts (.fieldLink RX8 86 "MailWordsModel" "outLong" "I") (List.mem_of_getElem? (i := 2) rfl)) (fun _ h9 => h9) rfl (tyX8_ok 4 (by decide)) rfl rfl (Nat.le_of_ble_eq_true rfl) dX8_write_17 (fun H locs hP hD hS => ?_)
  have hP : va_P (dC, dI) vwCl (mW ad cI cZ m_thrown m_size m_outLong_1 m_lines m_toldLines m_tokens m_places m_p m_pre m_end m_text (upd m_out m_outLong.toNatClampNeg x1) m_lineAt m_lineLong m_depth m_signed m_led m_told m_place m_begin m_tokenLong m_stemLong m_address m_letters m_stems m_s) H := hP
  have hD : va_D A (mW ad cI cZ m_thrown m_size m_outLong_1 m_lines m_toldLines m_tokens m_places m_p m_pre m_end m_text (upd m_out m_outLong.toNatClampNeg x1) m_lineAt m_lineLong m_depth m_signed m_led m_told m_place m_begin m_tokenLong m_stemLong m_address m_letters m_stems m_s) := hD
  exact W.vret hx hb hr (fun t ht hW => hQ (m_outLong_1, (upd m_out m_outLong.toNatClampNeg x1)) t h (by rw [ht]; exact hP) (va_K.moved hW.alike hK) hD (hS.F ht)) hS.2.2 dX8_write_20
set_option maxHeartbeats 4000000 in
set_option maxRecDepth 100000 in
theorem sX8_behind (l : Launch) (dC : Nat → ClassId) (dI : Nat → Nat → Nat) (ad : Nat → Nat) (cI cZ : ClassId) (sa sv : Nat → Nat) (m_thrown : Int32) (m_size : Int32) (m_outLong : Int32) (m_lines : Int32) (m_toldLines : Int32) (m_tokens : Int32) (m_places : Int32) (m_p : Int32) (m_pre : Int32) (m_end : Int32) (m_text : Nat → Int32) (m_out : Nat → Int32) (m_lineAt : Nat → Int32) (m_lineLong : Nat → Int32) (m_depth : Nat → Int32) (m_signed : Nat → Int32) (m_led : Nat → Int32) (m_told : Nat → Int32) (m_place : Nat → Int32) (m_begin : Nat → Int32) (m_tokenLong : Nat → Int32) (m_stemLong : Nat → Int32) (m_address : Nat → Int32) (m_letters : Nat → Int32) (m_stems : Nat → Int32) (m_s : Nat → Int32) (x1 : Int32) {post : Int32 → Prop} (h : wpX8_behind post m_outLong m_out x1) : xMi l (dC, dI) vwCl [(cI, .int), (cZ, .boolean)] (sI sa sv) yX8_behind wsX8_behind ({ frames := 0, cells := 0, slots := 0, locals := 0 }) (mW ad cI cZ m_thrown m_size m_outLong m_lines m_toldLines m_tokens m_places m_p m_pre m_end m_text m_out m_lineAt m_lineLong m_depth m_signed m_led m_told m_place m_begin m_tokenLong m_stemLong m_address m_letters m_stems m_s) [.ref (ad 0), .int x1] (fun (r : Int32) (u : Unit) => post r ) (fun u : Unit => (mW ad cI cZ m_thrown m_size m_outLong m_lines m_toldLines m_tokens m_places m_p m_pre m_end m_text m_out m_lineAt m_lineLong m_depth m_signed m_led m_told m_place m_begin m_tokenLong m_stemLong m_address m_letters m_stems m_s)) := by
  intro sz
  refine Met.ofW (cc := cX8_behind) (maxL := 2) (ret := (some .boolean)) (by decide) rfl ?_
  intro p e s m args below meth c s₁ B hml hv
  obtain ⟨rfl, hsz, hP, hK, hD0, hI⟩ := hv
  have hx := B.exec
  have hb := B.bytes
  have hr := B.returns
  have hts := atoms_spec (ws := wsX8_behind) B.pre
  have hown : s.vm.findClass RX8 = some m.cls := findClass_of_methodNamed B.named
  have hlocks := B.notSynchronized
  subst hsz
  have hD := hD0.self (sz := s.heap.size)
  generalize hAe : va_A (mW ad cI cZ m_thrown m_size m_outLong m_lines m_toldLines m_tokens m_places m_p m_pre m_end m_text m_out m_lineAt m_lineLong m_depth m_signed m_led m_told m_place m_begin m_tokenLong m_stemLong m_address m_letters m_stems m_s) s.heap.size = A at hD hI ⊢
  have hA : ∀ q : Nat, s.heap.size ≤ q → A q := fun q h => by rw [← hAe]; exact Or.inr h
  have hS : va_S A s.heap s.heap [] := va_S.rf
  have Fx : CallFix p m c cX8_behind 2 s ([.ref (ad 0), .int x1] : List Value).toArray wsX8_behind RX8 := ⟨hx, hb, hml, hown, hts⟩
  have hQ : ∀ (r : Int32) (u : Unit) (t : State), (fun (r : Int32) (u : Unit) => post r ) r u → va_P (dC, dI) vwCl ((fun u : Unit => (mW ad cI cZ m_thrown m_size m_outLong m_lines m_toldLines m_tokens m_places m_p m_pre m_end m_text m_out m_lineAt m_lineLong m_depth m_signed m_led m_told m_place m_begin m_tokenLong m_stemLong m_address m_letters m_stems m_s)) u) t.heap → va_K (dC, dI) vwCl [(cI, .int), (cZ, .boolean)] t → va_D A ((fun u : Unit => (mW ad cI cZ m_thrown m_size m_outLong m_lines m_toldLines m_tokens m_places m_p m_pre m_end m_text m_out m_lineAt m_lineLong m_depth m_signed m_led m_told m_place m_begin m_tokenLong m_stemLong m_address m_letters m_stems m_s)) u) → va_F A s t → (va_Qi (fun (r : Int32) (u : Unit) => post r ) (xB (dC, dI) vwCl [(cI, .int), (cZ, .boolean)] A (fun u : Unit => (mW ad cI cZ m_thrown m_size m_outLong m_lines m_toldLines m_tokens m_places m_p m_pre m_end m_text m_out m_lineAt m_lineLong m_depth m_signed m_led m_told m_place m_begin m_tokenLong m_stemLong m_address m_letters m_stems m_s))) A) ([.ref (ad 0), .int x1] : List Value).toArray s (.returned (some (.int r))) t := fun r u t h1 h2 h3 h4 h5 => ⟨⟨r, u, rfl, h1, h2, h3, h4⟩, h5⟩
  generalize (va_Qi (fun (r : Int32) (u : Unit) => post r ) (xB (dC, dI) vwCl [(cI, .int), (cZ, .boolean)] A (fun u : Unit => (mW ad cI cZ m_thrown m_size m_outLong m_lines m_toldLines m_tokens m_places m_p m_pre m_end m_text m_out m_lineAt m_lineLong m_depth m_signed m_led m_told m_place m_begin m_tokenLong m_stemLong m_address m_letters m_stems m_s))) A) = Qc at hQ ⊢
  have hl := lv_entry ([.ref (ad 0), .int x1]) (n := 2) (Nat.le_of_ble_eq_true rfl)
  rw [lg_entry_eq]
  generalize (lg_sl ([.ref (ad 0), .int x1]) ++ List.replicate (2 - (lg_sl ([.ref (ad 0), .int x1])).length) Slot.unset).toArray = ls at hl ⊢
  have hl : lv_has ls 2 [(0, .ref (ad 0)), (1, .int x1)] := hl
  refine (fun (key : ∀ (H : Heap) (locs : List Loc), va_P (dC, dI) vwCl (mW ad cI cZ m_thrown m_size m_outLong m_lines m_toldLines m_tokens m_places m_p m_pre m_end m_text m_out m_lineAt m_lineLong m_depth m_signed m_led m_told m_place m_begin m_tokenLong m_stemLong m_address m_letters m_stems m_s) H → va_D A (mW ad cI cZ m_thrown m_size m_outLong m_lines m_toldLines m_tokens m_places m_p m_pre m_end m_text m_out m_lineAt m_lineLong m_depth m_signed m_led m_told m_place m_begin m_tokenLong m_stemLong m_address m_letters m_stems m_s) → va_S A s.heap H locs → W p l e (headSpec wsX8_behind ({ frames := 0, cells := 0, slots := 0, locals := 0 })).room s m ([.ref (ad 0), .int x1] : List Value).toArray below meth c H locs 0 0 (MQ below Qc ([.ref (ad 0), .int x1] : List Value).toArray s 0 0 A) (F0 m 0 ls [])) => key _ _ hP hD hS) ?_
  have inX8 : ∀ w ∈ wsX80, w ∈ wsX8_behind := (fun _ h9 => List.mem_cons_of_mem _ (List.mem_append_right _ h9))
  intro H locs hP hD hS
  delta wpX8_behind at h
  refine lv_aload_n hx hb dX8_behind_0 rfl (lv_at hl 0 rfl) ?_
  refine va_get (D := (dC, dI)) (ci := 7) (v := .int m_outLong) (C := RX8) (T := TX8) (N := 26) hx hb hts inX8 hown hK hP 0 rfl rfl 4 (by decide) (hts (.fieldLink RX8 86 "MailWordsModel" "outLong" "I") (List.mem_of_getElem? (i := 1) rfl)) (fun _ h9 => h9) rfl dX8_behind_1 ?_
  refine lv_if_le (tgt := 26) hx hb dX8_behind_4 (by decide) (fun c9 => ?_) (fun c9 => ?_)
  · have h := h.1 c9
    refine lv_iconst (v := 0) hx hb dX8_behind_26 (by decide) ?_
    exact W.zret (v := 0) hx hb hr (bN_nar bN0) (fun t ht hW => hQ 0 () t h (by rw [ht]; exact hP) (va_K.moved hW.alike hK) hD (hS.F ht)) hS.2.2 dX8_behind_27
  · have h := h.2 c9
    refine lv_aload_n hx hb dX8_behind_7 rfl (lv_at hl 0 rfl) ?_
    refine va_get (D := (dC, dI)) (ci := 7) (v := .ref (ad 2)) (C := RX8) (T := TX8) (N := 26) hx hb hts inX8 hown hK hP 0 rfl rfl 3 (by decide) (hts (.fieldLink RX8 13 "MailWordsModel" "out" "[I") (List.mem_of_getElem? (i := 2) rfl)) (fun _ h9 => h9) rfl dX8_behind_8 ?_
    refine lv_aload_n hx hb dX8_behind_11 rfl (lv_at hl 0 rfl) ?_
    refine va_get (D := (dC, dI)) (ci := 7) (v := .int m_outLong) (C := RX8) (T := TX8) (N := 26) hx hb hts inX8 hown hK hP 0 rfl rfl 4 (by decide) (hts (.fieldLink RX8 86 "MailWordsModel" "outLong" "I") (List.mem_of_getElem? (i := 1) rfl)) (fun _ h9 => h9) rfl dX8_behind_12 ?_
    refine lv_iconst (v := 1) hx hb dX8_behind_15 (by decide) ?_
    refine lv_isub hx hb dX8_behind_16 ?_
    have hi9 := h.1
    have h := h.2
    refine va_iald hx hb hK hP 2 0 rfl rfl hi9 dX8_behind_17 ?_
    refine lv_iload_n hx hb dX8_behind_18 rfl (lv_at hl 1 rfl) ?_
    refine lv_icmp_ne (tgt := 26) hx hb dX8_behind_19 (by decide) (fun c9 => ?_) (fun c9 => ?_)
    · have h := h.1 c9
      refine lv_iconst (v := 0) hx hb dX8_behind_26 (by decide) ?_
      exact W.zret (v := 0) hx hb hr (bN_nar bN0) (fun t ht hW => hQ 0 () t h (by rw [ht]; exact hP) (va_K.moved hW.alike hK) hD (hS.F ht)) hS.2.2 dX8_behind_27
    · have h := h.2 c9
      refine lv_iconst (v := 1) hx hb dX8_behind_22 (by decide) ?_
      refine lv_goto (tgt := 27) hx hb dX8_behind_23 (by decide) ?_
      exact W.zret (v := 1) hx hb hr (bN_nar bN1) (fun t ht hW => hQ 1 () t h (by rw [ht]; exact hP) (va_K.moved hW.alike hK) hD (hS.F ht)) hS.2.2 dX8_behind_27
set_option maxHeartbeats 4000000 in
set_option maxRecDepth 100000 in
theorem sX8_writeBlank (l : Launch) (dC : Nat → ClassId) (dI : Nat → Nat → Nat) (ad : Nat → Nat) (cI cZ : ClassId) (sa sv : Nat → Nat) (m_thrown : Int32) (m_size : Int32) (m_outLong : Int32) (m_lines : Int32) (m_toldLines : Int32) (m_tokens : Int32) (m_places : Int32) (m_p : Int32) (m_pre : Int32) (m_end : Int32) (m_text : Nat → Int32) (m_out : Nat → Int32) (m_lineAt : Nat → Int32) (m_lineLong : Nat → Int32) (m_depth : Nat → Int32) (m_signed : Nat → Int32) (m_led : Nat → Int32) (m_told : Nat → Int32) (m_place : Nat → Int32) (m_begin : Nat → Int32) (m_tokenLong : Nat → Int32) (m_stemLong : Nat → Int32) (m_address : Nat → Int32) (m_letters : Nat → Int32) (m_stems : Nat → Int32) (m_s : Nat → Int32) (x1 : Int32) {post : Int32 → (Nat → Int32) → Prop} (h : wpX8_writeBlank post m_outLong m_pre m_out x1) : xMv l (dC, dI) vwCl [(cI, .int), (cZ, .boolean)] (sI sa sv) yX8_writeBlank wsX8_writeBlank ({ frames := 1, cells := 0, slots := 0, locals := 21 }) (mW ad cI cZ m_thrown m_size m_outLong m_lines m_toldLines m_tokens m_places m_p m_pre m_end m_text m_out m_lineAt m_lineLong m_depth m_signed m_led m_told m_place m_begin m_tokenLong m_stemLong m_address m_letters m_stems m_s) [.ref (ad 0), .int x1] (fun u : Int32 × (Nat → Int32) => post u.1 u.2) (fun u : Int32 × (Nat → Int32) => (mW ad cI cZ m_thrown m_size u.1 m_lines m_toldLines m_tokens m_places m_p m_pre m_end m_text u.2 m_lineAt m_lineLong m_depth m_signed m_led m_told m_place m_begin m_tokenLong m_stemLong m_address m_letters m_stems m_s)) := by
  intro sz
  refine Met.ofW (cc := cX8_writeBlank) (maxL := 2) (ret := none) (by decide) rfl ?_
  intro p e s m args below meth c s₁ B hml hv
  obtain ⟨rfl, hsz, hP, hK, hD0, hI⟩ := hv
  have hx := B.exec
  have hb := B.bytes
  have hr := B.returns
  have hts := atoms_spec (ws := wsX8_writeBlank) B.pre
  have hown : s.vm.findClass RX8 = some m.cls := findClass_of_methodNamed B.named
  have hlocks := B.notSynchronized
  subst hsz
  have hD := hD0.self (sz := s.heap.size)
  generalize hAe : va_A (mW ad cI cZ m_thrown m_size m_outLong m_lines m_toldLines m_tokens m_places m_p m_pre m_end m_text m_out m_lineAt m_lineLong m_depth m_signed m_led m_told m_place m_begin m_tokenLong m_stemLong m_address m_letters m_stems m_s) s.heap.size = A at hD hI ⊢
  have hA : ∀ q : Nat, s.heap.size ≤ q → A q := fun q h => by rw [← hAe]; exact Or.inr h
  have hS : va_S A s.heap s.heap [] := va_S.rf
  have Fx : CallFix p m c cX8_writeBlank 2 s ([.ref (ad 0), .int x1] : List Value).toArray wsX8_writeBlank RX8 := ⟨hx, hb, hml, hown, hts⟩
  have hQ : ∀ (u : Int32 × (Nat → Int32)) (t : State), (fun u : Int32 × (Nat → Int32) => post u.1 u.2) u → va_P (dC, dI) vwCl ((fun u : Int32 × (Nat → Int32) => (mW ad cI cZ m_thrown m_size u.1 m_lines m_toldLines m_tokens m_places m_p m_pre m_end m_text u.2 m_lineAt m_lineLong m_depth m_signed m_led m_told m_place m_begin m_tokenLong m_stemLong m_address m_letters m_stems m_s)) u) t.heap → va_K (dC, dI) vwCl [(cI, .int), (cZ, .boolean)] t → va_D A ((fun u : Int32 × (Nat → Int32) => (mW ad cI cZ m_thrown m_size u.1 m_lines m_toldLines m_tokens m_places m_p m_pre m_end m_text u.2 m_lineAt m_lineLong m_depth m_signed m_led m_told m_place m_begin m_tokenLong m_stemLong m_address m_letters m_stems m_s)) u) → va_F A s t → (va_Qv (fun u : Int32 × (Nat → Int32) => post u.1 u.2) (xB (dC, dI) vwCl [(cI, .int), (cZ, .boolean)] A (fun u : Int32 × (Nat → Int32) => (mW ad cI cZ m_thrown m_size u.1 m_lines m_toldLines m_tokens m_places m_p m_pre m_end m_text u.2 m_lineAt m_lineLong m_depth m_signed m_led m_told m_place m_begin m_tokenLong m_stemLong m_address m_letters m_stems m_s))) A) ([.ref (ad 0), .int x1] : List Value).toArray s (.returned none) t := fun u t h1 h2 h3 h4 h5 => ⟨⟨u, rfl, h1, h2, h3, h4⟩, h5⟩
  generalize (va_Qv (fun u : Int32 × (Nat → Int32) => post u.1 u.2) (xB (dC, dI) vwCl [(cI, .int), (cZ, .boolean)] A (fun u : Int32 × (Nat → Int32) => (mW ad cI cZ m_thrown m_size u.1 m_lines m_toldLines m_tokens m_places m_p m_pre m_end m_text u.2 m_lineAt m_lineLong m_depth m_signed m_led m_told m_place m_begin m_tokenLong m_stemLong m_address m_letters m_stems m_s))) A) = Qc at hQ ⊢
  have hl := lv_entry ([.ref (ad 0), .int x1]) (n := 2) (Nat.le_of_ble_eq_true rfl)
  rw [lg_entry_eq]
  generalize (lg_sl ([.ref (ad 0), .int x1]) ++ List.replicate (2 - (lg_sl ([.ref (ad 0), .int x1])).length) Slot.unset).toArray = ls at hl ⊢
  have hl : lv_has ls 2 [(0, .ref (ad 0)), (1, .int x1)] := hl
  refine (fun (key : ∀ (H : Heap) (locs : List Loc), va_P (dC, dI) vwCl (mW ad cI cZ m_thrown m_size m_outLong m_lines m_toldLines m_tokens m_places m_p m_pre m_end m_text m_out m_lineAt m_lineLong m_depth m_signed m_led m_told m_place m_begin m_tokenLong m_stemLong m_address m_letters m_stems m_s) H → va_D A (mW ad cI cZ m_thrown m_size m_outLong m_lines m_toldLines m_tokens m_places m_p m_pre m_end m_text m_out m_lineAt m_lineLong m_depth m_signed m_led m_told m_place m_begin m_tokenLong m_stemLong m_address m_letters m_stems m_s) → va_S A s.heap H locs → W p l e (headSpec wsX8_writeBlank ({ frames := 1, cells := 0, slots := 0, locals := 21 })).room s m ([.ref (ad 0), .int x1] : List Value).toArray below meth c H locs 0 0 (MQ below Qc ([.ref (ad 0), .int x1] : List Value).toArray s 0 0 A) (F0 m 0 ls [])) => key _ _ hP hD hS) ?_
  have inX8 : ∀ w ∈ wsX80, w ∈ wsX8_writeBlank := (fun _ h9 => List.mem_cons_of_mem _ (List.mem_append_right _ h9))
  intro H locs hP hD hS
  delta wpX8_writeBlank at h
  refine lv_aload_n hx hb dX8_writeBlank_0 rfl (lv_at hl 0 rfl) ?_
  refine va_get (D := (dC, dI)) (ci := 7) (v := .int m_pre) (C := RX8) (T := TX8) (N := 26) hx hb hts inX8 hown hK hP 0 rfl rfl 23 (by decide) (hts (.fieldLink RX8 89 "MailWordsModel" "pre" "Z") (List.mem_of_getElem? (i := 1) rfl)) (fun _ h9 => h9) rfl dX8_writeBlank_1 ?_
  refine lv_if_eq (tgt := 21) hx hb dX8_writeBlank_4 (by decide) (fun c9 => ?_) (fun c9 => ?_)
  · have h := h.1 c9
    refine lv_aload_n hx hb dX8_writeBlank_21 rfl (lv_at hl 0 rfl) ?_
    refine va_get (D := (dC, dI)) (ci := 7) (v := .int m_outLong) (C := RX8) (T := TX8) (N := 26) hx hb hts inX8 hown hK hP 0 rfl rfl 4 (by decide) (hts (.fieldLink RX8 86 "MailWordsModel" "outLong" "I") (List.mem_of_getElem? (i := 2) rfl)) (fun _ h9 => h9) rfl dX8_writeBlank_22 ?_
    refine lv_if_le (tgt := 52) hx hb dX8_writeBlank_25 (by decide) (fun c9 => ?_) (fun c9 => ?_)
    · have h := h.1 c9
      exact W.vret hx hb hr (fun t ht hW => hQ (m_outLong, m_out) t h (by rw [ht]; exact hP) (va_K.moved hW.alike hK) hD (hS.F ht)) hS.2.2 dX8_writeBlank_52
    · have h := h.2 c9
      refine lv_aload_n hx hb dX8_writeBlank_28 rfl (lv_at hl 0 rfl) ?_
      refine lv_bipush (v := 32) hx hb dX8_writeBlank_29 (by decide) ?_
      refine xc_vi (As := [.int 32]) (rest := []) xG Fx (sX8_behind l dC dI ad cI cZ sa sv m_thrown m_size m_outLong m_lines m_toldLines m_tokens m_places m_p m_pre m_end m_text m_out m_lineAt m_lineLong m_depth m_signed m_led m_told m_place m_begin m_tokenLong m_stemLong m_address m_letters m_stems m_s 32 h) (cwV 1 hts gX8_writeBlank_X8_behind rfl rfl rfl hdX8_behind ⟨Nat.le_of_ble_eq_true rfl, Nat.le_of_ble_eq_true rfl⟩) (va_recv hK hP (ci := 7) (q0 := 0) rfl rfl) hK hP hD hS hA hI rfl hl.1 rfl (Nat.le_of_ble_eq_true rfl) dX8_writeBlank_31 ⟨Nat.zero_le _, Nat.zero_le _⟩ (fun r_1 u H locs h hP hD hS => ?_)
      refine lv_if_ne (tgt := 52) hx hb dX8_writeBlank_34 (by decide) (fun c9 => ?_) (fun c9 => ?_)
      · have h := h.1 c9
        exact W.vret hx hb hr (fun t ht hW => hQ (m_outLong, m_out) t h (by rw [ht]; exact hP) (va_K.moved hW.alike hK) hD (hS.F ht)) hS.2.2 dX8_writeBlank_52
      · have h := h.2 c9
        refine lv_aload_n hx hb dX8_writeBlank_37 rfl (lv_at hl 0 rfl) ?_
        refine lv_bipush (v := 10) hx hb dX8_writeBlank_38 (by decide) ?_
        refine xc_vi (As := [.int 10]) (rest := []) xG Fx (sX8_behind l dC dI ad cI cZ sa sv m_thrown m_size m_outLong m_lines m_toldLines m_tokens m_places m_p m_pre m_end m_text m_out m_lineAt m_lineLong m_depth m_signed m_led m_told m_place m_begin m_tokenLong m_stemLong m_address m_letters m_stems m_s 10 h) (cwV 1 hts gX8_writeBlank_X8_behind rfl rfl rfl hdX8_behind ⟨Nat.le_of_ble_eq_true rfl, Nat.le_of_ble_eq_true rfl⟩) (va_recv hK hP (ci := 7) (q0 := 0) rfl rfl) hK hP hD hS hA hI rfl hl.1 rfl (Nat.le_of_ble_eq_true rfl) dX8_writeBlank_40 ⟨Nat.zero_le _, Nat.zero_le _⟩ (fun r_2 u H locs h hP hD hS => ?_)
        refine lv_if_ne (tgt := 52) hx hb dX8_writeBlank_43 (by decide) (fun c9 => ?_) (fun c9 => ?_)
        · have h := h.1 c9
          exact W.vret hx hb hr (fun t ht hW => hQ (m_outLong, m_out) t h (by rw [ht]; exact hP) (va_K.moved hW.alike hK) hD (hS.F ht)) hS.2.2 dX8_writeBlank_52
        · have h := h.2 c9
          refine lv_aload_n hx hb dX8_writeBlank_46 rfl (lv_at hl 0 rfl) ?_
          refine lv_bipush (v := 32) hx hb dX8_writeBlank_47 (by decide) ?_
          refine xc_vv (As := [.int 32]) (rest := []) xG Fx (sX8_write l dC dI ad cI cZ sa sv m_thrown m_size m_outLong m_lines m_toldLines m_tokens m_places m_p m_pre m_end m_text m_out m_lineAt m_lineLong m_depth m_signed m_led m_told m_place m_begin m_tokenLong m_stemLong m_address m_letters m_stems m_s 32 h) (cwV 1 hts gX8_writeBlank_X8_write rfl rfl rfl hdX8_write ⟨Nat.le_of_ble_eq_true rfl, Nat.le_of_ble_eq_true rfl⟩) (va_recv hK hP (ci := 7) (q0 := 0) rfl rfl) hK hP hD hS hA hI rfl hl.1 rfl (Nat.le_of_ble_eq_true rfl) dX8_writeBlank_49 ⟨Nat.zero_le _, Nat.zero_le _⟩ (fun u H locs h hP hD hS => ?_)
          obtain ⟨m_outLong_4, m_out_5⟩ := u
          have hP : va_P (dC, dI) vwCl (mW ad cI cZ m_thrown m_size m_outLong_4 m_lines m_toldLines m_tokens m_places m_p m_pre m_end m_text m_out_5 m_lineAt m_lineLong m_depth m_signed m_led m_told m_place m_begin m_tokenLong m_stemLong m_address m_letters m_stems m_s) H := hP
          have hD : va_D A (mW ad cI cZ m_thrown m_size m_outLong_4 m_lines m_toldLines m_tokens m_places m_p m_pre m_end m_text m_out_5 m_lineAt m_lineLong m_depth m_signed m_led m_told m_place m_begin m_tokenLong m_stemLong m_address m_letters m_stems m_s) := hD
          exact W.vret hx hb hr (fun t ht hW => hQ (m_outLong_4, m_out_5) t h (by rw [ht]; exact hP) (va_K.moved hW.alike hK) hD (hS.F ht)) hS.2.2 dX8_writeBlank_52
  · have h := h.2 c9
    refine lv_iload_n hx hb dX8_writeBlank_7 rfl (lv_at hl 1 rfl) ?_
    refine lv_bipush (v := 13) hx hb dX8_writeBlank_8 (by decide) ?_
    refine lv_icmp_eq (tgt := 52) hx hb dX8_writeBlank_10 (by decide) (fun c9 => ?_) (fun c9 => ?_)
    · have h := h.1 c9
      exact W.vret hx hb hr (fun t ht hW => hQ (m_outLong, m_out) t h (by rw [ht]; exact hP) (va_K.moved hW.alike hK) hD (hS.F ht)) hS.2.2 dX8_writeBlank_52
    · have h := h.2 c9
      refine lv_aload_n hx hb dX8_writeBlank_13 rfl (lv_at hl 0 rfl) ?_
      refine lv_iload_n hx hb dX8_writeBlank_14 rfl (lv_at hl 1 rfl) ?_
      refine xc_vv (As := [.int x1]) (rest := []) xG Fx (sX8_write l dC dI ad cI cZ sa sv m_thrown m_size m_outLong m_lines m_toldLines m_tokens m_places m_p m_pre m_end m_text m_out m_lineAt m_lineLong m_depth m_signed m_led m_told m_place m_begin m_tokenLong m_stemLong m_address m_letters m_stems m_s x1 h) (cwV 1 hts gX8_writeBlank_X8_write rfl rfl rfl hdX8_write ⟨Nat.le_of_ble_eq_true rfl, Nat.le_of_ble_eq_true rfl⟩) (va_recv hK hP (ci := 7) (q0 := 0) rfl rfl) hK hP hD hS hA hI rfl hl.1 rfl (Nat.le_of_ble_eq_true rfl) dX8_writeBlank_15 ⟨Nat.zero_le _, Nat.zero_le _⟩ (fun u H locs h hP hD hS => ?_)
      obtain ⟨m_outLong_7, m_out_8⟩ := u
      have hP : va_P (dC, dI) vwCl (mW ad cI cZ m_thrown m_size m_outLong_7 m_lines m_toldLines m_tokens m_places m_p m_pre m_end m_text m_out_8 m_lineAt m_lineLong m_depth m_signed m_led m_told m_place m_begin m_tokenLong m_stemLong m_address m_letters m_stems m_s) H := hP
      have hD : va_D A (mW ad cI cZ m_thrown m_size m_outLong_7 m_lines m_toldLines m_tokens m_places m_p m_pre m_end m_text m_out_8 m_lineAt m_lineLong m_depth m_signed m_led m_told m_place m_begin m_tokenLong m_stemLong m_address m_letters m_stems m_s) := hD
      refine lv_goto (tgt := 52) hx hb dX8_writeBlank_18 (by decide) ?_
      exact W.vret hx hb hr (fun t ht hW => hQ (m_outLong_7, m_out_8) t h (by rw [ht]; exact hP) (va_K.moved hW.alike hK) hD (hS.F ht)) hS.2.2 dX8_writeBlank_52
set_option maxHeartbeats 4000000 in
set_option maxRecDepth 100000 in
theorem sX8_dropSpaces (l : Launch) (dC : Nat → ClassId) (dI : Nat → Nat → Nat) (ad : Nat → Nat) (cI cZ : ClassId) (sa sv : Nat → Nat) (m_thrown : Int32) (m_size : Int32) (m_outLong : Int32) (m_lines : Int32) (m_toldLines : Int32) (m_tokens : Int32) (m_places : Int32) (m_p : Int32) (m_pre : Int32) (m_end : Int32) (m_text : Nat → Int32) (m_out : Nat → Int32) (m_lineAt : Nat → Int32) (m_lineLong : Nat → Int32) (m_depth : Nat → Int32) (m_signed : Nat → Int32) (m_led : Nat → Int32) (m_told : Nat → Int32) (m_place : Nat → Int32) (m_begin : Nat → Int32) (m_tokenLong : Nat → Int32) (m_stemLong : Nat → Int32) (m_address : Nat → Int32) (m_letters : Nat → Int32) (m_stems : Nat → Int32) (m_s : Nat → Int32)  {post : Int32 → Prop} (h : wpX8_dropSpaces post m_outLong m_out) : xMv l (dC, dI) vwCl [(cI, .int), (cZ, .boolean)] (sI sa sv) yX8_dropSpaces wsX8_dropSpaces ({ frames := 1, cells := 0, slots := 0, locals := 21 }) (mW ad cI cZ m_thrown m_size m_outLong m_lines m_toldLines m_tokens m_places m_p m_pre m_end m_text m_out m_lineAt m_lineLong m_depth m_signed m_led m_told m_place m_begin m_tokenLong m_stemLong m_address m_letters m_stems m_s) [.ref (ad 0)] (fun u : Int32 => post u) (fun u : Int32 => (mW ad cI cZ m_thrown m_size u m_lines m_toldLines m_tokens m_places m_p m_pre m_end m_text m_out m_lineAt m_lineLong m_depth m_signed m_led m_told m_place m_begin m_tokenLong m_stemLong m_address m_letters m_stems m_s)) := by
  intro sz
  refine Met.ofW (cc := cX8_dropSpaces) (maxL := 1) (ret := none) (by decide) rfl ?_
  intro p e s m args below meth c s₁ B hml hv
  obtain ⟨rfl, hsz, hP, hK, hD0, hI⟩ := hv
  have hx := B.exec
  have hb := B.bytes
  have hr := B.returns
  have hts := atoms_spec (ws := wsX8_dropSpaces) B.pre
  have hown : s.vm.findClass RX8 = some m.cls := findClass_of_methodNamed B.named
  have hlocks := B.notSynchronized
  subst hsz
  have hD := hD0.self (sz := s.heap.size)
  generalize hAe : va_A (mW ad cI cZ m_thrown m_size m_outLong m_lines m_toldLines m_tokens m_places m_p m_pre m_end m_text m_out m_lineAt m_lineLong m_depth m_signed m_led m_told m_place m_begin m_tokenLong m_stemLong m_address m_letters m_stems m_s) s.heap.size = A at hD hI ⊢
  have hA : ∀ q : Nat, s.heap.size ≤ q → A q := fun q h => by rw [← hAe]; exact Or.inr h
  have hS : va_S A s.heap s.heap [] := va_S.rf
  have Fx : CallFix p m c cX8_dropSpaces 1 s ([.ref (ad 0)] : List Value).toArray wsX8_dropSpaces RX8 := ⟨hx, hb, hml, hown, hts⟩
  have hQ : ∀ (u : Int32) (t : State), (fun u : Int32 => post u) u → va_P (dC, dI) vwCl ((fun u : Int32 => (mW ad cI cZ m_thrown m_size u m_lines m_toldLines m_tokens m_places m_p m_pre m_end m_text m_out m_lineAt m_lineLong m_depth m_signed m_led m_told m_place m_begin m_tokenLong m_stemLong m_address m_letters m_stems m_s)) u) t.heap → va_K (dC, dI) vwCl [(cI, .int), (cZ, .boolean)] t → va_D A ((fun u : Int32 => (mW ad cI cZ m_thrown m_size u m_lines m_toldLines m_tokens m_places m_p m_pre m_end m_text m_out m_lineAt m_lineLong m_depth m_signed m_led m_told m_place m_begin m_tokenLong m_stemLong m_address m_letters m_stems m_s)) u) → va_F A s t → (va_Qv (fun u : Int32 => post u) (xB (dC, dI) vwCl [(cI, .int), (cZ, .boolean)] A (fun u : Int32 => (mW ad cI cZ m_thrown m_size u m_lines m_toldLines m_tokens m_places m_p m_pre m_end m_text m_out m_lineAt m_lineLong m_depth m_signed m_led m_told m_place m_begin m_tokenLong m_stemLong m_address m_letters m_stems m_s))) A) ([.ref (ad 0)] : List Value).toArray s (.returned none) t := fun u t h1 h2 h3 h4 h5 => ⟨⟨u, rfl, h1, h2, h3, h4⟩, h5⟩
  generalize (va_Qv (fun u : Int32 => post u) (xB (dC, dI) vwCl [(cI, .int), (cZ, .boolean)] A (fun u : Int32 => (mW ad cI cZ m_thrown m_size u m_lines m_toldLines m_tokens m_places m_p m_pre m_end m_text m_out m_lineAt m_lineLong m_depth m_signed m_led m_told m_place m_begin m_tokenLong m_stemLong m_address m_letters m_stems m_s))) A) = Qc at hQ ⊢
  have hl := lv_entry ([.ref (ad 0)]) (n := 1) (Nat.le_of_ble_eq_true rfl)
  rw [lg_entry_eq]
  generalize (lg_sl ([.ref (ad 0)]) ++ List.replicate (1 - (lg_sl ([.ref (ad 0)])).length) Slot.unset).toArray = ls at hl ⊢
  have hl : lv_has ls 1 [(0, .ref (ad 0))] := hl
  refine (fun (key : ∀ (H : Heap) (locs : List Loc), va_P (dC, dI) vwCl (mW ad cI cZ m_thrown m_size m_outLong m_lines m_toldLines m_tokens m_places m_p m_pre m_end m_text m_out m_lineAt m_lineLong m_depth m_signed m_led m_told m_place m_begin m_tokenLong m_stemLong m_address m_letters m_stems m_s) H → va_D A (mW ad cI cZ m_thrown m_size m_outLong m_lines m_toldLines m_tokens m_places m_p m_pre m_end m_text m_out m_lineAt m_lineLong m_depth m_signed m_led m_told m_place m_begin m_tokenLong m_stemLong m_address m_letters m_stems m_s) → va_S A s.heap H locs → W p l e (headSpec wsX8_dropSpaces ({ frames := 1, cells := 0, slots := 0, locals := 21 })).room s m ([.ref (ad 0)] : List Value).toArray below meth c H locs 0 0 (MQ below Qc ([.ref (ad 0)] : List Value).toArray s 0 0 A) (F0 m 0 ls [])) => key _ _ hP hD hS) ?_
  have inX8 : ∀ w ∈ wsX80, w ∈ wsX8_dropSpaces := (fun _ h9 => List.mem_cons_of_mem _ (List.mem_append_right _ h9))
  have L0 : ∀ (n : Nat) (m_outLong : Int32) (H : Heap) (locs : List Loc) (ls : Array Slot), lv_has ls 1 [(0, .ref (ad 0))] → va_P (dC, dI) vwCl (mW ad cI cZ m_thrown m_size m_outLong m_lines m_toldLines m_tokens m_places m_p m_pre m_end m_text m_out m_lineAt m_lineLong m_depth m_signed m_led m_told m_place m_begin m_tokenLong m_stemLong m_address m_letters m_stems m_s) H → va_D A (mW ad cI cZ m_thrown m_size m_outLong m_lines m_toldLines m_tokens m_places m_p m_pre m_end m_text m_out m_lineAt m_lineLong m_depth m_signed m_led m_told m_place m_begin m_tokenLong m_stemLong m_address m_letters m_stems m_s) → va_S A s.heap H locs → wlX8_dropSpaces_0 post m_out n m_outLong → W p l e (headSpec wsX8_dropSpaces ({ frames := 1, cells := 0, slots := 0, locals := 21 })).room s m ([.ref (ad 0)] : List Value).toArray below meth c H locs 0 0 (MQ below Qc ([.ref (ad 0)] : List Value).toArray s 0 0 A) (F0 m 0 ls []) := by
    intro n
    induction n with
    | zero => intro m_outLong H locs ls _ _ _ _ h; exact absurd h (fun z => z)
    | succ n0 ih0 =>
      intro m_outLong H locs ls hl hP hD hS h
      rw [wlX8_dropSpaces_0] at h
      refine lv_aload_n hx hb dX8_dropSpaces_0 rfl (lv_at hl 0 rfl) ?_
      refine lv_bipush (v := 32) hx hb dX8_dropSpaces_1 (by decide) ?_
      refine xc_vi (As := [.int 32]) (rest := []) xG Fx (sX8_behind l dC dI ad cI cZ sa sv m_thrown m_size m_outLong m_lines m_toldLines m_tokens m_places m_p m_pre m_end m_text m_out m_lineAt m_lineLong m_depth m_signed m_led m_told m_place m_begin m_tokenLong m_stemLong m_address m_letters m_stems m_s 32 h) (cwV 1 hts gX8_dropSpaces_X8_behind rfl rfl rfl hdX8_behind ⟨Nat.le_of_ble_eq_true rfl, Nat.le_of_ble_eq_true rfl⟩) (va_recv hK hP (ci := 7) (q0 := 0) rfl rfl) hK hP hD hS hA hI rfl hl.1 rfl (Nat.le_of_ble_eq_true rfl) dX8_dropSpaces_3 ⟨Nat.zero_le _, Nat.zero_le _⟩ (fun r_1 u H locs h hP hD hS => ?_)
      refine lv_if_eq (tgt := 22) hx hb dX8_dropSpaces_6 (by decide) (fun c9 => ?_) (fun c9 => ?_)
      · have h := h.1 c9
        exact W.vret hx hb hr (fun t ht hW => hQ m_outLong t h (by rw [ht]; exact hP) (va_K.moved hW.alike hK) hD (hS.F ht)) hS.2.2 dX8_dropSpaces_22
      · have h := h.2 c9
        refine lv_aload_n hx hb dX8_dropSpaces_9 rfl (lv_at hl 0 rfl) ?_
        refine lv_dup hx hb dX8_dropSpaces_10 rfl ?_
        refine va_get (D := (dC, dI)) (ci := 7) (v := .int m_outLong) (C := RX8) (T := TX8) (N := 26) hx hb hts inX8 hown hK hP 0 rfl rfl 4 (by decide) (hts (.fieldLink RX8 86 "MailWordsModel" "outLong" "I") (List.mem_of_getElem? (i := 1) rfl)) (fun _ h9 => h9) rfl dX8_dropSpaces_11 ?_
        refine lv_iconst (v := 1) hx hb dX8_dropSpaces_14 (by decide) ?_
        refine lv_isub hx hb dX8_dropSpaces_15 ?_
        refine lv_topi (fun m_outLong_2 em_outLong_2 => ?_)
        have h := h m_outLong_2 em_outLong_2
        refine va_put (D := (dC, dI)) (ci := 7) (v := .int m_outLong_2) (ty := .int) (C := RX8) (T := TX8) (N := 26) hx hb hts inX8 tyX8 tyX8_ok nmX8 hown hK hP hD hS 0 rfl rfl 4 (by decide) (hts (.fieldLink RX8 86 "MailWordsModel" "outLong" "I") (List.mem_of_getElem? (i := 1) rfl)) (fun _ h9 => h9) rfl (tyX8_ok 4 (by decide)) rfl rfl (Nat.le_of_ble_eq_true rfl) dX8_dropSpaces_16 (fun H locs hP hD hS => ?_)
        have hP : va_P (dC, dI) vwCl (mW ad cI cZ m_thrown m_size m_outLong_2 m_lines m_toldLines m_tokens m_places m_p m_pre m_end m_text m_out m_lineAt m_lineLong m_depth m_signed m_led m_told m_place m_begin m_tokenLong m_stemLong m_address m_letters m_stems m_s) H := hP
        have hD : va_D A (mW ad cI cZ m_thrown m_size m_outLong_2 m_lines m_toldLines m_tokens m_places m_p m_pre m_end m_text m_out m_lineAt m_lineLong m_depth m_signed m_led m_told m_place m_begin m_tokenLong m_stemLong m_address m_letters m_stems m_s) := hD
        refine lv_goto (tgt := 0) hx hb dX8_dropSpaces_19 (by decide) ?_
        exact ih0 m_outLong_2 H locs ls (lv_sub hl [0] rfl) hP hD hS h
  intro H locs hP hD hS
  obtain ⟨n, h⟩ := h
  exact L0  n m_outLong H locs ls (lv_sub hl [0] rfl) hP hD hS h
set_option maxHeartbeats 4000000 in
set_option maxRecDepth 100000 in
theorem sX8_writeBreak (l : Launch) (dC : Nat → ClassId) (dI : Nat → Nat → Nat) (ad : Nat → Nat) (cI cZ : ClassId) (sa sv : Nat → Nat) (m_thrown : Int32) (m_size : Int32) (m_outLong : Int32) (m_lines : Int32) (m_toldLines : Int32) (m_tokens : Int32) (m_places : Int32) (m_p : Int32) (m_pre : Int32) (m_end : Int32) (m_text : Nat → Int32) (m_out : Nat → Int32) (m_lineAt : Nat → Int32) (m_lineLong : Nat → Int32) (m_depth : Nat → Int32) (m_signed : Nat → Int32) (m_led : Nat → Int32) (m_told : Nat → Int32) (m_place : Nat → Int32) (m_begin : Nat → Int32) (m_tokenLong : Nat → Int32) (m_stemLong : Nat → Int32) (m_address : Nat → Int32) (m_letters : Nat → Int32) (m_stems : Nat → Int32) (m_s : Nat → Int32)  {post : Int32 → (Nat → Int32) → Prop} (h : wpX8_writeBreak post m_outLong m_pre m_out) : xMv l (dC, dI) vwCl [(cI, .int), (cZ, .boolean)] (sI sa sv) yX8_writeBreak wsX8_writeBreak ({ frames := 2, cells := 0, slots := 0, locals := 41 }) (mW ad cI cZ m_thrown m_size m_outLong m_lines m_toldLines m_tokens m_places m_p m_pre m_end m_text m_out m_lineAt m_lineLong m_depth m_signed m_led m_told m_place m_begin m_tokenLong m_stemLong m_address m_letters m_stems m_s) [.ref (ad 0)] (fun u : Int32 × (Nat → Int32) => post u.1 u.2) (fun u : Int32 × (Nat → Int32) => (mW ad cI cZ m_thrown m_size u.1 m_lines m_toldLines m_tokens m_places m_p m_pre m_end m_text u.2 m_lineAt m_lineLong m_depth m_signed m_led m_told m_place m_begin m_tokenLong m_stemLong m_address m_letters m_stems m_s)) := by
  intro sz
  refine Met.ofW (cc := cX8_writeBreak) (maxL := 1) (ret := none) (by decide) rfl ?_
  intro p e s m args below meth c s₁ B hml hv
  obtain ⟨rfl, hsz, hP, hK, hD0, hI⟩ := hv
  have hx := B.exec
  have hb := B.bytes
  have hr := B.returns
  have hts := atoms_spec (ws := wsX8_writeBreak) B.pre
  have hown : s.vm.findClass RX8 = some m.cls := findClass_of_methodNamed B.named
  have hlocks := B.notSynchronized
  subst hsz
  have hD := hD0.self (sz := s.heap.size)
  generalize hAe : va_A (mW ad cI cZ m_thrown m_size m_outLong m_lines m_toldLines m_tokens m_places m_p m_pre m_end m_text m_out m_lineAt m_lineLong m_depth m_signed m_led m_told m_place m_begin m_tokenLong m_stemLong m_address m_letters m_stems m_s) s.heap.size = A at hD hI ⊢
  have hA : ∀ q : Nat, s.heap.size ≤ q → A q := fun q h => by rw [← hAe]; exact Or.inr h
  have hS : va_S A s.heap s.heap [] := va_S.rf
  have Fx : CallFix p m c cX8_writeBreak 1 s ([.ref (ad 0)] : List Value).toArray wsX8_writeBreak RX8 := ⟨hx, hb, hml, hown, hts⟩
  have hQ : ∀ (u : Int32 × (Nat → Int32)) (t : State), (fun u : Int32 × (Nat → Int32) => post u.1 u.2) u → va_P (dC, dI) vwCl ((fun u : Int32 × (Nat → Int32) => (mW ad cI cZ m_thrown m_size u.1 m_lines m_toldLines m_tokens m_places m_p m_pre m_end m_text u.2 m_lineAt m_lineLong m_depth m_signed m_led m_told m_place m_begin m_tokenLong m_stemLong m_address m_letters m_stems m_s)) u) t.heap → va_K (dC, dI) vwCl [(cI, .int), (cZ, .boolean)] t → va_D A ((fun u : Int32 × (Nat → Int32) => (mW ad cI cZ m_thrown m_size u.1 m_lines m_toldLines m_tokens m_places m_p m_pre m_end m_text u.2 m_lineAt m_lineLong m_depth m_signed m_led m_told m_place m_begin m_tokenLong m_stemLong m_address m_letters m_stems m_s)) u) → va_F A s t → (va_Qv (fun u : Int32 × (Nat → Int32) => post u.1 u.2) (xB (dC, dI) vwCl [(cI, .int), (cZ, .boolean)] A (fun u : Int32 × (Nat → Int32) => (mW ad cI cZ m_thrown m_size u.1 m_lines m_toldLines m_tokens m_places m_p m_pre m_end m_text u.2 m_lineAt m_lineLong m_depth m_signed m_led m_told m_place m_begin m_tokenLong m_stemLong m_address m_letters m_stems m_s))) A) ([.ref (ad 0)] : List Value).toArray s (.returned none) t := fun u t h1 h2 h3 h4 h5 => ⟨⟨u, rfl, h1, h2, h3, h4⟩, h5⟩
  generalize (va_Qv (fun u : Int32 × (Nat → Int32) => post u.1 u.2) (xB (dC, dI) vwCl [(cI, .int), (cZ, .boolean)] A (fun u : Int32 × (Nat → Int32) => (mW ad cI cZ m_thrown m_size u.1 m_lines m_toldLines m_tokens m_places m_p m_pre m_end m_text u.2 m_lineAt m_lineLong m_depth m_signed m_led m_told m_place m_begin m_tokenLong m_stemLong m_address m_letters m_stems m_s))) A) = Qc at hQ ⊢
  have hl := lv_entry ([.ref (ad 0)]) (n := 1) (Nat.le_of_ble_eq_true rfl)
  rw [lg_entry_eq]
  generalize (lg_sl ([.ref (ad 0)]) ++ List.replicate (1 - (lg_sl ([.ref (ad 0)])).length) Slot.unset).toArray = ls at hl ⊢
  have hl : lv_has ls 1 [(0, .ref (ad 0))] := hl
  refine (fun (key : ∀ (H : Heap) (locs : List Loc), va_P (dC, dI) vwCl (mW ad cI cZ m_thrown m_size m_outLong m_lines m_toldLines m_tokens m_places m_p m_pre m_end m_text m_out m_lineAt m_lineLong m_depth m_signed m_led m_told m_place m_begin m_tokenLong m_stemLong m_address m_letters m_stems m_s) H → va_D A (mW ad cI cZ m_thrown m_size m_outLong m_lines m_toldLines m_tokens m_places m_p m_pre m_end m_text m_out m_lineAt m_lineLong m_depth m_signed m_led m_told m_place m_begin m_tokenLong m_stemLong m_address m_letters m_stems m_s) → va_S A s.heap H locs → W p l e (headSpec wsX8_writeBreak ({ frames := 2, cells := 0, slots := 0, locals := 41 })).room s m ([.ref (ad 0)] : List Value).toArray below meth c H locs 0 0 (MQ below Qc ([.ref (ad 0)] : List Value).toArray s 0 0 A) (F0 m 0 ls [])) => key _ _ hP hD hS) ?_
  have inX8 : ∀ w ∈ wsX80, w ∈ wsX8_writeBreak := (fun _ h9 => List.mem_cons_of_mem _ (List.mem_append_right _ h9))
  have J11 : ∀ (m_outLong : Int32) (m_out : Nat → Int32) (H : Heap) (locs : List Loc) (ls : Array Slot), lv_has ls 1 [(0, .ref (ad 0))] → va_P (dC, dI) vwCl (mW ad cI cZ m_thrown m_size m_outLong m_lines m_toldLines m_tokens m_places m_p m_pre m_end m_text m_out m_lineAt m_lineLong m_depth m_signed m_led m_told m_place m_begin m_tokenLong m_stemLong m_address m_letters m_stems m_s) H → va_D A (mW ad cI cZ m_thrown m_size m_outLong m_lines m_toldLines m_tokens m_places m_p m_pre m_end m_text m_out m_lineAt m_lineLong m_depth m_signed m_led m_told m_place m_begin m_tokenLong m_stemLong m_address m_letters m_stems m_s) → va_S A s.heap H locs → wjX8_writeBreak_11 post m_pre m_outLong m_out → W p l e (headSpec wsX8_writeBreak ({ frames := 2, cells := 0, slots := 0, locals := 41 })).room s m ([.ref (ad 0)] : List Value).toArray below meth c H locs 0 0 (MQ below Qc ([.ref (ad 0)] : List Value).toArray s 0 0 A) (F0 m 11 ls []) := by
    intro m_outLong m_out H locs ls hl hP hD hS h
    delta wjX8_writeBreak_11 at h
    refine lv_aload_n hx hb dX8_writeBreak_11 rfl (lv_at hl 0 rfl) ?_
    refine va_get (D := (dC, dI)) (ci := 7) (v := .int m_outLong) (C := RX8) (T := TX8) (N := 26) hx hb hts inX8 hown hK hP 0 rfl rfl 4 (by decide) (hts (.fieldLink RX8 86 "MailWordsModel" "outLong" "I") (List.mem_of_getElem? (i := 2) rfl)) (fun _ h9 => h9) rfl dX8_writeBreak_12 ?_
    refine lv_if_le (tgt := 33) hx hb dX8_writeBreak_15 (by decide) (fun c9 => ?_) (fun c9 => ?_)
    · have h := h.1 c9
      exact W.vret hx hb hr (fun t ht hW => hQ (m_outLong, m_out) t h (by rw [ht]; exact hP) (va_K.moved hW.alike hK) hD (hS.F ht)) hS.2.2 dX8_writeBreak_33
    · have h := h.2 c9
      refine lv_aload_n hx hb dX8_writeBreak_18 rfl (lv_at hl 0 rfl) ?_
      refine lv_bipush (v := 10) hx hb dX8_writeBreak_19 (by decide) ?_
      refine xc_vi (As := [.int 10]) (rest := []) xG Fx (sX8_behind l dC dI ad cI cZ sa sv m_thrown m_size m_outLong m_lines m_toldLines m_tokens m_places m_p m_pre m_end m_text m_out m_lineAt m_lineLong m_depth m_signed m_led m_told m_place m_begin m_tokenLong m_stemLong m_address m_letters m_stems m_s 10 h) (cwV 1 hts gX8_writeBreak_X8_behind rfl rfl rfl hdX8_behind ⟨Nat.le_of_ble_eq_true rfl, Nat.le_of_ble_eq_true rfl⟩) (va_recv hK hP (ci := 7) (q0 := 0) rfl rfl) hK hP hD hS hA hI rfl hl.1 rfl (Nat.le_of_ble_eq_true rfl) dX8_writeBreak_21 ⟨Nat.zero_le _, Nat.zero_le _⟩ (fun r_1 u H locs h hP hD hS => ?_)
      refine lv_if_ne (tgt := 33) hx hb dX8_writeBreak_24 (by decide) (fun c9 => ?_) (fun c9 => ?_)
      · have h := h.1 c9
        exact W.vret hx hb hr (fun t ht hW => hQ (m_outLong, m_out) t h (by rw [ht]; exact hP) (va_K.moved hW.alike hK) hD (hS.F ht)) hS.2.2 dX8_writeBreak_33
      · have h := h.2 c9
        refine lv_aload_n hx hb dX8_writeBreak_27 rfl (lv_at hl 0 rfl) ?_
        refine lv_bipush (v := 10) hx hb dX8_writeBreak_28 (by decide) ?_
        refine xc_vv (As := [.int 10]) (rest := []) xG Fx (sX8_write l dC dI ad cI cZ sa sv m_thrown m_size m_outLong m_lines m_toldLines m_tokens m_places m_p m_pre m_end m_text m_out m_lineAt m_lineLong m_depth m_signed m_led m_told m_place m_begin m_tokenLong m_stemLong m_address m_letters m_stems m_s 10 h) (cwV 1 hts gX8_writeBreak_X8_write rfl rfl rfl hdX8_write ⟨Nat.le_of_ble_eq_true rfl, Nat.le_of_ble_eq_true rfl⟩) (va_recv hK hP (ci := 7) (q0 := 0) rfl rfl) hK hP hD hS hA hI rfl hl.1 rfl (Nat.le_of_ble_eq_true rfl) dX8_writeBreak_30 ⟨Nat.zero_le _, Nat.zero_le _⟩ (fun u H locs h hP hD hS => ?_)
        obtain ⟨m_outLong_3, m_out_4⟩ := u
        have hP : va_P (dC, dI) vwCl (mW ad cI cZ m_thrown m_size m_outLong_3 m_lines m_toldLines m_tokens m_places m_p m_pre m_end m_text m_out_4 m_lineAt m_lineLong m_depth m_signed m_led m_told m_place m_begin m_tokenLong m_stemLong m_address m_letters m_stems m_s) H := hP
        have hD : va_D A (mW ad cI cZ m_thrown m_size m_outLong_3 m_lines m_toldLines m_tokens m_places m_p m_pre m_end m_text m_out_4 m_lineAt m_lineLong m_depth m_signed m_led m_told m_place m_begin m_tokenLong m_stemLong m_address m_letters m_stems m_s) := hD
        exact W.vret hx hb hr (fun t ht hW => hQ (m_outLong_3, m_out_4) t h (by rw [ht]; exact hP) (va_K.moved hW.alike hK) hD (hS.F ht)) hS.2.2 dX8_writeBreak_33
  intro H locs hP hD hS
  delta wpX8_writeBreak at h
  refine lv_aload_n hx hb dX8_writeBreak_0 rfl (lv_at hl 0 rfl) ?_
  refine va_get (D := (dC, dI)) (ci := 7) (v := .int m_pre) (C := RX8) (T := TX8) (N := 26) hx hb hts inX8 hown hK hP 0 rfl rfl 23 (by decide) (hts (.fieldLink RX8 89 "MailWordsModel" "pre" "Z") (List.mem_of_getElem? (i := 1) rfl)) (fun _ h9 => h9) rfl dX8_writeBreak_1 ?_
  refine lv_if_ne (tgt := 11) hx hb dX8_writeBreak_4 (by decide) (fun c9 => ?_) (fun c9 => ?_)
  · have h := h.1 c9
    exact J11 m_outLong m_out H locs ls (lv_sub hl [0] rfl) hP hD hS h
  · have h := h.2 c9
    refine lv_aload_n hx hb dX8_writeBreak_7 rfl (lv_at hl 0 rfl) ?_
    refine xc_vv (As := []) (rest := []) xG Fx (sX8_dropSpaces l dC dI ad cI cZ sa sv m_thrown m_size m_outLong m_lines m_toldLines m_tokens m_places m_p m_pre m_end m_text m_out m_lineAt m_lineLong m_depth m_signed m_led m_told m_place m_begin m_tokenLong m_stemLong m_address m_letters m_stems m_s h) (cwV 0 hts gX8_writeBreak_X8_dropSpaces rfl rfl rfl hdX8_dropSpaces ⟨Nat.le_of_ble_eq_true rfl, Nat.le_of_ble_eq_true rfl⟩) (va_recv hK hP (ci := 7) (q0 := 0) rfl rfl) hK hP hD hS hA hI rfl hl.1 rfl (Nat.le_of_ble_eq_true rfl) dX8_writeBreak_8 ⟨Nat.zero_le _, Nat.zero_le _⟩ (fun m_outLong_6 H locs h hP hD hS => ?_)
    have hP : va_P (dC, dI) vwCl (mW ad cI cZ m_thrown m_size m_outLong_6 m_lines m_toldLines m_tokens m_places m_p m_pre m_end m_text m_out m_lineAt m_lineLong m_depth m_signed m_led m_told m_place m_begin m_tokenLong m_stemLong m_address m_letters m_stems m_s) H := hP
    have hD : va_D A (mW ad cI cZ m_thrown m_size m_outLong_6 m_lines m_toldLines m_tokens m_places m_p m_pre m_end m_text m_out m_lineAt m_lineLong m_depth m_signed m_led m_told m_place m_begin m_tokenLong m_stemLong m_address m_letters m_stems m_s) := hD
    exact J11 m_outLong_6 m_out H locs ls (lv_sub hl [0] rfl) hP hD hS h
set_option maxHeartbeats 4000000 in
set_option maxRecDepth 100000 in
theorem sX8_lengthOf (l : Launch) (dC : Nat → ClassId) (dI : Nat → Nat → Nat) (ad : Nat → Nat) (cI cZ : ClassId) (sa sv : Nat → Nat) (m_thrown : Int32) (m_size : Int32) (m_outLong : Int32) (m_lines : Int32) (m_toldLines : Int32) (m_tokens : Int32) (m_places : Int32) (m_p : Int32) (m_pre : Int32) (m_end : Int32) (m_text : Nat → Int32) (m_out : Nat → Int32) (m_lineAt : Nat → Int32) (m_lineLong : Nat → Int32) (m_depth : Nat → Int32) (m_signed : Nat → Int32) (m_led : Nat → Int32) (m_told : Nat → Int32) (m_place : Nat → Int32) (m_begin : Nat → Int32) (m_tokenLong : Nat → Int32) (m_stemLong : Nat → Int32) (m_address : Nat → Int32) (m_letters : Nat → Int32) (m_stems : Nat → Int32) (m_s : Nat → Int32) (x0 : Int64) {post : Int32 → Prop} (h : wpX8_lengthOf post x0) : xMi l (dC, dI) vwCl [(cI, .int), (cZ, .boolean)] (sI sa sv) yX8_lengthOf wsX8_lengthOf ({ frames := 0, cells := 0, slots := 0, locals := 0 }) (mW ad cI cZ m_thrown m_size m_outLong m_lines m_toldLines m_tokens m_places m_p m_pre m_end m_text m_out m_lineAt m_lineLong m_depth m_signed m_led m_told m_place m_begin m_tokenLong m_stemLong m_address m_letters m_stems m_s) [.long x0] (fun (r : Int32) (u : Unit) => post r ) (fun u : Unit => (mW ad cI cZ m_thrown m_size m_outLong m_lines m_toldLines m_tokens m_places m_p m_pre m_end m_text m_out m_lineAt m_lineLong m_depth m_signed m_led m_told m_place m_begin m_tokenLong m_stemLong m_address m_letters m_stems m_s)) := by
  intro sz
  refine Met.ofW (cc := cX8_lengthOf) (maxL := 3) (ret := (some .int)) (by decide) rfl ?_
  intro p e s m args below meth c s₁ B hml hv
  obtain ⟨rfl, hsz, hP, hK, hD0, hI⟩ := hv
  have hx := B.exec
  have hb := B.bytes
  have hr := B.returns
  have hts := atoms_spec (ws := wsX8_lengthOf) B.pre
  have hown : s.vm.findClass RX8 = some m.cls := findClass_of_methodNamed B.named
  have hlocks := B.notSynchronized
  subst hsz
  have hD := hD0.self (sz := s.heap.size)
  generalize hAe : va_A (mW ad cI cZ m_thrown m_size m_outLong m_lines m_toldLines m_tokens m_places m_p m_pre m_end m_text m_out m_lineAt m_lineLong m_depth m_signed m_led m_told m_place m_begin m_tokenLong m_stemLong m_address m_letters m_stems m_s) s.heap.size = A at hD hI ⊢
  have hA : ∀ q : Nat, s.heap.size ≤ q → A q := fun q h => by rw [← hAe]; exact Or.inr h
  have hS : va_S A s.heap s.heap [] := va_S.rf
  have Fx : CallFix p m c cX8_lengthOf 3 s ([.long x0] : List Value).toArray wsX8_lengthOf RX8 := ⟨hx, hb, hml, hown, hts⟩
  have hQ : ∀ (r : Int32) (u : Unit) (t : State), (fun (r : Int32) (u : Unit) => post r ) r u → va_P (dC, dI) vwCl ((fun u : Unit => (mW ad cI cZ m_thrown m_size m_outLong m_lines m_toldLines m_tokens m_places m_p m_pre m_end m_text m_out m_lineAt m_lineLong m_depth m_signed m_led m_told m_place m_begin m_tokenLong m_stemLong m_address m_letters m_stems m_s)) u) t.heap → va_K (dC, dI) vwCl [(cI, .int), (cZ, .boolean)] t → va_D A ((fun u : Unit => (mW ad cI cZ m_thrown m_size m_outLong m_lines m_toldLines m_tokens m_places m_p m_pre m_end m_text m_out m_lineAt m_lineLong m_depth m_signed m_led m_told m_place m_begin m_tokenLong m_stemLong m_address m_letters m_stems m_s)) u) → va_F A s t → (va_Qi (fun (r : Int32) (u : Unit) => post r ) (xB (dC, dI) vwCl [(cI, .int), (cZ, .boolean)] A (fun u : Unit => (mW ad cI cZ m_thrown m_size m_outLong m_lines m_toldLines m_tokens m_places m_p m_pre m_end m_text m_out m_lineAt m_lineLong m_depth m_signed m_led m_told m_place m_begin m_tokenLong m_stemLong m_address m_letters m_stems m_s))) A) ([.long x0] : List Value).toArray s (.returned (some (.int r))) t := fun r u t h1 h2 h3 h4 h5 => ⟨⟨r, u, rfl, h1, h2, h3, h4⟩, h5⟩
  generalize (va_Qi (fun (r : Int32) (u : Unit) => post r ) (xB (dC, dI) vwCl [(cI, .int), (cZ, .boolean)] A (fun u : Unit => (mW ad cI cZ m_thrown m_size m_outLong m_lines m_toldLines m_tokens m_places m_p m_pre m_end m_text m_out m_lineAt m_lineLong m_depth m_signed m_led m_told m_place m_begin m_tokenLong m_stemLong m_address m_letters m_stems m_s))) A) = Qc at hQ ⊢
  have hl := lv_entry ([.long x0]) (n := 3) (Nat.le_of_ble_eq_true rfl)
  rw [lg_entry_eq]
  generalize (lg_sl ([.long x0]) ++ List.replicate (3 - (lg_sl ([.long x0])).length) Slot.unset).toArray = ls at hl ⊢
  have hl : lv_has ls 3 [(0, .long x0)] := hl
  refine (fun (key : ∀ (H : Heap) (locs : List Loc), va_P (dC, dI) vwCl (mW ad cI cZ m_thrown m_size m_outLong m_lines m_toldLines m_tokens m_places m_p m_pre m_end m_text m_out m_lineAt m_lineLong m_depth m_signed m_led m_told m_place m_begin m_tokenLong m_stemLong m_address m_letters m_stems m_s) H → va_D A (mW ad cI cZ m_thrown m_size m_outLong m_lines m_toldLines m_tokens m_places m_p m_pre m_end m_text m_out m_lineAt m_lineLong m_depth m_signed m_led m_told m_place m_begin m_tokenLong m_stemLong m_address m_letters m_stems m_s) → va_S A s.heap H locs → W p l e (headSpec wsX8_lengthOf ({ frames := 0, cells := 0, slots := 0, locals := 0 })).room s m ([.long x0] : List Value).toArray below meth c H locs 0 0 (MQ below Qc ([.long x0] : List Value).toArray s 0 0 A) (F0 m 0 ls [])) => key _ _ hP hD hS) ?_
  have L2 : ∀ (n : Nat) (x2 : Int32) (H : Heap) (locs : List Loc) (ls : Array Slot), lv_has ls 3 [(0, .long x0), (2, .int x2)] → va_P (dC, dI) vwCl (mW ad cI cZ m_thrown m_size m_outLong m_lines m_toldLines m_tokens m_places m_p m_pre m_end m_text m_out m_lineAt m_lineLong m_depth m_signed m_led m_told m_place m_begin m_tokenLong m_stemLong m_address m_letters m_stems m_s) H → va_D A (mW ad cI cZ m_thrown m_size m_outLong m_lines m_toldLines m_tokens m_places m_p m_pre m_end m_text m_out m_lineAt m_lineLong m_depth m_signed m_led m_told m_place m_begin m_tokenLong m_stemLong m_address m_letters m_stems m_s) → va_S A s.heap H locs → wlX8_lengthOf_2 post x0 n x2 → W p l e (headSpec wsX8_lengthOf ({ frames := 0, cells := 0, slots := 0, locals := 0 })).room s m ([.long x0] : List Value).toArray below meth c H locs 0 0 (MQ below Qc ([.long x0] : List Value).toArray s 0 0 A) (F0 m 2 ls []) := by
    intro n
    induction n with
    | zero => intro x2 H locs ls _ _ _ _ h; exact absurd h (fun z => z)
    | succ n2 ih2 =>
      intro x2 H locs ls hl hP hD hS h
      rw [wlX8_lengthOf_2] at h
      refine lv_iload_n hx hb dX8_lengthOf_2 rfl (lv_at hl 1 rfl) ?_
      refine lv_bipush (v := 8) hx hb dX8_lengthOf_3 (by decide) ?_
      refine lv_icmp_ge (tgt := 25) hx hb dX8_lengthOf_5 (by decide) (fun c9 => ?_) (fun c9 => ?_)
      · have h := h.1 c9
        refine lv_iload_n hx hb dX8_lengthOf_25 rfl (lv_at hl 1 rfl) ?_
        exact W.iret (v := x2) hx hb hr (fun t ht hW => hQ x2 () t h (by rw [ht]; exact hP) (va_K.moved hW.alike hK) hD (hS.F ht)) hS.2.2 dX8_lengthOf_26
      · have h := h.2 c9
        refine lv_lload_n hx hb dX8_lengthOf_8 rfl (lv_at hl 0 rfl) ?_
        refine lv_bipush (v := 8) hx hb dX8_lengthOf_9 (by decide) ?_
        refine lv_iload_n hx hb dX8_lengthOf_11 rfl (lv_at hl 1 rfl) ?_
        refine lv_imul hx hb dX8_lengthOf_12 ?_
        refine lv_lushr hx hb dX8_lengthOf_13 rfl ?_
        refine lv_lconst (v := 0) hx hb dX8_lengthOf_14 (by decide) ?_
        refine W.lcmp hx hb dX8_lengthOf_15 ?_
        refine lv_if_eq (tgt := 25) hx hb dX8_lengthOf_16 (by decide) (fun c9 => ?_) (fun c9 => ?_)
        · have h := h.1 c9
          refine lv_iload_n hx hb dX8_lengthOf_25 rfl (lv_at hl 1 rfl) ?_
          exact W.iret (v := x2) hx hb hr (fun t ht hW => hQ x2 () t h (by rw [ht]; exact hP) (va_K.moved hW.alike hK) hD (hS.F ht)) hS.2.2 dX8_lengthOf_26
        · have h := h.2 c9
          obtain ⟨x2_1, ex2_1⟩ : ∃ y : Int32, y = x2 + 1 := ⟨_, rfl⟩
          have h := h x2_1 ex2_1
          refine lv_iinc (v := x2_1) (lv' := [(2, .int x2_1), (0, .long x0)]) hx hb dX8_lengthOf_19 hl (k := 1) rfl (by rw [ex2_1]; rfl) (by decide) rfl (fun ls hl => ?_)
          refine lv_goto (tgt := 2) hx hb dX8_lengthOf_22 (by decide) ?_
          exact ih2 x2_1 H locs ls (lv_sub hl [1, 0] rfl) hP hD hS h
  intro H locs hP hD hS
  delta wpX8_lengthOf at h
  refine lv_iconst (v := 0) hx hb dX8_lengthOf_0 (by decide) ?_
  refine lv_istore_n (lv' := [(2, .int 0), (0, .long x0)]) hx hb dX8_lengthOf_1 rfl hl (by decide) rfl (fun ls hl => ?_)
  obtain ⟨n, h⟩ := h
  exact L2  n 0 H locs ls (lv_sub hl [1, 0] rfl) hP hD hS h
set_option maxHeartbeats 4000000 in
set_option maxRecDepth 100000 in
theorem sX8_stands (l : Launch) (dC : Nat → ClassId) (dI : Nat → Nat → Nat) (ad : Nat → Nat) (cI cZ : ClassId) (sa sv : Nat → Nat) (m_thrown : Int32) (m_size : Int32) (m_outLong : Int32) (m_lines : Int32) (m_toldLines : Int32) (m_tokens : Int32) (m_places : Int32) (m_p : Int32) (m_pre : Int32) (m_end : Int32) (m_text : Nat → Int32) (m_out : Nat → Int32) (m_lineAt : Nat → Int32) (m_lineLong : Nat → Int32) (m_depth : Nat → Int32) (m_signed : Nat → Int32) (m_led : Nat → Int32) (m_told : Nat → Int32) (m_place : Nat → Int32) (m_begin : Nat → Int32) (m_tokenLong : Nat → Int32) (m_stemLong : Nat → Int32) (m_address : Nat → Int32) (m_letters : Nat → Int32) (m_stems : Nat → Int32) (m_s : Nat → Int32) (x1 : Int32) (x2 : Int64) (x4 : Int32) {post : Int32 → Prop} (h : wpX8_stands post m_size m_text x1 x2 x4) : xMi l (dC, dI) vwCl [(cI, .int), (cZ, .boolean)] (sI sa sv) yX8_stands wsX8_stands ({ frames := 2, cells := 0, slots := 0, locals := 42 }) (mW ad cI cZ m_thrown m_size m_outLong m_lines m_toldLines m_tokens m_places m_p m_pre m_end m_text m_out m_lineAt m_lineLong m_depth m_signed m_led m_told m_place m_begin m_tokenLong m_stemLong m_address m_letters m_stems m_s) [.ref (ad 0), .int x1, .long x2, .int x4] (fun (r : Int32) (u : Unit) => post r ) (fun u : Unit => (mW ad cI cZ m_thrown m_size m_outLong m_lines m_toldLines m_tokens m_places m_p m_pre m_end m_text m_out m_lineAt m_lineLong m_depth m_signed m_led m_told m_place m_begin m_tokenLong m_stemLong m_address m_letters m_stems m_s)) := by
  intro sz
  refine Met.ofW (cc := cX8_stands) (maxL := 8) (ret := (some .boolean)) (by decide) rfl ?_
  intro p e s m args below meth c s₁ B hml hv
  obtain ⟨rfl, hsz, hP, hK, hD0, hI⟩ := hv
  have hx := B.exec
  have hb := B.bytes
  have hr := B.returns
  have hts := atoms_spec (ws := wsX8_stands) B.pre
  have hown : s.vm.findClass RX8 = some m.cls := findClass_of_methodNamed B.named
  have hlocks := B.notSynchronized
  subst hsz
  have hD := hD0.self (sz := s.heap.size)
  generalize hAe : va_A (mW ad cI cZ m_thrown m_size m_outLong m_lines m_toldLines m_tokens m_places m_p m_pre m_end m_text m_out m_lineAt m_lineLong m_depth m_signed m_led m_told m_place m_begin m_tokenLong m_stemLong m_address m_letters m_stems m_s) s.heap.size = A at hD hI ⊢
  have hA : ∀ q : Nat, s.heap.size ≤ q → A q := fun q h => by rw [← hAe]; exact Or.inr h
  have hS : va_S A s.heap s.heap [] := va_S.rf
  have Fx : CallFix p m c cX8_stands 8 s ([.ref (ad 0), .int x1, .long x2, .int x4] : List Value).toArray wsX8_stands RX8 := ⟨hx, hb, hml, hown, hts⟩
  have hQ : ∀ (r : Int32) (u : Unit) (t : State), (fun (r : Int32) (u : Unit) => post r ) r u → va_P (dC, dI) vwCl ((fun u : Unit => (mW ad cI cZ m_thrown m_size m_outLong m_lines m_toldLines m_tokens m_places m_p m_pre m_end m_text m_out m_lineAt m_lineLong m_depth m_signed m_led m_told m_place m_begin m_tokenLong m_stemLong m_address m_letters m_stems m_s)) u) t.heap → va_K (dC, dI) vwCl [(cI, .int), (cZ, .boolean)] t → va_D A ((fun u : Unit => (mW ad cI cZ m_thrown m_size m_outLong m_lines m_toldLines m_tokens m_places m_p m_pre m_end m_text m_out m_lineAt m_lineLong m_depth m_signed m_led m_told m_place m_begin m_tokenLong m_stemLong m_address m_letters m_stems m_s)) u) → va_F A s t → (va_Qi (fun (r : Int32) (u : Unit) => post r ) (xB (dC, dI) vwCl [(cI, .int), (cZ, .boolean)] A (fun u : Unit => (mW ad cI cZ m_thrown m_size m_outLong m_lines m_toldLines m_tokens m_places m_p m_pre m_end m_text m_out m_lineAt m_lineLong m_depth m_signed m_led m_told m_place m_begin m_tokenLong m_stemLong m_address m_letters m_stems m_s))) A) ([.ref (ad 0), .int x1, .long x2, .int x4] : List Value).toArray s (.returned (some (.int r))) t := fun r u t h1 h2 h3 h4 h5 => ⟨⟨r, u, rfl, h1, h2, h3, h4⟩, h5⟩
  generalize (va_Qi (fun (r : Int32) (u : Unit) => post r ) (xB (dC, dI) vwCl [(cI, .int), (cZ, .boolean)] A (fun u : Unit => (mW ad cI cZ m_thrown m_size m_outLong m_lines m_toldLines m_tokens m_places m_p m_pre m_end m_text m_out m_lineAt m_lineLong m_depth m_signed m_led m_told m_place m_begin m_tokenLong m_stemLong m_address m_letters m_stems m_s))) A) = Qc at hQ ⊢
  have hl := lv_entry ([.ref (ad 0), .int x1, .long x2, .int x4]) (n := 8) (Nat.le_of_ble_eq_true rfl)
  rw [lg_entry_eq]
  generalize (lg_sl ([.ref (ad 0), .int x1, .long x2, .int x4]) ++ List.replicate (8 - (lg_sl ([.ref (ad 0), .int x1, .long x2, .int x4])).length) Slot.unset).toArray = ls at hl ⊢
  have hl : lv_has ls 8 [(0, .ref (ad 0)), (1, .int x1), (2, .long x2), (4, .int x4)] := hl
  refine (fun (key : ∀ (H : Heap) (locs : List Loc), va_P (dC, dI) vwCl (mW ad cI cZ m_thrown m_size m_outLong m_lines m_toldLines m_tokens m_places m_p m_pre m_end m_text m_out m_lineAt m_lineLong m_depth m_signed m_led m_told m_place m_begin m_tokenLong m_stemLong m_address m_letters m_stems m_s) H → va_D A (mW ad cI cZ m_thrown m_size m_outLong m_lines m_toldLines m_tokens m_places m_p m_pre m_end m_text m_out m_lineAt m_lineLong m_depth m_signed m_led m_told m_place m_begin m_tokenLong m_stemLong m_address m_letters m_stems m_s) → va_S A s.heap H locs → W p l e (headSpec wsX8_stands ({ frames := 2, cells := 0, slots := 0, locals := 42 })).room s m ([.ref (ad 0), .int x1, .long x2, .int x4] : List Value).toArray below meth c H locs 0 0 (MQ below Qc ([.ref (ad 0), .int x1, .long x2, .int x4] : List Value).toArray s 0 0 A) (F0 m 0 ls [])) => key _ _ hP hD hS) ?_
  have L9 : ∀ (x5 : Int32) (n : Nat) (x6 : Int32) (H : Heap) (locs : List Loc) (ls : Array Slot), lv_has ls 8 [(0, .ref (ad 0)), (1, .int x1), (2, .long x2), (4, .int x4), (5, .int x5), (6, .int x6)] → va_P (dC, dI) vwCl (mW ad cI cZ m_thrown m_size m_outLong m_lines m_toldLines m_tokens m_places m_p m_pre m_end m_text m_out m_lineAt m_lineLong m_depth m_signed m_led m_told m_place m_begin m_tokenLong m_stemLong m_address m_letters m_stems m_s) H → va_D A (mW ad cI cZ m_thrown m_size m_outLong m_lines m_toldLines m_tokens m_places m_p m_pre m_end m_text m_out m_lineAt m_lineLong m_depth m_signed m_led m_told m_place m_begin m_tokenLong m_stemLong m_address m_letters m_stems m_s) → va_S A s.heap H locs → wlX8_stands_9 post m_size m_text x1 x2 x4 x5 n x6 → W p l e (headSpec wsX8_stands ({ frames := 2, cells := 0, slots := 0, locals := 42 })).room s m ([.ref (ad 0), .int x1, .long x2, .int x4] : List Value).toArray below meth c H locs 0 0 (MQ below Qc ([.ref (ad 0), .int x1, .long x2, .int x4] : List Value).toArray s 0 0 A) (F0 m 9 ls []) := by
    intro x5
    intro n
    induction n with
    | zero => intro x6 H locs ls _ _ _ _ h; exact absurd h (fun z => z)
    | succ n9 ih9 =>
      intro x6 H locs ls hl hP hD hS h
      have J41 : ∀ (x6 : Int32) (s0 : Int32) (H : Heap) (locs : List Loc) (ls : Array Slot), lv_has ls 8 [(0, .ref (ad 0)), (1, .int x1), (2, .long x2), (4, .int x4), (5, .int x5), (6, .int x6)] → va_P (dC, dI) vwCl (mW ad cI cZ m_thrown m_size m_outLong m_lines m_toldLines m_tokens m_places m_p m_pre m_end m_text m_out m_lineAt m_lineLong m_depth m_signed m_led m_told m_place m_begin m_tokenLong m_stemLong m_address m_letters m_stems m_s) H → va_D A (mW ad cI cZ m_thrown m_size m_outLong m_lines m_toldLines m_tokens m_places m_p m_pre m_end m_text m_out m_lineAt m_lineLong m_depth m_signed m_led m_told m_place m_begin m_tokenLong m_stemLong m_address m_letters m_stems m_s) → va_S A s.heap H locs → wjX8_stands_41 (fun x6 => wlX8_stands_9 post m_size m_text x1 x2 x4 x5 n9 x6) post m_size m_text x1 x2 x4 x5 x6 s0 → W p l e (headSpec wsX8_stands ({ frames := 2, cells := 0, slots := 0, locals := 42 })).room s m ([.ref (ad 0), .int x1, .long x2, .int x4] : List Value).toArray below meth c H locs 0 0 (MQ below Qc ([.ref (ad 0), .int x1, .long x2, .int x4] : List Value).toArray s 0 0 A) (F0 m 41 ls [.int s0]) := by
        intro x6 s0 H locs ls hl hP hD hS h
        delta wjX8_stands_41 at h
        refine lv_lload_n hx hb dX8_stands_41 rfl (lv_at hl 2 rfl) ?_
        refine lv_bipush (v := 8) hx hb dX8_stands_42 (by decide) ?_
        refine lv_iload hx hb dX8_stands_44 (lv_at hl 4 rfl) ?_
        refine lv_iconst (v := 1) hx hb dX8_stands_46 (by decide) ?_
        refine lv_isub hx hb dX8_stands_47 ?_
        refine lv_iload hx hb dX8_stands_48 (lv_at hl 5 rfl) ?_
        refine lv_isub hx hb dX8_stands_50 ?_
        refine lv_imul hx hb dX8_stands_51 ?_
        refine lv_lushr hx hb dX8_stands_52 rfl ?_
        refine lv_ldc2 (v := 255) hx hb hown (hts (.constantLong RX8 113 (255)) (List.mem_of_getElem? (i := 1) rfl)) dX8_stands_53 ?_
        refine lv_land hx hb dX8_stands_56 ?_
        refine lv_l2i hx hb dX8_stands_57 rfl ?_
        refine lv_icmp_eq (tgt := 63) hx hb dX8_stands_58 (by decide) (fun c9 => ?_) (fun c9 => ?_)
        · have h := h.1 c9
          obtain ⟨x6_1, ex6_1⟩ : ∃ y : Int32, y = x6 + 1 := ⟨_, rfl⟩
          have h := h x6_1 ex6_1
          refine lv_iinc (v := x6_1) (lv' := [(6, .int x6_1), (0, .ref (ad 0)), (1, .int x1), (2, .long x2), (4, .int x4), (5, .int x5)]) hx hb dX8_stands_63 hl (k := 5) rfl (by rw [ex6_1]; rfl) (by decide) rfl (fun ls hl => ?_)
          refine lv_goto (tgt := 9) hx hb dX8_stands_66 (by decide) ?_
          exact ih9 x6_1 H locs ls (lv_sub hl [1, 2, 3, 4, 5, 0] rfl) hP hD hS h
        · have h := h.2 c9
          refine lv_iconst (v := 0) hx hb dX8_stands_61 (by decide) ?_
          exact W.zret (v := 0) hx hb hr (bN_nar bN0) (fun t ht hW => hQ 0 () t h (by rw [ht]; exact hP) (va_K.moved hW.alike hK) hD (hS.F ht)) hS.2.2 dX8_stands_62
      rw [wlX8_stands_9] at h
      refine lv_iload hx hb dX8_stands_9 (lv_at hl 5 rfl) ?_
      refine lv_iload hx hb dX8_stands_11 (lv_at hl 4 rfl) ?_
      refine lv_icmp_ge (tgt := 69) hx hb dX8_stands_13 (by decide) (fun c9 => ?_) (fun c9 => ?_)
      · have h := h.1 c9
        refine lv_iconst (v := 1) hx hb dX8_stands_69 (by decide) ?_
        exact W.zret (v := 1) hx hb hr (bN_nar bN1) (fun t ht hW => hQ 1 () t h (by rw [ht]; exact hP) (va_K.moved hW.alike hK) hD (hS.F ht)) hS.2.2 dX8_stands_70
      · have h := h.2 c9
        refine lv_aload_n hx hb dX8_stands_16 rfl (lv_at hl 0 rfl) ?_
        refine lv_iload_n hx hb dX8_stands_17 rfl (lv_at hl 1 rfl) ?_
        refine lv_iload hx hb dX8_stands_18 (lv_at hl 5 rfl) ?_
        refine lv_iadd hx hb dX8_stands_20 ?_
        refine xc_vi (As := [.int (x1 + x6)]) (rest := []) xG Fx (sX8_look l dC dI ad cI cZ sa sv m_thrown m_size m_outLong m_lines m_toldLines m_tokens m_places m_p m_pre m_end m_text m_out m_lineAt m_lineLong m_depth m_signed m_led m_told m_place m_begin m_tokenLong m_stemLong m_address m_letters m_stems m_s (x1 + x6) h) (cwV 1 hts gX8_stands_X8_look rfl rfl rfl hdX8_look ⟨Nat.le_of_ble_eq_true rfl, Nat.le_of_ble_eq_true rfl⟩) (va_recv hK hP (ci := 7) (q0 := 0) rfl rfl) hK hP hD hS hA hI rfl hl.1 rfl (Nat.le_of_ble_eq_true rfl) dX8_stands_21 ⟨Nat.zero_le _, Nat.zero_le _⟩ (fun r_2 u H locs h hP hD hS => ?_)
        refine lv_istore (lv' := [(7, .int r_2), (0, .ref (ad 0)), (1, .int x1), (2, .long x2), (4, .int x4), (5, .int x5), (6, .int x6)]) hx hb dX8_stands_24 hl (by decide) rfl (fun ls hl => ?_)
        refine lv_iload hx hb dX8_stands_26 (lv_at hl 4 rfl) ?_
        refine lv_if_eq (tgt := 39) hx hb dX8_stands_28 (by decide) (fun c9 => ?_) (fun c9 => ?_)
        · have h := h.1 c9
          refine lv_iload hx hb dX8_stands_39 (lv_at hl 0 rfl) ?_
          exact J41 x6 r_2 H locs ls (lv_sub hl [1, 2, 3, 4, 5, 6] rfl) hP hD hS h
        · have h := h.2 c9
          refine lv_iload hx hb dX8_stands_31 (lv_at hl 0 rfl) ?_
          refine xc_si (As := [.int r_2]) (rest := []) xG Fx (sX8_small l dC dI ad cI cZ sa sv m_thrown m_size m_outLong m_lines m_toldLines m_tokens m_places m_p m_pre m_end m_text m_out m_lineAt m_lineLong m_depth m_signed m_led m_told m_place m_begin m_tokenLong m_stemLong m_address m_letters m_stems m_s r_2 h) (va_cwS 1 hts gX8_stands_X8_small rfl rfl rfl hdX8_small ⟨Nat.le_of_ble_eq_true rfl, Nat.le_of_ble_eq_true rfl⟩) hK hP hD hS hA hI rfl hl.1 rfl (Nat.le_of_ble_eq_true rfl) dX8_stands_33 ⟨Nat.zero_le _, Nat.zero_le _⟩ (fun r_3 u H locs h hP hD hS => ?_)
          refine lv_goto (tgt := 41) hx hb dX8_stands_36 (by decide) ?_
          exact J41 x6 r_3 H locs ls (lv_sub hl [1, 2, 3, 4, 5, 6] rfl) hP hD hS h
  intro H locs hP hD hS
  delta wpX8_stands at h
  refine lv_lload_n hx hb dX8_stands_0 rfl (lv_at hl 2 rfl) ?_
  refine xc_si (As := [.long x2]) (rest := []) xG Fx (sX8_lengthOf l dC dI ad cI cZ sa sv m_thrown m_size m_outLong m_lines m_toldLines m_tokens m_places m_p m_pre m_end m_text m_out m_lineAt m_lineLong m_depth m_signed m_led m_told m_place m_begin m_tokenLong m_stemLong m_address m_letters m_stems m_s x2 h) (va_cwS 1 hts gX8_stands_X8_lengthOf rfl rfl rfl hdX8_lengthOf ⟨Nat.le_of_ble_eq_true rfl, Nat.le_of_ble_eq_true rfl⟩) hK hP hD hS hA hI rfl hl.1 rfl (Nat.le_of_ble_eq_true rfl) dX8_stands_1 ⟨Nat.zero_le _, Nat.zero_le _⟩ (fun r_4 u H locs h hP hD hS => ?_)
  refine lv_istore (lv' := [(5, .int r_4), (0, .ref (ad 0)), (1, .int x1), (2, .long x2), (4, .int x4)]) hx hb dX8_stands_4 hl (by decide) rfl (fun ls hl => ?_)
  refine lv_iconst (v := 0) hx hb dX8_stands_6 (by decide) ?_
  refine lv_istore (lv' := [(6, .int 0), (5, .int r_4), (0, .ref (ad 0)), (1, .int x1), (2, .long x2), (4, .int x4)]) hx hb dX8_stands_7 hl (by decide) rfl (fun ls hl => ?_)
  obtain ⟨n, h⟩ := h
  exact L9 r_4 n 0 H locs ls (lv_sub hl [2, 3, 4, 5, 1, 0] rfl) hP hD hS h
set_option maxHeartbeats 4000000 in
set_option maxRecDepth 100000 in
theorem sX8_nameAt (l : Launch) (dC : Nat → ClassId) (dI : Nat → Nat → Nat) (ad : Nat → Nat) (cI cZ : ClassId) (sa sv : Nat → Nat) (m_thrown : Int32) (m_size : Int32) (m_outLong : Int32) (m_lines : Int32) (m_toldLines : Int32) (m_tokens : Int32) (m_places : Int32) (m_p : Int32) (m_pre : Int32) (m_end : Int32) (m_text : Nat → Int32) (m_out : Nat → Int32) (m_lineAt : Nat → Int32) (m_lineLong : Nat → Int32) (m_depth : Nat → Int32) (m_signed : Nat → Int32) (m_led : Nat → Int32) (m_told : Nat → Int32) (m_place : Nat → Int32) (m_begin : Nat → Int32) (m_tokenLong : Nat → Int32) (m_stemLong : Nat → Int32) (m_address : Nat → Int32) (m_letters : Nat → Int32) (m_stems : Nat → Int32) (m_s : Nat → Int32) (x1 : Int32) {post : Int64 → Prop} (h : wpX8_nameAt post m_size m_text x1) : xMl l (dC, dI) vwCl [(cI, .int), (cZ, .boolean)] (sI sa sv) yX8_nameAt wsX8_nameAt ({ frames := 3, cells := 0, slots := 0, locals := 69 }) (mW ad cI cZ m_thrown m_size m_outLong m_lines m_toldLines m_tokens m_places m_p m_pre m_end m_text m_out m_lineAt m_lineLong m_depth m_signed m_led m_told m_place m_begin m_tokenLong m_stemLong m_address m_letters m_stems m_s) [.ref (ad 0), .int x1] (fun (r : Int64) (u : Unit) => post r ) (fun u : Unit => (mW ad cI cZ m_thrown m_size m_outLong m_lines m_toldLines m_tokens m_places m_p m_pre m_end m_text m_out m_lineAt m_lineLong m_depth m_signed m_led m_told m_place m_begin m_tokenLong m_stemLong m_address m_letters m_stems m_s)) := by
  intro sz
  refine Met.ofW (cc := cX8_nameAt) (maxL := 5) (ret := (some .long)) (by decide) rfl ?_
  intro p e s m args below meth c s₁ B hml hv
  obtain ⟨rfl, hsz, hP, hK, hD0, hI⟩ := hv
  have hx := B.exec
  have hb := B.bytes
  have hr := B.returns
  have hts := atoms_spec (ws := wsX8_nameAt) B.pre
  have hown : s.vm.findClass RX8 = some m.cls := findClass_of_methodNamed B.named
  have hlocks := B.notSynchronized
  subst hsz
  have hD := hD0.self (sz := s.heap.size)
  generalize hAe : va_A (mW ad cI cZ m_thrown m_size m_outLong m_lines m_toldLines m_tokens m_places m_p m_pre m_end m_text m_out m_lineAt m_lineLong m_depth m_signed m_led m_told m_place m_begin m_tokenLong m_stemLong m_address m_letters m_stems m_s) s.heap.size = A at hD hI ⊢
  have hA : ∀ q : Nat, s.heap.size ≤ q → A q := fun q h => by rw [← hAe]; exact Or.inr h
  have hS : va_S A s.heap s.heap [] := va_S.rf
  have Fx : CallFix p m c cX8_nameAt 5 s ([.ref (ad 0), .int x1] : List Value).toArray wsX8_nameAt RX8 := ⟨hx, hb, hml, hown, hts⟩
  have hQ : ∀ (r : Int64) (u : Unit) (t : State), (fun (r : Int64) (u : Unit) => post r ) r u → va_P (dC, dI) vwCl ((fun u : Unit => (mW ad cI cZ m_thrown m_size m_outLong m_lines m_toldLines m_tokens m_places m_p m_pre m_end m_text m_out m_lineAt m_lineLong m_depth m_signed m_led m_told m_place m_begin m_tokenLong m_stemLong m_address m_letters m_stems m_s)) u) t.heap → va_K (dC, dI) vwCl [(cI, .int), (cZ, .boolean)] t → va_D A ((fun u : Unit => (mW ad cI cZ m_thrown m_size m_outLong m_lines m_toldLines m_tokens m_places m_p m_pre m_end m_text m_out m_lineAt m_lineLong m_depth m_signed m_led m_told m_place m_begin m_tokenLong m_stemLong m_address m_letters m_stems m_s)) u) → va_F A s t → (va_Ql (fun (r : Int64) (u : Unit) => post r ) (xB (dC, dI) vwCl [(cI, .int), (cZ, .boolean)] A (fun u : Unit => (mW ad cI cZ m_thrown m_size m_outLong m_lines m_toldLines m_tokens m_places m_p m_pre m_end m_text m_out m_lineAt m_lineLong m_depth m_signed m_led m_told m_place m_begin m_tokenLong m_stemLong m_address m_letters m_stems m_s))) A) ([.ref (ad 0), .int x1] : List Value).toArray s (.returned (some (.long r))) t := fun r u t h1 h2 h3 h4 h5 => ⟨⟨r, u, rfl, h1, h2, h3, h4⟩, h5⟩
  generalize (va_Ql (fun (r : Int64) (u : Unit) => post r ) (xB (dC, dI) vwCl [(cI, .int), (cZ, .boolean)] A (fun u : Unit => (mW ad cI cZ m_thrown m_size m_outLong m_lines m_toldLines m_tokens m_places m_p m_pre m_end m_text m_out m_lineAt m_lineLong m_depth m_signed m_led m_told m_place m_begin m_tokenLong m_stemLong m_address m_letters m_stems m_s))) A) = Qc at hQ ⊢
  have hl := lv_entry ([.ref (ad 0), .int x1]) (n := 5) (Nat.le_of_ble_eq_true rfl)
  rw [lg_entry_eq]
  generalize (lg_sl ([.ref (ad 0), .int x1]) ++ List.replicate (5 - (lg_sl ([.ref (ad 0), .int x1])).length) Slot.unset).toArray = ls at hl ⊢
  have hl : lv_has ls 5 [(0, .ref (ad 0)), (1, .int x1)] := hl
  refine (fun (key : ∀ (H : Heap) (locs : List Loc), va_P (dC, dI) vwCl (mW ad cI cZ m_thrown m_size m_outLong m_lines m_toldLines m_tokens m_places m_p m_pre m_end m_text m_out m_lineAt m_lineLong m_depth m_signed m_led m_told m_place m_begin m_tokenLong m_stemLong m_address m_letters m_stems m_s) H → va_D A (mW ad cI cZ m_thrown m_size m_outLong m_lines m_toldLines m_tokens m_places m_p m_pre m_end m_text m_out m_lineAt m_lineLong m_depth m_signed m_led m_told m_place m_begin m_tokenLong m_stemLong m_address m_letters m_stems m_s) → va_S A s.heap H locs → W p l e (headSpec wsX8_nameAt ({ frames := 3, cells := 0, slots := 0, locals := 69 })).room s m ([.ref (ad 0), .int x1] : List Value).toArray below meth c H locs 0 0 (MQ below Qc ([.ref (ad 0), .int x1] : List Value).toArray s 0 0 A) (F0 m 0 ls [])) => key _ _ hP hD hS) ?_
  have inX8 : ∀ w ∈ wsX80, w ∈ wsX8_nameAt := (fun _ h9 => List.mem_cons_of_mem _ (List.mem_append_right _ h9))
  have J144 : ∀ (x2 : Int64) (x4 : Int32) (H : Heap) (locs : List Loc) (ls : Array Slot), lv_has ls 5 [(1, .int x1), (2, .long x2), (4, .int x4)] → va_P (dC, dI) vwCl (mW ad cI cZ m_thrown m_size m_outLong m_lines m_toldLines m_tokens m_places m_p m_pre m_end m_text m_out m_lineAt m_lineLong m_depth m_signed m_led m_told m_place m_begin m_tokenLong m_stemLong m_address m_letters m_stems m_s) H → va_D A (mW ad cI cZ m_thrown m_size m_outLong m_lines m_toldLines m_tokens m_places m_p m_pre m_end m_text m_out m_lineAt m_lineLong m_depth m_signed m_led m_told m_place m_begin m_tokenLong m_stemLong m_address m_letters m_stems m_s) → va_S A s.heap H locs → wjX8_nameAt_144 post m_size m_text x1 x2 x4 → W p l e (headSpec wsX8_nameAt ({ frames := 3, cells := 0, slots := 0, locals := 69 })).room s m ([.ref (ad 0), .int x1] : List Value).toArray below meth c H locs 0 0 (MQ below Qc ([.ref (ad 0), .int x1] : List Value).toArray s 0 0 A) (F0 m 144 ls []) := by
    intro x2 x4 H locs ls hl hP hD hS h
    delta wjX8_nameAt_144 at h
    refine lv_iload hx hb dX8_nameAt_144 (lv_at hl 2 rfl) ?_
    refine lv_iload_n hx hb dX8_nameAt_146 rfl (lv_at hl 0 rfl) ?_
    refine lv_isub hx hb dX8_nameAt_147 ?_
    refine lv_bipush (v := 8) hx hb dX8_nameAt_148 (by decide) ?_
    refine lv_icmp_le (tgt := 157) hx hb dX8_nameAt_150 (by decide) (fun c9 => ?_) (fun c9 => ?_)
    · have h := h.1 c9
      refine lv_lload_n hx hb dX8_nameAt_157 rfl (lv_at hl 1 rfl) ?_
      exact W.lret (v := x2) hx hb hr (fun t ht hW => hQ x2 () t h (by rw [ht]; exact hP) (va_K.moved hW.alike hK) hD (hS.F ht)) hS.2.2 dX8_nameAt_158
    · have h := h.2 c9
      refine lv_lconst (v := 1) hx hb dX8_nameAt_153 (by decide) ?_
      refine lv_goto (tgt := 158) hx hb dX8_nameAt_154 (by decide) ?_
      exact W.lret (v := 1) hx hb hr (fun t ht hW => hQ 1 () t h (by rw [ht]; exact hP) (va_K.moved hW.alike hK) hD (hS.F ht)) hS.2.2 dX8_nameAt_158
  have L5 : ∀ (n : Nat) (x2 : Int64) (x4 : Int32) (H : Heap) (locs : List Loc) (ls : Array Slot), lv_has ls 5 [(0, .ref (ad 0)), (1, .int x1), (2, .long x2), (4, .int x4)] → va_P (dC, dI) vwCl (mW ad cI cZ m_thrown m_size m_outLong m_lines m_toldLines m_tokens m_places m_p m_pre m_end m_text m_out m_lineAt m_lineLong m_depth m_signed m_led m_told m_place m_begin m_tokenLong m_stemLong m_address m_letters m_stems m_s) H → va_D A (mW ad cI cZ m_thrown m_size m_outLong m_lines m_toldLines m_tokens m_places m_p m_pre m_end m_text m_out m_lineAt m_lineLong m_depth m_signed m_led m_told m_place m_begin m_tokenLong m_stemLong m_address m_letters m_stems m_s) → va_S A s.heap H locs → wlX8_nameAt_5 post m_size m_text x1 n x2 x4 → W p l e (headSpec wsX8_nameAt ({ frames := 3, cells := 0, slots := 0, locals := 69 })).room s m ([.ref (ad 0), .int x1] : List Value).toArray below meth c H locs 0 0 (MQ below Qc ([.ref (ad 0), .int x1] : List Value).toArray s 0 0 A) (F0 m 5 ls []) := by
    intro n
    induction n with
    | zero => intro x2 x4 H locs ls _ _ _ _ h; exact absurd h (fun z => z)
    | succ n5 ih5 =>
      intro x2 x4 H locs ls hl hP hD hS h
      have J58 : ∀ (x4 : Int32) (s0 : Int64) (H : Heap) (locs : List Loc) (ls : Array Slot), lv_has ls 5 [(0, .ref (ad 0)), (1, .int x1), (4, .int x4)] → va_P (dC, dI) vwCl (mW ad cI cZ m_thrown m_size m_outLong m_lines m_toldLines m_tokens m_places m_p m_pre m_end m_text m_out m_lineAt m_lineLong m_depth m_signed m_led m_told m_place m_begin m_tokenLong m_stemLong m_address m_letters m_stems m_s) H → va_D A (mW ad cI cZ m_thrown m_size m_outLong m_lines m_toldLines m_tokens m_places m_p m_pre m_end m_text m_out m_lineAt m_lineLong m_depth m_signed m_led m_told m_place m_begin m_tokenLong m_stemLong m_address m_letters m_stems m_s) → va_S A s.heap H locs → wjX8_nameAt_58 (fun x2 x4 => wlX8_nameAt_5 post m_size m_text x1 n5 x2 x4) post m_size m_text x1 x4 s0 → W p l e (headSpec wsX8_nameAt ({ frames := 3, cells := 0, slots := 0, locals := 69 })).room s m ([.ref (ad 0), .int x1] : List Value).toArray below meth c H locs 0 0 (MQ below Qc ([.ref (ad 0), .int x1] : List Value).toArray s 0 0 A) (F0 m 58 ls [.long s0]) := by
        intro x4 s0 H locs ls hl hP hD hS h
        delta wjX8_nameAt_58 at h
        refine lv_lstore_n (lv' := [(2, .long s0), (0, .ref (ad 0)), (1, .int x1), (4, .int x4)]) hx hb dX8_nameAt_58 rfl hl (by decide) rfl (fun ls hl => ?_)
        obtain ⟨x4_1, ex4_1⟩ : ∃ y : Int32, y = x4 + 1 := ⟨_, rfl⟩
        have h := h x4_1 ex4_1
        refine lv_iinc (v := x4_1) (lv' := [(4, .int x4_1), (2, .long s0), (0, .ref (ad 0)), (1, .int x1)]) hx hb dX8_nameAt_59 hl (k := 3) rfl (by rw [ex4_1]; rfl) (by decide) rfl (fun ls hl => ?_)
        refine lv_goto (tgt := 5) hx hb dX8_nameAt_62 (by decide) ?_
        exact ih5 s0 x4_1 H locs ls (lv_sub hl [2, 3, 1, 0] rfl) hP hD hS h
      have J29 : ∀ (x2 : Int64) (x4 : Int32) (H : Heap) (locs : List Loc) (ls : Array Slot), lv_has ls 5 [(0, .ref (ad 0)), (1, .int x1), (2, .long x2), (4, .int x4)] → va_P (dC, dI) vwCl (mW ad cI cZ m_thrown m_size m_outLong m_lines m_toldLines m_tokens m_places m_p m_pre m_end m_text m_out m_lineAt m_lineLong m_depth m_signed m_led m_told m_place m_begin m_tokenLong m_stemLong m_address m_letters m_stems m_s) H → va_D A (mW ad cI cZ m_thrown m_size m_outLong m_lines m_toldLines m_tokens m_places m_p m_pre m_end m_text m_out m_lineAt m_lineLong m_depth m_signed m_led m_told m_place m_begin m_tokenLong m_stemLong m_address m_letters m_stems m_s) → va_S A s.heap H locs → wjX8_nameAt_29 (fun x2 x4 => wlX8_nameAt_5 post m_size m_text x1 n5 x2 x4) post m_size m_text x1 x2 x4 → W p l e (headSpec wsX8_nameAt ({ frames := 3, cells := 0, slots := 0, locals := 69 })).room s m ([.ref (ad 0), .int x1] : List Value).toArray below meth c H locs 0 0 (MQ below Qc ([.ref (ad 0), .int x1] : List Value).toArray s 0 0 A) (F0 m 29 ls []) := by
        intro x2 x4 H locs ls hl hP hD hS h
        delta wjX8_nameAt_29 at h
        refine lv_iload hx hb dX8_nameAt_29 (lv_at hl 3 rfl) ?_
        refine lv_iload_n hx hb dX8_nameAt_31 rfl (lv_at hl 1 rfl) ?_
        refine lv_isub hx hb dX8_nameAt_32 ?_
        refine lv_bipush (v := 8) hx hb dX8_nameAt_33 (by decide) ?_
        refine lv_icmp_ge (tgt := 57) hx hb dX8_nameAt_35 (by decide) (fun c9 => ?_) (fun c9 => ?_)
        · have h := h.1 c9
          refine lv_lconst (v := 1) hx hb dX8_nameAt_57 (by decide) ?_
          exact J58 x4 1 H locs ls (lv_sub hl [0, 1, 3] rfl) hP hD hS h
        · have h := h.2 c9
          refine lv_lload_n hx hb dX8_nameAt_38 rfl (lv_at hl 2 rfl) ?_
          refine lv_bipush (v := 8) hx hb dX8_nameAt_39 (by decide) ?_
          refine lv_lshl hx hb dX8_nameAt_41 rfl ?_
          refine lv_aload_n hx hb dX8_nameAt_42 rfl (lv_at hl 0 rfl) ?_
          refine va_get (D := (dC, dI)) (ci := 7) (v := .ref (ad 1)) (C := RX8) (T := TX8) (N := 26) hx hb hts inX8 hown hK hP 0 rfl rfl 1 (by decide) (hts (.fieldLink RX8 7 "MailWordsModel" "text" "[I") (List.mem_of_getElem? (i := 1) rfl)) (fun _ h9 => h9) rfl dX8_nameAt_43 ?_
          refine lv_iload hx hb dX8_nameAt_46 (lv_at hl 3 rfl) ?_
          have hi9 := h.1
          have h := h.2
          refine va_iald hx hb hK hP 1 0 rfl rfl hi9 dX8_nameAt_48 ?_
          refine xc_si (As := [.int (m_text x4.toNatClampNeg)]) (rest := [.long (x2 <<< ((Int32.toInt64 8) &&& 63))]) xG Fx (sX8_small l dC dI ad cI cZ sa sv m_thrown m_size m_outLong m_lines m_toldLines m_tokens m_places m_p m_pre m_end m_text m_out m_lineAt m_lineLong m_depth m_signed m_led m_told m_place m_begin m_tokenLong m_stemLong m_address m_letters m_stems m_s (m_text x4.toNatClampNeg) h) (va_cwS 1 hts gX8_nameAt_X8_small rfl rfl rfl hdX8_small ⟨Nat.le_of_ble_eq_true rfl, Nat.le_of_ble_eq_true rfl⟩) hK hP hD hS hA hI rfl hl.1 rfl (Nat.le_of_ble_eq_true rfl) dX8_nameAt_49 ⟨Nat.zero_le _, Nat.zero_le _⟩ (fun r_2 u H locs h hP hD hS => ?_)
          refine lv_i2l hx hb dX8_nameAt_52 rfl ?_
          refine lv_lor hx hb dX8_nameAt_53 ?_
          refine lv_goto (tgt := 58) hx hb dX8_nameAt_54 (by decide) ?_
          exact J58 x4 ((x2 <<< ((Int32.toInt64 8) &&& 63)) ||| (Int32.toInt64 r_2)) H locs ls (lv_sub hl [0, 1, 3] rfl) hP hD hS h
      rw [wlX8_nameAt_5] at h
      refine lv_aload_n hx hb dX8_nameAt_5 rfl (lv_at hl 0 rfl) ?_
      refine lv_iload hx hb dX8_nameAt_6 (lv_at hl 3 rfl) ?_
      refine xc_vi (As := [.int x4]) (rest := []) xG Fx (sX8_look l dC dI ad cI cZ sa sv m_thrown m_size m_outLong m_lines m_toldLines m_tokens m_places m_p m_pre m_end m_text m_out m_lineAt m_lineLong m_depth m_signed m_led m_told m_place m_begin m_tokenLong m_stemLong m_address m_letters m_stems m_s x4 h) (cwV 1 hts gX8_nameAt_X8_look rfl rfl rfl hdX8_look ⟨Nat.le_of_ble_eq_true rfl, Nat.le_of_ble_eq_true rfl⟩) (va_recv hK hP (ci := 7) (q0 := 0) rfl rfl) hK hP hD hS hA hI rfl hl.1 rfl (Nat.le_of_ble_eq_true rfl) dX8_nameAt_8 ⟨Nat.zero_le _, Nat.zero_le _⟩ (fun r_3 u H locs h hP hD hS => ?_)
      refine xc_si (As := [.int r_3]) (rest := []) xG Fx (sX8_isPlain l dC dI ad cI cZ sa sv m_thrown m_size m_outLong m_lines m_toldLines m_tokens m_places m_p m_pre m_end m_text m_out m_lineAt m_lineLong m_depth m_signed m_led m_told m_place m_begin m_tokenLong m_stemLong m_address m_letters m_stems m_s r_3 h) (va_cwS 1 hts gX8_nameAt_X8_isPlain rfl rfl rfl hdX8_isPlain ⟨Nat.le_of_ble_eq_true rfl, Nat.le_of_ble_eq_true rfl⟩) hK hP hD hS hA hI rfl hl.1 rfl (Nat.le_of_ble_eq_true rfl) dX8_nameAt_11 ⟨Nat.zero_le _, Nat.zero_le _⟩ (fun r_4 u H locs h hP hD hS => ?_)
      refine lv_if_ne (tgt := 29) hx hb dX8_nameAt_14 (by decide) (fun c9 => ?_) (fun c9 => ?_)
      · have h := h.1 c9
        exact J29 x2 x4 H locs ls (lv_sub hl [0, 1, 2, 3] rfl) hP hD hS h
      · have h := h.2 c9
        refine lv_aload_n hx hb dX8_nameAt_17 rfl (lv_at hl 0 rfl) ?_
        refine lv_iload hx hb dX8_nameAt_18 (lv_at hl 3 rfl) ?_
        refine xc_vi (As := [.int x4]) (rest := []) xG Fx (sX8_look l dC dI ad cI cZ sa sv m_thrown m_size m_outLong m_lines m_toldLines m_tokens m_places m_p m_pre m_end m_text m_out m_lineAt m_lineLong m_depth m_signed m_led m_told m_place m_begin m_tokenLong m_stemLong m_address m_letters m_stems m_s x4 h) (cwV 1 hts gX8_nameAt_X8_look rfl rfl rfl hdX8_look ⟨Nat.le_of_ble_eq_true rfl, Nat.le_of_ble_eq_true rfl⟩) (va_recv hK hP (ci := 7) (q0 := 0) rfl rfl) hK hP hD hS hA hI rfl hl.1 rfl (Nat.le_of_ble_eq_true rfl) dX8_nameAt_20 ⟨Nat.zero_le _, Nat.zero_le _⟩ (fun r_5 u H locs h hP hD hS => ?_)
        refine xc_si (As := [.int r_5]) (rest := []) xG Fx (sX8_isDigit l dC dI ad cI cZ sa sv m_thrown m_size m_outLong m_lines m_toldLines m_tokens m_places m_p m_pre m_end m_text m_out m_lineAt m_lineLong m_depth m_signed m_led m_told m_place m_begin m_tokenLong m_stemLong m_address m_letters m_stems m_s r_5 h) (va_cwS 1 hts gX8_nameAt_X8_isDigit rfl rfl rfl hdX8_isDigit ⟨Nat.le_of_ble_eq_true rfl, Nat.le_of_ble_eq_true rfl⟩) hK hP hD hS hA hI rfl hl.1 rfl (Nat.le_of_ble_eq_true rfl) dX8_nameAt_23 ⟨Nat.zero_le _, Nat.zero_le _⟩ (fun r_6 u H locs h hP hD hS => ?_)
        refine lv_if_eq (tgt := 65) hx hb dX8_nameAt_26 (by decide) (fun c9 => ?_) (fun c9 => ?_)
        · have h := h.1 c9
          refine lv_iload hx hb dX8_nameAt_65 (lv_at hl 3 rfl) ?_
          refine lv_iload_n hx hb dX8_nameAt_67 rfl (lv_at hl 1 rfl) ?_
          refine lv_isub hx hb dX8_nameAt_68 ?_
          refine lv_bipush (v := 8) hx hb dX8_nameAt_69 (by decide) ?_
          refine lv_icmp_le (tgt := 144) hx hb dX8_nameAt_71 (by decide) (fun c9 => ?_) (fun c9 => ?_)
          · have h := h.1 c9
            exact J144 x2 x4 H locs ls (lv_sub hl [1, 2, 3] rfl) hP hD hS h
          · have h := h.2 c9
            refine lv_iload hx hb dX8_nameAt_74 (lv_at hl 3 rfl) ?_
            refine lv_iload_n hx hb dX8_nameAt_76 rfl (lv_at hl 1 rfl) ?_
            refine lv_isub hx hb dX8_nameAt_77 ?_
            refine lv_bipush (v := 11) hx hb dX8_nameAt_78 (by decide) ?_
            refine lv_icmp_ge (tgt := 144) hx hb dX8_nameAt_80 (by decide) (fun c9 => ?_) (fun c9 => ?_)
            · have h := h.1 c9
              exact J144 x2 x4 H locs ls (lv_sub hl [1, 2, 3] rfl) hP hD hS h
            · have h := h.2 c9
              refine lv_aload_n hx hb dX8_nameAt_83 rfl (lv_at hl 0 rfl) ?_
              refine lv_iload_n hx hb dX8_nameAt_84 rfl (lv_at hl 1 rfl) ?_
              refine lv_ldc2 (v := 7092165985996731759) hx hb hown (hts (.constantLong RX8 115 (7092165985996731759)) (List.mem_of_getElem? (i := 2) rfl)) dX8_nameAt_85 ?_
              refine lv_iconst (v := 1) hx hb dX8_nameAt_88 (by decide) ?_
              refine xc_vi (As := [.int x1, .long 7092165985996731759, .int 1]) (rest := []) xG Fx (sX8_stands l dC dI ad cI cZ sa sv m_thrown m_size m_outLong m_lines m_toldLines m_tokens m_places m_p m_pre m_end m_text m_out m_lineAt m_lineLong m_depth m_signed m_led m_told m_place m_begin m_tokenLong m_stemLong m_address m_letters m_stems m_s x1 7092165985996731759 1 h) (cwV 3 hts gX8_nameAt_X8_stands rfl rfl rfl hdX8_stands ⟨Nat.le_of_ble_eq_true rfl, Nat.le_of_ble_eq_true rfl⟩) (va_recv hK hP (ci := 7) (q0 := 0) rfl rfl) hK hP hD hS hA hI rfl hl.1 rfl (Nat.le_of_ble_eq_true rfl) dX8_nameAt_89 ⟨Nat.zero_le _, Nat.zero_le _⟩ (fun r_7 u H locs h hP hD hS => ?_)
              refine lv_if_eq (tgt := 144) hx hb dX8_nameAt_92 (by decide) (fun c9 => ?_) (fun c9 => ?_)
              · have h := h.1 c9
                exact J144 x2 x4 H locs ls (lv_sub hl [1, 2, 3] rfl) hP hD hS h
              · have h := h.2 c9
                refine lv_iload hx hb dX8_nameAt_95 (lv_at hl 3 rfl) ?_
                refine lv_iload_n hx hb dX8_nameAt_97 rfl (lv_at hl 1 rfl) ?_
                refine lv_isub hx hb dX8_nameAt_98 ?_
                refine lv_bipush (v := 10) hx hb dX8_nameAt_99 (by decide) ?_
                refine lv_icmp_ne (tgt := 144) hx hb dX8_nameAt_101 (by decide) (fun c9 => ?_) (fun c9 => ?_)
                · have h := h.1 c9
                  exact J144 x2 x4 H locs ls (lv_sub hl [1, 2, 3] rfl) hP hD hS h
                · have h := h.2 c9
                  refine lv_aload_n hx hb dX8_nameAt_104 rfl (lv_at hl 0 rfl) ?_
                  refine va_get (D := (dC, dI)) (ci := 7) (v := .ref (ad 1)) (C := RX8) (T := TX8) (N := 26) hx hb hts inX8 hown hK hP 0 rfl rfl 1 (by decide) (hts (.fieldLink RX8 7 "MailWordsModel" "text" "[I") (List.mem_of_getElem? (i := 1) rfl)) (fun _ h9 => h9) rfl dX8_nameAt_105 ?_
                  refine lv_iload hx hb dX8_nameAt_108 (lv_at hl 3 rfl) ?_
                  refine lv_iconst (v := 2) hx hb dX8_nameAt_110 (by decide) ?_
                  refine lv_isub hx hb dX8_nameAt_111 ?_
                  have hi9 := h.1
                  have h := h.2
                  refine va_iald hx hb hK hP 1 0 rfl rfl hi9 dX8_nameAt_112 ?_
                  refine xc_si (As := [.int (m_text ((x4 - 2) : Int32).toNatClampNeg)]) (rest := []) xG Fx (sX8_small l dC dI ad cI cZ sa sv m_thrown m_size m_outLong m_lines m_toldLines m_tokens m_places m_p m_pre m_end m_text m_out m_lineAt m_lineLong m_depth m_signed m_led m_told m_place m_begin m_tokenLong m_stemLong m_address m_letters m_stems m_s (m_text ((x4 - 2) : Int32).toNatClampNeg) h) (va_cwS 1 hts gX8_nameAt_X8_small rfl rfl rfl hdX8_small ⟨Nat.le_of_ble_eq_true rfl, Nat.le_of_ble_eq_true rfl⟩) hK hP hD hS hA hI rfl hl.1 rfl (Nat.le_of_ble_eq_true rfl) dX8_nameAt_113 ⟨Nat.zero_le _, Nat.zero_le _⟩ (fun r_8 u H locs h hP hD hS => ?_)
                  refine lv_bipush (v := 116) hx hb dX8_nameAt_116 (by decide) ?_
                  refine lv_icmp_ne (tgt := 144) hx hb dX8_nameAt_118 (by decide) (fun c9 => ?_) (fun c9 => ?_)
                  · have h := h.1 c9
                    exact J144 x2 x4 H locs ls (lv_sub hl [1, 2, 3] rfl) hP hD hS h
                  · have h := h.2 c9
                    refine lv_aload_n hx hb dX8_nameAt_121 rfl (lv_at hl 0 rfl) ?_
                    refine va_get (D := (dC, dI)) (ci := 7) (v := .ref (ad 1)) (C := RX8) (T := TX8) (N := 26) hx hb hts inX8 hown hK hP 0 rfl rfl 1 (by decide) (hts (.fieldLink RX8 7 "MailWordsModel" "text" "[I") (List.mem_of_getElem? (i := 1) rfl)) (fun _ h9 => h9) rfl dX8_nameAt_122 ?_
                    refine lv_iload hx hb dX8_nameAt_125 (lv_at hl 3 rfl) ?_
                    refine lv_iconst (v := 1) hx hb dX8_nameAt_127 (by decide) ?_
                    refine lv_isub hx hb dX8_nameAt_128 ?_
                    have hi9 := h.1
                    have h := h.2
                    refine va_iald hx hb hK hP 1 0 rfl rfl hi9 dX8_nameAt_129 ?_
                    refine xc_si (As := [.int (m_text ((x4 - 1) : Int32).toNatClampNeg)]) (rest := []) xG Fx (sX8_small l dC dI ad cI cZ sa sv m_thrown m_size m_outLong m_lines m_toldLines m_tokens m_places m_p m_pre m_end m_text m_out m_lineAt m_lineLong m_depth m_signed m_led m_told m_place m_begin m_tokenLong m_stemLong m_address m_letters m_stems m_s (m_text ((x4 - 1) : Int32).toNatClampNeg) h) (va_cwS 1 hts gX8_nameAt_X8_small rfl rfl rfl hdX8_small ⟨Nat.le_of_ble_eq_true rfl, Nat.le_of_ble_eq_true rfl⟩) hK hP hD hS hA hI rfl hl.1 rfl (Nat.le_of_ble_eq_true rfl) dX8_nameAt_130 ⟨Nat.zero_le _, Nat.zero_le _⟩ (fun r_9 u H locs h hP hD hS => ?_)
                    refine lv_bipush (v := 101) hx hb dX8_nameAt_133 (by decide) ?_
                    refine lv_icmp_ne (tgt := 144) hx hb dX8_nameAt_135 (by decide) (fun c9 => ?_) (fun c9 => ?_)
                    · have h := h.1 c9
                      exact J144 x2 x4 H locs ls (lv_sub hl [1, 2, 3] rfl) hP hD hS h
                    · have h := h.2 c9
                      refine lv_ldc2 (v := 2) hx hb hown (hts (.constantLong RX8 121 (2)) (List.mem_of_getElem? (i := 3) rfl)) dX8_nameAt_138 ?_
                      refine lv_goto (tgt := 158) hx hb dX8_nameAt_141 (by decide) ?_
                      exact W.lret (v := 2) hx hb hr (fun t ht hW => hQ 2 () t h (by rw [ht]; exact hP) (va_K.moved hW.alike hK) hD (hS.F ht)) hS.2.2 dX8_nameAt_158
        · have h := h.2 c9
          exact J29 x2 x4 H locs ls (lv_sub hl [0, 1, 2, 3] rfl) hP hD hS h
  intro H locs hP hD hS
  delta wpX8_nameAt at h
  refine lv_lconst (v := 0) hx hb dX8_nameAt_0 (by decide) ?_
  refine lv_lstore_n (lv' := [(2, .long 0), (0, .ref (ad 0)), (1, .int x1)]) hx hb dX8_nameAt_1 rfl hl (by decide) rfl (fun ls hl => ?_)
  refine lv_iload_n hx hb dX8_nameAt_2 rfl (lv_at hl 2 rfl) ?_
  refine lv_istore (lv' := [(4, .int x1), (2, .long 0), (0, .ref (ad 0)), (1, .int x1)]) hx hb dX8_nameAt_3 hl (by decide) rfl (fun ls hl => ?_)
  obtain ⟨n, h⟩ := h
  exact L5  n 0 x1 H locs ls (lv_sub hl [2, 3, 1, 0] rfl) hP hD hS h
set_option maxHeartbeats 4000000 in
set_option maxRecDepth 100000 in
theorem sX8_tagEnd (l : Launch) (dC : Nat → ClassId) (dI : Nat → Nat → Nat) (ad : Nat → Nat) (cI cZ : ClassId) (sa sv : Nat → Nat) (m_thrown : Int32) (m_size : Int32) (m_outLong : Int32) (m_lines : Int32) (m_toldLines : Int32) (m_tokens : Int32) (m_places : Int32) (m_p : Int32) (m_pre : Int32) (m_end : Int32) (m_text : Nat → Int32) (m_out : Nat → Int32) (m_lineAt : Nat → Int32) (m_lineLong : Nat → Int32) (m_depth : Nat → Int32) (m_signed : Nat → Int32) (m_led : Nat → Int32) (m_told : Nat → Int32) (m_place : Nat → Int32) (m_begin : Nat → Int32) (m_tokenLong : Nat → Int32) (m_stemLong : Nat → Int32) (m_address : Nat → Int32) (m_letters : Nat → Int32) (m_stems : Nat → Int32) (m_s : Nat → Int32) (x1 : Int32) {post : Int32 → Prop} (h : wpX8_tagEnd post m_size m_text x1) : xMi l (dC, dI) vwCl [(cI, .int), (cZ, .boolean)] (sI sa sv) yX8_tagEnd wsX8_tagEnd ({ frames := 1, cells := 0, slots := 0, locals := 20 }) (mW ad cI cZ m_thrown m_size m_outLong m_lines m_toldLines m_tokens m_places m_p m_pre m_end m_text m_out m_lineAt m_lineLong m_depth m_signed m_led m_told m_place m_begin m_tokenLong m_stemLong m_address m_letters m_stems m_s) [.ref (ad 0), .int x1] (fun (r : Int32) (u : Unit) => post r ) (fun u : Unit => (mW ad cI cZ m_thrown m_size m_outLong m_lines m_toldLines m_tokens m_places m_p m_pre m_end m_text m_out m_lineAt m_lineLong m_depth m_signed m_led m_told m_place m_begin m_tokenLong m_stemLong m_address m_letters m_stems m_s)) := by
  intro sz
  refine Met.ofW (cc := cX8_tagEnd) (maxL := 5) (ret := (some .int)) (by decide) rfl ?_
  intro p e s m args below meth c s₁ B hml hv
  obtain ⟨rfl, hsz, hP, hK, hD0, hI⟩ := hv
  have hx := B.exec
  have hb := B.bytes
  have hr := B.returns
  have hts := atoms_spec (ws := wsX8_tagEnd) B.pre
  have hown : s.vm.findClass RX8 = some m.cls := findClass_of_methodNamed B.named
  have hlocks := B.notSynchronized
  subst hsz
  have hD := hD0.self (sz := s.heap.size)
  generalize hAe : va_A (mW ad cI cZ m_thrown m_size m_outLong m_lines m_toldLines m_tokens m_places m_p m_pre m_end m_text m_out m_lineAt m_lineLong m_depth m_signed m_led m_told m_place m_begin m_tokenLong m_stemLong m_address m_letters m_stems m_s) s.heap.size = A at hD hI ⊢
  have hA : ∀ q : Nat, s.heap.size ≤ q → A q := fun q h => by rw [← hAe]; exact Or.inr h
  have hS : va_S A s.heap s.heap [] := va_S.rf
  have Fx : CallFix p m c cX8_tagEnd 5 s ([.ref (ad 0), .int x1] : List Value).toArray wsX8_tagEnd RX8 := ⟨hx, hb, hml, hown, hts⟩
  have hQ : ∀ (r : Int32) (u : Unit) (t : State), (fun (r : Int32) (u : Unit) => post r ) r u → va_P (dC, dI) vwCl ((fun u : Unit => (mW ad cI cZ m_thrown m_size m_outLong m_lines m_toldLines m_tokens m_places m_p m_pre m_end m_text m_out m_lineAt m_lineLong m_depth m_signed m_led m_told m_place m_begin m_tokenLong m_stemLong m_address m_letters m_stems m_s)) u) t.heap → va_K (dC, dI) vwCl [(cI, .int), (cZ, .boolean)] t → va_D A ((fun u : Unit => (mW ad cI cZ m_thrown m_size m_outLong m_lines m_toldLines m_tokens m_places m_p m_pre m_end m_text m_out m_lineAt m_lineLong m_depth m_signed m_led m_told m_place m_begin m_tokenLong m_stemLong m_address m_letters m_stems m_s)) u) → va_F A s t → (va_Qi (fun (r : Int32) (u : Unit) => post r ) (xB (dC, dI) vwCl [(cI, .int), (cZ, .boolean)] A (fun u : Unit => (mW ad cI cZ m_thrown m_size m_outLong m_lines m_toldLines m_tokens m_places m_p m_pre m_end m_text m_out m_lineAt m_lineLong m_depth m_signed m_led m_told m_place m_begin m_tokenLong m_stemLong m_address m_letters m_stems m_s))) A) ([.ref (ad 0), .int x1] : List Value).toArray s (.returned (some (.int r))) t := fun r u t h1 h2 h3 h4 h5 => ⟨⟨r, u, rfl, h1, h2, h3, h4⟩, h5⟩
  generalize (va_Qi (fun (r : Int32) (u : Unit) => post r ) (xB (dC, dI) vwCl [(cI, .int), (cZ, .boolean)] A (fun u : Unit => (mW ad cI cZ m_thrown m_size m_outLong m_lines m_toldLines m_tokens m_places m_p m_pre m_end m_text m_out m_lineAt m_lineLong m_depth m_signed m_led m_told m_place m_begin m_tokenLong m_stemLong m_address m_letters m_stems m_s))) A) = Qc at hQ ⊢
  have hl := lv_entry ([.ref (ad 0), .int x1]) (n := 5) (Nat.le_of_ble_eq_true rfl)
  rw [lg_entry_eq]
  generalize (lg_sl ([.ref (ad 0), .int x1]) ++ List.replicate (5 - (lg_sl ([.ref (ad 0), .int x1])).length) Slot.unset).toArray = ls at hl ⊢
  have hl : lv_has ls 5 [(0, .ref (ad 0)), (1, .int x1)] := hl
  refine (fun (key : ∀ (H : Heap) (locs : List Loc), va_P (dC, dI) vwCl (mW ad cI cZ m_thrown m_size m_outLong m_lines m_toldLines m_tokens m_places m_p m_pre m_end m_text m_out m_lineAt m_lineLong m_depth m_signed m_led m_told m_place m_begin m_tokenLong m_stemLong m_address m_letters m_stems m_s) H → va_D A (mW ad cI cZ m_thrown m_size m_outLong m_lines m_toldLines m_tokens m_places m_p m_pre m_end m_text m_out m_lineAt m_lineLong m_depth m_signed m_led m_told m_place m_begin m_tokenLong m_stemLong m_address m_letters m_stems m_s) → va_S A s.heap H locs → W p l e (headSpec wsX8_tagEnd ({ frames := 1, cells := 0, slots := 0, locals := 20 })).room s m ([.ref (ad 0), .int x1] : List Value).toArray below meth c H locs 0 0 (MQ below Qc ([.ref (ad 0), .int x1] : List Value).toArray s 0 0 A) (F0 m 0 ls [])) => key _ _ hP hD hS) ?_
  have inX8 : ∀ w ∈ wsX80, w ∈ wsX8_tagEnd := (fun _ h9 => List.mem_cons_of_mem _ (List.mem_append_right _ h9))
  have J110 : ∀ (x2 : Int32) (H : Heap) (locs : List Loc) (ls : Array Slot), lv_has ls 5 [(0, .ref (ad 0)), (2, .int x2)] → va_P (dC, dI) vwCl (mW ad cI cZ m_thrown m_size m_outLong m_lines m_toldLines m_tokens m_places m_p m_pre m_end m_text m_out m_lineAt m_lineLong m_depth m_signed m_led m_told m_place m_begin m_tokenLong m_stemLong m_address m_letters m_stems m_s) H → va_D A (mW ad cI cZ m_thrown m_size m_outLong m_lines m_toldLines m_tokens m_places m_p m_pre m_end m_text m_out m_lineAt m_lineLong m_depth m_signed m_led m_told m_place m_begin m_tokenLong m_stemLong m_address m_letters m_stems m_s) → va_S A s.heap H locs → wjX8_tagEnd_110 post m_size m_text x1 x2 → W p l e (headSpec wsX8_tagEnd ({ frames := 1, cells := 0, slots := 0, locals := 20 })).room s m ([.ref (ad 0), .int x1] : List Value).toArray below meth c H locs 0 0 (MQ below Qc ([.ref (ad 0), .int x1] : List Value).toArray s 0 0 A) (F0 m 110 ls []) := by
    intro x2 H locs ls hl hP hD hS h
    delta wjX8_tagEnd_110 at h
    refine lv_iload_n hx hb dX8_tagEnd_110 rfl (lv_at hl 1 rfl) ?_
    refine lv_aload_n hx hb dX8_tagEnd_111 rfl (lv_at hl 0 rfl) ?_
    refine va_get (D := (dC, dI)) (ci := 7) (v := .int m_size) (C := RX8) (T := TX8) (N := 26) hx hb hts inX8 hown hK hP 0 rfl rfl 2 (by decide) (hts (.fieldLink RX8 64 "MailWordsModel" "size" "I") (List.mem_of_getElem? (i := 1) rfl)) (fun _ h9 => h9) rfl dX8_tagEnd_112 ?_
    refine lv_icmp_ge (tgt := 124) hx hb dX8_tagEnd_115 (by decide) (fun c9 => ?_) (fun c9 => ?_)
    · have h := h.1 c9
      refine lv_aload_n hx hb dX8_tagEnd_124 rfl (lv_at hl 0 rfl) ?_
      refine va_get (D := (dC, dI)) (ci := 7) (v := .int m_size) (C := RX8) (T := TX8) (N := 26) hx hb hts inX8 hown hK hP 0 rfl rfl 2 (by decide) (hts (.fieldLink RX8 64 "MailWordsModel" "size" "I") (List.mem_of_getElem? (i := 1) rfl)) (fun _ h9 => h9) rfl dX8_tagEnd_125 ?_
      exact W.iret (v := m_size) hx hb hr (fun t ht hW => hQ m_size () t h (by rw [ht]; exact hP) (va_K.moved hW.alike hK) hD (hS.F ht)) hS.2.2 dX8_tagEnd_128
    · have h := h.2 c9
      refine lv_iload_n hx hb dX8_tagEnd_118 rfl (lv_at hl 1 rfl) ?_
      refine lv_iconst (v := 1) hx hb dX8_tagEnd_119 (by decide) ?_
      refine lv_iadd hx hb dX8_tagEnd_120 ?_
      refine lv_goto (tgt := 128) hx hb dX8_tagEnd_121 (by decide) ?_
      exact W.iret (v := (x2 + 1)) hx hb hr (fun t ht hW => hQ (x2 + 1) () t h (by rw [ht]; exact hP) (va_K.moved hW.alike hK) hD (hS.F ht)) hS.2.2 dX8_tagEnd_128
  have L4 : ∀ (n : Nat) (x2 : Int32) (x3 : Int32) (H : Heap) (locs : List Loc) (ls : Array Slot), lv_has ls 5 [(0, .ref (ad 0)), (2, .int x2), (3, .int x3)] → va_P (dC, dI) vwCl (mW ad cI cZ m_thrown m_size m_outLong m_lines m_toldLines m_tokens m_places m_p m_pre m_end m_text m_out m_lineAt m_lineLong m_depth m_signed m_led m_told m_place m_begin m_tokenLong m_stemLong m_address m_letters m_stems m_s) H → va_D A (mW ad cI cZ m_thrown m_size m_outLong m_lines m_toldLines m_tokens m_places m_p m_pre m_end m_text m_out m_lineAt m_lineLong m_depth m_signed m_led m_told m_place m_begin m_tokenLong m_stemLong m_address m_letters m_stems m_s) → va_S A s.heap H locs → wlX8_tagEnd_4 post m_size m_text x1 n x2 x3 → W p l e (headSpec wsX8_tagEnd ({ frames := 1, cells := 0, slots := 0, locals := 20 })).room s m ([.ref (ad 0), .int x1] : List Value).toArray below meth c H locs 0 0 (MQ below Qc ([.ref (ad 0), .int x1] : List Value).toArray s 0 0 A) (F0 m 4 ls []) := by
    intro n
    induction n with
    | zero => intro x2 x3 H locs ls _ _ _ _ h; exact absurd h (fun z => z)
    | succ n4 ih4 =>
      intro x2 x3 H locs ls hl hP hD hS h
      have J104 : ∀ (x2 : Int32) (x3 : Int32) (H : Heap) (locs : List Loc) (ls : Array Slot), lv_has ls 5 [(0, .ref (ad 0)), (2, .int x2), (3, .int x3)] → va_P (dC, dI) vwCl (mW ad cI cZ m_thrown m_size m_outLong m_lines m_toldLines m_tokens m_places m_p m_pre m_end m_text m_out m_lineAt m_lineLong m_depth m_signed m_led m_told m_place m_begin m_tokenLong m_stemLong m_address m_letters m_stems m_s) H → va_D A (mW ad cI cZ m_thrown m_size m_outLong m_lines m_toldLines m_tokens m_places m_p m_pre m_end m_text m_out m_lineAt m_lineLong m_depth m_signed m_led m_told m_place m_begin m_tokenLong m_stemLong m_address m_letters m_stems m_s) → va_S A s.heap H locs → wjX8_tagEnd_104 (fun x2 x3 => wlX8_tagEnd_4 post m_size m_text x1 n4 x2 x3) post m_size m_text x1 x2 x3 → W p l e (headSpec wsX8_tagEnd ({ frames := 1, cells := 0, slots := 0, locals := 20 })).room s m ([.ref (ad 0), .int x1] : List Value).toArray below meth c H locs 0 0 (MQ below Qc ([.ref (ad 0), .int x1] : List Value).toArray s 0 0 A) (F0 m 104 ls []) := by
        intro x2 x3 H locs ls hl hP hD hS h
        delta wjX8_tagEnd_104 at h
        obtain ⟨x2_1, ex2_1⟩ : ∃ y : Int32, y = x2 + 1 := ⟨_, rfl⟩
        have h := h x2_1 ex2_1
        refine lv_iinc (v := x2_1) (lv' := [(2, .int x2_1), (0, .ref (ad 0)), (3, .int x3)]) hx hb dX8_tagEnd_104 hl (k := 1) rfl (by rw [ex2_1]; rfl) (by decide) rfl (fun ls hl => ?_)
        refine lv_goto (tgt := 4) hx hb dX8_tagEnd_107 (by decide) ?_
        exact ih4 x2_1 x3 H locs ls (lv_sub hl [1, 0, 2] rfl) hP hD hS h
      have J82 : ∀ (x2 : Int32) (x3 : Int32) (x4 : Int32) (H : Heap) (locs : List Loc) (ls : Array Slot), lv_has ls 5 [(0, .ref (ad 0)), (2, .int x2), (3, .int x3), (4, .int x4)] → va_P (dC, dI) vwCl (mW ad cI cZ m_thrown m_size m_outLong m_lines m_toldLines m_tokens m_places m_p m_pre m_end m_text m_out m_lineAt m_lineLong m_depth m_signed m_led m_told m_place m_begin m_tokenLong m_stemLong m_address m_letters m_stems m_s) H → va_D A (mW ad cI cZ m_thrown m_size m_outLong m_lines m_toldLines m_tokens m_places m_p m_pre m_end m_text m_out m_lineAt m_lineLong m_depth m_signed m_led m_told m_place m_begin m_tokenLong m_stemLong m_address m_letters m_stems m_s) → va_S A s.heap H locs → wjX8_tagEnd_82 (fun x2 x3 => wlX8_tagEnd_4 post m_size m_text x1 n4 x2 x3) post m_size m_text x1 x2 x3 x4 → W p l e (headSpec wsX8_tagEnd ({ frames := 1, cells := 0, slots := 0, locals := 20 })).room s m ([.ref (ad 0), .int x1] : List Value).toArray below meth c H locs 0 0 (MQ below Qc ([.ref (ad 0), .int x1] : List Value).toArray s 0 0 A) (F0 m 82 ls []) := by
        intro x2 x3 x4 H locs ls hl hP hD hS h
        delta wjX8_tagEnd_82 at h
        refine lv_iload hx hb dX8_tagEnd_82 (lv_at hl 3 rfl) ?_
        refine lv_bipush (v := 61) hx hb dX8_tagEnd_84 (by decide) ?_
        refine lv_icmp_ne (tgt := 94) hx hb dX8_tagEnd_86 (by decide) (fun c9 => ?_) (fun c9 => ?_)
        · have h := h.1 c9
          refine lv_iload hx hb dX8_tagEnd_94 (lv_at hl 3 rfl) ?_
          refine xc_si (As := [.int x4]) (rest := []) xG Fx (sX8_isBlank l dC dI ad cI cZ sa sv m_thrown m_size m_outLong m_lines m_toldLines m_tokens m_places m_p m_pre m_end m_text m_out m_lineAt m_lineLong m_depth m_signed m_led m_told m_place m_begin m_tokenLong m_stemLong m_address m_letters m_stems m_s x4 h) (va_cwS 1 hts gX8_tagEnd_X8_isBlank rfl rfl rfl hdX8_isBlank ⟨Nat.le_of_ble_eq_true rfl, Nat.le_of_ble_eq_true rfl⟩) hK hP hD hS hA hI rfl hl.1 rfl (Nat.le_of_ble_eq_true rfl) dX8_tagEnd_96 ⟨Nat.zero_le _, Nat.zero_le _⟩ (fun r_2 u H locs h hP hD hS => ?_)
          refine lv_if_ne (tgt := 104) hx hb dX8_tagEnd_99 (by decide) (fun c9 => ?_) (fun c9 => ?_)
          · have h := h.1 c9
            exact J104 x2 x3 H locs ls (lv_sub hl [0, 1, 2] rfl) hP hD hS h
          · have h := h.2 c9
            refine lv_iconst (v := 0) hx hb dX8_tagEnd_102 (by decide) ?_
            refine lv_istore_n (lv' := [(3, .int 0), (0, .ref (ad 0)), (2, .int x2), (4, .int x4)]) hx hb dX8_tagEnd_103 rfl hl (by decide) rfl (fun ls hl => ?_)
            exact J104 x2 0 H locs ls (lv_sub hl [1, 2, 0] rfl) hP hD hS h
        · have h := h.2 c9
          refine lv_iconst (v := 1) hx hb dX8_tagEnd_89 (by decide) ?_
          refine lv_istore_n (lv' := [(3, .int 1), (0, .ref (ad 0)), (2, .int x2), (4, .int x4)]) hx hb dX8_tagEnd_90 rfl hl (by decide) rfl (fun ls hl => ?_)
          refine lv_goto (tgt := 104) hx hb dX8_tagEnd_91 (by decide) ?_
          exact J104 x2 1 H locs ls (lv_sub hl [1, 2, 0] rfl) hP hD hS h
      have J77 : ∀ (x2 : Int32) (H : Heap) (locs : List Loc) (ls : Array Slot), lv_has ls 5 [(0, .ref (ad 0)), (2, .int x2)] → va_P (dC, dI) vwCl (mW ad cI cZ m_thrown m_size m_outLong m_lines m_toldLines m_tokens m_places m_p m_pre m_end m_text m_out m_lineAt m_lineLong m_depth m_signed m_led m_told m_place m_begin m_tokenLong m_stemLong m_address m_letters m_stems m_s) H → va_D A (mW ad cI cZ m_thrown m_size m_outLong m_lines m_toldLines m_tokens m_places m_p m_pre m_end m_text m_out m_lineAt m_lineLong m_depth m_signed m_led m_told m_place m_begin m_tokenLong m_stemLong m_address m_letters m_stems m_s) → va_S A s.heap H locs → wjX8_tagEnd_77 (fun x2 x3 => wlX8_tagEnd_4 post m_size m_text x1 n4 x2 x3) post m_size m_text x1 x2 → W p l e (headSpec wsX8_tagEnd ({ frames := 1, cells := 0, slots := 0, locals := 20 })).room s m ([.ref (ad 0), .int x1] : List Value).toArray below meth c H locs 0 0 (MQ below Qc ([.ref (ad 0), .int x1] : List Value).toArray s 0 0 A) (F0 m 77 ls []) := by
        intro x2 H locs ls hl hP hD hS h
        delta wjX8_tagEnd_77 at h
        refine lv_iconst (v := 0) hx hb dX8_tagEnd_77 (by decide) ?_
        refine lv_istore_n (lv' := [(3, .int 0), (0, .ref (ad 0)), (2, .int x2)]) hx hb dX8_tagEnd_78 rfl hl (by decide) rfl (fun ls hl => ?_)
        refine lv_goto (tgt := 104) hx hb dX8_tagEnd_79 (by decide) ?_
        exact J104 x2 0 H locs ls (lv_sub hl [1, 2, 0] rfl) hP hD hS h
      have L52 : ∀ (x4 : Int32) (n : Nat) (x2 : Int32) (H : Heap) (locs : List Loc) (ls : Array Slot), lv_has ls 5 [(0, .ref (ad 0)), (2, .int x2), (4, .int x4)] → va_P (dC, dI) vwCl (mW ad cI cZ m_thrown m_size m_outLong m_lines m_toldLines m_tokens m_places m_p m_pre m_end m_text m_out m_lineAt m_lineLong m_depth m_signed m_led m_told m_place m_begin m_tokenLong m_stemLong m_address m_letters m_stems m_s) H → va_D A (mW ad cI cZ m_thrown m_size m_outLong m_lines m_toldLines m_tokens m_places m_p m_pre m_end m_text m_out m_lineAt m_lineLong m_depth m_signed m_led m_told m_place m_begin m_tokenLong m_stemLong m_address m_letters m_stems m_s) → va_S A s.heap H locs → wlX8_tagEnd_52 (fun x2 x3 => wlX8_tagEnd_4 post m_size m_text x1 n4 x2 x3) post m_size m_text x1 x4 n x2 → W p l e (headSpec wsX8_tagEnd ({ frames := 1, cells := 0, slots := 0, locals := 20 })).room s m ([.ref (ad 0), .int x1] : List Value).toArray below meth c H locs 0 0 (MQ below Qc ([.ref (ad 0), .int x1] : List Value).toArray s 0 0 A) (F0 m 52 ls []) := by
        intro x4
        intro n
        induction n with
        | zero => intro x2 H locs ls _ _ _ _ h; exact absurd h (fun z => z)
        | succ n52 ih52 =>
          intro x2 H locs ls hl hP hD hS h
          rw [wlX8_tagEnd_52] at h
          refine lv_iload_n hx hb dX8_tagEnd_52 rfl (lv_at hl 1 rfl) ?_
          refine lv_aload_n hx hb dX8_tagEnd_53 rfl (lv_at hl 0 rfl) ?_
          refine va_get (D := (dC, dI)) (ci := 7) (v := .int m_size) (C := RX8) (T := TX8) (N := 26) hx hb hts inX8 hown hK hP 0 rfl rfl 2 (by decide) (hts (.fieldLink RX8 64 "MailWordsModel" "size" "I") (List.mem_of_getElem? (i := 1) rfl)) (fun _ h9 => h9) rfl dX8_tagEnd_54 ?_
          refine lv_icmp_ge (tgt := 77) hx hb dX8_tagEnd_57 (by decide) (fun c9 => ?_) (fun c9 => ?_)
          · have h := h.1 c9
            exact J77 x2 H locs ls (lv_sub hl [0, 1] rfl) hP hD hS h
          · have h := h.2 c9
            refine lv_aload_n hx hb dX8_tagEnd_60 rfl (lv_at hl 0 rfl) ?_
            refine va_get (D := (dC, dI)) (ci := 7) (v := .ref (ad 1)) (C := RX8) (T := TX8) (N := 26) hx hb hts inX8 hown hK hP 0 rfl rfl 1 (by decide) (hts (.fieldLink RX8 7 "MailWordsModel" "text" "[I") (List.mem_of_getElem? (i := 2) rfl)) (fun _ h9 => h9) rfl dX8_tagEnd_61 ?_
            refine lv_iload_n hx hb dX8_tagEnd_64 rfl (lv_at hl 1 rfl) ?_
            have hi9 := h.1
            have h := h.2
            refine va_iald hx hb hK hP 1 0 rfl rfl hi9 dX8_tagEnd_65 ?_
            refine lv_iload hx hb dX8_tagEnd_66 (lv_at hl 2 rfl) ?_
            refine lv_icmp_eq (tgt := 77) hx hb dX8_tagEnd_68 (by decide) (fun c9 => ?_) (fun c9 => ?_)
            · have h := h.1 c9
              exact J77 x2 H locs ls (lv_sub hl [0, 1] rfl) hP hD hS h
            · have h := h.2 c9
              obtain ⟨x2_3, ex2_3⟩ : ∃ y : Int32, y = x2 + 1 := ⟨_, rfl⟩
              have h := h x2_3 ex2_3
              refine lv_iinc (v := x2_3) (lv' := [(2, .int x2_3), (0, .ref (ad 0)), (4, .int x4)]) hx hb dX8_tagEnd_71 hl (k := 1) rfl (by rw [ex2_3]; rfl) (by decide) rfl (fun ls hl => ?_)
              refine lv_goto (tgt := 52) hx hb dX8_tagEnd_74 (by decide) ?_
              exact ih52 x2_3 H locs ls (lv_sub hl [1, 0, 2] rfl) hP hD hS h
      have J49 : ∀ (x2 : Int32) (x4 : Int32) (H : Heap) (locs : List Loc) (ls : Array Slot), lv_has ls 5 [(0, .ref (ad 0)), (2, .int x2), (4, .int x4)] → va_P (dC, dI) vwCl (mW ad cI cZ m_thrown m_size m_outLong m_lines m_toldLines m_tokens m_places m_p m_pre m_end m_text m_out m_lineAt m_lineLong m_depth m_signed m_led m_told m_place m_begin m_tokenLong m_stemLong m_address m_letters m_stems m_s) H → va_D A (mW ad cI cZ m_thrown m_size m_outLong m_lines m_toldLines m_tokens m_places m_p m_pre m_end m_text m_out m_lineAt m_lineLong m_depth m_signed m_led m_told m_place m_begin m_tokenLong m_stemLong m_address m_letters m_stems m_s) → va_S A s.heap H locs → wjX8_tagEnd_49 (fun x2 x3 => wlX8_tagEnd_4 post m_size m_text x1 n4 x2 x3) post m_size m_text x1 x2 x4 → W p l e (headSpec wsX8_tagEnd ({ frames := 1, cells := 0, slots := 0, locals := 20 })).room s m ([.ref (ad 0), .int x1] : List Value).toArray below meth c H locs 0 0 (MQ below Qc ([.ref (ad 0), .int x1] : List Value).toArray s 0 0 A) (F0 m 49 ls []) := by
        intro x2 x4 H locs ls hl hP hD hS h
        delta wjX8_tagEnd_49 at h
        obtain ⟨x2_4, ex2_4⟩ : ∃ y : Int32, y = x2 + 1 := ⟨_, rfl⟩
        have h := h x2_4 ex2_4
        refine lv_iinc (v := x2_4) (lv' := [(2, .int x2_4), (0, .ref (ad 0)), (4, .int x4)]) hx hb dX8_tagEnd_49 hl (k := 1) rfl (by rw [ex2_4]; rfl) (by decide) rfl (fun ls hl => ?_)
        obtain ⟨n, h⟩ := h
        exact L52 x4 n x2_4 H locs ls (lv_sub hl [1, 0, 2] rfl) hP hD hS h
      rw [wlX8_tagEnd_4] at h
      refine lv_iload_n hx hb dX8_tagEnd_4 rfl (lv_at hl 1 rfl) ?_
      refine lv_aload_n hx hb dX8_tagEnd_5 rfl (lv_at hl 0 rfl) ?_
      refine va_get (D := (dC, dI)) (ci := 7) (v := .int m_size) (C := RX8) (T := TX8) (N := 26) hx hb hts inX8 hown hK hP 0 rfl rfl 2 (by decide) (hts (.fieldLink RX8 64 "MailWordsModel" "size" "I") (List.mem_of_getElem? (i := 1) rfl)) (fun _ h9 => h9) rfl dX8_tagEnd_6 ?_
      refine lv_icmp_ge (tgt := 110) hx hb dX8_tagEnd_9 (by decide) (fun c9 => ?_) (fun c9 => ?_)
      · have h := h.1 c9
        exact J110 x2 H locs ls (lv_sub hl [0, 1] rfl) hP hD hS h
      · have h := h.2 c9
        refine lv_aload_n hx hb dX8_tagEnd_12 rfl (lv_at hl 0 rfl) ?_
        refine va_get (D := (dC, dI)) (ci := 7) (v := .ref (ad 1)) (C := RX8) (T := TX8) (N := 26) hx hb hts inX8 hown hK hP 0 rfl rfl 1 (by decide) (hts (.fieldLink RX8 7 "MailWordsModel" "text" "[I") (List.mem_of_getElem? (i := 2) rfl)) (fun _ h9 => h9) rfl dX8_tagEnd_13 ?_
        refine lv_iload_n hx hb dX8_tagEnd_16 rfl (lv_at hl 1 rfl) ?_
        have hi9 := h.1
        have h := h.2
        refine va_iald hx hb hK hP 1 0 rfl rfl hi9 dX8_tagEnd_17 ?_
        refine lv_bipush (v := 62) hx hb dX8_tagEnd_18 (by decide) ?_
        refine lv_icmp_eq (tgt := 110) hx hb dX8_tagEnd_20 (by decide) (fun c9 => ?_) (fun c9 => ?_)
        · have h := h.1 c9
          exact J110 x2 H locs ls (lv_sub hl [0, 1] rfl) hP hD hS h
        · have h := h.2 c9
          refine lv_aload_n hx hb dX8_tagEnd_23 rfl (lv_at hl 0 rfl) ?_
          refine va_get (D := (dC, dI)) (ci := 7) (v := .ref (ad 1)) (C := RX8) (T := TX8) (N := 26) hx hb hts inX8 hown hK hP 0 rfl rfl 1 (by decide) (hts (.fieldLink RX8 7 "MailWordsModel" "text" "[I") (List.mem_of_getElem? (i := 2) rfl)) (fun _ h9 => h9) rfl dX8_tagEnd_24 ?_
          refine lv_iload_n hx hb dX8_tagEnd_27 rfl (lv_at hl 1 rfl) ?_
          have hi9 := h.1
          have h := h.2
          refine va_iald hx hb hK hP 1 0 rfl rfl hi9 dX8_tagEnd_28 ?_
          refine lv_topi (fun x4_5 ex4_5 => ?_)
          have h := h x4_5 ex4_5
          refine lv_istore (lv' := [(4, .int x4_5), (0, .ref (ad 0)), (2, .int x2), (3, .int x3)]) hx hb dX8_tagEnd_29 hl (by decide) rfl (fun ls hl => ?_)
          refine lv_iload_n hx hb dX8_tagEnd_31 rfl (lv_at hl 3 rfl) ?_
          refine lv_if_eq (tgt := 82) hx hb dX8_tagEnd_32 (by decide) (fun c9 => ?_) (fun c9 => ?_)
          · have h := h.1 c9
            exact J82 x2 x3 x4_5 H locs ls (lv_sub hl [1, 2, 3, 0] rfl) hP hD hS h
          · have h := h.2 c9
            refine lv_iload hx hb dX8_tagEnd_35 (lv_at hl 0 rfl) ?_
            refine lv_bipush (v := 34) hx hb dX8_tagEnd_37 (by decide) ?_
            refine lv_icmp_eq (tgt := 49) hx hb dX8_tagEnd_39 (by decide) (fun c9 => ?_) (fun c9 => ?_)
            · have h := h.1 c9
              exact J49 x2 x4_5 H locs ls (lv_sub hl [1, 2, 0] rfl) hP hD hS h
            · have h := h.2 c9
              refine lv_iload hx hb dX8_tagEnd_42 (lv_at hl 0 rfl) ?_
              refine lv_bipush (v := 39) hx hb dX8_tagEnd_44 (by decide) ?_
              refine lv_icmp_ne (tgt := 82) hx hb dX8_tagEnd_46 (by decide) (fun c9 => ?_) (fun c9 => ?_)
              · have h := h.1 c9
                exact J82 x2 x3 x4_5 H locs ls (lv_sub hl [1, 2, 3, 0] rfl) hP hD hS h
              · have h := h.2 c9
                exact J49 x2 x4_5 H locs ls (lv_sub hl [1, 2, 0] rfl) hP hD hS h
  intro H locs hP hD hS
  delta wpX8_tagEnd at h
  refine lv_iload_n hx hb dX8_tagEnd_0 rfl (lv_at hl 1 rfl) ?_
  refine lv_istore_n (lv' := [(2, .int x1), (0, .ref (ad 0)), (1, .int x1)]) hx hb dX8_tagEnd_1 rfl hl (by decide) rfl (fun ls hl => ?_)
  refine lv_iconst (v := 0) hx hb dX8_tagEnd_2 (by decide) ?_
  refine lv_istore_n (lv' := [(3, .int 0), (2, .int x1), (0, .ref (ad 0)), (1, .int x1)]) hx hb dX8_tagEnd_3 rfl hl (by decide) rfl (fun ls hl => ?_)
  obtain ⟨n, h⟩ := h
  exact L4  n x1 0 H locs ls (lv_sub hl [2, 1, 0] rfl) hP hD hS h
set_option maxHeartbeats 4000000 in
set_option maxRecDepth 100000 in
theorem sX8_breaks (l : Launch) (dC : Nat → ClassId) (dI : Nat → Nat → Nat) (ad : Nat → Nat) (cI cZ : ClassId) (sa sv : Nat → Nat) (m_thrown : Int32) (m_size : Int32) (m_outLong : Int32) (m_lines : Int32) (m_toldLines : Int32) (m_tokens : Int32) (m_places : Int32) (m_p : Int32) (m_pre : Int32) (m_end : Int32) (m_text : Nat → Int32) (m_out : Nat → Int32) (m_lineAt : Nat → Int32) (m_lineLong : Nat → Int32) (m_depth : Nat → Int32) (m_signed : Nat → Int32) (m_led : Nat → Int32) (m_told : Nat → Int32) (m_place : Nat → Int32) (m_begin : Nat → Int32) (m_tokenLong : Nat → Int32) (m_stemLong : Nat → Int32) (m_address : Nat → Int32) (m_letters : Nat → Int32) (m_stems : Nat → Int32) (m_s : Nat → Int32) (x0 : Int64) {post : Int32 → Prop} (h : wpX8_breaks post x0) : xMi l (dC, dI) vwCl [(cI, .int), (cZ, .boolean)] (sI sa sv) yX8_breaks wsX8_breaks ({ frames := 0, cells := 0, slots := 0, locals := 0 }) (mW ad cI cZ m_thrown m_size m_outLong m_lines m_toldLines m_tokens m_places m_p m_pre m_end m_text m_out m_lineAt m_lineLong m_depth m_signed m_led m_told m_place m_begin m_tokenLong m_stemLong m_address m_letters m_stems m_s) [.long x0] (fun (r : Int32) (u : Unit) => post r ) (fun u : Unit => (mW ad cI cZ m_thrown m_size m_outLong m_lines m_toldLines m_tokens m_places m_p m_pre m_end m_text m_out m_lineAt m_lineLong m_depth m_signed m_led m_told m_place m_begin m_tokenLong m_stemLong m_address m_letters m_stems m_s)) := by
  intro sz
  refine Met.ofW (cc := cX8_breaks) (maxL := 2) (ret := (some .boolean)) (by decide) rfl ?_
  intro p e s m args below meth c s₁ B hml hv
  obtain ⟨rfl, hsz, hP, hK, hD0, hI⟩ := hv
  have hx := B.exec
  have hb := B.bytes
  have hr := B.returns
  have hts := atoms_spec (ws := wsX8_breaks) B.pre
  have hown : s.vm.findClass RX8 = some m.cls := findClass_of_methodNamed B.named
  have hlocks := B.notSynchronized
  subst hsz
  have hD := hD0.self (sz := s.heap.size)
  generalize hAe : va_A (mW ad cI cZ m_thrown m_size m_outLong m_lines m_toldLines m_tokens m_places m_p m_pre m_end m_text m_out m_lineAt m_lineLong m_depth m_signed m_led m_told m_place m_begin m_tokenLong m_stemLong m_address m_letters m_stems m_s) s.heap.size = A at hD hI ⊢
  have hA : ∀ q : Nat, s.heap.size ≤ q → A q := fun q h => by rw [← hAe]; exact Or.inr h
  have hS : va_S A s.heap s.heap [] := va_S.rf
  have Fx : CallFix p m c cX8_breaks 2 s ([.long x0] : List Value).toArray wsX8_breaks RX8 := ⟨hx, hb, hml, hown, hts⟩
  have hQ : ∀ (r : Int32) (u : Unit) (t : State), (fun (r : Int32) (u : Unit) => post r ) r u → va_P (dC, dI) vwCl ((fun u : Unit => (mW ad cI cZ m_thrown m_size m_outLong m_lines m_toldLines m_tokens m_places m_p m_pre m_end m_text m_out m_lineAt m_lineLong m_depth m_signed m_led m_told m_place m_begin m_tokenLong m_stemLong m_address m_letters m_stems m_s)) u) t.heap → va_K (dC, dI) vwCl [(cI, .int), (cZ, .boolean)] t → va_D A ((fun u : Unit => (mW ad cI cZ m_thrown m_size m_outLong m_lines m_toldLines m_tokens m_places m_p m_pre m_end m_text m_out m_lineAt m_lineLong m_depth m_signed m_led m_told m_place m_begin m_tokenLong m_stemLong m_address m_letters m_stems m_s)) u) → va_F A s t → (va_Qi (fun (r : Int32) (u : Unit) => post r ) (xB (dC, dI) vwCl [(cI, .int), (cZ, .boolean)] A (fun u : Unit => (mW ad cI cZ m_thrown m_size m_outLong m_lines m_toldLines m_tokens m_places m_p m_pre m_end m_text m_out m_lineAt m_lineLong m_depth m_signed m_led m_told m_place m_begin m_tokenLong m_stemLong m_address m_letters m_stems m_s))) A) ([.long x0] : List Value).toArray s (.returned (some (.int r))) t := fun r u t h1 h2 h3 h4 h5 => ⟨⟨r, u, rfl, h1, h2, h3, h4⟩, h5⟩
  generalize (va_Qi (fun (r : Int32) (u : Unit) => post r ) (xB (dC, dI) vwCl [(cI, .int), (cZ, .boolean)] A (fun u : Unit => (mW ad cI cZ m_thrown m_size m_outLong m_lines m_toldLines m_tokens m_places m_p m_pre m_end m_text m_out m_lineAt m_lineLong m_depth m_signed m_led m_told m_place m_begin m_tokenLong m_stemLong m_address m_letters m_stems m_s))) A) = Qc at hQ ⊢
  have hl := lv_entry ([.long x0]) (n := 2) (Nat.le_of_ble_eq_true rfl)
  rw [lg_entry_eq]
  generalize (lg_sl ([.long x0]) ++ List.replicate (2 - (lg_sl ([.long x0])).length) Slot.unset).toArray = ls at hl ⊢
  have hl : lv_has ls 2 [(0, .long x0)] := hl
  refine (fun (key : ∀ (H : Heap) (locs : List Loc), va_P (dC, dI) vwCl (mW ad cI cZ m_thrown m_size m_outLong m_lines m_toldLines m_tokens m_places m_p m_pre m_end m_text m_out m_lineAt m_lineLong m_depth m_signed m_led m_told m_place m_begin m_tokenLong m_stemLong m_address m_letters m_stems m_s) H → va_D A (mW ad cI cZ m_thrown m_size m_outLong m_lines m_toldLines m_tokens m_places m_p m_pre m_end m_text m_out m_lineAt m_lineLong m_depth m_signed m_led m_told m_place m_begin m_tokenLong m_stemLong m_address m_letters m_stems m_s) → va_S A s.heap H locs → W p l e (headSpec wsX8_breaks ({ frames := 0, cells := 0, slots := 0, locals := 0 })).room s m ([.long x0] : List Value).toArray below meth c H locs 0 0 (MQ below Qc ([.long x0] : List Value).toArray s 0 0 A) (F0 m 0 ls [])) => key _ _ hP hD hS) ?_
  have J98 : ∀ (H : Heap) (locs : List Loc) (ls : Array Slot), lv_has ls 2 [(0, .long x0)] → va_P (dC, dI) vwCl (mW ad cI cZ m_thrown m_size m_outLong m_lines m_toldLines m_tokens m_places m_p m_pre m_end m_text m_out m_lineAt m_lineLong m_depth m_signed m_led m_told m_place m_begin m_tokenLong m_stemLong m_address m_letters m_stems m_s) H → va_D A (mW ad cI cZ m_thrown m_size m_outLong m_lines m_toldLines m_tokens m_places m_p m_pre m_end m_text m_out m_lineAt m_lineLong m_depth m_signed m_led m_told m_place m_begin m_tokenLong m_stemLong m_address m_letters m_stems m_s) → va_S A s.heap H locs → wjX8_breaks_98 post x0  → W p l e (headSpec wsX8_breaks ({ frames := 0, cells := 0, slots := 0, locals := 0 })).room s m ([.long x0] : List Value).toArray below meth c H locs 0 0 (MQ below Qc ([.long x0] : List Value).toArray s 0 0 A) (F0 m 98 ls []) := by
    intro  H locs ls hl hP hD hS h
    delta wjX8_breaks_98 at h
    refine lv_lload_n hx hb dX8_breaks_98 rfl (lv_at hl 0 rfl) ?_
    refine lv_ldc2 (v := 7369317) hx hb hown (hts (.constantLong RX8 148 (7369317)) (List.mem_of_getElem? (i := 13) rfl)) dX8_breaks_99 ?_
    refine W.lcmp hx hb dX8_breaks_102 ?_
    refine lv_if_ne (tgt := 110) hx hb dX8_breaks_103 (by decide) (fun c9 => ?_) (fun c9 => ?_)
    · have h := h.1 c9
      refine lv_iconst (v := 0) hx hb dX8_breaks_110 (by decide) ?_
      exact W.zret (v := 0) hx hb hr (bN_nar bN0) (fun t ht hW => hQ 0 () t h (by rw [ht]; exact hP) (va_K.moved hW.alike hK) hD (hS.F ht)) hS.2.2 dX8_breaks_111
    · have h := h.2 c9
      refine lv_iconst (v := 1) hx hb dX8_breaks_106 (by decide) ?_
      refine lv_goto (tgt := 111) hx hb dX8_breaks_107 (by decide) ?_
      exact W.zret (v := 1) hx hb hr (bN_nar bN1) (fun t ht hW => hQ 1 () t h (by rw [ht]; exact hP) (va_K.moved hW.alike hK) hD (hS.F ht)) hS.2.2 dX8_breaks_111
  intro H locs hP hD hS
  delta wpX8_breaks at h
  refine lv_lload_n hx hb dX8_breaks_0 rfl (lv_at hl 0 rfl) ?_
  refine lv_ldc2 (v := 2) hx hb hown (hts (.constantLong RX8 121 (2)) (List.mem_of_getElem? (i := 1) rfl)) dX8_breaks_1 ?_
  refine W.lcmp hx hb dX8_breaks_4 ?_
  refine lv_if_eq (tgt := 80) hx hb dX8_breaks_5 (by decide) (fun c9 => ?_) (fun c9 => ?_)
  · have h := h.1 c9
    refine lv_iconst (v := 1) hx hb dX8_breaks_80 (by decide) ?_
    exact W.zret (v := 1) hx hb hr (bN_nar bN1) (fun t ht hW => hQ 1 () t h (by rw [ht]; exact hP) (va_K.moved hW.alike hK) hD (hS.F ht)) hS.2.2 dX8_breaks_81
  · have h := h.2 c9
    refine lv_lload_n hx hb dX8_breaks_8 rfl (lv_at hl 0 rfl) ?_
    refine lv_ldc2 (v := 112) hx hb hown (hts (.constantLong RX8 126 (112)) (List.mem_of_getElem? (i := 2) rfl)) dX8_breaks_9 ?_
    refine W.lcmp hx hb dX8_breaks_12 ?_
    refine lv_if_eq (tgt := 80) hx hb dX8_breaks_13 (by decide) (fun c9 => ?_) (fun c9 => ?_)
    · have h := h.1 c9
      refine lv_iconst (v := 1) hx hb dX8_breaks_80 (by decide) ?_
      exact W.zret (v := 1) hx hb hr (bN_nar bN1) (fun t ht hW => hQ 1 () t h (by rw [ht]; exact hP) (va_K.moved hW.alike hK) hD (hS.F ht)) hS.2.2 dX8_breaks_81
    · have h := h.2 c9
      refine lv_lload_n hx hb dX8_breaks_16 rfl (lv_at hl 0 rfl) ?_
      refine lv_ldc2 (v := 6580598) hx hb hown (hts (.constantLong RX8 128 (6580598)) (List.mem_of_getElem? (i := 3) rfl)) dX8_breaks_17 ?_
      refine W.lcmp hx hb dX8_breaks_20 ?_
      refine lv_if_eq (tgt := 80) hx hb dX8_breaks_21 (by decide) (fun c9 => ?_) (fun c9 => ?_)
      · have h := h.1 c9
        refine lv_iconst (v := 1) hx hb dX8_breaks_80 (by decide) ?_
        exact W.zret (v := 1) hx hb hr (bN_nar bN1) (fun t ht hW => hQ 1 () t h (by rw [ht]; exact hP) (va_K.moved hW.alike hK) hD (hS.F ht)) hS.2.2 dX8_breaks_81
      · have h := h.2 c9
        refine lv_lload_n hx hb dX8_breaks_24 rfl (lv_at hl 0 rfl) ?_
        refine lv_ldc2 (v := 25202) hx hb hown (hts (.constantLong RX8 130 (25202)) (List.mem_of_getElem? (i := 4) rfl)) dX8_breaks_25 ?_
        refine W.lcmp hx hb dX8_breaks_28 ?_
        refine lv_if_eq (tgt := 80) hx hb dX8_breaks_29 (by decide) (fun c9 => ?_) (fun c9 => ?_)
        · have h := h.1 c9
          refine lv_iconst (v := 1) hx hb dX8_breaks_80 (by decide) ?_
          exact W.zret (v := 1) hx hb hr (bN_nar bN1) (fun t ht hW => hQ 1 () t h (by rw [ht]; exact hP) (va_K.moved hW.alike hK) hD (hS.F ht)) hS.2.2 dX8_breaks_81
        · have h := h.2 c9
          refine lv_lload_n hx hb dX8_breaks_32 rfl (lv_at hl 0 rfl) ?_
          refine lv_ldc2 (v := 29810) hx hb hown (hts (.constantLong RX8 132 (29810)) (List.mem_of_getElem? (i := 5) rfl)) dX8_breaks_33 ?_
          refine W.lcmp hx hb dX8_breaks_36 ?_
          refine lv_if_eq (tgt := 80) hx hb dX8_breaks_37 (by decide) (fun c9 => ?_) (fun c9 => ?_)
          · have h := h.1 c9
            refine lv_iconst (v := 1) hx hb dX8_breaks_80 (by decide) ?_
            exact W.zret (v := 1) hx hb hr (bN_nar bN1) (fun t ht hW => hQ 1 () t h (by rw [ht]; exact hP) (va_K.moved hW.alike hK) hD (hS.F ht)) hS.2.2 dX8_breaks_81
          · have h := h.2 c9
            refine lv_lload_n hx hb dX8_breaks_40 rfl (lv_at hl 0 rfl) ?_
            refine lv_ldc2 (v := 27753) hx hb hown (hts (.constantLong RX8 134 (27753)) (List.mem_of_getElem? (i := 6) rfl)) dX8_breaks_41 ?_
            refine W.lcmp hx hb dX8_breaks_44 ?_
            refine lv_if_eq (tgt := 80) hx hb dX8_breaks_45 (by decide) (fun c9 => ?_) (fun c9 => ?_)
            · have h := h.1 c9
              refine lv_iconst (v := 1) hx hb dX8_breaks_80 (by decide) ?_
              exact W.zret (v := 1) hx hb hr (bN_nar bN1) (fun t ht hW => hQ 1 () t h (by rw [ht]; exact hP) (va_K.moved hW.alike hK) hD (hS.F ht)) hS.2.2 dX8_breaks_81
            · have h := h.2 c9
              refine lv_lload_n hx hb dX8_breaks_48 rfl (lv_at hl 0 rfl) ?_
              refine lv_ldc2 (v := 30060) hx hb hown (hts (.constantLong RX8 136 (30060)) (List.mem_of_getElem? (i := 7) rfl)) dX8_breaks_49 ?_
              refine W.lcmp hx hb dX8_breaks_52 ?_
              refine lv_if_eq (tgt := 80) hx hb dX8_breaks_53 (by decide) (fun c9 => ?_) (fun c9 => ?_)
              · have h := h.1 c9
                refine lv_iconst (v := 1) hx hb dX8_breaks_80 (by decide) ?_
                exact W.zret (v := 1) hx hb hr (bN_nar bN1) (fun t ht hW => hQ 1 () t h (by rw [ht]; exact hP) (va_K.moved hW.alike hK) hD (hS.F ht)) hS.2.2 dX8_breaks_81
              · have h := h.2 c9
                refine lv_lload_n hx hb dX8_breaks_56 rfl (lv_at hl 0 rfl) ?_
                refine lv_ldc2 (v := 28524) hx hb hown (hts (.constantLong RX8 138 (28524)) (List.mem_of_getElem? (i := 8) rfl)) dX8_breaks_57 ?_
                refine W.lcmp hx hb dX8_breaks_60 ?_
                refine lv_if_eq (tgt := 80) hx hb dX8_breaks_61 (by decide) (fun c9 => ?_) (fun c9 => ?_)
                · have h := h.1 c9
                  refine lv_iconst (v := 1) hx hb dX8_breaks_80 (by decide) ?_
                  exact W.zret (v := 1) hx hb hr (bN_nar bN1) (fun t ht hW => hQ 1 () t h (by rw [ht]; exact hP) (va_K.moved hW.alike hK) hD (hS.F ht)) hS.2.2 dX8_breaks_81
                · have h := h.2 c9
                  refine lv_lload_n hx hb dX8_breaks_64 rfl (lv_at hl 0 rfl) ?_
                  refine lv_ldc2 (v := 499850046565) hx hb hown (hts (.constantLong RX8 140 (499850046565)) (List.mem_of_getElem? (i := 9) rfl)) dX8_breaks_65 ?_
                  refine W.lcmp hx hb dX8_breaks_68 ?_
                  refine lv_if_eq (tgt := 80) hx hb dX8_breaks_69 (by decide) (fun c9 => ?_) (fun c9 => ?_)
                  · have h := h.1 c9
                    refine lv_iconst (v := 1) hx hb dX8_breaks_80 (by decide) ?_
                    exact W.zret (v := 1) hx hb hr (bN_nar bN1) (fun t ht hW => hQ 1 () t h (by rw [ht]; exact hP) (va_K.moved hW.alike hK) hD (hS.F ht)) hS.2.2 dX8_breaks_81
                  · have h := h.2 c9
                    refine lv_lload_n hx hb dX8_breaks_72 rfl (lv_at hl 0 rfl) ?_
                    refine lv_ldc2 (v := 26738) hx hb hown (hts (.constantLong RX8 142 (26738)) (List.mem_of_getElem? (i := 10) rfl)) dX8_breaks_73 ?_
                    refine W.lcmp hx hb dX8_breaks_76 ?_
                    refine lv_if_ne (tgt := 82) hx hb dX8_breaks_77 (by decide) (fun c9 => ?_) (fun c9 => ?_)
                    · have h := h.1 c9
                      refine lv_lload_n hx hb dX8_breaks_82 rfl (lv_at hl 0 rfl) ?_
                      refine lv_ldc2 (v := 26673) hx hb hown (hts (.constantLong RX8 144 (26673)) (List.mem_of_getElem? (i := 11) rfl)) dX8_breaks_83 ?_
                      refine W.lcmp hx hb dX8_breaks_86 ?_
                      refine lv_if_lt (tgt := 98) hx hb dX8_breaks_87 (by decide) (fun c9 => ?_) (fun c9 => ?_)
                      · have h := h.1 c9
                        exact J98  H locs ls (lv_sub hl [0] rfl) hP hD hS h
                      · have h := h.2 c9
                        refine lv_lload_n hx hb dX8_breaks_90 rfl (lv_at hl 0 rfl) ?_
                        refine lv_ldc2 (v := 26678) hx hb hown (hts (.constantLong RX8 146 (26678)) (List.mem_of_getElem? (i := 12) rfl)) dX8_breaks_91 ?_
                        refine W.lcmp hx hb dX8_breaks_94 ?_
                        refine lv_if_le (tgt := 106) hx hb dX8_breaks_95 (by decide) (fun c9 => ?_) (fun c9 => ?_)
                        · have h := h.1 c9
                          refine lv_iconst (v := 1) hx hb dX8_breaks_106 (by decide) ?_
                          refine lv_goto (tgt := 111) hx hb dX8_breaks_107 (by decide) ?_
                          exact W.zret (v := 1) hx hb hr (bN_nar bN1) (fun t ht hW => hQ 1 () t h (by rw [ht]; exact hP) (va_K.moved hW.alike hK) hD (hS.F ht)) hS.2.2 dX8_breaks_111
                        · have h := h.2 c9
                          exact J98  H locs ls (lv_sub hl [0] rfl) hP hD hS h
                    · have h := h.2 c9
                      refine lv_iconst (v := 1) hx hb dX8_breaks_80 (by decide) ?_
                      exact W.zret (v := 1) hx hb hr (bN_nar bN1) (fun t ht hW => hQ 1 () t h (by rw [ht]; exact hP) (va_K.moved hW.alike hK) hD (hS.F ht)) hS.2.2 dX8_breaks_81
set_option maxHeartbeats 4000000 in
set_option maxRecDepth 100000 in
theorem sX8_skip (l : Launch) (dC : Nat → ClassId) (dI : Nat → Nat → Nat) (ad : Nat → Nat) (cI cZ : ClassId) (sa sv : Nat → Nat) (m_thrown : Int32) (m_size : Int32) (m_outLong : Int32) (m_lines : Int32) (m_toldLines : Int32) (m_tokens : Int32) (m_places : Int32) (m_p : Int32) (m_pre : Int32) (m_end : Int32) (m_text : Nat → Int32) (m_out : Nat → Int32) (m_lineAt : Nat → Int32) (m_lineLong : Nat → Int32) (m_depth : Nat → Int32) (m_signed : Nat → Int32) (m_led : Nat → Int32) (m_told : Nat → Int32) (m_place : Nat → Int32) (m_begin : Nat → Int32) (m_tokenLong : Nat → Int32) (m_stemLong : Nat → Int32) (m_address : Nat → Int32) (m_letters : Nat → Int32) (m_stems : Nat → Int32) (m_s : Nat → Int32) (x1 : Int64) {post : Int32 → Prop} (h : wpX8_skip post m_size m_p m_text x1) : xMv l (dC, dI) vwCl [(cI, .int), (cZ, .boolean)] (sI sa sv) yX8_skip wsX8_skip ({ frames := 3, cells := 0, slots := 0, locals := 69 }) (mW ad cI cZ m_thrown m_size m_outLong m_lines m_toldLines m_tokens m_places m_p m_pre m_end m_text m_out m_lineAt m_lineLong m_depth m_signed m_led m_told m_place m_begin m_tokenLong m_stemLong m_address m_letters m_stems m_s) [.ref (ad 0), .long x1] (fun u : Int32 => post u) (fun u : Int32 => (mW ad cI cZ m_thrown m_size m_outLong m_lines m_toldLines m_tokens m_places u m_pre m_end m_text m_out m_lineAt m_lineLong m_depth m_signed m_led m_told m_place m_begin m_tokenLong m_stemLong m_address m_letters m_stems m_s)) := by
  intro sz
  refine Met.ofW (cc := cX8_skip) (maxL := 4) (ret := none) (by decide) rfl ?_
  intro p e s m args below meth c s₁ B hml hv
  obtain ⟨rfl, hsz, hP, hK, hD0, hI⟩ := hv
  have hx := B.exec
  have hb := B.bytes
  have hr := B.returns
  have hts := atoms_spec (ws := wsX8_skip) B.pre
  have hown : s.vm.findClass RX8 = some m.cls := findClass_of_methodNamed B.named
  have hlocks := B.notSynchronized
  subst hsz
  have hD := hD0.self (sz := s.heap.size)
  generalize hAe : va_A (mW ad cI cZ m_thrown m_size m_outLong m_lines m_toldLines m_tokens m_places m_p m_pre m_end m_text m_out m_lineAt m_lineLong m_depth m_signed m_led m_told m_place m_begin m_tokenLong m_stemLong m_address m_letters m_stems m_s) s.heap.size = A at hD hI ⊢
  have hA : ∀ q : Nat, s.heap.size ≤ q → A q := fun q h => by rw [← hAe]; exact Or.inr h
  have hS : va_S A s.heap s.heap [] := va_S.rf
  have Fx : CallFix p m c cX8_skip 4 s ([.ref (ad 0), .long x1] : List Value).toArray wsX8_skip RX8 := ⟨hx, hb, hml, hown, hts⟩
  have hQ : ∀ (u : Int32) (t : State), (fun u : Int32 => post u) u → va_P (dC, dI) vwCl ((fun u : Int32 => (mW ad cI cZ m_thrown m_size m_outLong m_lines m_toldLines m_tokens m_places u m_pre m_end m_text m_out m_lineAt m_lineLong m_depth m_signed m_led m_told m_place m_begin m_tokenLong m_stemLong m_address m_letters m_stems m_s)) u) t.heap → va_K (dC, dI) vwCl [(cI, .int), (cZ, .boolean)] t → va_D A ((fun u : Int32 => (mW ad cI cZ m_thrown m_size m_outLong m_lines m_toldLines m_tokens m_places u m_pre m_end m_text m_out m_lineAt m_lineLong m_depth m_signed m_led m_told m_place m_begin m_tokenLong m_stemLong m_address m_letters m_stems m_s)) u) → va_F A s t → (va_Qv (fun u : Int32 => post u) (xB (dC, dI) vwCl [(cI, .int), (cZ, .boolean)] A (fun u : Int32 => (mW ad cI cZ m_thrown m_size m_outLong m_lines m_toldLines m_tokens m_places u m_pre m_end m_text m_out m_lineAt m_lineLong m_depth m_signed m_led m_told m_place m_begin m_tokenLong m_stemLong m_address m_letters m_stems m_s))) A) ([.ref (ad 0), .long x1] : List Value).toArray s (.returned none) t := fun u t h1 h2 h3 h4 h5 => ⟨⟨u, rfl, h1, h2, h3, h4⟩, h5⟩
  generalize (va_Qv (fun u : Int32 => post u) (xB (dC, dI) vwCl [(cI, .int), (cZ, .boolean)] A (fun u : Int32 => (mW ad cI cZ m_thrown m_size m_outLong m_lines m_toldLines m_tokens m_places u m_pre m_end m_text m_out m_lineAt m_lineLong m_depth m_signed m_led m_told m_place m_begin m_tokenLong m_stemLong m_address m_letters m_stems m_s))) A) = Qc at hQ ⊢
  have hl := lv_entry ([.ref (ad 0), .long x1]) (n := 4) (Nat.le_of_ble_eq_true rfl)
  rw [lg_entry_eq]
  generalize (lg_sl ([.ref (ad 0), .long x1]) ++ List.replicate (4 - (lg_sl ([.ref (ad 0), .long x1])).length) Slot.unset).toArray = ls at hl ⊢
  have hl : lv_has ls 4 [(0, .ref (ad 0)), (1, .long x1)] := hl
  refine (fun (key : ∀ (H : Heap) (locs : List Loc), va_P (dC, dI) vwCl (mW ad cI cZ m_thrown m_size m_outLong m_lines m_toldLines m_tokens m_places m_p m_pre m_end m_text m_out m_lineAt m_lineLong m_depth m_signed m_led m_told m_place m_begin m_tokenLong m_stemLong m_address m_letters m_stems m_s) H → va_D A (mW ad cI cZ m_thrown m_size m_outLong m_lines m_toldLines m_tokens m_places m_p m_pre m_end m_text m_out m_lineAt m_lineLong m_depth m_signed m_led m_told m_place m_begin m_tokenLong m_stemLong m_address m_letters m_stems m_s) → va_S A s.heap H locs → W p l e (headSpec wsX8_skip ({ frames := 3, cells := 0, slots := 0, locals := 69 })).room s m ([.ref (ad 0), .long x1] : List Value).toArray below meth c H locs 0 0 (MQ below Qc ([.ref (ad 0), .long x1] : List Value).toArray s 0 0 A) (F0 m 0 ls [])) => key _ _ hP hD hS) ?_
  have inX8 : ∀ w ∈ wsX80, w ∈ wsX8_skip := (fun _ h9 => List.mem_cons_of_mem _ (List.mem_append_right _ h9))
  have L5 : ∀ (x3 : Int32) (n : Nat) (m_p : Int32) (H : Heap) (locs : List Loc) (ls : Array Slot), lv_has ls 4 [(0, .ref (ad 0)), (1, .long x1), (3, .int x3)] → va_P (dC, dI) vwCl (mW ad cI cZ m_thrown m_size m_outLong m_lines m_toldLines m_tokens m_places m_p m_pre m_end m_text m_out m_lineAt m_lineLong m_depth m_signed m_led m_told m_place m_begin m_tokenLong m_stemLong m_address m_letters m_stems m_s) H → va_D A (mW ad cI cZ m_thrown m_size m_outLong m_lines m_toldLines m_tokens m_places m_p m_pre m_end m_text m_out m_lineAt m_lineLong m_depth m_signed m_led m_told m_place m_begin m_tokenLong m_stemLong m_address m_letters m_stems m_s) → va_S A s.heap H locs → wlX8_skip_5 post m_size m_text x1 x3 n m_p → W p l e (headSpec wsX8_skip ({ frames := 3, cells := 0, slots := 0, locals := 69 })).room s m ([.ref (ad 0), .long x1] : List Value).toArray below meth c H locs 0 0 (MQ below Qc ([.ref (ad 0), .long x1] : List Value).toArray s 0 0 A) (F0 m 5 ls []) := by
    intro x3
    intro n
    induction n with
    | zero => intro m_p H locs ls _ _ _ _ h; exact absurd h (fun z => z)
    | succ n5 ih5 =>
      intro m_p H locs ls hl hP hD hS h
      have J78 : ∀ (m_p : Int32) (H : Heap) (locs : List Loc) (ls : Array Slot), lv_has ls 4 [(0, .ref (ad 0)), (1, .long x1), (3, .int x3)] → va_P (dC, dI) vwCl (mW ad cI cZ m_thrown m_size m_outLong m_lines m_toldLines m_tokens m_places m_p m_pre m_end m_text m_out m_lineAt m_lineLong m_depth m_signed m_led m_told m_place m_begin m_tokenLong m_stemLong m_address m_letters m_stems m_s) H → va_D A (mW ad cI cZ m_thrown m_size m_outLong m_lines m_toldLines m_tokens m_places m_p m_pre m_end m_text m_out m_lineAt m_lineLong m_depth m_signed m_led m_told m_place m_begin m_tokenLong m_stemLong m_address m_letters m_stems m_s) → va_S A s.heap H locs → wjX8_skip_78 (fun m_p => wlX8_skip_5 post m_size m_text x1 x3 n5 m_p) post m_size m_text x1 m_p x3 → W p l e (headSpec wsX8_skip ({ frames := 3, cells := 0, slots := 0, locals := 69 })).room s m ([.ref (ad 0), .long x1] : List Value).toArray below meth c H locs 0 0 (MQ below Qc ([.ref (ad 0), .long x1] : List Value).toArray s 0 0 A) (F0 m 78 ls []) := by
        intro m_p H locs ls hl hP hD hS h
        delta wjX8_skip_78 at h
        refine lv_aload_n hx hb dX8_skip_78 rfl (lv_at hl 0 rfl) ?_
        refine lv_dup hx hb dX8_skip_79 rfl ?_
        refine va_get (D := (dC, dI)) (ci := 7) (v := .int m_p) (C := RX8) (T := TX8) (N := 26) hx hb hts inX8 hown hK hP 0 rfl rfl 22 (by decide) (hts (.fieldLink RX8 150 "MailWordsModel" "p" "I") (List.mem_of_getElem? (i := 1) rfl)) (fun _ h9 => h9) rfl dX8_skip_80 ?_
        refine lv_iconst (v := 1) hx hb dX8_skip_83 (by decide) ?_
        refine lv_iadd hx hb dX8_skip_84 ?_
        refine lv_topi (fun m_p_1 em_p_1 => ?_)
        have h := h m_p_1 em_p_1
        refine va_put (D := (dC, dI)) (ci := 7) (v := .int m_p_1) (ty := .int) (C := RX8) (T := TX8) (N := 26) hx hb hts inX8 tyX8 tyX8_ok nmX8 hown hK hP hD hS 0 rfl rfl 22 (by decide) (hts (.fieldLink RX8 150 "MailWordsModel" "p" "I") (List.mem_of_getElem? (i := 1) rfl)) (fun _ h9 => h9) rfl (tyX8_ok 22 (by decide)) rfl rfl (Nat.le_of_ble_eq_true rfl) dX8_skip_85 (fun H locs hP hD hS => ?_)
        have hP : va_P (dC, dI) vwCl (mW ad cI cZ m_thrown m_size m_outLong m_lines m_toldLines m_tokens m_places m_p_1 m_pre m_end m_text m_out m_lineAt m_lineLong m_depth m_signed m_led m_told m_place m_begin m_tokenLong m_stemLong m_address m_letters m_stems m_s) H := hP
        have hD : va_D A (mW ad cI cZ m_thrown m_size m_outLong m_lines m_toldLines m_tokens m_places m_p_1 m_pre m_end m_text m_out m_lineAt m_lineLong m_depth m_signed m_led m_told m_place m_begin m_tokenLong m_stemLong m_address m_letters m_stems m_s) := hD
        refine lv_goto (tgt := 5) hx hb dX8_skip_88 (by decide) ?_
        exact ih5 m_p_1 H locs ls (lv_sub hl [0, 1, 2] rfl) hP hD hS h
      rw [wlX8_skip_5] at h
      refine lv_aload_n hx hb dX8_skip_5 rfl (lv_at hl 0 rfl) ?_
      refine va_get (D := (dC, dI)) (ci := 7) (v := .int m_p) (C := RX8) (T := TX8) (N := 26) hx hb hts inX8 hown hK hP 0 rfl rfl 22 (by decide) (hts (.fieldLink RX8 150 "MailWordsModel" "p" "I") (List.mem_of_getElem? (i := 1) rfl)) (fun _ h9 => h9) rfl dX8_skip_6 ?_
      refine lv_aload_n hx hb dX8_skip_9 rfl (lv_at hl 0 rfl) ?_
      refine va_get (D := (dC, dI)) (ci := 7) (v := .int m_size) (C := RX8) (T := TX8) (N := 26) hx hb hts inX8 hown hK hP 0 rfl rfl 2 (by decide) (hts (.fieldLink RX8 64 "MailWordsModel" "size" "I") (List.mem_of_getElem? (i := 2) rfl)) (fun _ h9 => h9) rfl dX8_skip_10 ?_
      refine lv_icmp_ge (tgt := 91) hx hb dX8_skip_13 (by decide) (fun c9 => ?_) (fun c9 => ?_)
      · have h := h.1 c9
        exact W.vret hx hb hr (fun t ht hW => hQ m_p t h (by rw [ht]; exact hP) (va_K.moved hW.alike hK) hD (hS.F ht)) hS.2.2 dX8_skip_91
      · have h := h.2 c9
        refine lv_aload_n hx hb dX8_skip_16 rfl (lv_at hl 0 rfl) ?_
        refine va_get (D := (dC, dI)) (ci := 7) (v := .ref (ad 1)) (C := RX8) (T := TX8) (N := 26) hx hb hts inX8 hown hK hP 0 rfl rfl 1 (by decide) (hts (.fieldLink RX8 7 "MailWordsModel" "text" "[I") (List.mem_of_getElem? (i := 3) rfl)) (fun _ h9 => h9) rfl dX8_skip_17 ?_
        refine lv_aload_n hx hb dX8_skip_20 rfl (lv_at hl 0 rfl) ?_
        refine va_get (D := (dC, dI)) (ci := 7) (v := .int m_p) (C := RX8) (T := TX8) (N := 26) hx hb hts inX8 hown hK hP 0 rfl rfl 22 (by decide) (hts (.fieldLink RX8 150 "MailWordsModel" "p" "I") (List.mem_of_getElem? (i := 1) rfl)) (fun _ h9 => h9) rfl dX8_skip_21 ?_
        have hi9 := h.1
        have h := h.2
        refine va_iald hx hb hK hP 1 0 rfl rfl hi9 dX8_skip_24 ?_
        refine lv_bipush (v := 60) hx hb dX8_skip_25 (by decide) ?_
        refine lv_icmp_ne (tgt := 78) hx hb dX8_skip_27 (by decide) (fun c9 => ?_) (fun c9 => ?_)
        · have h := h.1 c9
          exact J78 m_p H locs ls (lv_sub hl [0, 1, 2] rfl) hP hD hS h
        · have h := h.2 c9
          refine lv_aload_n hx hb dX8_skip_30 rfl (lv_at hl 0 rfl) ?_
          refine lv_aload_n hx hb dX8_skip_31 rfl (lv_at hl 0 rfl) ?_
          refine va_get (D := (dC, dI)) (ci := 7) (v := .int m_p) (C := RX8) (T := TX8) (N := 26) hx hb hts inX8 hown hK hP 0 rfl rfl 22 (by decide) (hts (.fieldLink RX8 150 "MailWordsModel" "p" "I") (List.mem_of_getElem? (i := 1) rfl)) (fun _ h9 => h9) rfl dX8_skip_32 ?_
          refine lv_iconst (v := 1) hx hb dX8_skip_35 (by decide) ?_
          refine lv_iadd hx hb dX8_skip_36 ?_
          refine xc_vi (As := [.int (m_p + 1)]) (rest := []) xG Fx (sX8_look l dC dI ad cI cZ sa sv m_thrown m_size m_outLong m_lines m_toldLines m_tokens m_places m_p m_pre m_end m_text m_out m_lineAt m_lineLong m_depth m_signed m_led m_told m_place m_begin m_tokenLong m_stemLong m_address m_letters m_stems m_s (m_p + 1) h) (cwV 1 hts gX8_skip_X8_look rfl rfl rfl hdX8_look ⟨Nat.le_of_ble_eq_true rfl, Nat.le_of_ble_eq_true rfl⟩) (va_recv hK hP (ci := 7) (q0 := 0) rfl rfl) hK hP hD hS hA hI rfl hl.1 rfl (Nat.le_of_ble_eq_true rfl) dX8_skip_37 ⟨Nat.zero_le _, Nat.zero_le _⟩ (fun r_2 u H locs h hP hD hS => ?_)
          refine lv_bipush (v := 47) hx hb dX8_skip_40 (by decide) ?_
          refine lv_icmp_ne (tgt := 78) hx hb dX8_skip_42 (by decide) (fun c9 => ?_) (fun c9 => ?_)
          · have h := h.1 c9
            exact J78 m_p H locs ls (lv_sub hl [0, 1, 2] rfl) hP hD hS h
          · have h := h.2 c9
            refine lv_aload_n hx hb dX8_skip_45 rfl (lv_at hl 0 rfl) ?_
            refine lv_aload_n hx hb dX8_skip_46 rfl (lv_at hl 0 rfl) ?_
            refine va_get (D := (dC, dI)) (ci := 7) (v := .int m_p) (C := RX8) (T := TX8) (N := 26) hx hb hts inX8 hown hK hP 0 rfl rfl 22 (by decide) (hts (.fieldLink RX8 150 "MailWordsModel" "p" "I") (List.mem_of_getElem? (i := 1) rfl)) (fun _ h9 => h9) rfl dX8_skip_47 ?_
            refine lv_iconst (v := 2) hx hb dX8_skip_50 (by decide) ?_
            refine lv_iadd hx hb dX8_skip_51 ?_
            refine lv_lload_n hx hb dX8_skip_52 rfl (lv_at hl 1 rfl) ?_
            refine lv_iconst (v := 1) hx hb dX8_skip_53 (by decide) ?_
            refine xc_vi (As := [.int (m_p + 2), .long x1, .int 1]) (rest := []) xG Fx (sX8_stands l dC dI ad cI cZ sa sv m_thrown m_size m_outLong m_lines m_toldLines m_tokens m_places m_p m_pre m_end m_text m_out m_lineAt m_lineLong m_depth m_signed m_led m_told m_place m_begin m_tokenLong m_stemLong m_address m_letters m_stems m_s (m_p + 2) x1 1 h) (cwV 3 hts gX8_skip_X8_stands rfl rfl rfl hdX8_stands ⟨Nat.le_of_ble_eq_true rfl, Nat.le_of_ble_eq_true rfl⟩) (va_recv hK hP (ci := 7) (q0 := 0) rfl rfl) hK hP hD hS hA hI rfl hl.1 rfl (Nat.le_of_ble_eq_true rfl) dX8_skip_54 ⟨Nat.zero_le _, Nat.zero_le _⟩ (fun r_3 u H locs h hP hD hS => ?_)
            refine lv_if_eq (tgt := 78) hx hb dX8_skip_57 (by decide) (fun c9 => ?_) (fun c9 => ?_)
            · have h := h.1 c9
              exact J78 m_p H locs ls (lv_sub hl [0, 1, 2] rfl) hP hD hS h
            · have h := h.2 c9
              refine lv_aload_n hx hb dX8_skip_60 rfl (lv_at hl 0 rfl) ?_
              refine lv_aload_n hx hb dX8_skip_61 rfl (lv_at hl 0 rfl) ?_
              refine va_get (D := (dC, dI)) (ci := 7) (v := .int m_p) (C := RX8) (T := TX8) (N := 26) hx hb hts inX8 hown hK hP 0 rfl rfl 22 (by decide) (hts (.fieldLink RX8 150 "MailWordsModel" "p" "I") (List.mem_of_getElem? (i := 1) rfl)) (fun _ h9 => h9) rfl dX8_skip_62 ?_
              refine lv_iconst (v := 2) hx hb dX8_skip_65 (by decide) ?_
              refine lv_iadd hx hb dX8_skip_66 ?_
              refine lv_iload_n hx hb dX8_skip_67 rfl (lv_at hl 2 rfl) ?_
              refine lv_iadd hx hb dX8_skip_68 ?_
              refine xc_vi (As := [.int ((m_p + 2) + x3)]) (rest := []) xG Fx (sX8_look l dC dI ad cI cZ sa sv m_thrown m_size m_outLong m_lines m_toldLines m_tokens m_places m_p m_pre m_end m_text m_out m_lineAt m_lineLong m_depth m_signed m_led m_told m_place m_begin m_tokenLong m_stemLong m_address m_letters m_stems m_s ((m_p + 2) + x3) h) (cwV 1 hts gX8_skip_X8_look rfl rfl rfl hdX8_look ⟨Nat.le_of_ble_eq_true rfl, Nat.le_of_ble_eq_true rfl⟩) (va_recv hK hP (ci := 7) (q0 := 0) rfl rfl) hK hP hD hS hA hI rfl hl.1 rfl (Nat.le_of_ble_eq_true rfl) dX8_skip_69 ⟨Nat.zero_le _, Nat.zero_le _⟩ (fun r_4 u H locs h hP hD hS => ?_)
              refine xc_si (As := [.int r_4]) (rest := []) xG Fx (sX8_isWord l dC dI ad cI cZ sa sv m_thrown m_size m_outLong m_lines m_toldLines m_tokens m_places m_p m_pre m_end m_text m_out m_lineAt m_lineLong m_depth m_signed m_led m_told m_place m_begin m_tokenLong m_stemLong m_address m_letters m_stems m_s r_4 h) (va_cwS 1 hts gX8_skip_X8_isWord rfl rfl rfl hdX8_isWord ⟨Nat.le_of_ble_eq_true rfl, Nat.le_of_ble_eq_true rfl⟩) hK hP hD hS hA hI rfl hl.1 rfl (Nat.le_of_ble_eq_true rfl) dX8_skip_72 ⟨Nat.zero_le _, Nat.zero_le _⟩ (fun r_5 u H locs h hP hD hS => ?_)
              refine lv_if_eq (tgt := 91) hx hb dX8_skip_75 (by decide) (fun c9 => ?_) (fun c9 => ?_)
              · have h := h.1 c9
                exact W.vret hx hb hr (fun t ht hW => hQ m_p t h (by rw [ht]; exact hP) (va_K.moved hW.alike hK) hD (hS.F ht)) hS.2.2 dX8_skip_91
              · have h := h.2 c9
                exact J78 m_p H locs ls (lv_sub hl [0, 1, 2] rfl) hP hD hS h
  intro H locs hP hD hS
  delta wpX8_skip at h
  refine lv_lload_n hx hb dX8_skip_0 rfl (lv_at hl 1 rfl) ?_
  refine xc_si (As := [.long x1]) (rest := []) xG Fx (sX8_lengthOf l dC dI ad cI cZ sa sv m_thrown m_size m_outLong m_lines m_toldLines m_tokens m_places m_p m_pre m_end m_text m_out m_lineAt m_lineLong m_depth m_signed m_led m_told m_place m_begin m_tokenLong m_stemLong m_address m_letters m_stems m_s x1 h) (va_cwS 1 hts gX8_skip_X8_lengthOf rfl rfl rfl hdX8_lengthOf ⟨Nat.le_of_ble_eq_true rfl, Nat.le_of_ble_eq_true rfl⟩) hK hP hD hS hA hI rfl hl.1 rfl (Nat.le_of_ble_eq_true rfl) dX8_skip_1 ⟨Nat.zero_le _, Nat.zero_le _⟩ (fun r_6 u H locs h hP hD hS => ?_)
  refine lv_istore_n (lv' := [(3, .int r_6), (0, .ref (ad 0)), (1, .long x1)]) hx hb dX8_skip_4 rfl hl (by decide) rfl (fun ls hl => ?_)
  obtain ⟨n, h⟩ := h
  exact L5 r_6 n m_p H locs ls (lv_sub hl [1, 2, 0] rfl) hP hD hS h
set_option maxHeartbeats 4000000 in
set_option maxRecDepth 100000 in
theorem sX8_readTag (l : Launch) (dC : Nat → ClassId) (dI : Nat → Nat → Nat) (ad : Nat → Nat) (cI cZ : ClassId) (sa sv : Nat → Nat) (m_thrown : Int32) (m_size : Int32) (m_outLong : Int32) (m_lines : Int32) (m_toldLines : Int32) (m_tokens : Int32) (m_places : Int32) (m_p : Int32) (m_pre : Int32) (m_end : Int32) (m_text : Nat → Int32) (m_out : Nat → Int32) (m_lineAt : Nat → Int32) (m_lineLong : Nat → Int32) (m_depth : Nat → Int32) (m_signed : Nat → Int32) (m_led : Nat → Int32) (m_told : Nat → Int32) (m_place : Nat → Int32) (m_begin : Nat → Int32) (m_tokenLong : Nat → Int32) (m_stemLong : Nat → Int32) (m_address : Nat → Int32) (m_letters : Nat → Int32) (m_stems : Nat → Int32) (m_s : Nat → Int32)  {post : Int32 → Int32 → Int32 → (Nat → Int32) → Prop} (h : wpX8_readTag post m_size m_outLong m_p m_pre m_text m_out) : xMv l (dC, dI) vwCl [(cI, .int), (cZ, .boolean)] (sI sa sv) yX8_readTag wsX8_readTag ({ frames := 4, cells := 0, slots := 0, locals := 93 }) (mW ad cI cZ m_thrown m_size m_outLong m_lines m_toldLines m_tokens m_places m_p m_pre m_end m_text m_out m_lineAt m_lineLong m_depth m_signed m_led m_told m_place m_begin m_tokenLong m_stemLong m_address m_letters m_stems m_s) [.ref (ad 0)] (fun u : Int32 × Int32 × Int32 × (Nat → Int32) => post u.1 u.2.1 u.2.2.1 u.2.2.2) (fun u : Int32 × Int32 × Int32 × (Nat → Int32) => (mW ad cI cZ m_thrown m_size u.1 m_lines m_toldLines m_tokens m_places u.2.1 u.2.2.1 m_end m_text u.2.2.2 m_lineAt m_lineLong m_depth m_signed m_led m_told m_place m_begin m_tokenLong m_stemLong m_address m_letters m_stems m_s)) := by
  intro sz
  refine Met.ofW (cc := cX8_readTag) (maxL := 5) (ret := none) (by decide) rfl ?_
  intro p e s m args below meth c s₁ B hml hv
  obtain ⟨rfl, hsz, hP, hK, hD0, hI⟩ := hv
  have hx := B.exec
  have hb := B.bytes
  have hr := B.returns
  have hts := atoms_spec (ws := wsX8_readTag) B.pre
  have hown : s.vm.findClass RX8 = some m.cls := findClass_of_methodNamed B.named
  have hlocks := B.notSynchronized
  subst hsz
  have hD := hD0.self (sz := s.heap.size)
  generalize hAe : va_A (mW ad cI cZ m_thrown m_size m_outLong m_lines m_toldLines m_tokens m_places m_p m_pre m_end m_text m_out m_lineAt m_lineLong m_depth m_signed m_led m_told m_place m_begin m_tokenLong m_stemLong m_address m_letters m_stems m_s) s.heap.size = A at hD hI ⊢
  have hA : ∀ q : Nat, s.heap.size ≤ q → A q := fun q h => by rw [← hAe]; exact Or.inr h
  have hS : va_S A s.heap s.heap [] := va_S.rf
  have Fx : CallFix p m c cX8_readTag 5 s ([.ref (ad 0)] : List Value).toArray wsX8_readTag RX8 := ⟨hx, hb, hml, hown, hts⟩
  have hQ : ∀ (u : Int32 × Int32 × Int32 × (Nat → Int32)) (t : State), (fun u : Int32 × Int32 × Int32 × (Nat → Int32) => post u.1 u.2.1 u.2.2.1 u.2.2.2) u → va_P (dC, dI) vwCl ((fun u : Int32 × Int32 × Int32 × (Nat → Int32) => (mW ad cI cZ m_thrown m_size u.1 m_lines m_toldLines m_tokens m_places u.2.1 u.2.2.1 m_end m_text u.2.2.2 m_lineAt m_lineLong m_depth m_signed m_led m_told m_place m_begin m_tokenLong m_stemLong m_address m_letters m_stems m_s)) u) t.heap → va_K (dC, dI) vwCl [(cI, .int), (cZ, .boolean)] t → va_D A ((fun u : Int32 × Int32 × Int32 × (Nat → Int32) => (mW ad cI cZ m_thrown m_size u.1 m_lines m_toldLines m_tokens m_places u.2.1 u.2.2.1 m_end m_text u.2.2.2 m_lineAt m_lineLong m_depth m_signed m_led m_told m_place m_begin m_tokenLong m_stemLong m_address m_letters m_stems m_s)) u) → va_F A s t → (va_Qv (fun u : Int32 × Int32 × Int32 × (Nat → Int32) => post u.1 u.2.1 u.2.2.1 u.2.2.2) (xB (dC, dI) vwCl [(cI, .int), (cZ, .boolean)] A (fun u : Int32 × Int32 × Int32 × (Nat → Int32) => (mW ad cI cZ m_thrown m_size u.1 m_lines m_toldLines m_tokens m_places u.2.1 u.2.2.1 m_end m_text u.2.2.2 m_lineAt m_lineLong m_depth m_signed m_led m_told m_place m_begin m_tokenLong m_stemLong m_address m_letters m_stems m_s))) A) ([.ref (ad 0)] : List Value).toArray s (.returned none) t := fun u t h1 h2 h3 h4 h5 => ⟨⟨u, rfl, h1, h2, h3, h4⟩, h5⟩
  generalize (va_Qv (fun u : Int32 × Int32 × Int32 × (Nat → Int32) => post u.1 u.2.1 u.2.2.1 u.2.2.2) (xB (dC, dI) vwCl [(cI, .int), (cZ, .boolean)] A (fun u : Int32 × Int32 × Int32 × (Nat → Int32) => (mW ad cI cZ m_thrown m_size u.1 m_lines m_toldLines m_tokens m_places u.2.1 u.2.2.1 m_end m_text u.2.2.2 m_lineAt m_lineLong m_depth m_signed m_led m_told m_place m_begin m_tokenLong m_stemLong m_address m_letters m_stems m_s))) A) = Qc at hQ ⊢
  have hl := lv_entry ([.ref (ad 0)]) (n := 5) (Nat.le_of_ble_eq_true rfl)
  rw [lg_entry_eq]
  generalize (lg_sl ([.ref (ad 0)]) ++ List.replicate (5 - (lg_sl ([.ref (ad 0)])).length) Slot.unset).toArray = ls at hl ⊢
  have hl : lv_has ls 5 [(0, .ref (ad 0))] := hl
  refine (fun (key : ∀ (H : Heap) (locs : List Loc), va_P (dC, dI) vwCl (mW ad cI cZ m_thrown m_size m_outLong m_lines m_toldLines m_tokens m_places m_p m_pre m_end m_text m_out m_lineAt m_lineLong m_depth m_signed m_led m_told m_place m_begin m_tokenLong m_stemLong m_address m_letters m_stems m_s) H → va_D A (mW ad cI cZ m_thrown m_size m_outLong m_lines m_toldLines m_tokens m_places m_p m_pre m_end m_text m_out m_lineAt m_lineLong m_depth m_signed m_led m_told m_place m_begin m_tokenLong m_stemLong m_address m_letters m_stems m_s) → va_S A s.heap H locs → W p l e (headSpec wsX8_readTag ({ frames := 4, cells := 0, slots := 0, locals := 93 })).room s m ([.ref (ad 0)] : List Value).toArray below meth c H locs 0 0 (MQ below Qc ([.ref (ad 0)] : List Value).toArray s 0 0 A) (F0 m 0 ls [])) => key _ _ hP hD hS) ?_
  have inX8 : ∀ w ∈ wsX80, w ∈ wsX8_readTag := (fun _ h9 => List.mem_cons_of_mem _ (List.mem_append_right _ h9))
  have J146 : ∀ (m_outLong : Int32) (m_p : Int32) (m_pre : Int32) (m_out : Nat → Int32) (x3 : Int64) (H : Heap) (locs : List Loc) (ls : Array Slot), lv_has ls 5 [(0, .ref (ad 0)), (3, .long x3)] → va_P (dC, dI) vwCl (mW ad cI cZ m_thrown m_size m_outLong m_lines m_toldLines m_tokens m_places m_p m_pre m_end m_text m_out m_lineAt m_lineLong m_depth m_signed m_led m_told m_place m_begin m_tokenLong m_stemLong m_address m_letters m_stems m_s) H → va_D A (mW ad cI cZ m_thrown m_size m_outLong m_lines m_toldLines m_tokens m_places m_p m_pre m_end m_text m_out m_lineAt m_lineLong m_depth m_signed m_led m_told m_place m_begin m_tokenLong m_stemLong m_address m_letters m_stems m_s) → va_S A s.heap H locs → wjX8_readTag_146 post m_size m_text m_outLong m_p m_pre m_out x3 → W p l e (headSpec wsX8_readTag ({ frames := 4, cells := 0, slots := 0, locals := 93 })).room s m ([.ref (ad 0)] : List Value).toArray below meth c H locs 0 0 (MQ below Qc ([.ref (ad 0)] : List Value).toArray s 0 0 A) (F0 m 146 ls []) := by
    intro m_outLong m_p m_pre m_out x3 H locs ls hl hP hD hS h
    delta wjX8_readTag_146 at h
    refine lv_aload_n hx hb dX8_readTag_146 rfl (lv_at hl 0 rfl) ?_
    refine lv_lload_n hx hb dX8_readTag_147 rfl (lv_at hl 1 rfl) ?_
    refine xc_vv (As := [.long x3]) (rest := []) xG Fx (sX8_skip l dC dI ad cI cZ sa sv m_thrown m_size m_outLong m_lines m_toldLines m_tokens m_places m_p m_pre m_end m_text m_out m_lineAt m_lineLong m_depth m_signed m_led m_told m_place m_begin m_tokenLong m_stemLong m_address m_letters m_stems m_s x3 h) (cwV 1 hts gX8_readTag_X8_skip rfl rfl rfl hdX8_skip ⟨Nat.le_of_ble_eq_true rfl, Nat.le_of_ble_eq_true rfl⟩) (va_recv hK hP (ci := 7) (q0 := 0) rfl rfl) hK hP hD hS hA hI rfl hl.1 rfl (Nat.le_of_ble_eq_true rfl) dX8_readTag_148 ⟨Nat.zero_le _, Nat.zero_le _⟩ (fun m_p_2 H locs h hP hD hS => ?_)
    have hP : va_P (dC, dI) vwCl (mW ad cI cZ m_thrown m_size m_outLong m_lines m_toldLines m_tokens m_places m_p_2 m_pre m_end m_text m_out m_lineAt m_lineLong m_depth m_signed m_led m_told m_place m_begin m_tokenLong m_stemLong m_address m_letters m_stems m_s) H := hP
    have hD : va_D A (mW ad cI cZ m_thrown m_size m_outLong m_lines m_toldLines m_tokens m_places m_p_2 m_pre m_end m_text m_out m_lineAt m_lineLong m_depth m_signed m_led m_told m_place m_begin m_tokenLong m_stemLong m_address m_letters m_stems m_s) := hD
    exact W.vret hx hb hr (fun t ht hW => hQ (m_outLong, m_p_2, m_pre, m_out) t h (by rw [ht]; exact hP) (va_K.moved hW.alike hK) hD (hS.F ht)) hS.2.2 dX8_readTag_151
  have J118 : ∀ (m_outLong : Int32) (m_p : Int32) (m_pre : Int32) (m_out : Nat → Int32) (x1 : Int32) (x3 : Int64) (H : Heap) (locs : List Loc) (ls : Array Slot), lv_has ls 5 [(0, .ref (ad 0)), (1, .int x1), (3, .long x3)] → va_P (dC, dI) vwCl (mW ad cI cZ m_thrown m_size m_outLong m_lines m_toldLines m_tokens m_places m_p m_pre m_end m_text m_out m_lineAt m_lineLong m_depth m_signed m_led m_told m_place m_begin m_tokenLong m_stemLong m_address m_letters m_stems m_s) H → va_D A (mW ad cI cZ m_thrown m_size m_outLong m_lines m_toldLines m_tokens m_places m_p m_pre m_end m_text m_out m_lineAt m_lineLong m_depth m_signed m_led m_told m_place m_begin m_tokenLong m_stemLong m_address m_letters m_stems m_s) → va_S A s.heap H locs → wjX8_readTag_118 post m_size m_text m_outLong m_p m_pre m_out x1 x3 → W p l e (headSpec wsX8_readTag ({ frames := 4, cells := 0, slots := 0, locals := 93 })).room s m ([.ref (ad 0)] : List Value).toArray below meth c H locs 0 0 (MQ below Qc ([.ref (ad 0)] : List Value).toArray s 0 0 A) (F0 m 118 ls []) := by
    intro m_outLong m_p m_pre m_out x1 x3 H locs ls hl hP hD hS h
    delta wjX8_readTag_118 at h
    refine lv_iload_n hx hb dX8_readTag_118 rfl (lv_at hl 1 rfl) ?_
    refine lv_if_ne (tgt := 151) hx hb dX8_readTag_119 (by decide) (fun c9 => ?_) (fun c9 => ?_)
    · have h := h.1 c9
      exact W.vret hx hb hr (fun t ht hW => hQ (m_outLong, m_p, m_pre, m_out) t h (by rw [ht]; exact hP) (va_K.moved hW.alike hK) hD (hS.F ht)) hS.2.2 dX8_readTag_151
    · have h := h.2 c9
      refine lv_lload_n hx hb dX8_readTag_122 rfl (lv_at hl 2 rfl) ?_
      refine lv_ldc2 (v := 126870958469236) hx hb hown (hts (.constantLong RX8 174 (126870958469236)) (List.mem_of_getElem? (i := 6) rfl)) dX8_readTag_123 ?_
      refine W.lcmp hx hb dX8_readTag_126 ?_
      refine lv_if_eq (tgt := 146) hx hb dX8_readTag_127 (by decide) (fun c9 => ?_) (fun c9 => ?_)
      · have h := h.1 c9
        exact J146 m_outLong m_p m_pre m_out x3 H locs ls (lv_sub hl [0, 2] rfl) hP hD hS h
      · have h := h.2 c9
        refine lv_lload_n hx hb dX8_readTag_130 rfl (lv_at hl 2 rfl) ?_
        refine lv_ldc2 (v := 495875353701) hx hb hown (hts (.constantLong RX8 176 (495875353701)) (List.mem_of_getElem? (i := 7) rfl)) dX8_readTag_131 ?_
        refine W.lcmp hx hb dX8_readTag_134 ?_
        refine lv_if_eq (tgt := 146) hx hb dX8_readTag_135 (by decide) (fun c9 => ?_) (fun c9 => ?_)
        · have h := h.1 c9
          exact J146 m_outLong m_p m_pre m_out x3 H locs ls (lv_sub hl [0, 2] rfl) hP hD hS h
        · have h := h.2 c9
          refine lv_lload_n hx hb dX8_readTag_138 rfl (lv_at hl 2 rfl) ?_
          refine lv_ldc2 (v := 499985443941) hx hb hown (hts (.constantLong RX8 178 (499985443941)) (List.mem_of_getElem? (i := 8) rfl)) dX8_readTag_139 ?_
          refine W.lcmp hx hb dX8_readTag_142 ?_
          refine lv_if_ne (tgt := 151) hx hb dX8_readTag_143 (by decide) (fun c9 => ?_) (fun c9 => ?_)
          · have h := h.1 c9
            exact W.vret hx hb hr (fun t ht hW => hQ (m_outLong, m_p, m_pre, m_out) t h (by rw [ht]; exact hP) (va_K.moved hW.alike hK) hD (hS.F ht)) hS.2.2 dX8_readTag_151
          · have h := h.2 c9
            exact J146 m_outLong m_p m_pre m_out x3 H locs ls (lv_sub hl [0, 2] rfl) hP hD hS h
  have J112 : ∀ (m_outLong : Int32) (m_p : Int32) (m_pre : Int32) (m_out : Nat → Int32) (x1 : Int32) (x3 : Int64) (H : Heap) (locs : List Loc) (ls : Array Slot), lv_has ls 5 [(0, .ref (ad 0)), (1, .int x1), (3, .long x3)] → va_P (dC, dI) vwCl (mW ad cI cZ m_thrown m_size m_outLong m_lines m_toldLines m_tokens m_places m_p m_pre m_end m_text m_out m_lineAt m_lineLong m_depth m_signed m_led m_told m_place m_begin m_tokenLong m_stemLong m_address m_letters m_stems m_s) H → va_D A (mW ad cI cZ m_thrown m_size m_outLong m_lines m_toldLines m_tokens m_places m_p m_pre m_end m_text m_out m_lineAt m_lineLong m_depth m_signed m_led m_told m_place m_begin m_tokenLong m_stemLong m_address m_letters m_stems m_s) → va_S A s.heap H locs → wjX8_readTag_112 post m_size m_text m_outLong m_p m_pre m_out x1 x3 → W p l e (headSpec wsX8_readTag ({ frames := 4, cells := 0, slots := 0, locals := 93 })).room s m ([.ref (ad 0)] : List Value).toArray below meth c H locs 0 0 (MQ below Qc ([.ref (ad 0)] : List Value).toArray s 0 0 A) (F0 m 112 ls []) := by
    intro m_outLong m_p m_pre m_out x1 x3 H locs ls hl hP hD hS h
    delta wjX8_readTag_112 at h
    refine lv_aload_n hx hb dX8_readTag_112 rfl (lv_at hl 0 rfl) ?_
    refine lv_bipush (v := 32) hx hb dX8_readTag_113 (by decide) ?_
    refine xc_vv (As := [.int 32]) (rest := []) xG Fx (sX8_writeBlank l dC dI ad cI cZ sa sv m_thrown m_size m_outLong m_lines m_toldLines m_tokens m_places m_p m_pre m_end m_text m_out m_lineAt m_lineLong m_depth m_signed m_led m_told m_place m_begin m_tokenLong m_stemLong m_address m_letters m_stems m_s 32 h) (cwV 1 hts gX8_readTag_X8_writeBlank rfl rfl rfl hdX8_writeBlank ⟨Nat.le_of_ble_eq_true rfl, Nat.le_of_ble_eq_true rfl⟩) (va_recv hK hP (ci := 7) (q0 := 0) rfl rfl) hK hP hD hS hA hI rfl hl.1 rfl (Nat.le_of_ble_eq_true rfl) dX8_readTag_115 ⟨Nat.zero_le _, Nat.zero_le _⟩ (fun u H locs h hP hD hS => ?_)
    obtain ⟨m_outLong_4, m_out_5⟩ := u
    have hP : va_P (dC, dI) vwCl (mW ad cI cZ m_thrown m_size m_outLong_4 m_lines m_toldLines m_tokens m_places m_p m_pre m_end m_text m_out_5 m_lineAt m_lineLong m_depth m_signed m_led m_told m_place m_begin m_tokenLong m_stemLong m_address m_letters m_stems m_s) H := hP
    have hD : va_D A (mW ad cI cZ m_thrown m_size m_outLong_4 m_lines m_toldLines m_tokens m_places m_p m_pre m_end m_text m_out_5 m_lineAt m_lineLong m_depth m_signed m_led m_told m_place m_begin m_tokenLong m_stemLong m_address m_letters m_stems m_s) := hD
    exact J118 m_outLong_4 m_p m_pre m_out_5 x1 x3 H locs ls (lv_sub hl [0, 1, 2] rfl) hP hD hS h
  have J96 : ∀ (m_outLong : Int32) (m_p : Int32) (m_pre : Int32) (m_out : Nat → Int32) (x1 : Int32) (x3 : Int64) (H : Heap) (locs : List Loc) (ls : Array Slot), lv_has ls 5 [(0, .ref (ad 0)), (1, .int x1), (3, .long x3)] → va_P (dC, dI) vwCl (mW ad cI cZ m_thrown m_size m_outLong m_lines m_toldLines m_tokens m_places m_p m_pre m_end m_text m_out m_lineAt m_lineLong m_depth m_signed m_led m_told m_place m_begin m_tokenLong m_stemLong m_address m_letters m_stems m_s) H → va_D A (mW ad cI cZ m_thrown m_size m_outLong m_lines m_toldLines m_tokens m_places m_p m_pre m_end m_text m_out m_lineAt m_lineLong m_depth m_signed m_led m_told m_place m_begin m_tokenLong m_stemLong m_address m_letters m_stems m_s) → va_S A s.heap H locs → wjX8_readTag_96 post m_size m_text m_outLong m_p m_pre m_out x1 x3 → W p l e (headSpec wsX8_readTag ({ frames := 4, cells := 0, slots := 0, locals := 93 })).room s m ([.ref (ad 0)] : List Value).toArray below meth c H locs 0 0 (MQ below Qc ([.ref (ad 0)] : List Value).toArray s 0 0 A) (F0 m 96 ls []) := by
    intro m_outLong m_p m_pre m_out x1 x3 H locs ls hl hP hD hS h
    delta wjX8_readTag_96 at h
    refine lv_lload_n hx hb dX8_readTag_96 rfl (lv_at hl 2 rfl) ?_
    refine lv_ldc2 (v := 29796) hx hb hown (hts (.constantLong RX8 167 (29796)) (List.mem_of_getElem? (i := 4) rfl)) dX8_readTag_97 ?_
    refine W.lcmp hx hb dX8_readTag_100 ?_
    refine lv_if_eq (tgt := 112) hx hb dX8_readTag_101 (by decide) (fun c9 => ?_) (fun c9 => ?_)
    · have h := h.1 c9
      exact J112 m_outLong m_p m_pre m_out x1 x3 H locs ls (lv_sub hl [0, 1, 2] rfl) hP hD hS h
    · have h := h.2 c9
      refine lv_lload_n hx hb dX8_readTag_104 rfl (lv_at hl 2 rfl) ?_
      refine lv_ldc2 (v := 29800) hx hb hown (hts (.constantLong RX8 169 (29800)) (List.mem_of_getElem? (i := 5) rfl)) dX8_readTag_105 ?_
      refine W.lcmp hx hb dX8_readTag_108 ?_
      refine lv_if_ne (tgt := 118) hx hb dX8_readTag_109 (by decide) (fun c9 => ?_) (fun c9 => ?_)
      · have h := h.1 c9
        exact J118 m_outLong m_p m_pre m_out x1 x3 H locs ls (lv_sub hl [0, 1, 2] rfl) hP hD hS h
      · have h := h.2 c9
        exact J112 m_outLong m_p m_pre m_out x1 x3 H locs ls (lv_sub hl [0, 1, 2] rfl) hP hD hS h
  have J79 : ∀ (m_outLong : Int32) (m_p : Int32) (m_pre : Int32) (m_out : Nat → Int32) (x1 : Int32) (x3 : Int64) (H : Heap) (locs : List Loc) (ls : Array Slot), lv_has ls 5 [(0, .ref (ad 0)), (1, .int x1), (3, .long x3)] → va_P (dC, dI) vwCl (mW ad cI cZ m_thrown m_size m_outLong m_lines m_toldLines m_tokens m_places m_p m_pre m_end m_text m_out m_lineAt m_lineLong m_depth m_signed m_led m_told m_place m_begin m_tokenLong m_stemLong m_address m_letters m_stems m_s) H → va_D A (mW ad cI cZ m_thrown m_size m_outLong m_lines m_toldLines m_tokens m_places m_p m_pre m_end m_text m_out m_lineAt m_lineLong m_depth m_signed m_led m_told m_place m_begin m_tokenLong m_stemLong m_address m_letters m_stems m_s) → va_S A s.heap H locs → wjX8_readTag_79 post m_size m_text m_outLong m_p m_pre m_out x1 x3 → W p l e (headSpec wsX8_readTag ({ frames := 4, cells := 0, slots := 0, locals := 93 })).room s m ([.ref (ad 0)] : List Value).toArray below meth c H locs 0 0 (MQ below Qc ([.ref (ad 0)] : List Value).toArray s 0 0 A) (F0 m 79 ls []) := by
    intro m_outLong m_p m_pre m_out x1 x3 H locs ls hl hP hD hS h
    delta wjX8_readTag_79 at h
    refine lv_lload_n hx hb dX8_readTag_79 rfl (lv_at hl 2 rfl) ?_
    refine lv_ldc2 (v := 7369317) hx hb hown (hts (.constantLong RX8 148 (7369317)) (List.mem_of_getElem? (i := 2) rfl)) dX8_readTag_80 ?_
    refine W.lcmp hx hb dX8_readTag_83 ?_
    refine lv_if_ne (tgt := 96) hx hb dX8_readTag_84 (by decide) (fun c9 => ?_) (fun c9 => ?_)
    · have h := h.1 c9
      exact J96 m_outLong m_p m_pre m_out x1 x3 H locs ls (lv_sub hl [0, 1, 2] rfl) hP hD hS h
    · have h := h.2 c9
      refine lv_iload_n hx hb dX8_readTag_87 rfl (lv_at hl 1 rfl) ?_
      refine lv_if_ne (tgt := 96) hx hb dX8_readTag_88 (by decide) (fun c9 => ?_) (fun c9 => ?_)
      · have h := h.1 c9
        exact J96 m_outLong m_p m_pre m_out x1 x3 H locs ls (lv_sub hl [0, 1, 2] rfl) hP hD hS h
      · have h := h.2 c9
        refine lv_aload_n hx hb dX8_readTag_91 rfl (lv_at hl 0 rfl) ?_
        refine lv_iconst (v := 1) hx hb dX8_readTag_92 (by decide) ?_
        refine va_put (D := (dC, dI)) (ci := 7) (v := .int 1) (ty := .boolean) (C := RX8) (T := TX8) (N := 26) hx hb hts inX8 tyX8 tyX8_ok nmX8 hown hK hP hD hS 0 rfl rfl 23 (by decide) (hts (.fieldLink RX8 89 "MailWordsModel" "pre" "Z") (List.mem_of_getElem? (i := 3) rfl)) (fun _ h9 => h9) rfl (tyX8_ok 23 (by decide)) (bN_nar bN1) (bN_fit bN1) (Nat.le_of_ble_eq_true rfl) dX8_readTag_93 (fun H locs hP hD hS => ?_)
        have hP : va_P (dC, dI) vwCl (mW ad cI cZ m_thrown m_size m_outLong m_lines m_toldLines m_tokens m_places m_p 1 m_end m_text m_out m_lineAt m_lineLong m_depth m_signed m_led m_told m_place m_begin m_tokenLong m_stemLong m_address m_letters m_stems m_s) H := hP
        have hD : va_D A (mW ad cI cZ m_thrown m_size m_outLong m_lines m_toldLines m_tokens m_places m_p 1 m_end m_text m_out m_lineAt m_lineLong m_depth m_signed m_led m_told m_place m_begin m_tokenLong m_stemLong m_address m_letters m_stems m_s) := hD
        exact J96 m_outLong m_p 1 m_out x1 x3 H locs ls (lv_sub hl [0, 1, 2] rfl) hP hD hS h
  have J68 : ∀ (m_outLong : Int32) (m_p : Int32) (m_pre : Int32) (m_out : Nat → Int32) (x1 : Int32) (x3 : Int64) (H : Heap) (locs : List Loc) (ls : Array Slot), lv_has ls 5 [(0, .ref (ad 0)), (1, .int x1), (3, .long x3)] → va_P (dC, dI) vwCl (mW ad cI cZ m_thrown m_size m_outLong m_lines m_toldLines m_tokens m_places m_p m_pre m_end m_text m_out m_lineAt m_lineLong m_depth m_signed m_led m_told m_place m_begin m_tokenLong m_stemLong m_address m_letters m_stems m_s) H → va_D A (mW ad cI cZ m_thrown m_size m_outLong m_lines m_toldLines m_tokens m_places m_p m_pre m_end m_text m_out m_lineAt m_lineLong m_depth m_signed m_led m_told m_place m_begin m_tokenLong m_stemLong m_address m_letters m_stems m_s) → va_S A s.heap H locs → wjX8_readTag_68 post m_size m_text m_outLong m_p m_pre m_out x1 x3 → W p l e (headSpec wsX8_readTag ({ frames := 4, cells := 0, slots := 0, locals := 93 })).room s m ([.ref (ad 0)] : List Value).toArray below meth c H locs 0 0 (MQ below Qc ([.ref (ad 0)] : List Value).toArray s 0 0 A) (F0 m 68 ls []) := by
    intro m_outLong m_p m_pre m_out x1 x3 H locs ls hl hP hD hS h
    delta wjX8_readTag_68 at h
    refine lv_lload_n hx hb dX8_readTag_68 rfl (lv_at hl 2 rfl) ?_
    refine xc_si (As := [.long x3]) (rest := []) xG Fx (sX8_breaks l dC dI ad cI cZ sa sv m_thrown m_size m_outLong m_lines m_toldLines m_tokens m_places m_p m_pre m_end m_text m_out m_lineAt m_lineLong m_depth m_signed m_led m_told m_place m_begin m_tokenLong m_stemLong m_address m_letters m_stems m_s x3 h) (va_cwS 1 hts gX8_readTag_X8_breaks rfl rfl rfl hdX8_breaks ⟨Nat.le_of_ble_eq_true rfl, Nat.le_of_ble_eq_true rfl⟩) hK hP hD hS hA hI rfl hl.1 rfl (Nat.le_of_ble_eq_true rfl) dX8_readTag_69 ⟨Nat.zero_le _, Nat.zero_le _⟩ (fun r_6 u H locs h hP hD hS => ?_)
    refine lv_if_eq (tgt := 79) hx hb dX8_readTag_72 (by decide) (fun c9 => ?_) (fun c9 => ?_)
    · have h := h.1 c9
      exact J79 m_outLong m_p m_pre m_out x1 x3 H locs ls (lv_sub hl [0, 1, 2] rfl) hP hD hS h
    · have h := h.2 c9
      refine lv_aload_n hx hb dX8_readTag_75 rfl (lv_at hl 0 rfl) ?_
      refine xc_vv (As := []) (rest := []) xG Fx (sX8_writeBreak l dC dI ad cI cZ sa sv m_thrown m_size m_outLong m_lines m_toldLines m_tokens m_places m_p m_pre m_end m_text m_out m_lineAt m_lineLong m_depth m_signed m_led m_told m_place m_begin m_tokenLong m_stemLong m_address m_letters m_stems m_s h) (cwV 0 hts gX8_readTag_X8_writeBreak rfl rfl rfl hdX8_writeBreak ⟨Nat.le_of_ble_eq_true rfl, Nat.le_of_ble_eq_true rfl⟩) (va_recv hK hP (ci := 7) (q0 := 0) rfl rfl) hK hP hD hS hA hI rfl hl.1 rfl (Nat.le_of_ble_eq_true rfl) dX8_readTag_76 ⟨Nat.zero_le _, Nat.zero_le _⟩ (fun u H locs h hP hD hS => ?_)
      obtain ⟨m_outLong_8, m_out_9⟩ := u
      have hP : va_P (dC, dI) vwCl (mW ad cI cZ m_thrown m_size m_outLong_8 m_lines m_toldLines m_tokens m_places m_p m_pre m_end m_text m_out_9 m_lineAt m_lineLong m_depth m_signed m_led m_told m_place m_begin m_tokenLong m_stemLong m_address m_letters m_stems m_s) H := hP
      have hD : va_D A (mW ad cI cZ m_thrown m_size m_outLong_8 m_lines m_toldLines m_tokens m_places m_p m_pre m_end m_text m_out_9 m_lineAt m_lineLong m_depth m_signed m_led m_told m_place m_begin m_tokenLong m_stemLong m_address m_letters m_stems m_s) := hD
      exact J79 m_outLong_8 m_p m_pre m_out_9 x1 x3 H locs ls (lv_sub hl [0, 1, 2] rfl) hP hD hS h
  have J34 : ∀ (m_outLong : Int32) (m_p : Int32) (m_pre : Int32) (m_out : Nat → Int32) (x1 : Int32) (s0 : Int32) (s1 : Int32) (H : Heap) (locs : List Loc) (ls : Array Slot), lv_has ls 5 [(0, .ref (ad 0)), (1, .int x1)] → va_P (dC, dI) vwCl (mW ad cI cZ m_thrown m_size m_outLong m_lines m_toldLines m_tokens m_places m_p m_pre m_end m_text m_out m_lineAt m_lineLong m_depth m_signed m_led m_told m_place m_begin m_tokenLong m_stemLong m_address m_letters m_stems m_s) H → va_D A (mW ad cI cZ m_thrown m_size m_outLong m_lines m_toldLines m_tokens m_places m_p m_pre m_end m_text m_out m_lineAt m_lineLong m_depth m_signed m_led m_told m_place m_begin m_tokenLong m_stemLong m_address m_letters m_stems m_s) → va_S A s.heap H locs → wjX8_readTag_34 post m_size m_text m_outLong m_p m_pre m_out x1 s0 s1 → W p l e (headSpec wsX8_readTag ({ frames := 4, cells := 0, slots := 0, locals := 93 })).room s m ([.ref (ad 0)] : List Value).toArray below meth c H locs 0 0 (MQ below Qc ([.ref (ad 0)] : List Value).toArray s 0 0 A) (F0 m 34 ls [.int s0, .int s1]) := by
    intro m_outLong m_p m_pre m_out x1 s0 s1 H locs ls hl hP hD hS h
    delta wjX8_readTag_34 at h
    refine lv_iadd hx hb dX8_readTag_34 ?_
    refine lv_topi (fun x2_10 ex2_10 => ?_)
    have h := h x2_10 ex2_10
    refine lv_istore_n (lv' := [(2, .int x2_10), (0, .ref (ad 0)), (1, .int x1)]) hx hb dX8_readTag_35 rfl hl (by decide) rfl (fun ls hl => ?_)
    refine lv_aload_n hx hb dX8_readTag_36 rfl (lv_at hl 1 rfl) ?_
    refine lv_iload_n hx hb dX8_readTag_37 rfl (lv_at hl 0 rfl) ?_
    refine xc_vl (As := [.int x2_10]) (rest := []) xG Fx (sX8_nameAt l dC dI ad cI cZ sa sv m_thrown m_size m_outLong m_lines m_toldLines m_tokens m_places m_p m_pre m_end m_text m_out m_lineAt m_lineLong m_depth m_signed m_led m_told m_place m_begin m_tokenLong m_stemLong m_address m_letters m_stems m_s x2_10 h) (cwV 1 hts gX8_readTag_X8_nameAt rfl rfl rfl hdX8_nameAt ⟨Nat.le_of_ble_eq_true rfl, Nat.le_of_ble_eq_true rfl⟩) (va_recv hK hP (ci := 7) (q0 := 0) rfl rfl) hK hP hD hS hA hI rfl hl.1 rfl (Nat.le_of_ble_eq_true rfl) dX8_readTag_38 ⟨Nat.zero_le _, Nat.zero_le _⟩ (fun r_11 u H locs h hP hD hS => ?_)
    refine lv_lstore_n (lv' := [(3, .long r_11), (2, .int x2_10), (0, .ref (ad 0)), (1, .int x1)]) hx hb dX8_readTag_41 rfl hl (by decide) rfl (fun ls hl => ?_)
    refine lv_aload_n hx hb dX8_readTag_42 rfl (lv_at hl 2 rfl) ?_
    refine lv_aload_n hx hb dX8_readTag_43 rfl (lv_at hl 2 rfl) ?_
    refine lv_iload_n hx hb dX8_readTag_44 rfl (lv_at hl 1 rfl) ?_
    refine xc_vi (As := [.int x2_10]) (rest := [.ref (ad 0)]) xG Fx (sX8_tagEnd l dC dI ad cI cZ sa sv m_thrown m_size m_outLong m_lines m_toldLines m_tokens m_places m_p m_pre m_end m_text m_out m_lineAt m_lineLong m_depth m_signed m_led m_told m_place m_begin m_tokenLong m_stemLong m_address m_letters m_stems m_s x2_10 h) (cwV 1 hts gX8_readTag_X8_tagEnd rfl rfl rfl hdX8_tagEnd ⟨Nat.le_of_ble_eq_true rfl, Nat.le_of_ble_eq_true rfl⟩) (va_recv hK hP (ci := 7) (q0 := 0) rfl rfl) hK hP hD hS hA hI rfl hl.1 rfl (Nat.le_of_ble_eq_true rfl) dX8_readTag_45 ⟨Nat.zero_le _, Nat.zero_le _⟩ (fun r_12 u H locs h hP hD hS => ?_)
    refine va_put (D := (dC, dI)) (ci := 7) (v := .int r_12) (ty := .int) (C := RX8) (T := TX8) (N := 26) hx hb hts inX8 tyX8 tyX8_ok nmX8 hown hK hP hD hS 0 rfl rfl 22 (by decide) (hts (.fieldLink RX8 150 "MailWordsModel" "p" "I") (List.mem_of_getElem? (i := 1) rfl)) (fun _ h9 => h9) rfl (tyX8_ok 22 (by decide)) rfl rfl (Nat.le_of_ble_eq_true rfl) dX8_readTag_48 (fun H locs hP hD hS => ?_)
    have hP : va_P (dC, dI) vwCl (mW ad cI cZ m_thrown m_size m_outLong m_lines m_toldLines m_tokens m_places r_12 m_pre m_end m_text m_out m_lineAt m_lineLong m_depth m_signed m_led m_told m_place m_begin m_tokenLong m_stemLong m_address m_letters m_stems m_s) H := hP
    have hD : va_D A (mW ad cI cZ m_thrown m_size m_outLong m_lines m_toldLines m_tokens m_places r_12 m_pre m_end m_text m_out m_lineAt m_lineLong m_depth m_signed m_led m_told m_place m_begin m_tokenLong m_stemLong m_address m_letters m_stems m_s) := hD
    refine lv_lload_n hx hb dX8_readTag_51 rfl (lv_at hl 0 rfl) ?_
    refine lv_ldc2 (v := 7369317) hx hb hown (hts (.constantLong RX8 148 (7369317)) (List.mem_of_getElem? (i := 2) rfl)) dX8_readTag_52 ?_
    refine W.lcmp hx hb dX8_readTag_55 ?_
    refine lv_if_ne (tgt := 68) hx hb dX8_readTag_56 (by decide) (fun c9 => ?_) (fun c9 => ?_)
    · have h := h.1 c9
      exact J68 m_outLong r_12 m_pre m_out x1 r_11 H locs ls (lv_sub hl [2, 3, 0] rfl) hP hD hS h
    · have h := h.2 c9
      refine lv_iload_n hx hb dX8_readTag_59 rfl (lv_at hl 3 rfl) ?_
      refine lv_if_eq (tgt := 68) hx hb dX8_readTag_60 (by decide) (fun c9 => ?_) (fun c9 => ?_)
      · have h := h.1 c9
        exact J68 m_outLong r_12 m_pre m_out x1 r_11 H locs ls (lv_sub hl [2, 3, 0] rfl) hP hD hS h
      · have h := h.2 c9
        refine lv_aload_n hx hb dX8_readTag_63 rfl (lv_at hl 2 rfl) ?_
        refine lv_iconst (v := 0) hx hb dX8_readTag_64 (by decide) ?_
        refine va_put (D := (dC, dI)) (ci := 7) (v := .int 0) (ty := .boolean) (C := RX8) (T := TX8) (N := 26) hx hb hts inX8 tyX8 tyX8_ok nmX8 hown hK hP hD hS 0 rfl rfl 23 (by decide) (hts (.fieldLink RX8 89 "MailWordsModel" "pre" "Z") (List.mem_of_getElem? (i := 3) rfl)) (fun _ h9 => h9) rfl (tyX8_ok 23 (by decide)) (bN_nar bN0) (bN_fit bN0) (Nat.le_of_ble_eq_true rfl) dX8_readTag_65 (fun H locs hP hD hS => ?_)
        have hP : va_P (dC, dI) vwCl (mW ad cI cZ m_thrown m_size m_outLong m_lines m_toldLines m_tokens m_places r_12 0 m_end m_text m_out m_lineAt m_lineLong m_depth m_signed m_led m_told m_place m_begin m_tokenLong m_stemLong m_address m_letters m_stems m_s) H := hP
        have hD : va_D A (mW ad cI cZ m_thrown m_size m_outLong m_lines m_toldLines m_tokens m_places r_12 0 m_end m_text m_out m_lineAt m_lineLong m_depth m_signed m_led m_told m_place m_begin m_tokenLong m_stemLong m_address m_letters m_stems m_s) := hD
        exact J68 m_outLong r_12 0 m_out x1 r_11 H locs ls (lv_sub hl [2, 3, 0] rfl) hP hD hS h
  have J20 : ∀ (m_outLong : Int32) (m_p : Int32) (m_pre : Int32) (m_out : Nat → Int32) (s0 : Int32) (H : Heap) (locs : List Loc) (ls : Array Slot), lv_has ls 5 [(0, .ref (ad 0))] → va_P (dC, dI) vwCl (mW ad cI cZ m_thrown m_size m_outLong m_lines m_toldLines m_tokens m_places m_p m_pre m_end m_text m_out m_lineAt m_lineLong m_depth m_signed m_led m_told m_place m_begin m_tokenLong m_stemLong m_address m_letters m_stems m_s) H → va_D A (mW ad cI cZ m_thrown m_size m_outLong m_lines m_toldLines m_tokens m_places m_p m_pre m_end m_text m_out m_lineAt m_lineLong m_depth m_signed m_led m_told m_place m_begin m_tokenLong m_stemLong m_address m_letters m_stems m_s) → va_S A s.heap H locs → wjX8_readTag_20 post m_size m_text m_outLong m_p m_pre m_out s0 → W p l e (headSpec wsX8_readTag ({ frames := 4, cells := 0, slots := 0, locals := 93 })).room s m ([.ref (ad 0)] : List Value).toArray below meth c H locs 0 0 (MQ below Qc ([.ref (ad 0)] : List Value).toArray s 0 0 A) (F0 m 20 ls [.int s0]) := by
    intro m_outLong m_p m_pre m_out s0 H locs ls hl hP hD hS h
    delta wjX8_readTag_20 at h
    refine lv_istore_n (lv' := [(1, .int s0), (0, .ref (ad 0))]) hx hb dX8_readTag_20 rfl hl (by decide) rfl (fun ls hl => ?_)
    refine lv_aload_n hx hb dX8_readTag_21 rfl (lv_at hl 1 rfl) ?_
    refine va_get (D := (dC, dI)) (ci := 7) (v := .int m_p) (C := RX8) (T := TX8) (N := 26) hx hb hts inX8 hown hK hP 0 rfl rfl 22 (by decide) (hts (.fieldLink RX8 150 "MailWordsModel" "p" "I") (List.mem_of_getElem? (i := 1) rfl)) (fun _ h9 => h9) rfl dX8_readTag_22 ?_
    refine lv_iload_n hx hb dX8_readTag_25 rfl (lv_at hl 0 rfl) ?_
    refine lv_if_eq (tgt := 33) hx hb dX8_readTag_26 (by decide) (fun c9 => ?_) (fun c9 => ?_)
    · have h := h.1 c9
      refine lv_iconst (v := 1) hx hb dX8_readTag_33 (by decide) ?_
      exact J34 m_outLong m_p m_pre m_out s0 1 m_p H locs ls (lv_sub hl [1, 0] rfl) hP hD hS h
    · have h := h.2 c9
      refine lv_iconst (v := 2) hx hb dX8_readTag_29 (by decide) ?_
      refine lv_goto (tgt := 34) hx hb dX8_readTag_30 (by decide) ?_
      exact J34 m_outLong m_p m_pre m_out s0 2 m_p H locs ls (lv_sub hl [1, 0] rfl) hP hD hS h
  intro H locs hP hD hS
  delta wpX8_readTag at h
  refine lv_aload_n hx hb dX8_readTag_0 rfl (lv_at hl 0 rfl) ?_
  refine lv_aload_n hx hb dX8_readTag_1 rfl (lv_at hl 0 rfl) ?_
  refine va_get (D := (dC, dI)) (ci := 7) (v := .int m_p) (C := RX8) (T := TX8) (N := 26) hx hb hts inX8 hown hK hP 0 rfl rfl 22 (by decide) (hts (.fieldLink RX8 150 "MailWordsModel" "p" "I") (List.mem_of_getElem? (i := 1) rfl)) (fun _ h9 => h9) rfl dX8_readTag_2 ?_
  refine lv_iconst (v := 1) hx hb dX8_readTag_5 (by decide) ?_
  refine lv_iadd hx hb dX8_readTag_6 ?_
  refine xc_vi (As := [.int (m_p + 1)]) (rest := []) xG Fx (sX8_look l dC dI ad cI cZ sa sv m_thrown m_size m_outLong m_lines m_toldLines m_tokens m_places m_p m_pre m_end m_text m_out m_lineAt m_lineLong m_depth m_signed m_led m_told m_place m_begin m_tokenLong m_stemLong m_address m_letters m_stems m_s (m_p + 1) h) (cwV 1 hts gX8_readTag_X8_look rfl rfl rfl hdX8_look ⟨Nat.le_of_ble_eq_true rfl, Nat.le_of_ble_eq_true rfl⟩) (va_recv hK hP (ci := 7) (q0 := 0) rfl rfl) hK hP hD hS hA hI rfl hl.1 rfl (Nat.le_of_ble_eq_true rfl) dX8_readTag_7 ⟨Nat.zero_le _, Nat.zero_le _⟩ (fun r_13 u H locs h hP hD hS => ?_)
  refine lv_bipush (v := 47) hx hb dX8_readTag_10 (by decide) ?_
  refine lv_icmp_ne (tgt := 19) hx hb dX8_readTag_12 (by decide) (fun c9 => ?_) (fun c9 => ?_)
  · have h := h.1 c9
    refine lv_iconst (v := 0) hx hb dX8_readTag_19 (by decide) ?_
    exact J20 m_outLong m_p m_pre m_out 0 H locs ls (lv_sub hl [0] rfl) hP hD hS h
  · have h := h.2 c9
    refine lv_iconst (v := 1) hx hb dX8_readTag_15 (by decide) ?_
    refine lv_goto (tgt := 20) hx hb dX8_readTag_16 (by decide) ?_
    exact J20 m_outLong m_p m_pre m_out 1 H locs ls (lv_sub hl [0] rfl) hP hD hS h
