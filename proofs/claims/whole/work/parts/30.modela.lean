set_option maxHeartbeats 4000000 in
set_option maxRecDepth 100000 in
theorem sX8_take (l : Launch) (dC : Nat → ClassId) (dI : Nat → Nat → Nat) (ad : Nat → Nat) (cI cZ : ClassId) (sa sv : Nat → Nat) (m_thrown : Int32) (m_size : Int32) (m_outLong : Int32) (m_lines : Int32) (m_toldLines : Int32) (m_tokens : Int32) (m_places : Int32) (m_p : Int32) (m_pre : Int32) (m_end : Int32) (m_text : Nat → Int32) (m_out : Nat → Int32) (m_lineAt : Nat → Int32) (m_lineLong : Nat → Int32) (m_depth : Nat → Int32) (m_signed : Nat → Int32) (m_led : Nat → Int32) (m_told : Nat → Int32) (m_place : Nat → Int32) (m_begin : Nat → Int32) (m_tokenLong : Nat → Int32) (m_stemLong : Nat → Int32) (m_address : Nat → Int32) (m_letters : Nat → Int32) (m_stems : Nat → Int32) (m_s : Nat → Int32) (x1 : Int32) {post : Int32 → (Nat → Int32) → Prop} (h : wpX8_take post m_size m_text x1) : xMv l (dC, dI) vwCl [(cI, .int), (cZ, .boolean)] (sI sa sv) yX8_take wsX8_take ({ frames := 0, cells := 0, slots := 0, locals := 0 }) (mW ad cI cZ m_thrown m_size m_outLong m_lines m_toldLines m_tokens m_places m_p m_pre m_end m_text m_out m_lineAt m_lineLong m_depth m_signed m_led m_told m_place m_begin m_tokenLong m_stemLong m_address m_letters m_stems m_s) [.ref (ad 0), .int x1] (fun u : Int32 × (Nat → Int32) => post u.1 u.2) (fun u : Int32 × (Nat → Int32) => (mW ad cI cZ m_thrown u.1 m_outLong m_lines m_toldLines m_tokens m_places m_p m_pre m_end u.2 m_out m_lineAt m_lineLong m_depth m_signed m_led m_told m_place m_begin m_tokenLong m_stemLong m_address m_letters m_stems m_s)) := by
  intro sz
  refine Met.ofW (cc := cX8_take) (maxL := 2) (ret := none) (by decide) rfl ?_
  intro p e s m args below meth c s₁ B hml hv
  obtain ⟨rfl, hsz, hP, hK, hD0, hI⟩ := hv
  have hx := B.exec
  have hb := B.bytes
  have hr := B.returns
  have hts := atoms_spec (ws := wsX8_take) B.pre
  have hown : s.vm.findClass RX8 = some m.cls := findClass_of_methodNamed B.named
  have hlocks := B.notSynchronized
  subst hsz
  have hD := hD0.self (sz := s.heap.size)
  generalize hAe : va_A (mW ad cI cZ m_thrown m_size m_outLong m_lines m_toldLines m_tokens m_places m_p m_pre m_end m_text m_out m_lineAt m_lineLong m_depth m_signed m_led m_told m_place m_begin m_tokenLong m_stemLong m_address m_letters m_stems m_s) s.heap.size = A at hD hI ⊢
  have hA : ∀ q : Nat, s.heap.size ≤ q → A q := fun q h => by rw [← hAe]; exact Or.inr h
  have hS : va_S A s.heap s.heap [] := va_S.rf
  have Fx : CallFix p m c cX8_take 2 s ([.ref (ad 0), .int x1] : List Value).toArray wsX8_take RX8 := ⟨hx, hb, hml, hown, hts⟩
  have hQ : ∀ (u : Int32 × (Nat → Int32)) (t : State), (fun u : Int32 × (Nat → Int32) => post u.1 u.2) u → va_P (dC, dI) vwCl ((fun u : Int32 × (Nat → Int32) => (mW ad cI cZ m_thrown u.1 m_outLong m_lines m_toldLines m_tokens m_places m_p m_pre m_end u.2 m_out m_lineAt m_lineLong m_depth m_signed m_led m_told m_place m_begin m_tokenLong m_stemLong m_address m_letters m_stems m_s)) u) t.heap → va_K (dC, dI) vwCl [(cI, .int), (cZ, .boolean)] t → va_D A ((fun u : Int32 × (Nat → Int32) => (mW ad cI cZ m_thrown u.1 m_outLong m_lines m_toldLines m_tokens m_places m_p m_pre m_end u.2 m_out m_lineAt m_lineLong m_depth m_signed m_led m_told m_place m_begin m_tokenLong m_stemLong m_address m_letters m_stems m_s)) u) → va_F A s t → (va_Qv (fun u : Int32 × (Nat → Int32) => post u.1 u.2) (xB (dC, dI) vwCl [(cI, .int), (cZ, .boolean)] A (fun u : Int32 × (Nat → Int32) => (mW ad cI cZ m_thrown u.1 m_outLong m_lines m_toldLines m_tokens m_places m_p m_pre m_end u.2 m_out m_lineAt m_lineLong m_depth m_signed m_led m_told m_place m_begin m_tokenLong m_stemLong m_address m_letters m_stems m_s))) A) ([.ref (ad 0), .int x1] : List Value).toArray s (.returned none) t := fun u t h1 h2 h3 h4 h5 => ⟨⟨u, rfl, h1, h2, h3, h4⟩, h5⟩
  generalize (va_Qv (fun u : Int32 × (Nat → Int32) => post u.1 u.2) (xB (dC, dI) vwCl [(cI, .int), (cZ, .boolean)] A (fun u : Int32 × (Nat → Int32) => (mW ad cI cZ m_thrown u.1 m_outLong m_lines m_toldLines m_tokens m_places m_p m_pre m_end u.2 m_out m_lineAt m_lineLong m_depth m_signed m_led m_told m_place m_begin m_tokenLong m_stemLong m_address m_letters m_stems m_s))) A) = Qc at hQ ⊢
  have hl := lv_entry ([.ref (ad 0), .int x1]) (n := 2) (Nat.le_of_ble_eq_true rfl)
  rw [lg_entry_eq]
  generalize (lg_sl ([.ref (ad 0), .int x1]) ++ List.replicate (2 - (lg_sl ([.ref (ad 0), .int x1])).length) Slot.unset).toArray = ls at hl ⊢
  have hl : lv_has ls 2 [(0, .ref (ad 0)), (1, .int x1)] := hl
  refine (fun (key : ∀ (H : Heap) (locs : List Loc), va_P (dC, dI) vwCl (mW ad cI cZ m_thrown m_size m_outLong m_lines m_toldLines m_tokens m_places m_p m_pre m_end m_text m_out m_lineAt m_lineLong m_depth m_signed m_led m_told m_place m_begin m_tokenLong m_stemLong m_address m_letters m_stems m_s) H → va_D A (mW ad cI cZ m_thrown m_size m_outLong m_lines m_toldLines m_tokens m_places m_p m_pre m_end m_text m_out m_lineAt m_lineLong m_depth m_signed m_led m_told m_place m_begin m_tokenLong m_stemLong m_address m_letters m_stems m_s) → va_S A s.heap H locs → W p l e (headSpec wsX8_take ({ frames := 0, cells := 0, slots := 0, locals := 0 })).room s m ([.ref (ad 0), .int x1] : List Value).toArray below meth c H locs 0 0 (MQ below Qc ([.ref (ad 0), .int x1] : List Value).toArray s 0 0 A) (F0 m 0 ls [])) => key _ _ hP hD hS) ?_
  have inX8 : ∀ w ∈ wsX80, w ∈ wsX8_take := (fun _ h9 => List.mem_cons_of_mem _ (List.mem_append_right _ h9))
  intro H locs hP hD hS
  delta wpX8_take at h
  refine lv_aload_n hx hb dX8_take_0 rfl (lv_at hl 0 rfl) ?_
  refine va_get (D := (dC, dI)) (ci := 7) (v := .int m_size) (C := RX8) (T := TX8) (N := 26) hx hb hts inX8 hown hK hP 0 rfl rfl 2 (by decide) (hts (.fieldLink RX8 64 "MailWordsModel" "size" "I") (List.mem_of_getElem? (i := 1) rfl)) (fun _ h9 => h9) rfl dX8_take_1 ?_
  refine lv_sipush (v := 1500) hx hb dX8_take_4 (by decide) ?_
  refine lv_icmp_ne (tgt := 11) hx hb dX8_take_7 (by decide) (fun c9 => ?_) (fun c9 => ?_)
  · have h := h.1 c9
    refine lv_aload_n hx hb dX8_take_11 rfl (lv_at hl 0 rfl) ?_
    refine va_get (D := (dC, dI)) (ci := 7) (v := .ref (ad 1)) (C := RX8) (T := TX8) (N := 26) hx hb hts inX8 hown hK hP 0 rfl rfl 1 (by decide) (hts (.fieldLink RX8 7 "MailWordsModel" "text" "[I") (List.mem_of_getElem? (i := 2) rfl)) (fun _ h9 => h9) rfl dX8_take_12 ?_
    refine lv_aload_n hx hb dX8_take_15 rfl (lv_at hl 0 rfl) ?_
    refine va_get (D := (dC, dI)) (ci := 7) (v := .int m_size) (C := RX8) (T := TX8) (N := 26) hx hb hts inX8 hown hK hP 0 rfl rfl 2 (by decide) (hts (.fieldLink RX8 64 "MailWordsModel" "size" "I") (List.mem_of_getElem? (i := 1) rfl)) (fun _ h9 => h9) rfl dX8_take_16 ?_
    refine lv_iload_n hx hb dX8_take_19 rfl (lv_at hl 1 rfl) ?_
    have hi9 := h.1
    have h := h.2
    refine va_iast hx hb hK hP hD hS 1 0 rfl rfl hi9 dX8_take_20 (fun H locs hP hD hS => ?_)
    have hP : va_P (dC, dI) vwCl (mW ad cI cZ m_thrown m_size m_outLong m_lines m_toldLines m_tokens m_places m_p m_pre m_end (upd m_text m_size.toNatClampNeg x1) m_out m_lineAt m_lineLong m_depth m_signed m_led m_told m_place m_begin m_tokenLong m_stemLong m_address m_letters m_stems m_s) H := hP
    have hD : va_D A (mW ad cI cZ m_thrown m_size m_outLong m_lines m_toldLines m_tokens m_places m_p m_pre m_end (upd m_text m_size.toNatClampNeg x1) m_out m_lineAt m_lineLong m_depth m_signed m_led m_told m_place m_begin m_tokenLong m_stemLong m_address m_letters m_stems m_s) := hD
    refine lv_aload_n hx hb dX8_take_21 rfl (lv_at hl 0 rfl) ?_
    refine lv_dup hx hb dX8_take_22 rfl ?_
    refine va_get (D := (dC, dI)) (ci := 7) (v := .int m_size) (C := RX8) (T := TX8) (N := 26) hx hb hts inX8 hown hK hP 0 rfl rfl 2 (by decide) (hts (.fieldLink RX8 64 "MailWordsModel" "size" "I") (List.mem_of_getElem? (i := 1) rfl)) (fun _ h9 => h9) rfl dX8_take_23 ?_
    refine lv_iconst (v := 1) hx hb dX8_take_26 (by decide) ?_
    refine lv_iadd hx hb dX8_take_27 ?_
    refine lv_topi (fun m_size_1 em_size_1 => ?_)
    have h := h m_size_1 em_size_1
    refine va_put (D := (dC, dI)) (ci := 7) (v := .int m_size_1) (ty := .int) (C := RX8) (T := TX8) (N := 26) hx hb hts inX8 tyX8 tyX8_ok nmX8 hown hK hP hD hS 0 rfl rfl 2 (by decide) (hts (.fieldLink RX8 64 "MailWordsModel" "size" "I") (List.mem_of_getElem? (i := 1) rfl)) (fun _ h9 => h9) rfl (tyX8_ok 2 (by decide)) rfl rfl (Nat.le_of_ble_eq_true rfl) dX8_take_28 (fun H locs hP hD hS => ?_)
    have hP : va_P (dC, dI) vwCl (mW ad cI cZ m_thrown m_size_1 m_outLong m_lines m_toldLines m_tokens m_places m_p m_pre m_end (upd m_text m_size.toNatClampNeg x1) m_out m_lineAt m_lineLong m_depth m_signed m_led m_told m_place m_begin m_tokenLong m_stemLong m_address m_letters m_stems m_s) H := hP
    have hD : va_D A (mW ad cI cZ m_thrown m_size_1 m_outLong m_lines m_toldLines m_tokens m_places m_p m_pre m_end (upd m_text m_size.toNatClampNeg x1) m_out m_lineAt m_lineLong m_depth m_signed m_led m_told m_place m_begin m_tokenLong m_stemLong m_address m_letters m_stems m_s) := hD
    exact W.vret hx hb hr (fun t ht hW => hQ (m_size_1, (upd m_text m_size.toNatClampNeg x1)) t h (by rw [ht]; exact hP) (va_K.moved hW.alike hK) hD (hS.F ht)) hS.2.2 dX8_take_31
  · have h := h.2 c9
    exact W.vret hx hb hr (fun t ht hW => hQ (m_size, m_text) t h (by rw [ht]; exact hP) (va_K.moved hW.alike hK) hD (hS.F ht)) hS.2.2 dX8_take_10
set_option maxHeartbeats 4000000 in
set_option maxRecDepth 100000 in
theorem sX8_put (l : Launch) (dC : Nat → ClassId) (dI : Nat → Nat → Nat) (ad : Nat → Nat) (cI cZ : ClassId) (sa sv : Nat → Nat) (m_thrown : Int32) (m_size : Int32) (m_outLong : Int32) (m_lines : Int32) (m_toldLines : Int32) (m_tokens : Int32) (m_places : Int32) (m_p : Int32) (m_pre : Int32) (m_end : Int32) (m_text : Nat → Int32) (m_out : Nat → Int32) (m_lineAt : Nat → Int32) (m_lineLong : Nat → Int32) (m_depth : Nat → Int32) (m_signed : Nat → Int32) (m_led : Nat → Int32) (m_told : Nat → Int32) (m_place : Nat → Int32) (m_begin : Nat → Int32) (m_tokenLong : Nat → Int32) (m_stemLong : Nat → Int32) (m_address : Nat → Int32) (m_letters : Nat → Int32) (m_stems : Nat → Int32) (m_s : Nat → Int32) (x1 : Int32) (x2 : Int32) (x3 : Int32) (x4 : Int32) (x5 : Int32) {post : Int32 → Int32 → Int32 → (Nat → Int32) → Prop} (h : wpX8_put post m_thrown m_size m_text x1 x2 x3 x4 x5) : xMi l (dC, dI) vwCl [(cI, .int), (cZ, .boolean)] (sI sa sv) yX8_put wsX8_put ({ frames := 1, cells := 0, slots := 0, locals := 21 }) (mW ad cI cZ m_thrown m_size m_outLong m_lines m_toldLines m_tokens m_places m_p m_pre m_end m_text m_out m_lineAt m_lineLong m_depth m_signed m_led m_told m_place m_begin m_tokenLong m_stemLong m_address m_letters m_stems m_s) [.ref (ad 0), .int x1, .int x2, .int x3, .int x4, .int x5] (fun (r : Int32) (u : Int32 × Int32 × (Nat → Int32)) => post r u.1 u.2.1 u.2.2) (fun u : Int32 × Int32 × (Nat → Int32) => (mW ad cI cZ u.1 u.2.1 m_outLong m_lines m_toldLines m_tokens m_places m_p m_pre m_end u.2.2 m_out m_lineAt m_lineLong m_depth m_signed m_led m_told m_place m_begin m_tokenLong m_stemLong m_address m_letters m_stems m_s)) := by
  intro sz
  refine Met.ofW (cc := cX8_put) (maxL := 8) (ret := (some .int)) (by decide) rfl ?_
  intro p e s m args below meth c s₁ B hml hv
  obtain ⟨rfl, hsz, hP, hK, hD0, hI⟩ := hv
  have hx := B.exec
  have hb := B.bytes
  have hr := B.returns
  have hts := atoms_spec (ws := wsX8_put) B.pre
  have hown : s.vm.findClass RX8 = some m.cls := findClass_of_methodNamed B.named
  have hlocks := B.notSynchronized
  subst hsz
  have hD := hD0.self (sz := s.heap.size)
  generalize hAe : va_A (mW ad cI cZ m_thrown m_size m_outLong m_lines m_toldLines m_tokens m_places m_p m_pre m_end m_text m_out m_lineAt m_lineLong m_depth m_signed m_led m_told m_place m_begin m_tokenLong m_stemLong m_address m_letters m_stems m_s) s.heap.size = A at hD hI ⊢
  have hA : ∀ q : Nat, s.heap.size ≤ q → A q := fun q h => by rw [← hAe]; exact Or.inr h
  have hS : va_S A s.heap s.heap [] := va_S.rf
  have Fx : CallFix p m c cX8_put 8 s ([.ref (ad 0), .int x1, .int x2, .int x3, .int x4, .int x5] : List Value).toArray wsX8_put RX8 := ⟨hx, hb, hml, hown, hts⟩
  have hQ : ∀ (r : Int32) (u : Int32 × Int32 × (Nat → Int32)) (t : State), (fun (r : Int32) (u : Int32 × Int32 × (Nat → Int32)) => post r u.1 u.2.1 u.2.2) r u → va_P (dC, dI) vwCl ((fun u : Int32 × Int32 × (Nat → Int32) => (mW ad cI cZ u.1 u.2.1 m_outLong m_lines m_toldLines m_tokens m_places m_p m_pre m_end u.2.2 m_out m_lineAt m_lineLong m_depth m_signed m_led m_told m_place m_begin m_tokenLong m_stemLong m_address m_letters m_stems m_s)) u) t.heap → va_K (dC, dI) vwCl [(cI, .int), (cZ, .boolean)] t → va_D A ((fun u : Int32 × Int32 × (Nat → Int32) => (mW ad cI cZ u.1 u.2.1 m_outLong m_lines m_toldLines m_tokens m_places m_p m_pre m_end u.2.2 m_out m_lineAt m_lineLong m_depth m_signed m_led m_told m_place m_begin m_tokenLong m_stemLong m_address m_letters m_stems m_s)) u) → va_F A s t → (va_Qi (fun (r : Int32) (u : Int32 × Int32 × (Nat → Int32)) => post r u.1 u.2.1 u.2.2) (xB (dC, dI) vwCl [(cI, .int), (cZ, .boolean)] A (fun u : Int32 × Int32 × (Nat → Int32) => (mW ad cI cZ u.1 u.2.1 m_outLong m_lines m_toldLines m_tokens m_places m_p m_pre m_end u.2.2 m_out m_lineAt m_lineLong m_depth m_signed m_led m_told m_place m_begin m_tokenLong m_stemLong m_address m_letters m_stems m_s))) A) ([.ref (ad 0), .int x1, .int x2, .int x3, .int x4, .int x5] : List Value).toArray s (.returned (some (.int r))) t := fun r u t h1 h2 h3 h4 h5 => ⟨⟨r, u, rfl, h1, h2, h3, h4⟩, h5⟩
  generalize (va_Qi (fun (r : Int32) (u : Int32 × Int32 × (Nat → Int32)) => post r u.1 u.2.1 u.2.2) (xB (dC, dI) vwCl [(cI, .int), (cZ, .boolean)] A (fun u : Int32 × Int32 × (Nat → Int32) => (mW ad cI cZ u.1 u.2.1 m_outLong m_lines m_toldLines m_tokens m_places m_p m_pre m_end u.2.2 m_out m_lineAt m_lineLong m_depth m_signed m_led m_told m_place m_begin m_tokenLong m_stemLong m_address m_letters m_stems m_s))) A) = Qc at hQ ⊢
  have hl := lv_entry ([.ref (ad 0), .int x1, .int x2, .int x3, .int x4, .int x5]) (n := 8) (Nat.le_of_ble_eq_true rfl)
  rw [lg_entry_eq]
  generalize (lg_sl ([.ref (ad 0), .int x1, .int x2, .int x3, .int x4, .int x5]) ++ List.replicate (8 - (lg_sl ([.ref (ad 0), .int x1, .int x2, .int x3, .int x4, .int x5])).length) Slot.unset).toArray = ls at hl ⊢
  have hl : lv_has ls 8 [(0, .ref (ad 0)), (1, .int x1), (2, .int x2), (3, .int x3), (4, .int x4), (5, .int x5)] := hl
  refine (fun (key : ∀ (H : Heap) (locs : List Loc), va_P (dC, dI) vwCl (mW ad cI cZ m_thrown m_size m_outLong m_lines m_toldLines m_tokens m_places m_p m_pre m_end m_text m_out m_lineAt m_lineLong m_depth m_signed m_led m_told m_place m_begin m_tokenLong m_stemLong m_address m_letters m_stems m_s) H → va_D A (mW ad cI cZ m_thrown m_size m_outLong m_lines m_toldLines m_tokens m_places m_p m_pre m_end m_text m_out m_lineAt m_lineLong m_depth m_signed m_led m_told m_place m_begin m_tokenLong m_stemLong m_address m_letters m_stems m_s) → va_S A s.heap H locs → W p l e (headSpec wsX8_put ({ frames := 1, cells := 0, slots := 0, locals := 21 })).room s m ([.ref (ad 0), .int x1, .int x2, .int x3, .int x4, .int x5] : List Value).toArray below meth c H locs 0 0 (MQ below Qc ([.ref (ad 0), .int x1, .int x2, .int x3, .int x4, .int x5] : List Value).toArray s 0 0 A) (F0 m 0 ls [])) => key _ _ hP hD hS) ?_
  have inX8 : ∀ w ∈ wsX80, w ∈ wsX8_put := (fun _ h9 => List.mem_cons_of_mem _ (List.mem_append_right _ h9))
  have L20 : ∀ (m_thrown : Int32) (n : Nat) (m_size : Int32) (m_text : Nat → Int32) (x6 : Int32) (H : Heap) (locs : List Loc) (ls : Array Slot), lv_has ls 8 [(0, .ref (ad 0)), (1, .int x1), (2, .int x2), (3, .int x3), (4, .int x4), (5, .int x5), (6, .int x6)] → va_P (dC, dI) vwCl (mW ad cI cZ m_thrown m_size m_outLong m_lines m_toldLines m_tokens m_places m_p m_pre m_end m_text m_out m_lineAt m_lineLong m_depth m_signed m_led m_told m_place m_begin m_tokenLong m_stemLong m_address m_letters m_stems m_s) H → va_D A (mW ad cI cZ m_thrown m_size m_outLong m_lines m_toldLines m_tokens m_places m_p m_pre m_end m_text m_out m_lineAt m_lineLong m_depth m_signed m_led m_told m_place m_begin m_tokenLong m_stemLong m_address m_letters m_stems m_s) → va_S A s.heap H locs → wlX8_put_20 post x1 x2 x3 x4 x5 m_thrown n m_size m_text x6 → W p l e (headSpec wsX8_put ({ frames := 1, cells := 0, slots := 0, locals := 21 })).room s m ([.ref (ad 0), .int x1, .int x2, .int x3, .int x4, .int x5] : List Value).toArray below meth c H locs 0 0 (MQ below Qc ([.ref (ad 0), .int x1, .int x2, .int x3, .int x4, .int x5] : List Value).toArray s 0 0 A) (F0 m 20 ls []) := by
    intro m_thrown
    intro n
    induction n with
    | zero => intro m_size m_text x6 H locs ls _ _ _ _ h; exact absurd h (fun z => z)
    | succ n20 ih20 =>
      intro m_size m_text x6 H locs ls hl hP hD hS h
      have J83 : ∀ (m_size : Int32) (m_text : Nat → Int32) (x6 : Int32) (s0 : Int32) (H : Heap) (locs : List Loc) (ls : Array Slot), lv_has ls 8 [(0, .ref (ad 0)), (1, .int x1), (2, .int x2), (3, .int x3), (4, .int x4), (5, .int x5), (6, .int x6)] → va_P (dC, dI) vwCl (mW ad cI cZ m_thrown m_size m_outLong m_lines m_toldLines m_tokens m_places m_p m_pre m_end m_text m_out m_lineAt m_lineLong m_depth m_signed m_led m_told m_place m_begin m_tokenLong m_stemLong m_address m_letters m_stems m_s) H → va_D A (mW ad cI cZ m_thrown m_size m_outLong m_lines m_toldLines m_tokens m_places m_p m_pre m_end m_text m_out m_lineAt m_lineLong m_depth m_signed m_led m_told m_place m_begin m_tokenLong m_stemLong m_address m_letters m_stems m_s) → va_S A s.heap H locs → wjX8_put_83 (fun m_size m_text x6 => wlX8_put_20 post x1 x2 x3 x4 x5 m_thrown n20 m_size m_text x6) post x1 x2 x3 x4 x5 m_thrown m_size m_text x6 s0 → W p l e (headSpec wsX8_put ({ frames := 1, cells := 0, slots := 0, locals := 21 })).room s m ([.ref (ad 0), .int x1, .int x2, .int x3, .int x4, .int x5] : List Value).toArray below meth c H locs 0 0 (MQ below Qc ([.ref (ad 0), .int x1, .int x2, .int x3, .int x4, .int x5] : List Value).toArray s 0 0 A) (F0 m 83 ls [.int s0, .ref (ad 0)]) := by
        intro m_size m_text x6 s0 H locs ls hl hP hD hS h
        delta wjX8_put_83 at h
        refine xc_vv (As := [.int s0]) (rest := []) xG Fx (sX8_take l dC dI ad cI cZ sa sv m_thrown m_size m_outLong m_lines m_toldLines m_tokens m_places m_p m_pre m_end m_text m_out m_lineAt m_lineLong m_depth m_signed m_led m_told m_place m_begin m_tokenLong m_stemLong m_address m_letters m_stems m_s s0 h) (cwV 1 hts gX8_put_X8_take rfl rfl rfl hdX8_take ⟨Nat.le_of_ble_eq_true rfl, Nat.le_of_ble_eq_true rfl⟩) (va_recv hK hP (ci := 7) (q0 := 0) rfl rfl) hK hP hD hS hA hI rfl hl.1 rfl (Nat.le_of_ble_eq_true rfl) dX8_put_83 ⟨Nat.zero_le _, Nat.zero_le _⟩ (fun u H locs h hP hD hS => ?_)
        obtain ⟨m_size_2, m_text_3⟩ := u
        have hP : va_P (dC, dI) vwCl (mW ad cI cZ m_thrown m_size_2 m_outLong m_lines m_toldLines m_tokens m_places m_p m_pre m_end m_text_3 m_out m_lineAt m_lineLong m_depth m_signed m_led m_told m_place m_begin m_tokenLong m_stemLong m_address m_letters m_stems m_s) H := hP
        have hD : va_D A (mW ad cI cZ m_thrown m_size_2 m_outLong m_lines m_toldLines m_tokens m_places m_p m_pre m_end m_text_3 m_out m_lineAt m_lineLong m_depth m_signed m_led m_told m_place m_begin m_tokenLong m_stemLong m_address m_letters m_stems m_s) := hD
        obtain ⟨x6_4, ex6_4⟩ : ∃ y : Int32, y = x6 + 1 := ⟨_, rfl⟩
        have h := h x6_4 ex6_4
        refine lv_iinc (v := x6_4) (lv' := [(6, .int x6_4), (0, .ref (ad 0)), (1, .int x1), (2, .int x2), (3, .int x3), (4, .int x4), (5, .int x5)]) hx hb dX8_put_86 hl (k := 6) rfl (by rw [ex6_4]; rfl) (by decide) rfl (fun ls hl => ?_)
        refine lv_goto (tgt := 20) hx hb dX8_put_89 (by decide) ?_
        exact ih20 m_size_2 m_text_3 x6_4 H locs ls (lv_sub hl [1, 2, 3, 4, 5, 6, 0] rfl) hP hD hS h
      have J60 : ∀ (m_size : Int32) (m_text : Nat → Int32) (x6 : Int32) (s0 : Int32) (H : Heap) (locs : List Loc) (ls : Array Slot), lv_has ls 8 [(0, .ref (ad 0)), (1, .int x1), (2, .int x2), (3, .int x3), (4, .int x4), (5, .int x5), (6, .int x6)] → va_P (dC, dI) vwCl (mW ad cI cZ m_thrown m_size m_outLong m_lines m_toldLines m_tokens m_places m_p m_pre m_end m_text m_out m_lineAt m_lineLong m_depth m_signed m_led m_told m_place m_begin m_tokenLong m_stemLong m_address m_letters m_stems m_s) H → va_D A (mW ad cI cZ m_thrown m_size m_outLong m_lines m_toldLines m_tokens m_places m_p m_pre m_end m_text m_out m_lineAt m_lineLong m_depth m_signed m_led m_told m_place m_begin m_tokenLong m_stemLong m_address m_letters m_stems m_s) → va_S A s.heap H locs → wjX8_put_60 (fun m_size m_text x6 => wlX8_put_20 post x1 x2 x3 x4 x5 m_thrown n20 m_size m_text x6) post x1 x2 x3 x4 x5 m_thrown m_size m_text x6 s0 → W p l e (headSpec wsX8_put ({ frames := 1, cells := 0, slots := 0, locals := 21 })).room s m ([.ref (ad 0), .int x1, .int x2, .int x3, .int x4, .int x5] : List Value).toArray below meth c H locs 0 0 (MQ below Qc ([.ref (ad 0), .int x1, .int x2, .int x3, .int x4, .int x5] : List Value).toArray s 0 0 A) (F0 m 60 ls [.int s0]) := by
        intro m_size m_text x6 s0 H locs ls hl hP hD hS h
        delta wjX8_put_60 at h
        refine lv_istore (lv' := [(7, .int s0), (0, .ref (ad 0)), (1, .int x1), (2, .int x2), (3, .int x3), (4, .int x4), (5, .int x5), (6, .int x6)]) hx hb dX8_put_60 hl (by decide) rfl (fun ls hl => ?_)
        refine lv_aload_n hx hb dX8_put_62 rfl (lv_at hl 1 rfl) ?_
        refine lv_iload hx hb dX8_put_63 (lv_at hl 7 rfl) ?_
        refine lv_iconst (v := 2) hx hb dX8_put_65 (by decide) ?_
        refine lv_irem hx hb dX8_put_66 (by decide) ?_
        refine lv_if_ne (tgt := 78) hx hb dX8_put_67 (by decide) (fun c9 => ?_) (fun c9 => ?_)
        · have h := h.1 c9
          refine lv_iload hx hb dX8_put_78 (lv_at hl 0 rfl) ?_
          refine lv_ldc (v := 65535) hx hb hown (hts (.constant RX8 67 (65535)) (List.mem_of_getElem? (i := 2) rfl)) dX8_put_80 ?_
          refine lv_iand hx hb dX8_put_82 ?_
          exact J83 m_size m_text x6 (s0 &&& 65535) H locs ls (lv_sub hl [1, 2, 3, 4, 5, 6, 7] rfl) hP hD hS h
        · have h := h.2 c9
          refine lv_iload hx hb dX8_put_70 (lv_at hl 0 rfl) ?_
          refine lv_bipush (v := 16) hx hb dX8_put_72 (by decide) ?_
          refine lv_iushr hx hb dX8_put_74 rfl ?_
          refine lv_goto (tgt := 83) hx hb dX8_put_75 (by decide) ?_
          exact J83 m_size m_text x6 (((Int32.toUInt32 s0) >>> ((Int32.toUInt32 16) &&& Int32.toUInt32 31)).toInt32) H locs ls (lv_sub hl [1, 2, 3, 4, 5, 6, 7] rfl) hP hD hS h
      rw [wlX8_put_20] at h
      refine lv_iload hx hb dX8_put_20 (lv_at hl 6 rfl) ?_
      refine lv_iload_n hx hb dX8_put_22 rfl (lv_at hl 1 rfl) ?_
      refine lv_icmp_ge (tgt := 92) hx hb dX8_put_23 (by decide) (fun c9 => ?_) (fun c9 => ?_)
      · have h := h.1 c9
        refine lv_aload_n hx hb dX8_put_92 rfl (lv_at hl 0 rfl) ?_
        refine va_get (D := (dC, dI)) (ci := 7) (v := .int m_size) (C := RX8) (T := TX8) (N := 26) hx hb hts inX8 hown hK hP 0 rfl rfl 2 (by decide) (hts (.fieldLink RX8 64 "MailWordsModel" "size" "I") (List.mem_of_getElem? (i := 3) rfl)) (fun _ h9 => h9) rfl dX8_put_93 ?_
        exact W.iret (v := m_size) hx hb hr (fun t ht hW => hQ m_size (m_thrown, m_size, m_text) t h (by rw [ht]; exact hP) (va_K.moved hW.alike hK) hD (hS.F ht)) hS.2.2 dX8_put_96
      · have h := h.2 c9
        refine lv_iload hx hb dX8_put_26 (lv_at hl 6 rfl) ?_
        refine lv_iconst (v := 2) hx hb dX8_put_28 (by decide) ?_
        refine lv_icmp_ge (tgt := 36) hx hb dX8_put_29 (by decide) (fun c9 => ?_) (fun c9 => ?_)
        · have h := h.1 c9
          refine lv_iload hx hb dX8_put_36 (lv_at hl 6 rfl) ?_
          refine lv_iconst (v := 4) hx hb dX8_put_38 (by decide) ?_
          refine lv_icmp_ge (tgt := 46) hx hb dX8_put_39 (by decide) (fun c9 => ?_) (fun c9 => ?_)
          · have h := h.1 c9
            refine lv_iload hx hb dX8_put_46 (lv_at hl 6 rfl) ?_
            refine lv_bipush (v := 6) hx hb dX8_put_48 (by decide) ?_
            refine lv_icmp_ge (tgt := 58) hx hb dX8_put_50 (by decide) (fun c9 => ?_) (fun c9 => ?_)
            · have h := h.1 c9
              refine lv_iload hx hb dX8_put_58 (lv_at hl 5 rfl) ?_
              exact J60 m_size m_text x6 x5 H locs ls (lv_sub hl [0, 1, 2, 3, 4, 5, 6] rfl) hP hD hS h
            · have h := h.2 c9
              refine lv_iload hx hb dX8_put_53 (lv_at hl 4 rfl) ?_
              refine lv_goto (tgt := 60) hx hb dX8_put_55 (by decide) ?_
              exact J60 m_size m_text x6 x4 H locs ls (lv_sub hl [0, 1, 2, 3, 4, 5, 6] rfl) hP hD hS h
          · have h := h.2 c9
            refine lv_iload_n hx hb dX8_put_42 rfl (lv_at hl 3 rfl) ?_
            refine lv_goto (tgt := 60) hx hb dX8_put_43 (by decide) ?_
            exact J60 m_size m_text x6 x3 H locs ls (lv_sub hl [0, 1, 2, 3, 4, 5, 6] rfl) hP hD hS h
        · have h := h.2 c9
          refine lv_iload_n hx hb dX8_put_32 rfl (lv_at hl 2 rfl) ?_
          refine lv_goto (tgt := 60) hx hb dX8_put_33 (by decide) ?_
          exact J60 m_size m_text x6 x2 H locs ls (lv_sub hl [0, 1, 2, 3, 4, 5, 6] rfl) hP hD hS h
  intro H locs hP hD hS
  delta wpX8_put at h
  refine lv_aload_n hx hb dX8_put_0 rfl (lv_at hl 0 rfl) ?_
  refine lv_iconst (v := 0) hx hb dX8_put_1 (by decide) ?_
  refine va_put (D := (dC, dI)) (ci := 7) (v := .int 0) (ty := .int) (C := RX8) (T := TX8) (N := 26) hx hb hts inX8 tyX8 tyX8_ok nmX8 hown hK hP hD hS 0 rfl rfl 0 (by decide) (hts (.fieldLink RX8 60 "MailWordsModel" "thrown" "I") (List.mem_of_getElem? (i := 1) rfl)) (fun _ h9 => h9) rfl (tyX8_ok 0 (by decide)) rfl rfl (Nat.le_of_ble_eq_true rfl) dX8_put_2 (fun H locs hP hD hS => ?_)
  have hP : va_P (dC, dI) vwCl (mW ad cI cZ 0 m_size m_outLong m_lines m_toldLines m_tokens m_places m_p m_pre m_end m_text m_out m_lineAt m_lineLong m_depth m_signed m_led m_told m_place m_begin m_tokenLong m_stemLong m_address m_letters m_stems m_s) H := hP
  have hD : va_D A (mW ad cI cZ 0 m_size m_outLong m_lines m_toldLines m_tokens m_places m_p m_pre m_end m_text m_out m_lineAt m_lineLong m_depth m_signed m_led m_told m_place m_begin m_tokenLong m_stemLong m_address m_letters m_stems m_s) := hD
  refine lv_iload_n hx hb dX8_put_5 rfl (lv_at hl 1 rfl) ?_
  refine lv_if_lt (tgt := 15) hx hb dX8_put_6 (by decide) (fun c9 => ?_) (fun c9 => ?_)
  · have h := h.1 c9
    refine lv_iconst (v := (-1)) hx hb dX8_put_15 (by decide) ?_
    exact W.iret (v := (-1)) hx hb hr (fun t ht hW => hQ (-1) (0, m_size, m_text) t h (by rw [ht]; exact hP) (va_K.moved hW.alike hK) hD (hS.F ht)) hS.2.2 dX8_put_16
  · have h := h.2 c9
    refine lv_iload_n hx hb dX8_put_9 rfl (lv_at hl 1 rfl) ?_
    refine lv_bipush (v := 8) hx hb dX8_put_10 (by decide) ?_
    refine lv_icmp_le (tgt := 17) hx hb dX8_put_12 (by decide) (fun c9 => ?_) (fun c9 => ?_)
    · have h := h.1 c9
      refine lv_iconst (v := 0) hx hb dX8_put_17 (by decide) ?_
      refine lv_istore (lv' := [(6, .int 0), (0, .ref (ad 0)), (1, .int x1), (2, .int x2), (3, .int x3), (4, .int x4), (5, .int x5)]) hx hb dX8_put_18 hl (by decide) rfl (fun ls hl => ?_)
      obtain ⟨n, h⟩ := h
      exact L20 0 n m_size m_text 0 H locs ls (lv_sub hl [1, 2, 3, 4, 5, 6, 0] rfl) hP hD hS h
    · have h := h.2 c9
      refine lv_iconst (v := (-1)) hx hb dX8_put_15 (by decide) ?_
      exact W.iret (v := (-1)) hx hb hr (fun t ht hW => hQ (-1) (0, m_size, m_text) t h (by rw [ht]; exact hP) (va_K.moved hW.alike hK) hD (hS.F ht)) hS.2.2 dX8_put_16
set_option maxHeartbeats 4000000 in
set_option maxRecDepth 100000 in
theorem sX8_clear (l : Launch) (dC : Nat → ClassId) (dI : Nat → Nat → Nat) (ad : Nat → Nat) (cI cZ : ClassId) (sa sv : Nat → Nat) (m_thrown : Int32) (m_size : Int32) (m_outLong : Int32) (m_lines : Int32) (m_toldLines : Int32) (m_tokens : Int32) (m_places : Int32) (m_p : Int32) (m_pre : Int32) (m_end : Int32) (m_text : Nat → Int32) (m_out : Nat → Int32) (m_lineAt : Nat → Int32) (m_lineLong : Nat → Int32) (m_depth : Nat → Int32) (m_signed : Nat → Int32) (m_led : Nat → Int32) (m_told : Nat → Int32) (m_place : Nat → Int32) (m_begin : Nat → Int32) (m_tokenLong : Nat → Int32) (m_stemLong : Nat → Int32) (m_address : Nat → Int32) (m_letters : Nat → Int32) (m_stems : Nat → Int32) (m_s : Nat → Int32)  {post : Int32 → Int32 → Prop} (h : wpX8_clear post m_thrown m_size) : xMv l (dC, dI) vwCl [(cI, .int), (cZ, .boolean)] (sI sa sv) yX8_clear wsX8_clear ({ frames := 0, cells := 0, slots := 0, locals := 0 }) (mW ad cI cZ m_thrown m_size m_outLong m_lines m_toldLines m_tokens m_places m_p m_pre m_end m_text m_out m_lineAt m_lineLong m_depth m_signed m_led m_told m_place m_begin m_tokenLong m_stemLong m_address m_letters m_stems m_s) [.ref (ad 0)] (fun u : Int32 × Int32 => post u.1 u.2) (fun u : Int32 × Int32 => (mW ad cI cZ u.1 u.2 m_outLong m_lines m_toldLines m_tokens m_places m_p m_pre m_end m_text m_out m_lineAt m_lineLong m_depth m_signed m_led m_told m_place m_begin m_tokenLong m_stemLong m_address m_letters m_stems m_s)) := by
  intro sz
  refine Met.ofW (cc := cX8_clear) (maxL := 1) (ret := none) (by decide) rfl ?_
  intro p e s m args below meth c s₁ B hml hv
  obtain ⟨rfl, hsz, hP, hK, hD0, hI⟩ := hv
  have hx := B.exec
  have hb := B.bytes
  have hr := B.returns
  have hts := atoms_spec (ws := wsX8_clear) B.pre
  have hown : s.vm.findClass RX8 = some m.cls := findClass_of_methodNamed B.named
  have hlocks := B.notSynchronized
  subst hsz
  have hD := hD0.self (sz := s.heap.size)
  generalize hAe : va_A (mW ad cI cZ m_thrown m_size m_outLong m_lines m_toldLines m_tokens m_places m_p m_pre m_end m_text m_out m_lineAt m_lineLong m_depth m_signed m_led m_told m_place m_begin m_tokenLong m_stemLong m_address m_letters m_stems m_s) s.heap.size = A at hD hI ⊢
  have hA : ∀ q : Nat, s.heap.size ≤ q → A q := fun q h => by rw [← hAe]; exact Or.inr h
  have hS : va_S A s.heap s.heap [] := va_S.rf
  have Fx : CallFix p m c cX8_clear 1 s ([.ref (ad 0)] : List Value).toArray wsX8_clear RX8 := ⟨hx, hb, hml, hown, hts⟩
  have hQ : ∀ (u : Int32 × Int32) (t : State), (fun u : Int32 × Int32 => post u.1 u.2) u → va_P (dC, dI) vwCl ((fun u : Int32 × Int32 => (mW ad cI cZ u.1 u.2 m_outLong m_lines m_toldLines m_tokens m_places m_p m_pre m_end m_text m_out m_lineAt m_lineLong m_depth m_signed m_led m_told m_place m_begin m_tokenLong m_stemLong m_address m_letters m_stems m_s)) u) t.heap → va_K (dC, dI) vwCl [(cI, .int), (cZ, .boolean)] t → va_D A ((fun u : Int32 × Int32 => (mW ad cI cZ u.1 u.2 m_outLong m_lines m_toldLines m_tokens m_places m_p m_pre m_end m_text m_out m_lineAt m_lineLong m_depth m_signed m_led m_told m_place m_begin m_tokenLong m_stemLong m_address m_letters m_stems m_s)) u) → va_F A s t → (va_Qv (fun u : Int32 × Int32 => post u.1 u.2) (xB (dC, dI) vwCl [(cI, .int), (cZ, .boolean)] A (fun u : Int32 × Int32 => (mW ad cI cZ u.1 u.2 m_outLong m_lines m_toldLines m_tokens m_places m_p m_pre m_end m_text m_out m_lineAt m_lineLong m_depth m_signed m_led m_told m_place m_begin m_tokenLong m_stemLong m_address m_letters m_stems m_s))) A) ([.ref (ad 0)] : List Value).toArray s (.returned none) t := fun u t h1 h2 h3 h4 h5 => ⟨⟨u, rfl, h1, h2, h3, h4⟩, h5⟩
  generalize (va_Qv (fun u : Int32 × Int32 => post u.1 u.2) (xB (dC, dI) vwCl [(cI, .int), (cZ, .boolean)] A (fun u : Int32 × Int32 => (mW ad cI cZ u.1 u.2 m_outLong m_lines m_toldLines m_tokens m_places m_p m_pre m_end m_text m_out m_lineAt m_lineLong m_depth m_signed m_led m_told m_place m_begin m_tokenLong m_stemLong m_address m_letters m_stems m_s))) A) = Qc at hQ ⊢
  have hl := lv_entry ([.ref (ad 0)]) (n := 1) (Nat.le_of_ble_eq_true rfl)
  rw [lg_entry_eq]
  generalize (lg_sl ([.ref (ad 0)]) ++ List.replicate (1 - (lg_sl ([.ref (ad 0)])).length) Slot.unset).toArray = ls at hl ⊢
  have hl : lv_has ls 1 [(0, .ref (ad 0))] := hl
  refine (fun (key : ∀ (H : Heap) (locs : List Loc), va_P (dC, dI) vwCl (mW ad cI cZ m_thrown m_size m_outLong m_lines m_toldLines m_tokens m_places m_p m_pre m_end m_text m_out m_lineAt m_lineLong m_depth m_signed m_led m_told m_place m_begin m_tokenLong m_stemLong m_address m_letters m_stems m_s) H → va_D A (mW ad cI cZ m_thrown m_size m_outLong m_lines m_toldLines m_tokens m_places m_p m_pre m_end m_text m_out m_lineAt m_lineLong m_depth m_signed m_led m_told m_place m_begin m_tokenLong m_stemLong m_address m_letters m_stems m_s) → va_S A s.heap H locs → W p l e (headSpec wsX8_clear ({ frames := 0, cells := 0, slots := 0, locals := 0 })).room s m ([.ref (ad 0)] : List Value).toArray below meth c H locs 0 0 (MQ below Qc ([.ref (ad 0)] : List Value).toArray s 0 0 A) (F0 m 0 ls [])) => key _ _ hP hD hS) ?_
  have inX8 : ∀ w ∈ wsX80, w ∈ wsX8_clear := (fun _ h9 => List.mem_cons_of_mem _ (List.mem_append_right _ h9))
  intro H locs hP hD hS
  delta wpX8_clear at h
  refine lv_aload_n hx hb dX8_clear_0 rfl (lv_at hl 0 rfl) ?_
  refine lv_iconst (v := 0) hx hb dX8_clear_1 (by decide) ?_
  refine va_put (D := (dC, dI)) (ci := 7) (v := .int 0) (ty := .int) (C := RX8) (T := TX8) (N := 26) hx hb hts inX8 tyX8 tyX8_ok nmX8 hown hK hP hD hS 0 rfl rfl 0 (by decide) (hts (.fieldLink RX8 60 "MailWordsModel" "thrown" "I") (List.mem_of_getElem? (i := 1) rfl)) (fun _ h9 => h9) rfl (tyX8_ok 0 (by decide)) rfl rfl (Nat.le_of_ble_eq_true rfl) dX8_clear_2 (fun H locs hP hD hS => ?_)
  have hP : va_P (dC, dI) vwCl (mW ad cI cZ 0 m_size m_outLong m_lines m_toldLines m_tokens m_places m_p m_pre m_end m_text m_out m_lineAt m_lineLong m_depth m_signed m_led m_told m_place m_begin m_tokenLong m_stemLong m_address m_letters m_stems m_s) H := hP
  have hD : va_D A (mW ad cI cZ 0 m_size m_outLong m_lines m_toldLines m_tokens m_places m_p m_pre m_end m_text m_out m_lineAt m_lineLong m_depth m_signed m_led m_told m_place m_begin m_tokenLong m_stemLong m_address m_letters m_stems m_s) := hD
  refine lv_aload_n hx hb dX8_clear_5 rfl (lv_at hl 0 rfl) ?_
  refine lv_iconst (v := 0) hx hb dX8_clear_6 (by decide) ?_
  refine va_put (D := (dC, dI)) (ci := 7) (v := .int 0) (ty := .int) (C := RX8) (T := TX8) (N := 26) hx hb hts inX8 tyX8 tyX8_ok nmX8 hown hK hP hD hS 0 rfl rfl 2 (by decide) (hts (.fieldLink RX8 64 "MailWordsModel" "size" "I") (List.mem_of_getElem? (i := 2) rfl)) (fun _ h9 => h9) rfl (tyX8_ok 2 (by decide)) rfl rfl (Nat.le_of_ble_eq_true rfl) dX8_clear_7 (fun H locs hP hD hS => ?_)
  have hP : va_P (dC, dI) vwCl (mW ad cI cZ 0 0 m_outLong m_lines m_toldLines m_tokens m_places m_p m_pre m_end m_text m_out m_lineAt m_lineLong m_depth m_signed m_led m_told m_place m_begin m_tokenLong m_stemLong m_address m_letters m_stems m_s) H := hP
  have hD : va_D A (mW ad cI cZ 0 0 m_outLong m_lines m_toldLines m_tokens m_places m_p m_pre m_end m_text m_out m_lineAt m_lineLong m_depth m_signed m_led m_told m_place m_begin m_tokenLong m_stemLong m_address m_letters m_stems m_s) := hD
  exact W.vret hx hb hr (fun t ht hW => hQ (0, 0) t h (by rw [ht]; exact hP) (va_K.moved hW.alike hK) hD (hS.F ht)) hS.2.2 dX8_clear_10
set_option maxHeartbeats 4000000 in
set_option maxRecDepth 100000 in
theorem sX8_at (l : Launch) (dC : Nat → ClassId) (dI : Nat → Nat → Nat) (ad : Nat → Nat) (cI cZ : ClassId) (sa sv : Nat → Nat) (m_thrown : Int32) (m_size : Int32) (m_outLong : Int32) (m_lines : Int32) (m_toldLines : Int32) (m_tokens : Int32) (m_places : Int32) (m_p : Int32) (m_pre : Int32) (m_end : Int32) (m_text : Nat → Int32) (m_out : Nat → Int32) (m_lineAt : Nat → Int32) (m_lineLong : Nat → Int32) (m_depth : Nat → Int32) (m_signed : Nat → Int32) (m_led : Nat → Int32) (m_told : Nat → Int32) (m_place : Nat → Int32) (m_begin : Nat → Int32) (m_tokenLong : Nat → Int32) (m_stemLong : Nat → Int32) (m_address : Nat → Int32) (m_letters : Nat → Int32) (m_stems : Nat → Int32) (m_s : Nat → Int32) (x1 : Int32) {post : Int32 → Int32 → Prop} (h : wpX8_at post m_thrown m_size m_text x1) : xMi l (dC, dI) vwCl [(cI, .int), (cZ, .boolean)] (sI sa sv) yX8_at wsX8_at ({ frames := 0, cells := 0, slots := 0, locals := 0 }) (mW ad cI cZ m_thrown m_size m_outLong m_lines m_toldLines m_tokens m_places m_p m_pre m_end m_text m_out m_lineAt m_lineLong m_depth m_signed m_led m_told m_place m_begin m_tokenLong m_stemLong m_address m_letters m_stems m_s) [.ref (ad 0), .int x1] (fun (r : Int32) (u : Int32) => post r u) (fun u : Int32 => (mW ad cI cZ u m_size m_outLong m_lines m_toldLines m_tokens m_places m_p m_pre m_end m_text m_out m_lineAt m_lineLong m_depth m_signed m_led m_told m_place m_begin m_tokenLong m_stemLong m_address m_letters m_stems m_s)) := by
  intro sz
  refine Met.ofW (cc := cX8_at) (maxL := 2) (ret := (some .int)) (by decide) rfl ?_
  intro p e s m args below meth c s₁ B hml hv
  obtain ⟨rfl, hsz, hP, hK, hD0, hI⟩ := hv
  have hx := B.exec
  have hb := B.bytes
  have hr := B.returns
  have hts := atoms_spec (ws := wsX8_at) B.pre
  have hown : s.vm.findClass RX8 = some m.cls := findClass_of_methodNamed B.named
  have hlocks := B.notSynchronized
  subst hsz
  have hD := hD0.self (sz := s.heap.size)
  generalize hAe : va_A (mW ad cI cZ m_thrown m_size m_outLong m_lines m_toldLines m_tokens m_places m_p m_pre m_end m_text m_out m_lineAt m_lineLong m_depth m_signed m_led m_told m_place m_begin m_tokenLong m_stemLong m_address m_letters m_stems m_s) s.heap.size = A at hD hI ⊢
  have hA : ∀ q : Nat, s.heap.size ≤ q → A q := fun q h => by rw [← hAe]; exact Or.inr h
  have hS : va_S A s.heap s.heap [] := va_S.rf
  have Fx : CallFix p m c cX8_at 2 s ([.ref (ad 0), .int x1] : List Value).toArray wsX8_at RX8 := ⟨hx, hb, hml, hown, hts⟩
  have hQ : ∀ (r : Int32) (u : Int32) (t : State), (fun (r : Int32) (u : Int32) => post r u) r u → va_P (dC, dI) vwCl ((fun u : Int32 => (mW ad cI cZ u m_size m_outLong m_lines m_toldLines m_tokens m_places m_p m_pre m_end m_text m_out m_lineAt m_lineLong m_depth m_signed m_led m_told m_place m_begin m_tokenLong m_stemLong m_address m_letters m_stems m_s)) u) t.heap → va_K (dC, dI) vwCl [(cI, .int), (cZ, .boolean)] t → va_D A ((fun u : Int32 => (mW ad cI cZ u m_size m_outLong m_lines m_toldLines m_tokens m_places m_p m_pre m_end m_text m_out m_lineAt m_lineLong m_depth m_signed m_led m_told m_place m_begin m_tokenLong m_stemLong m_address m_letters m_stems m_s)) u) → va_F A s t → (va_Qi (fun (r : Int32) (u : Int32) => post r u) (xB (dC, dI) vwCl [(cI, .int), (cZ, .boolean)] A (fun u : Int32 => (mW ad cI cZ u m_size m_outLong m_lines m_toldLines m_tokens m_places m_p m_pre m_end m_text m_out m_lineAt m_lineLong m_depth m_signed m_led m_told m_place m_begin m_tokenLong m_stemLong m_address m_letters m_stems m_s))) A) ([.ref (ad 0), .int x1] : List Value).toArray s (.returned (some (.int r))) t := fun r u t h1 h2 h3 h4 h5 => ⟨⟨r, u, rfl, h1, h2, h3, h4⟩, h5⟩
  generalize (va_Qi (fun (r : Int32) (u : Int32) => post r u) (xB (dC, dI) vwCl [(cI, .int), (cZ, .boolean)] A (fun u : Int32 => (mW ad cI cZ u m_size m_outLong m_lines m_toldLines m_tokens m_places m_p m_pre m_end m_text m_out m_lineAt m_lineLong m_depth m_signed m_led m_told m_place m_begin m_tokenLong m_stemLong m_address m_letters m_stems m_s))) A) = Qc at hQ ⊢
  have hl := lv_entry ([.ref (ad 0), .int x1]) (n := 2) (Nat.le_of_ble_eq_true rfl)
  rw [lg_entry_eq]
  generalize (lg_sl ([.ref (ad 0), .int x1]) ++ List.replicate (2 - (lg_sl ([.ref (ad 0), .int x1])).length) Slot.unset).toArray = ls at hl ⊢
  have hl : lv_has ls 2 [(0, .ref (ad 0)), (1, .int x1)] := hl
  refine (fun (key : ∀ (H : Heap) (locs : List Loc), va_P (dC, dI) vwCl (mW ad cI cZ m_thrown m_size m_outLong m_lines m_toldLines m_tokens m_places m_p m_pre m_end m_text m_out m_lineAt m_lineLong m_depth m_signed m_led m_told m_place m_begin m_tokenLong m_stemLong m_address m_letters m_stems m_s) H → va_D A (mW ad cI cZ m_thrown m_size m_outLong m_lines m_toldLines m_tokens m_places m_p m_pre m_end m_text m_out m_lineAt m_lineLong m_depth m_signed m_led m_told m_place m_begin m_tokenLong m_stemLong m_address m_letters m_stems m_s) → va_S A s.heap H locs → W p l e (headSpec wsX8_at ({ frames := 0, cells := 0, slots := 0, locals := 0 })).room s m ([.ref (ad 0), .int x1] : List Value).toArray below meth c H locs 0 0 (MQ below Qc ([.ref (ad 0), .int x1] : List Value).toArray s 0 0 A) (F0 m 0 ls [])) => key _ _ hP hD hS) ?_
  have inX8 : ∀ w ∈ wsX80, w ∈ wsX8_at := (fun _ h9 => List.mem_cons_of_mem _ (List.mem_append_right _ h9))
  intro H locs hP hD hS
  delta wpX8_at at h
  refine lv_aload_n hx hb dX8_at_0 rfl (lv_at hl 0 rfl) ?_
  refine lv_iconst (v := 0) hx hb dX8_at_1 (by decide) ?_
  refine va_put (D := (dC, dI)) (ci := 7) (v := .int 0) (ty := .int) (C := RX8) (T := TX8) (N := 26) hx hb hts inX8 tyX8 tyX8_ok nmX8 hown hK hP hD hS 0 rfl rfl 0 (by decide) (hts (.fieldLink RX8 60 "MailWordsModel" "thrown" "I") (List.mem_of_getElem? (i := 1) rfl)) (fun _ h9 => h9) rfl (tyX8_ok 0 (by decide)) rfl rfl (Nat.le_of_ble_eq_true rfl) dX8_at_2 (fun H locs hP hD hS => ?_)
  have hP : va_P (dC, dI) vwCl (mW ad cI cZ 0 m_size m_outLong m_lines m_toldLines m_tokens m_places m_p m_pre m_end m_text m_out m_lineAt m_lineLong m_depth m_signed m_led m_told m_place m_begin m_tokenLong m_stemLong m_address m_letters m_stems m_s) H := hP
  have hD : va_D A (mW ad cI cZ 0 m_size m_outLong m_lines m_toldLines m_tokens m_places m_p m_pre m_end m_text m_out m_lineAt m_lineLong m_depth m_signed m_led m_told m_place m_begin m_tokenLong m_stemLong m_address m_letters m_stems m_s) := hD
  refine lv_iload_n hx hb dX8_at_5 rfl (lv_at hl 1 rfl) ?_
  refine lv_if_lt (tgt := 17) hx hb dX8_at_6 (by decide) (fun c9 => ?_) (fun c9 => ?_)
  · have h := h.1 c9
    refine lv_iconst (v := (-1)) hx hb dX8_at_17 (by decide) ?_
    refine lv_goto (tgt := 27) hx hb dX8_at_18 (by decide) ?_
    exact W.iret (v := (-1)) hx hb hr (fun t ht hW => hQ (-1) 0 t h (by rw [ht]; exact hP) (va_K.moved hW.alike hK) hD (hS.F ht)) hS.2.2 dX8_at_27
  · have h := h.2 c9
    refine lv_iload_n hx hb dX8_at_9 rfl (lv_at hl 1 rfl) ?_
    refine lv_aload_n hx hb dX8_at_10 rfl (lv_at hl 0 rfl) ?_
    refine va_get (D := (dC, dI)) (ci := 7) (v := .int m_size) (C := RX8) (T := TX8) (N := 26) hx hb hts inX8 hown hK hP 0 rfl rfl 2 (by decide) (hts (.fieldLink RX8 64 "MailWordsModel" "size" "I") (List.mem_of_getElem? (i := 2) rfl)) (fun _ h9 => h9) rfl dX8_at_11 ?_
    refine lv_icmp_lt (tgt := 21) hx hb dX8_at_14 (by decide) (fun c9 => ?_) (fun c9 => ?_)
    · have h := h.1 c9
      refine lv_aload_n hx hb dX8_at_21 rfl (lv_at hl 0 rfl) ?_
      refine va_get (D := (dC, dI)) (ci := 7) (v := .ref (ad 1)) (C := RX8) (T := TX8) (N := 26) hx hb hts inX8 hown hK hP 0 rfl rfl 1 (by decide) (hts (.fieldLink RX8 7 "MailWordsModel" "text" "[I") (List.mem_of_getElem? (i := 3) rfl)) (fun _ h9 => h9) rfl dX8_at_22 ?_
      refine lv_iload_n hx hb dX8_at_25 rfl (lv_at hl 1 rfl) ?_
      have hi9 := h.1
      have h := h.2
      refine va_iald hx hb hK hP 1 0 rfl rfl hi9 dX8_at_26 ?_
      exact W.iret (v := (m_text x1.toNatClampNeg)) hx hb hr (fun t ht hW => hQ (m_text x1.toNatClampNeg) 0 t h (by rw [ht]; exact hP) (va_K.moved hW.alike hK) hD (hS.F ht)) hS.2.2 dX8_at_27
    · have h := h.2 c9
      refine lv_iconst (v := (-1)) hx hb dX8_at_17 (by decide) ?_
      refine lv_goto (tgt := 27) hx hb dX8_at_18 (by decide) ?_
      exact W.iret (v := (-1)) hx hb hr (fun t ht hW => hQ (-1) 0 t h (by rw [ht]; exact hP) (va_K.moved hW.alike hK) hD (hS.F ht)) hS.2.2 dX8_at_27
set_option maxHeartbeats 4000000 in
set_option maxRecDepth 100000 in
theorem sX8_look (l : Launch) (dC : Nat → ClassId) (dI : Nat → Nat → Nat) (ad : Nat → Nat) (cI cZ : ClassId) (sa sv : Nat → Nat) (m_thrown : Int32) (m_size : Int32) (m_outLong : Int32) (m_lines : Int32) (m_toldLines : Int32) (m_tokens : Int32) (m_places : Int32) (m_p : Int32) (m_pre : Int32) (m_end : Int32) (m_text : Nat → Int32) (m_out : Nat → Int32) (m_lineAt : Nat → Int32) (m_lineLong : Nat → Int32) (m_depth : Nat → Int32) (m_signed : Nat → Int32) (m_led : Nat → Int32) (m_told : Nat → Int32) (m_place : Nat → Int32) (m_begin : Nat → Int32) (m_tokenLong : Nat → Int32) (m_stemLong : Nat → Int32) (m_address : Nat → Int32) (m_letters : Nat → Int32) (m_stems : Nat → Int32) (m_s : Nat → Int32) (x1 : Int32) {post : Int32 → Prop} (h : wpX8_look post m_size m_text x1) : xMi l (dC, dI) vwCl [(cI, .int), (cZ, .boolean)] (sI sa sv) yX8_look wsX8_look ({ frames := 0, cells := 0, slots := 0, locals := 0 }) (mW ad cI cZ m_thrown m_size m_outLong m_lines m_toldLines m_tokens m_places m_p m_pre m_end m_text m_out m_lineAt m_lineLong m_depth m_signed m_led m_told m_place m_begin m_tokenLong m_stemLong m_address m_letters m_stems m_s) [.ref (ad 0), .int x1] (fun (r : Int32) (u : Unit) => post r ) (fun u : Unit => (mW ad cI cZ m_thrown m_size m_outLong m_lines m_toldLines m_tokens m_places m_p m_pre m_end m_text m_out m_lineAt m_lineLong m_depth m_signed m_led m_told m_place m_begin m_tokenLong m_stemLong m_address m_letters m_stems m_s)) := by
  intro sz
  refine Met.ofW (cc := cX8_look) (maxL := 2) (ret := (some .int)) (by decide) rfl ?_
  intro p e s m args below meth c s₁ B hml hv
  obtain ⟨rfl, hsz, hP, hK, hD0, hI⟩ := hv
  have hx := B.exec
  have hb := B.bytes
  have hr := B.returns
  have hts := atoms_spec (ws := wsX8_look) B.pre
  have hown : s.vm.findClass RX8 = some m.cls := findClass_of_methodNamed B.named
  have hlocks := B.notSynchronized
  subst hsz
  have hD := hD0.self (sz := s.heap.size)
  generalize hAe : va_A (mW ad cI cZ m_thrown m_size m_outLong m_lines m_toldLines m_tokens m_places m_p m_pre m_end m_text m_out m_lineAt m_lineLong m_depth m_signed m_led m_told m_place m_begin m_tokenLong m_stemLong m_address m_letters m_stems m_s) s.heap.size = A at hD hI ⊢
  have hA : ∀ q : Nat, s.heap.size ≤ q → A q := fun q h => by rw [← hAe]; exact Or.inr h
  have hS : va_S A s.heap s.heap [] := va_S.rf
  have Fx : CallFix p m c cX8_look 2 s ([.ref (ad 0), .int x1] : List Value).toArray wsX8_look RX8 := ⟨hx, hb, hml, hown, hts⟩
  have hQ : ∀ (r : Int32) (u : Unit) (t : State), (fun (r : Int32) (u : Unit) => post r ) r u → va_P (dC, dI) vwCl ((fun u : Unit => (mW ad cI cZ m_thrown m_size m_outLong m_lines m_toldLines m_tokens m_places m_p m_pre m_end m_text m_out m_lineAt m_lineLong m_depth m_signed m_led m_told m_place m_begin m_tokenLong m_stemLong m_address m_letters m_stems m_s)) u) t.heap → va_K (dC, dI) vwCl [(cI, .int), (cZ, .boolean)] t → va_D A ((fun u : Unit => (mW ad cI cZ m_thrown m_size m_outLong m_lines m_toldLines m_tokens m_places m_p m_pre m_end m_text m_out m_lineAt m_lineLong m_depth m_signed m_led m_told m_place m_begin m_tokenLong m_stemLong m_address m_letters m_stems m_s)) u) → va_F A s t → (va_Qi (fun (r : Int32) (u : Unit) => post r ) (xB (dC, dI) vwCl [(cI, .int), (cZ, .boolean)] A (fun u : Unit => (mW ad cI cZ m_thrown m_size m_outLong m_lines m_toldLines m_tokens m_places m_p m_pre m_end m_text m_out m_lineAt m_lineLong m_depth m_signed m_led m_told m_place m_begin m_tokenLong m_stemLong m_address m_letters m_stems m_s))) A) ([.ref (ad 0), .int x1] : List Value).toArray s (.returned (some (.int r))) t := fun r u t h1 h2 h3 h4 h5 => ⟨⟨r, u, rfl, h1, h2, h3, h4⟩, h5⟩
  generalize (va_Qi (fun (r : Int32) (u : Unit) => post r ) (xB (dC, dI) vwCl [(cI, .int), (cZ, .boolean)] A (fun u : Unit => (mW ad cI cZ m_thrown m_size m_outLong m_lines m_toldLines m_tokens m_places m_p m_pre m_end m_text m_out m_lineAt m_lineLong m_depth m_signed m_led m_told m_place m_begin m_tokenLong m_stemLong m_address m_letters m_stems m_s))) A) = Qc at hQ ⊢
  have hl := lv_entry ([.ref (ad 0), .int x1]) (n := 2) (Nat.le_of_ble_eq_true rfl)
  rw [lg_entry_eq]
  generalize (lg_sl ([.ref (ad 0), .int x1]) ++ List.replicate (2 - (lg_sl ([.ref (ad 0), .int x1])).length) Slot.unset).toArray = ls at hl ⊢
  have hl : lv_has ls 2 [(0, .ref (ad 0)), (1, .int x1)] := hl
  refine (fun (key : ∀ (H : Heap) (locs : List Loc), va_P (dC, dI) vwCl (mW ad cI cZ m_thrown m_size m_outLong m_lines m_toldLines m_tokens m_places m_p m_pre m_end m_text m_out m_lineAt m_lineLong m_depth m_signed m_led m_told m_place m_begin m_tokenLong m_stemLong m_address m_letters m_stems m_s) H → va_D A (mW ad cI cZ m_thrown m_size m_outLong m_lines m_toldLines m_tokens m_places m_p m_pre m_end m_text m_out m_lineAt m_lineLong m_depth m_signed m_led m_told m_place m_begin m_tokenLong m_stemLong m_address m_letters m_stems m_s) → va_S A s.heap H locs → W p l e (headSpec wsX8_look ({ frames := 0, cells := 0, slots := 0, locals := 0 })).room s m ([.ref (ad 0), .int x1] : List Value).toArray below meth c H locs 0 0 (MQ below Qc ([.ref (ad 0), .int x1] : List Value).toArray s 0 0 A) (F0 m 0 ls [])) => key _ _ hP hD hS) ?_
  have inX8 : ∀ w ∈ wsX80, w ∈ wsX8_look := (fun _ h9 => List.mem_cons_of_mem _ (List.mem_append_right _ h9))
  intro H locs hP hD hS
  delta wpX8_look at h
  refine lv_iload_n hx hb dX8_look_0 rfl (lv_at hl 1 rfl) ?_
  refine lv_aload_n hx hb dX8_look_1 rfl (lv_at hl 0 rfl) ?_
  refine va_get (D := (dC, dI)) (ci := 7) (v := .int m_size) (C := RX8) (T := TX8) (N := 26) hx hb hts inX8 hown hK hP 0 rfl rfl 2 (by decide) (hts (.fieldLink RX8 64 "MailWordsModel" "size" "I") (List.mem_of_getElem? (i := 1) rfl)) (fun _ h9 => h9) rfl dX8_look_2 ?_
  refine lv_icmp_ge (tgt := 17) hx hb dX8_look_5 (by decide) (fun c9 => ?_) (fun c9 => ?_)
  · have h := h.1 c9
    refine lv_iconst (v := (-1)) hx hb dX8_look_17 (by decide) ?_
    exact W.iret (v := (-1)) hx hb hr (fun t ht hW => hQ (-1) () t h (by rw [ht]; exact hP) (va_K.moved hW.alike hK) hD (hS.F ht)) hS.2.2 dX8_look_18
  · have h := h.2 c9
    refine lv_aload_n hx hb dX8_look_8 rfl (lv_at hl 0 rfl) ?_
    refine va_get (D := (dC, dI)) (ci := 7) (v := .ref (ad 1)) (C := RX8) (T := TX8) (N := 26) hx hb hts inX8 hown hK hP 0 rfl rfl 1 (by decide) (hts (.fieldLink RX8 7 "MailWordsModel" "text" "[I") (List.mem_of_getElem? (i := 2) rfl)) (fun _ h9 => h9) rfl dX8_look_9 ?_
    refine lv_iload_n hx hb dX8_look_12 rfl (lv_at hl 1 rfl) ?_
    have hi9 := h.1
    have h := h.2
    refine va_iald hx hb hK hP 1 0 rfl rfl hi9 dX8_look_13 ?_
    refine lv_goto (tgt := 18) hx hb dX8_look_14 (by decide) ?_
    exact W.iret (v := (m_text x1.toNatClampNeg)) hx hb hr (fun t ht hW => hQ (m_text x1.toNatClampNeg) () t h (by rw [ht]; exact hP) (va_K.moved hW.alike hK) hD (hS.F ht)) hS.2.2 dX8_look_18
set_option maxHeartbeats 4000000 in
set_option maxRecDepth 100000 in
theorem sX8_isPlain (l : Launch) (dC : Nat → ClassId) (dI : Nat → Nat → Nat) (ad : Nat → Nat) (cI cZ : ClassId) (sa sv : Nat → Nat) (m_thrown : Int32) (m_size : Int32) (m_outLong : Int32) (m_lines : Int32) (m_toldLines : Int32) (m_tokens : Int32) (m_places : Int32) (m_p : Int32) (m_pre : Int32) (m_end : Int32) (m_text : Nat → Int32) (m_out : Nat → Int32) (m_lineAt : Nat → Int32) (m_lineLong : Nat → Int32) (m_depth : Nat → Int32) (m_signed : Nat → Int32) (m_led : Nat → Int32) (m_told : Nat → Int32) (m_place : Nat → Int32) (m_begin : Nat → Int32) (m_tokenLong : Nat → Int32) (m_stemLong : Nat → Int32) (m_address : Nat → Int32) (m_letters : Nat → Int32) (m_stems : Nat → Int32) (m_s : Nat → Int32) (x0 : Int32) {post : Int32 → Prop} (h : wpX8_isPlain post x0) : xMi l (dC, dI) vwCl [(cI, .int), (cZ, .boolean)] (sI sa sv) yX8_isPlain wsX8_isPlain ({ frames := 0, cells := 0, slots := 0, locals := 0 }) (mW ad cI cZ m_thrown m_size m_outLong m_lines m_toldLines m_tokens m_places m_p m_pre m_end m_text m_out m_lineAt m_lineLong m_depth m_signed m_led m_told m_place m_begin m_tokenLong m_stemLong m_address m_letters m_stems m_s) [.int x0] (fun (r : Int32) (u : Unit) => post r ) (fun u : Unit => (mW ad cI cZ m_thrown m_size m_outLong m_lines m_toldLines m_tokens m_places m_p m_pre m_end m_text m_out m_lineAt m_lineLong m_depth m_signed m_led m_told m_place m_begin m_tokenLong m_stemLong m_address m_letters m_stems m_s)) := by
  intro sz
  refine Met.ofW (cc := cX8_isPlain) (maxL := 1) (ret := (some .boolean)) (by decide) rfl ?_
  intro p e s m args below meth c s₁ B hml hv
  obtain ⟨rfl, hsz, hP, hK, hD0, hI⟩ := hv
  have hx := B.exec
  have hb := B.bytes
  have hr := B.returns
  have hts := atoms_spec (ws := wsX8_isPlain) B.pre
  have hown : s.vm.findClass RX8 = some m.cls := findClass_of_methodNamed B.named
  have hlocks := B.notSynchronized
  subst hsz
  have hD := hD0.self (sz := s.heap.size)
  generalize hAe : va_A (mW ad cI cZ m_thrown m_size m_outLong m_lines m_toldLines m_tokens m_places m_p m_pre m_end m_text m_out m_lineAt m_lineLong m_depth m_signed m_led m_told m_place m_begin m_tokenLong m_stemLong m_address m_letters m_stems m_s) s.heap.size = A at hD hI ⊢
  have hA : ∀ q : Nat, s.heap.size ≤ q → A q := fun q h => by rw [← hAe]; exact Or.inr h
  have hS : va_S A s.heap s.heap [] := va_S.rf
  have Fx : CallFix p m c cX8_isPlain 1 s ([.int x0] : List Value).toArray wsX8_isPlain RX8 := ⟨hx, hb, hml, hown, hts⟩
  have hQ : ∀ (r : Int32) (u : Unit) (t : State), (fun (r : Int32) (u : Unit) => post r ) r u → va_P (dC, dI) vwCl ((fun u : Unit => (mW ad cI cZ m_thrown m_size m_outLong m_lines m_toldLines m_tokens m_places m_p m_pre m_end m_text m_out m_lineAt m_lineLong m_depth m_signed m_led m_told m_place m_begin m_tokenLong m_stemLong m_address m_letters m_stems m_s)) u) t.heap → va_K (dC, dI) vwCl [(cI, .int), (cZ, .boolean)] t → va_D A ((fun u : Unit => (mW ad cI cZ m_thrown m_size m_outLong m_lines m_toldLines m_tokens m_places m_p m_pre m_end m_text m_out m_lineAt m_lineLong m_depth m_signed m_led m_told m_place m_begin m_tokenLong m_stemLong m_address m_letters m_stems m_s)) u) → va_F A s t → (va_Qi (fun (r : Int32) (u : Unit) => post r ) (xB (dC, dI) vwCl [(cI, .int), (cZ, .boolean)] A (fun u : Unit => (mW ad cI cZ m_thrown m_size m_outLong m_lines m_toldLines m_tokens m_places m_p m_pre m_end m_text m_out m_lineAt m_lineLong m_depth m_signed m_led m_told m_place m_begin m_tokenLong m_stemLong m_address m_letters m_stems m_s))) A) ([.int x0] : List Value).toArray s (.returned (some (.int r))) t := fun r u t h1 h2 h3 h4 h5 => ⟨⟨r, u, rfl, h1, h2, h3, h4⟩, h5⟩
  generalize (va_Qi (fun (r : Int32) (u : Unit) => post r ) (xB (dC, dI) vwCl [(cI, .int), (cZ, .boolean)] A (fun u : Unit => (mW ad cI cZ m_thrown m_size m_outLong m_lines m_toldLines m_tokens m_places m_p m_pre m_end m_text m_out m_lineAt m_lineLong m_depth m_signed m_led m_told m_place m_begin m_tokenLong m_stemLong m_address m_letters m_stems m_s))) A) = Qc at hQ ⊢
  have hl := lv_entry ([.int x0]) (n := 1) (Nat.le_of_ble_eq_true rfl)
  rw [lg_entry_eq]
  generalize (lg_sl ([.int x0]) ++ List.replicate (1 - (lg_sl ([.int x0])).length) Slot.unset).toArray = ls at hl ⊢
  have hl : lv_has ls 1 [(0, .int x0)] := hl
  refine (fun (key : ∀ (H : Heap) (locs : List Loc), va_P (dC, dI) vwCl (mW ad cI cZ m_thrown m_size m_outLong m_lines m_toldLines m_tokens m_places m_p m_pre m_end m_text m_out m_lineAt m_lineLong m_depth m_signed m_led m_told m_place m_begin m_tokenLong m_stemLong m_address m_letters m_stems m_s) H → va_D A (mW ad cI cZ m_thrown m_size m_outLong m_lines m_toldLines m_tokens m_places m_p m_pre m_end m_text m_out m_lineAt m_lineLong m_depth m_signed m_led m_told m_place m_begin m_tokenLong m_stemLong m_address m_letters m_stems m_s) → va_S A s.heap H locs → W p l e (headSpec wsX8_isPlain ({ frames := 0, cells := 0, slots := 0, locals := 0 })).room s m ([.int x0] : List Value).toArray below meth c H locs 0 0 (MQ below Qc ([.int x0] : List Value).toArray s 0 0 A) (F0 m 0 ls [])) => key _ _ hP hD hS) ?_
  have J12 : ∀ (H : Heap) (locs : List Loc) (ls : Array Slot), lv_has ls 1 [(0, .int x0)] → va_P (dC, dI) vwCl (mW ad cI cZ m_thrown m_size m_outLong m_lines m_toldLines m_tokens m_places m_p m_pre m_end m_text m_out m_lineAt m_lineLong m_depth m_signed m_led m_told m_place m_begin m_tokenLong m_stemLong m_address m_letters m_stems m_s) H → va_D A (mW ad cI cZ m_thrown m_size m_outLong m_lines m_toldLines m_tokens m_places m_p m_pre m_end m_text m_out m_lineAt m_lineLong m_depth m_signed m_led m_told m_place m_begin m_tokenLong m_stemLong m_address m_letters m_stems m_s) → va_S A s.heap H locs → wjX8_isPlain_12 post x0  → W p l e (headSpec wsX8_isPlain ({ frames := 0, cells := 0, slots := 0, locals := 0 })).room s m ([.int x0] : List Value).toArray below meth c H locs 0 0 (MQ below Qc ([.int x0] : List Value).toArray s 0 0 A) (F0 m 12 ls []) := by
    intro  H locs ls hl hP hD hS h
    delta wjX8_isPlain_12 at h
    refine lv_iload_n hx hb dX8_isPlain_12 rfl (lv_at hl 0 rfl) ?_
    refine lv_bipush (v := 97) hx hb dX8_isPlain_13 (by decide) ?_
    refine lv_icmp_lt (tgt := 28) hx hb dX8_isPlain_15 (by decide) (fun c9 => ?_) (fun c9 => ?_)
    · have h := h.1 c9
      refine lv_iconst (v := 0) hx hb dX8_isPlain_28 (by decide) ?_
      exact W.zret (v := 0) hx hb hr (bN_nar bN0) (fun t ht hW => hQ 0 () t h (by rw [ht]; exact hP) (va_K.moved hW.alike hK) hD (hS.F ht)) hS.2.2 dX8_isPlain_29
    · have h := h.2 c9
      refine lv_iload_n hx hb dX8_isPlain_18 rfl (lv_at hl 0 rfl) ?_
      refine lv_bipush (v := 122) hx hb dX8_isPlain_19 (by decide) ?_
      refine lv_icmp_gt (tgt := 28) hx hb dX8_isPlain_21 (by decide) (fun c9 => ?_) (fun c9 => ?_)
      · have h := h.1 c9
        refine lv_iconst (v := 0) hx hb dX8_isPlain_28 (by decide) ?_
        exact W.zret (v := 0) hx hb hr (bN_nar bN0) (fun t ht hW => hQ 0 () t h (by rw [ht]; exact hP) (va_K.moved hW.alike hK) hD (hS.F ht)) hS.2.2 dX8_isPlain_29
      · have h := h.2 c9
        refine lv_iconst (v := 1) hx hb dX8_isPlain_24 (by decide) ?_
        refine lv_goto (tgt := 29) hx hb dX8_isPlain_25 (by decide) ?_
        exact W.zret (v := 1) hx hb hr (bN_nar bN1) (fun t ht hW => hQ 1 () t h (by rw [ht]; exact hP) (va_K.moved hW.alike hK) hD (hS.F ht)) hS.2.2 dX8_isPlain_29
  intro H locs hP hD hS
  delta wpX8_isPlain at h
  refine lv_iload_n hx hb dX8_isPlain_0 rfl (lv_at hl 0 rfl) ?_
  refine lv_bipush (v := 65) hx hb dX8_isPlain_1 (by decide) ?_
  refine lv_icmp_lt (tgt := 12) hx hb dX8_isPlain_3 (by decide) (fun c9 => ?_) (fun c9 => ?_)
  · have h := h.1 c9
    exact J12  H locs ls (lv_sub hl [0] rfl) hP hD hS h
  · have h := h.2 c9
    refine lv_iload_n hx hb dX8_isPlain_6 rfl (lv_at hl 0 rfl) ?_
    refine lv_bipush (v := 90) hx hb dX8_isPlain_7 (by decide) ?_
    refine lv_icmp_le (tgt := 24) hx hb dX8_isPlain_9 (by decide) (fun c9 => ?_) (fun c9 => ?_)
    · have h := h.1 c9
      refine lv_iconst (v := 1) hx hb dX8_isPlain_24 (by decide) ?_
      refine lv_goto (tgt := 29) hx hb dX8_isPlain_25 (by decide) ?_
      exact W.zret (v := 1) hx hb hr (bN_nar bN1) (fun t ht hW => hQ 1 () t h (by rw [ht]; exact hP) (va_K.moved hW.alike hK) hD (hS.F ht)) hS.2.2 dX8_isPlain_29
    · have h := h.2 c9
      exact J12  H locs ls (lv_sub hl [0] rfl) hP hD hS h
set_option maxHeartbeats 4000000 in
set_option maxRecDepth 100000 in
theorem sX8_isLetter (l : Launch) (dC : Nat → ClassId) (dI : Nat → Nat → Nat) (ad : Nat → Nat) (cI cZ : ClassId) (sa sv : Nat → Nat) (m_thrown : Int32) (m_size : Int32) (m_outLong : Int32) (m_lines : Int32) (m_toldLines : Int32) (m_tokens : Int32) (m_places : Int32) (m_p : Int32) (m_pre : Int32) (m_end : Int32) (m_text : Nat → Int32) (m_out : Nat → Int32) (m_lineAt : Nat → Int32) (m_lineLong : Nat → Int32) (m_depth : Nat → Int32) (m_signed : Nat → Int32) (m_led : Nat → Int32) (m_told : Nat → Int32) (m_place : Nat → Int32) (m_begin : Nat → Int32) (m_tokenLong : Nat → Int32) (m_stemLong : Nat → Int32) (m_address : Nat → Int32) (m_letters : Nat → Int32) (m_stems : Nat → Int32) (m_s : Nat → Int32) (x0 : Int32) {post : Int32 → Prop} (h : wpX8_isLetter post x0) : xMi l (dC, dI) vwCl [(cI, .int), (cZ, .boolean)] (sI sa sv) yX8_isLetter wsX8_isLetter ({ frames := 1, cells := 0, slots := 0, locals := 20 }) (mW ad cI cZ m_thrown m_size m_outLong m_lines m_toldLines m_tokens m_places m_p m_pre m_end m_text m_out m_lineAt m_lineLong m_depth m_signed m_led m_told m_place m_begin m_tokenLong m_stemLong m_address m_letters m_stems m_s) [.int x0] (fun (r : Int32) (u : Unit) => post r ) (fun u : Unit => (mW ad cI cZ m_thrown m_size m_outLong m_lines m_toldLines m_tokens m_places m_p m_pre m_end m_text m_out m_lineAt m_lineLong m_depth m_signed m_led m_told m_place m_begin m_tokenLong m_stemLong m_address m_letters m_stems m_s)) := by
  intro sz
  refine Met.ofW (cc := cX8_isLetter) (maxL := 1) (ret := (some .boolean)) (by decide) rfl ?_
  intro p e s m args below meth c s₁ B hml hv
  obtain ⟨rfl, hsz, hP, hK, hD0, hI⟩ := hv
  have hx := B.exec
  have hb := B.bytes
  have hr := B.returns
  have hts := atoms_spec (ws := wsX8_isLetter) B.pre
  have hown : s.vm.findClass RX8 = some m.cls := findClass_of_methodNamed B.named
  have hlocks := B.notSynchronized
  subst hsz
  have hD := hD0.self (sz := s.heap.size)
  generalize hAe : va_A (mW ad cI cZ m_thrown m_size m_outLong m_lines m_toldLines m_tokens m_places m_p m_pre m_end m_text m_out m_lineAt m_lineLong m_depth m_signed m_led m_told m_place m_begin m_tokenLong m_stemLong m_address m_letters m_stems m_s) s.heap.size = A at hD hI ⊢
  have hA : ∀ q : Nat, s.heap.size ≤ q → A q := fun q h => by rw [← hAe]; exact Or.inr h
  have hS : va_S A s.heap s.heap [] := va_S.rf
  have Fx : CallFix p m c cX8_isLetter 1 s ([.int x0] : List Value).toArray wsX8_isLetter RX8 := ⟨hx, hb, hml, hown, hts⟩
  have hQ : ∀ (r : Int32) (u : Unit) (t : State), (fun (r : Int32) (u : Unit) => post r ) r u → va_P (dC, dI) vwCl ((fun u : Unit => (mW ad cI cZ m_thrown m_size m_outLong m_lines m_toldLines m_tokens m_places m_p m_pre m_end m_text m_out m_lineAt m_lineLong m_depth m_signed m_led m_told m_place m_begin m_tokenLong m_stemLong m_address m_letters m_stems m_s)) u) t.heap → va_K (dC, dI) vwCl [(cI, .int), (cZ, .boolean)] t → va_D A ((fun u : Unit => (mW ad cI cZ m_thrown m_size m_outLong m_lines m_toldLines m_tokens m_places m_p m_pre m_end m_text m_out m_lineAt m_lineLong m_depth m_signed m_led m_told m_place m_begin m_tokenLong m_stemLong m_address m_letters m_stems m_s)) u) → va_F A s t → (va_Qi (fun (r : Int32) (u : Unit) => post r ) (xB (dC, dI) vwCl [(cI, .int), (cZ, .boolean)] A (fun u : Unit => (mW ad cI cZ m_thrown m_size m_outLong m_lines m_toldLines m_tokens m_places m_p m_pre m_end m_text m_out m_lineAt m_lineLong m_depth m_signed m_led m_told m_place m_begin m_tokenLong m_stemLong m_address m_letters m_stems m_s))) A) ([.int x0] : List Value).toArray s (.returned (some (.int r))) t := fun r u t h1 h2 h3 h4 h5 => ⟨⟨r, u, rfl, h1, h2, h3, h4⟩, h5⟩
  generalize (va_Qi (fun (r : Int32) (u : Unit) => post r ) (xB (dC, dI) vwCl [(cI, .int), (cZ, .boolean)] A (fun u : Unit => (mW ad cI cZ m_thrown m_size m_outLong m_lines m_toldLines m_tokens m_places m_p m_pre m_end m_text m_out m_lineAt m_lineLong m_depth m_signed m_led m_told m_place m_begin m_tokenLong m_stemLong m_address m_letters m_stems m_s))) A) = Qc at hQ ⊢
  have hl := lv_entry ([.int x0]) (n := 1) (Nat.le_of_ble_eq_true rfl)
  rw [lg_entry_eq]
  generalize (lg_sl ([.int x0]) ++ List.replicate (1 - (lg_sl ([.int x0])).length) Slot.unset).toArray = ls at hl ⊢
  have hl : lv_has ls 1 [(0, .int x0)] := hl
  refine (fun (key : ∀ (H : Heap) (locs : List Loc), va_P (dC, dI) vwCl (mW ad cI cZ m_thrown m_size m_outLong m_lines m_toldLines m_tokens m_places m_p m_pre m_end m_text m_out m_lineAt m_lineLong m_depth m_signed m_led m_told m_place m_begin m_tokenLong m_stemLong m_address m_letters m_stems m_s) H → va_D A (mW ad cI cZ m_thrown m_size m_outLong m_lines m_toldLines m_tokens m_places m_p m_pre m_end m_text m_out m_lineAt m_lineLong m_depth m_signed m_led m_told m_place m_begin m_tokenLong m_stemLong m_address m_letters m_stems m_s) → va_S A s.heap H locs → W p l e (headSpec wsX8_isLetter ({ frames := 1, cells := 0, slots := 0, locals := 20 })).room s m ([.int x0] : List Value).toArray below meth c H locs 0 0 (MQ below Qc ([.int x0] : List Value).toArray s 0 0 A) (F0 m 0 ls [])) => key _ _ hP hD hS) ?_
  have J43 : ∀ (H : Heap) (locs : List Loc) (ls : Array Slot), lv_has ls 1 [(0, .int x0)] → va_P (dC, dI) vwCl (mW ad cI cZ m_thrown m_size m_outLong m_lines m_toldLines m_tokens m_places m_p m_pre m_end m_text m_out m_lineAt m_lineLong m_depth m_signed m_led m_told m_place m_begin m_tokenLong m_stemLong m_address m_letters m_stems m_s) H → va_D A (mW ad cI cZ m_thrown m_size m_outLong m_lines m_toldLines m_tokens m_places m_p m_pre m_end m_text m_out m_lineAt m_lineLong m_depth m_signed m_led m_told m_place m_begin m_tokenLong m_stemLong m_address m_letters m_stems m_s) → va_S A s.heap H locs → wjX8_isLetter_43 post x0  → W p l e (headSpec wsX8_isLetter ({ frames := 1, cells := 0, slots := 0, locals := 20 })).room s m ([.int x0] : List Value).toArray below meth c H locs 0 0 (MQ below Qc ([.int x0] : List Value).toArray s 0 0 A) (F0 m 43 ls []) := by
    intro  H locs ls hl hP hD hS h
    delta wjX8_isLetter_43 at h
    refine lv_iload_n hx hb dX8_isLetter_43 rfl (lv_at hl 0 rfl) ?_
    refine lv_sipush (v := 880) hx hb dX8_isLetter_44 (by decide) ?_
    refine lv_icmp_lt (tgt := 89) hx hb dX8_isLetter_47 (by decide) (fun c9 => ?_) (fun c9 => ?_)
    · have h := h.1 c9
      refine lv_iconst (v := 0) hx hb dX8_isLetter_89 (by decide) ?_
      exact W.zret (v := 0) hx hb hr (bN_nar bN0) (fun t ht hW => hQ 0 () t h (by rw [ht]; exact hP) (va_K.moved hW.alike hK) hD (hS.F ht)) hS.2.2 dX8_isLetter_90
    · have h := h.2 c9
      refine lv_iload_n hx hb dX8_isLetter_50 rfl (lv_at hl 0 rfl) ?_
      refine lv_sipush (v := 1423) hx hb dX8_isLetter_51 (by decide) ?_
      refine lv_icmp_gt (tgt := 89) hx hb dX8_isLetter_54 (by decide) (fun c9 => ?_) (fun c9 => ?_)
      · have h := h.1 c9
        refine lv_iconst (v := 0) hx hb dX8_isLetter_89 (by decide) ?_
        exact W.zret (v := 0) hx hb hr (bN_nar bN0) (fun t ht hW => hQ 0 () t h (by rw [ht]; exact hP) (va_K.moved hW.alike hK) hD (hS.F ht)) hS.2.2 dX8_isLetter_90
      · have h := h.2 c9
        refine lv_iload_n hx hb dX8_isLetter_57 rfl (lv_at hl 0 rfl) ?_
        refine lv_sipush (v := 894) hx hb dX8_isLetter_58 (by decide) ?_
        refine lv_icmp_eq (tgt := 89) hx hb dX8_isLetter_61 (by decide) (fun c9 => ?_) (fun c9 => ?_)
        · have h := h.1 c9
          refine lv_iconst (v := 0) hx hb dX8_isLetter_89 (by decide) ?_
          exact W.zret (v := 0) hx hb hr (bN_nar bN0) (fun t ht hW => hQ 0 () t h (by rw [ht]; exact hP) (va_K.moved hW.alike hK) hD (hS.F ht)) hS.2.2 dX8_isLetter_90
        · have h := h.2 c9
          refine lv_iload_n hx hb dX8_isLetter_64 rfl (lv_at hl 0 rfl) ?_
          refine lv_sipush (v := 903) hx hb dX8_isLetter_65 (by decide) ?_
          refine lv_icmp_eq (tgt := 89) hx hb dX8_isLetter_68 (by decide) (fun c9 => ?_) (fun c9 => ?_)
          · have h := h.1 c9
            refine lv_iconst (v := 0) hx hb dX8_isLetter_89 (by decide) ?_
            exact W.zret (v := 0) hx hb hr (bN_nar bN0) (fun t ht hW => hQ 0 () t h (by rw [ht]; exact hP) (va_K.moved hW.alike hK) hD (hS.F ht)) hS.2.2 dX8_isLetter_90
          · have h := h.2 c9
            refine lv_iload_n hx hb dX8_isLetter_71 rfl (lv_at hl 0 rfl) ?_
            refine lv_sipush (v := 1154) hx hb dX8_isLetter_72 (by decide) ?_
            refine lv_icmp_lt (tgt := 85) hx hb dX8_isLetter_75 (by decide) (fun c9 => ?_) (fun c9 => ?_)
            · have h := h.1 c9
              refine lv_iconst (v := 1) hx hb dX8_isLetter_85 (by decide) ?_
              refine lv_goto (tgt := 90) hx hb dX8_isLetter_86 (by decide) ?_
              exact W.zret (v := 1) hx hb hr (bN_nar bN1) (fun t ht hW => hQ 1 () t h (by rw [ht]; exact hP) (va_K.moved hW.alike hK) hD (hS.F ht)) hS.2.2 dX8_isLetter_90
            · have h := h.2 c9
              refine lv_iload_n hx hb dX8_isLetter_78 rfl (lv_at hl 0 rfl) ?_
              refine lv_sipush (v := 1161) hx hb dX8_isLetter_79 (by decide) ?_
              refine lv_icmp_le (tgt := 89) hx hb dX8_isLetter_82 (by decide) (fun c9 => ?_) (fun c9 => ?_)
              · have h := h.1 c9
                refine lv_iconst (v := 0) hx hb dX8_isLetter_89 (by decide) ?_
                exact W.zret (v := 0) hx hb hr (bN_nar bN0) (fun t ht hW => hQ 0 () t h (by rw [ht]; exact hP) (va_K.moved hW.alike hK) hD (hS.F ht)) hS.2.2 dX8_isLetter_90
              · have h := h.2 c9
                refine lv_iconst (v := 1) hx hb dX8_isLetter_85 (by decide) ?_
                refine lv_goto (tgt := 90) hx hb dX8_isLetter_86 (by decide) ?_
                exact W.zret (v := 1) hx hb hr (bN_nar bN1) (fun t ht hW => hQ 1 () t h (by rw [ht]; exact hP) (va_K.moved hW.alike hK) hD (hS.F ht)) hS.2.2 dX8_isLetter_90
  intro H locs hP hD hS
  delta wpX8_isLetter at h
  refine lv_iload_n hx hb dX8_isLetter_0 rfl (lv_at hl 0 rfl) ?_
  refine xc_si (As := [.int x0]) (rest := []) xG Fx (sX8_isPlain l dC dI ad cI cZ sa sv m_thrown m_size m_outLong m_lines m_toldLines m_tokens m_places m_p m_pre m_end m_text m_out m_lineAt m_lineLong m_depth m_signed m_led m_told m_place m_begin m_tokenLong m_stemLong m_address m_letters m_stems m_s x0 h) (va_cwS 1 hts gX8_isLetter_X8_isPlain rfl rfl rfl hdX8_isPlain ⟨Nat.le_of_ble_eq_true rfl, Nat.le_of_ble_eq_true rfl⟩) hK hP hD hS hA hI rfl hl.1 rfl (Nat.le_of_ble_eq_true rfl) dX8_isLetter_1 ⟨Nat.zero_le _, Nat.zero_le _⟩ (fun r_1 u H locs h hP hD hS => ?_)
  refine lv_if_eq (tgt := 9) hx hb dX8_isLetter_4 (by decide) (fun c9 => ?_) (fun c9 => ?_)
  · have h := h.1 c9
    refine lv_iload_n hx hb dX8_isLetter_9 rfl (lv_at hl 0 rfl) ?_
    refine lv_sipush (v := 192) hx hb dX8_isLetter_10 (by decide) ?_
    refine lv_icmp_lt (tgt := 43) hx hb dX8_isLetter_13 (by decide) (fun c9 => ?_) (fun c9 => ?_)
    · have h := h.1 c9
      exact J43  H locs ls (lv_sub hl [0] rfl) hP hD hS h
    · have h := h.2 c9
      refine lv_iload_n hx hb dX8_isLetter_16 rfl (lv_at hl 0 rfl) ?_
      refine lv_sipush (v := 687) hx hb dX8_isLetter_17 (by decide) ?_
      refine lv_icmp_gt (tgt := 43) hx hb dX8_isLetter_20 (by decide) (fun c9 => ?_) (fun c9 => ?_)
      · have h := h.1 c9
        exact J43  H locs ls (lv_sub hl [0] rfl) hP hD hS h
      · have h := h.2 c9
        refine lv_iload_n hx hb dX8_isLetter_23 rfl (lv_at hl 0 rfl) ?_
        refine lv_sipush (v := 215) hx hb dX8_isLetter_24 (by decide) ?_
        refine lv_icmp_eq (tgt := 41) hx hb dX8_isLetter_27 (by decide) (fun c9 => ?_) (fun c9 => ?_)
        · have h := h.1 c9
          refine lv_iconst (v := 0) hx hb dX8_isLetter_41 (by decide) ?_
          exact W.zret (v := 0) hx hb hr (bN_nar bN0) (fun t ht hW => hQ 0 () t h (by rw [ht]; exact hP) (va_K.moved hW.alike hK) hD (hS.F ht)) hS.2.2 dX8_isLetter_42
        · have h := h.2 c9
          refine lv_iload_n hx hb dX8_isLetter_30 rfl (lv_at hl 0 rfl) ?_
          refine lv_sipush (v := 247) hx hb dX8_isLetter_31 (by decide) ?_
          refine lv_icmp_eq (tgt := 41) hx hb dX8_isLetter_34 (by decide) (fun c9 => ?_) (fun c9 => ?_)
          · have h := h.1 c9
            refine lv_iconst (v := 0) hx hb dX8_isLetter_41 (by decide) ?_
            exact W.zret (v := 0) hx hb hr (bN_nar bN0) (fun t ht hW => hQ 0 () t h (by rw [ht]; exact hP) (va_K.moved hW.alike hK) hD (hS.F ht)) hS.2.2 dX8_isLetter_42
          · have h := h.2 c9
            refine lv_iconst (v := 1) hx hb dX8_isLetter_37 (by decide) ?_
            refine lv_goto (tgt := 42) hx hb dX8_isLetter_38 (by decide) ?_
            exact W.zret (v := 1) hx hb hr (bN_nar bN1) (fun t ht hW => hQ 1 () t h (by rw [ht]; exact hP) (va_K.moved hW.alike hK) hD (hS.F ht)) hS.2.2 dX8_isLetter_42
  · have h := h.2 c9
    refine lv_iconst (v := 1) hx hb dX8_isLetter_7 (by decide) ?_
    exact W.zret (v := 1) hx hb hr (bN_nar bN1) (fun t ht hW => hQ 1 () t h (by rw [ht]; exact hP) (va_K.moved hW.alike hK) hD (hS.F ht)) hS.2.2 dX8_isLetter_8
set_option maxHeartbeats 4000000 in
set_option maxRecDepth 100000 in
theorem sX8_isDigit (l : Launch) (dC : Nat → ClassId) (dI : Nat → Nat → Nat) (ad : Nat → Nat) (cI cZ : ClassId) (sa sv : Nat → Nat) (m_thrown : Int32) (m_size : Int32) (m_outLong : Int32) (m_lines : Int32) (m_toldLines : Int32) (m_tokens : Int32) (m_places : Int32) (m_p : Int32) (m_pre : Int32) (m_end : Int32) (m_text : Nat → Int32) (m_out : Nat → Int32) (m_lineAt : Nat → Int32) (m_lineLong : Nat → Int32) (m_depth : Nat → Int32) (m_signed : Nat → Int32) (m_led : Nat → Int32) (m_told : Nat → Int32) (m_place : Nat → Int32) (m_begin : Nat → Int32) (m_tokenLong : Nat → Int32) (m_stemLong : Nat → Int32) (m_address : Nat → Int32) (m_letters : Nat → Int32) (m_stems : Nat → Int32) (m_s : Nat → Int32) (x0 : Int32) {post : Int32 → Prop} (h : wpX8_isDigit post x0) : xMi l (dC, dI) vwCl [(cI, .int), (cZ, .boolean)] (sI sa sv) yX8_isDigit wsX8_isDigit ({ frames := 0, cells := 0, slots := 0, locals := 0 }) (mW ad cI cZ m_thrown m_size m_outLong m_lines m_toldLines m_tokens m_places m_p m_pre m_end m_text m_out m_lineAt m_lineLong m_depth m_signed m_led m_told m_place m_begin m_tokenLong m_stemLong m_address m_letters m_stems m_s) [.int x0] (fun (r : Int32) (u : Unit) => post r ) (fun u : Unit => (mW ad cI cZ m_thrown m_size m_outLong m_lines m_toldLines m_tokens m_places m_p m_pre m_end m_text m_out m_lineAt m_lineLong m_depth m_signed m_led m_told m_place m_begin m_tokenLong m_stemLong m_address m_letters m_stems m_s)) := by
  intro sz
  refine Met.ofW (cc := cX8_isDigit) (maxL := 1) (ret := (some .boolean)) (by decide) rfl ?_
  intro p e s m args below meth c s₁ B hml hv
  obtain ⟨rfl, hsz, hP, hK, hD0, hI⟩ := hv
  have hx := B.exec
  have hb := B.bytes
  have hr := B.returns
  have hts := atoms_spec (ws := wsX8_isDigit) B.pre
  have hown : s.vm.findClass RX8 = some m.cls := findClass_of_methodNamed B.named
  have hlocks := B.notSynchronized
  subst hsz
  have hD := hD0.self (sz := s.heap.size)
  generalize hAe : va_A (mW ad cI cZ m_thrown m_size m_outLong m_lines m_toldLines m_tokens m_places m_p m_pre m_end m_text m_out m_lineAt m_lineLong m_depth m_signed m_led m_told m_place m_begin m_tokenLong m_stemLong m_address m_letters m_stems m_s) s.heap.size = A at hD hI ⊢
  have hA : ∀ q : Nat, s.heap.size ≤ q → A q := fun q h => by rw [← hAe]; exact Or.inr h
  have hS : va_S A s.heap s.heap [] := va_S.rf
  have Fx : CallFix p m c cX8_isDigit 1 s ([.int x0] : List Value).toArray wsX8_isDigit RX8 := ⟨hx, hb, hml, hown, hts⟩
  have hQ : ∀ (r : Int32) (u : Unit) (t : State), (fun (r : Int32) (u : Unit) => post r ) r u → va_P (dC, dI) vwCl ((fun u : Unit => (mW ad cI cZ m_thrown m_size m_outLong m_lines m_toldLines m_tokens m_places m_p m_pre m_end m_text m_out m_lineAt m_lineLong m_depth m_signed m_led m_told m_place m_begin m_tokenLong m_stemLong m_address m_letters m_stems m_s)) u) t.heap → va_K (dC, dI) vwCl [(cI, .int), (cZ, .boolean)] t → va_D A ((fun u : Unit => (mW ad cI cZ m_thrown m_size m_outLong m_lines m_toldLines m_tokens m_places m_p m_pre m_end m_text m_out m_lineAt m_lineLong m_depth m_signed m_led m_told m_place m_begin m_tokenLong m_stemLong m_address m_letters m_stems m_s)) u) → va_F A s t → (va_Qi (fun (r : Int32) (u : Unit) => post r ) (xB (dC, dI) vwCl [(cI, .int), (cZ, .boolean)] A (fun u : Unit => (mW ad cI cZ m_thrown m_size m_outLong m_lines m_toldLines m_tokens m_places m_p m_pre m_end m_text m_out m_lineAt m_lineLong m_depth m_signed m_led m_told m_place m_begin m_tokenLong m_stemLong m_address m_letters m_stems m_s))) A) ([.int x0] : List Value).toArray s (.returned (some (.int r))) t := fun r u t h1 h2 h3 h4 h5 => ⟨⟨r, u, rfl, h1, h2, h3, h4⟩, h5⟩
  generalize (va_Qi (fun (r : Int32) (u : Unit) => post r ) (xB (dC, dI) vwCl [(cI, .int), (cZ, .boolean)] A (fun u : Unit => (mW ad cI cZ m_thrown m_size m_outLong m_lines m_toldLines m_tokens m_places m_p m_pre m_end m_text m_out m_lineAt m_lineLong m_depth m_signed m_led m_told m_place m_begin m_tokenLong m_stemLong m_address m_letters m_stems m_s))) A) = Qc at hQ ⊢
  have hl := lv_entry ([.int x0]) (n := 1) (Nat.le_of_ble_eq_true rfl)
  rw [lg_entry_eq]
  generalize (lg_sl ([.int x0]) ++ List.replicate (1 - (lg_sl ([.int x0])).length) Slot.unset).toArray = ls at hl ⊢
  have hl : lv_has ls 1 [(0, .int x0)] := hl
  refine (fun (key : ∀ (H : Heap) (locs : List Loc), va_P (dC, dI) vwCl (mW ad cI cZ m_thrown m_size m_outLong m_lines m_toldLines m_tokens m_places m_p m_pre m_end m_text m_out m_lineAt m_lineLong m_depth m_signed m_led m_told m_place m_begin m_tokenLong m_stemLong m_address m_letters m_stems m_s) H → va_D A (mW ad cI cZ m_thrown m_size m_outLong m_lines m_toldLines m_tokens m_places m_p m_pre m_end m_text m_out m_lineAt m_lineLong m_depth m_signed m_led m_told m_place m_begin m_tokenLong m_stemLong m_address m_letters m_stems m_s) → va_S A s.heap H locs → W p l e (headSpec wsX8_isDigit ({ frames := 0, cells := 0, slots := 0, locals := 0 })).room s m ([.int x0] : List Value).toArray below meth c H locs 0 0 (MQ below Qc ([.int x0] : List Value).toArray s 0 0 A) (F0 m 0 ls [])) => key _ _ hP hD hS) ?_
  intro H locs hP hD hS
  delta wpX8_isDigit at h
  refine lv_iload_n hx hb dX8_isDigit_0 rfl (lv_at hl 0 rfl) ?_
  refine lv_bipush (v := 48) hx hb dX8_isDigit_1 (by decide) ?_
  refine lv_icmp_lt (tgt := 16) hx hb dX8_isDigit_3 (by decide) (fun c9 => ?_) (fun c9 => ?_)
  · have h := h.1 c9
    refine lv_iconst (v := 0) hx hb dX8_isDigit_16 (by decide) ?_
    exact W.zret (v := 0) hx hb hr (bN_nar bN0) (fun t ht hW => hQ 0 () t h (by rw [ht]; exact hP) (va_K.moved hW.alike hK) hD (hS.F ht)) hS.2.2 dX8_isDigit_17
  · have h := h.2 c9
    refine lv_iload_n hx hb dX8_isDigit_6 rfl (lv_at hl 0 rfl) ?_
    refine lv_bipush (v := 57) hx hb dX8_isDigit_7 (by decide) ?_
    refine lv_icmp_gt (tgt := 16) hx hb dX8_isDigit_9 (by decide) (fun c9 => ?_) (fun c9 => ?_)
    · have h := h.1 c9
      refine lv_iconst (v := 0) hx hb dX8_isDigit_16 (by decide) ?_
      exact W.zret (v := 0) hx hb hr (bN_nar bN0) (fun t ht hW => hQ 0 () t h (by rw [ht]; exact hP) (va_K.moved hW.alike hK) hD (hS.F ht)) hS.2.2 dX8_isDigit_17
    · have h := h.2 c9
      refine lv_iconst (v := 1) hx hb dX8_isDigit_12 (by decide) ?_
      refine lv_goto (tgt := 17) hx hb dX8_isDigit_13 (by decide) ?_
      exact W.zret (v := 1) hx hb hr (bN_nar bN1) (fun t ht hW => hQ 1 () t h (by rw [ht]; exact hP) (va_K.moved hW.alike hK) hD (hS.F ht)) hS.2.2 dX8_isDigit_17
set_option maxHeartbeats 4000000 in
set_option maxRecDepth 100000 in
theorem sX8_isWord (l : Launch) (dC : Nat → ClassId) (dI : Nat → Nat → Nat) (ad : Nat → Nat) (cI cZ : ClassId) (sa sv : Nat → Nat) (m_thrown : Int32) (m_size : Int32) (m_outLong : Int32) (m_lines : Int32) (m_toldLines : Int32) (m_tokens : Int32) (m_places : Int32) (m_p : Int32) (m_pre : Int32) (m_end : Int32) (m_text : Nat → Int32) (m_out : Nat → Int32) (m_lineAt : Nat → Int32) (m_lineLong : Nat → Int32) (m_depth : Nat → Int32) (m_signed : Nat → Int32) (m_led : Nat → Int32) (m_told : Nat → Int32) (m_place : Nat → Int32) (m_begin : Nat → Int32) (m_tokenLong : Nat → Int32) (m_stemLong : Nat → Int32) (m_address : Nat → Int32) (m_letters : Nat → Int32) (m_stems : Nat → Int32) (m_s : Nat → Int32) (x0 : Int32) {post : Int32 → Prop} (h : wpX8_isWord post x0) : xMi l (dC, dI) vwCl [(cI, .int), (cZ, .boolean)] (sI sa sv) yX8_isWord wsX8_isWord ({ frames := 2, cells := 0, slots := 0, locals := 40 }) (mW ad cI cZ m_thrown m_size m_outLong m_lines m_toldLines m_tokens m_places m_p m_pre m_end m_text m_out m_lineAt m_lineLong m_depth m_signed m_led m_told m_place m_begin m_tokenLong m_stemLong m_address m_letters m_stems m_s) [.int x0] (fun (r : Int32) (u : Unit) => post r ) (fun u : Unit => (mW ad cI cZ m_thrown m_size m_outLong m_lines m_toldLines m_tokens m_places m_p m_pre m_end m_text m_out m_lineAt m_lineLong m_depth m_signed m_led m_told m_place m_begin m_tokenLong m_stemLong m_address m_letters m_stems m_s)) := by
  intro sz
  refine Met.ofW (cc := cX8_isWord) (maxL := 1) (ret := (some .boolean)) (by decide) rfl ?_
  intro p e s m args below meth c s₁ B hml hv
  obtain ⟨rfl, hsz, hP, hK, hD0, hI⟩ := hv
  have hx := B.exec
  have hb := B.bytes
  have hr := B.returns
  have hts := atoms_spec (ws := wsX8_isWord) B.pre
  have hown : s.vm.findClass RX8 = some m.cls := findClass_of_methodNamed B.named
  have hlocks := B.notSynchronized
  subst hsz
  have hD := hD0.self (sz := s.heap.size)
  generalize hAe : va_A (mW ad cI cZ m_thrown m_size m_outLong m_lines m_toldLines m_tokens m_places m_p m_pre m_end m_text m_out m_lineAt m_lineLong m_depth m_signed m_led m_told m_place m_begin m_tokenLong m_stemLong m_address m_letters m_stems m_s) s.heap.size = A at hD hI ⊢
  have hA : ∀ q : Nat, s.heap.size ≤ q → A q := fun q h => by rw [← hAe]; exact Or.inr h
  have hS : va_S A s.heap s.heap [] := va_S.rf
  have Fx : CallFix p m c cX8_isWord 1 s ([.int x0] : List Value).toArray wsX8_isWord RX8 := ⟨hx, hb, hml, hown, hts⟩
  have hQ : ∀ (r : Int32) (u : Unit) (t : State), (fun (r : Int32) (u : Unit) => post r ) r u → va_P (dC, dI) vwCl ((fun u : Unit => (mW ad cI cZ m_thrown m_size m_outLong m_lines m_toldLines m_tokens m_places m_p m_pre m_end m_text m_out m_lineAt m_lineLong m_depth m_signed m_led m_told m_place m_begin m_tokenLong m_stemLong m_address m_letters m_stems m_s)) u) t.heap → va_K (dC, dI) vwCl [(cI, .int), (cZ, .boolean)] t → va_D A ((fun u : Unit => (mW ad cI cZ m_thrown m_size m_outLong m_lines m_toldLines m_tokens m_places m_p m_pre m_end m_text m_out m_lineAt m_lineLong m_depth m_signed m_led m_told m_place m_begin m_tokenLong m_stemLong m_address m_letters m_stems m_s)) u) → va_F A s t → (va_Qi (fun (r : Int32) (u : Unit) => post r ) (xB (dC, dI) vwCl [(cI, .int), (cZ, .boolean)] A (fun u : Unit => (mW ad cI cZ m_thrown m_size m_outLong m_lines m_toldLines m_tokens m_places m_p m_pre m_end m_text m_out m_lineAt m_lineLong m_depth m_signed m_led m_told m_place m_begin m_tokenLong m_stemLong m_address m_letters m_stems m_s))) A) ([.int x0] : List Value).toArray s (.returned (some (.int r))) t := fun r u t h1 h2 h3 h4 h5 => ⟨⟨r, u, rfl, h1, h2, h3, h4⟩, h5⟩
  generalize (va_Qi (fun (r : Int32) (u : Unit) => post r ) (xB (dC, dI) vwCl [(cI, .int), (cZ, .boolean)] A (fun u : Unit => (mW ad cI cZ m_thrown m_size m_outLong m_lines m_toldLines m_tokens m_places m_p m_pre m_end m_text m_out m_lineAt m_lineLong m_depth m_signed m_led m_told m_place m_begin m_tokenLong m_stemLong m_address m_letters m_stems m_s))) A) = Qc at hQ ⊢
  have hl := lv_entry ([.int x0]) (n := 1) (Nat.le_of_ble_eq_true rfl)
  rw [lg_entry_eq]
  generalize (lg_sl ([.int x0]) ++ List.replicate (1 - (lg_sl ([.int x0])).length) Slot.unset).toArray = ls at hl ⊢
  have hl : lv_has ls 1 [(0, .int x0)] := hl
  refine (fun (key : ∀ (H : Heap) (locs : List Loc), va_P (dC, dI) vwCl (mW ad cI cZ m_thrown m_size m_outLong m_lines m_toldLines m_tokens m_places m_p m_pre m_end m_text m_out m_lineAt m_lineLong m_depth m_signed m_led m_told m_place m_begin m_tokenLong m_stemLong m_address m_letters m_stems m_s) H → va_D A (mW ad cI cZ m_thrown m_size m_outLong m_lines m_toldLines m_tokens m_places m_p m_pre m_end m_text m_out m_lineAt m_lineLong m_depth m_signed m_led m_told m_place m_begin m_tokenLong m_stemLong m_address m_letters m_stems m_s) → va_S A s.heap H locs → W p l e (headSpec wsX8_isWord ({ frames := 2, cells := 0, slots := 0, locals := 40 })).room s m ([.int x0] : List Value).toArray below meth c H locs 0 0 (MQ below Qc ([.int x0] : List Value).toArray s 0 0 A) (F0 m 0 ls [])) => key _ _ hP hD hS) ?_
  intro H locs hP hD hS
  delta wpX8_isWord at h
  refine lv_iload_n hx hb dX8_isWord_0 rfl (lv_at hl 0 rfl) ?_
  refine xc_si (As := [.int x0]) (rest := []) xG Fx (sX8_isLetter l dC dI ad cI cZ sa sv m_thrown m_size m_outLong m_lines m_toldLines m_tokens m_places m_p m_pre m_end m_text m_out m_lineAt m_lineLong m_depth m_signed m_led m_told m_place m_begin m_tokenLong m_stemLong m_address m_letters m_stems m_s x0 h) (va_cwS 1 hts gX8_isWord_X8_isLetter rfl rfl rfl hdX8_isLetter ⟨Nat.le_of_ble_eq_true rfl, Nat.le_of_ble_eq_true rfl⟩) hK hP hD hS hA hI rfl hl.1 rfl (Nat.le_of_ble_eq_true rfl) dX8_isWord_1 ⟨Nat.zero_le _, Nat.zero_le _⟩ (fun r_1 u H locs h hP hD hS => ?_)
  refine lv_if_ne (tgt := 14) hx hb dX8_isWord_4 (by decide) (fun c9 => ?_) (fun c9 => ?_)
  · have h := h.1 c9
    refine lv_iconst (v := 1) hx hb dX8_isWord_14 (by decide) ?_
    refine lv_goto (tgt := 19) hx hb dX8_isWord_15 (by decide) ?_
    exact W.zret (v := 1) hx hb hr (bN_nar bN1) (fun t ht hW => hQ 1 () t h (by rw [ht]; exact hP) (va_K.moved hW.alike hK) hD (hS.F ht)) hS.2.2 dX8_isWord_19
  · have h := h.2 c9
    refine lv_iload_n hx hb dX8_isWord_7 rfl (lv_at hl 0 rfl) ?_
    refine xc_si (As := [.int x0]) (rest := []) xG Fx (sX8_isDigit l dC dI ad cI cZ sa sv m_thrown m_size m_outLong m_lines m_toldLines m_tokens m_places m_p m_pre m_end m_text m_out m_lineAt m_lineLong m_depth m_signed m_led m_told m_place m_begin m_tokenLong m_stemLong m_address m_letters m_stems m_s x0 h) (va_cwS 1 hts gX8_isWord_X8_isDigit rfl rfl rfl hdX8_isDigit ⟨Nat.le_of_ble_eq_true rfl, Nat.le_of_ble_eq_true rfl⟩) hK hP hD hS hA hI rfl hl.1 rfl (Nat.le_of_ble_eq_true rfl) dX8_isWord_8 ⟨Nat.zero_le _, Nat.zero_le _⟩ (fun r_2 u H locs h hP hD hS => ?_)
    refine lv_if_eq (tgt := 18) hx hb dX8_isWord_11 (by decide) (fun c9 => ?_) (fun c9 => ?_)
    · have h := h.1 c9
      refine lv_iconst (v := 0) hx hb dX8_isWord_18 (by decide) ?_
      exact W.zret (v := 0) hx hb hr (bN_nar bN0) (fun t ht hW => hQ 0 () t h (by rw [ht]; exact hP) (va_K.moved hW.alike hK) hD (hS.F ht)) hS.2.2 dX8_isWord_19
    · have h := h.2 c9
      refine lv_iconst (v := 1) hx hb dX8_isWord_14 (by decide) ?_
      refine lv_goto (tgt := 19) hx hb dX8_isWord_15 (by decide) ?_
      exact W.zret (v := 1) hx hb hr (bN_nar bN1) (fun t ht hW => hQ 1 () t h (by rw [ht]; exact hP) (va_K.moved hW.alike hK) hD (hS.F ht)) hS.2.2 dX8_isWord_19
set_option maxHeartbeats 4000000 in
set_option maxRecDepth 100000 in
theorem sX8_isBlank (l : Launch) (dC : Nat → ClassId) (dI : Nat → Nat → Nat) (ad : Nat → Nat) (cI cZ : ClassId) (sa sv : Nat → Nat) (m_thrown : Int32) (m_size : Int32) (m_outLong : Int32) (m_lines : Int32) (m_toldLines : Int32) (m_tokens : Int32) (m_places : Int32) (m_p : Int32) (m_pre : Int32) (m_end : Int32) (m_text : Nat → Int32) (m_out : Nat → Int32) (m_lineAt : Nat → Int32) (m_lineLong : Nat → Int32) (m_depth : Nat → Int32) (m_signed : Nat → Int32) (m_led : Nat → Int32) (m_told : Nat → Int32) (m_place : Nat → Int32) (m_begin : Nat → Int32) (m_tokenLong : Nat → Int32) (m_stemLong : Nat → Int32) (m_address : Nat → Int32) (m_letters : Nat → Int32) (m_stems : Nat → Int32) (m_s : Nat → Int32) (x0 : Int32) {post : Int32 → Prop} (h : wpX8_isBlank post x0) : xMi l (dC, dI) vwCl [(cI, .int), (cZ, .boolean)] (sI sa sv) yX8_isBlank wsX8_isBlank ({ frames := 0, cells := 0, slots := 0, locals := 0 }) (mW ad cI cZ m_thrown m_size m_outLong m_lines m_toldLines m_tokens m_places m_p m_pre m_end m_text m_out m_lineAt m_lineLong m_depth m_signed m_led m_told m_place m_begin m_tokenLong m_stemLong m_address m_letters m_stems m_s) [.int x0] (fun (r : Int32) (u : Unit) => post r ) (fun u : Unit => (mW ad cI cZ m_thrown m_size m_outLong m_lines m_toldLines m_tokens m_places m_p m_pre m_end m_text m_out m_lineAt m_lineLong m_depth m_signed m_led m_told m_place m_begin m_tokenLong m_stemLong m_address m_letters m_stems m_s)) := by
  intro sz
  refine Met.ofW (cc := cX8_isBlank) (maxL := 1) (ret := (some .boolean)) (by decide) rfl ?_
  intro p e s m args below meth c s₁ B hml hv
  obtain ⟨rfl, hsz, hP, hK, hD0, hI⟩ := hv
  have hx := B.exec
  have hb := B.bytes
  have hr := B.returns
  have hts := atoms_spec (ws := wsX8_isBlank) B.pre
  have hown : s.vm.findClass RX8 = some m.cls := findClass_of_methodNamed B.named
  have hlocks := B.notSynchronized
  subst hsz
  have hD := hD0.self (sz := s.heap.size)
  generalize hAe : va_A (mW ad cI cZ m_thrown m_size m_outLong m_lines m_toldLines m_tokens m_places m_p m_pre m_end m_text m_out m_lineAt m_lineLong m_depth m_signed m_led m_told m_place m_begin m_tokenLong m_stemLong m_address m_letters m_stems m_s) s.heap.size = A at hD hI ⊢
  have hA : ∀ q : Nat, s.heap.size ≤ q → A q := fun q h => by rw [← hAe]; exact Or.inr h
  have hS : va_S A s.heap s.heap [] := va_S.rf
  have Fx : CallFix p m c cX8_isBlank 1 s ([.int x0] : List Value).toArray wsX8_isBlank RX8 := ⟨hx, hb, hml, hown, hts⟩
  have hQ : ∀ (r : Int32) (u : Unit) (t : State), (fun (r : Int32) (u : Unit) => post r ) r u → va_P (dC, dI) vwCl ((fun u : Unit => (mW ad cI cZ m_thrown m_size m_outLong m_lines m_toldLines m_tokens m_places m_p m_pre m_end m_text m_out m_lineAt m_lineLong m_depth m_signed m_led m_told m_place m_begin m_tokenLong m_stemLong m_address m_letters m_stems m_s)) u) t.heap → va_K (dC, dI) vwCl [(cI, .int), (cZ, .boolean)] t → va_D A ((fun u : Unit => (mW ad cI cZ m_thrown m_size m_outLong m_lines m_toldLines m_tokens m_places m_p m_pre m_end m_text m_out m_lineAt m_lineLong m_depth m_signed m_led m_told m_place m_begin m_tokenLong m_stemLong m_address m_letters m_stems m_s)) u) → va_F A s t → (va_Qi (fun (r : Int32) (u : Unit) => post r ) (xB (dC, dI) vwCl [(cI, .int), (cZ, .boolean)] A (fun u : Unit => (mW ad cI cZ m_thrown m_size m_outLong m_lines m_toldLines m_tokens m_places m_p m_pre m_end m_text m_out m_lineAt m_lineLong m_depth m_signed m_led m_told m_place m_begin m_tokenLong m_stemLong m_address m_letters m_stems m_s))) A) ([.int x0] : List Value).toArray s (.returned (some (.int r))) t := fun r u t h1 h2 h3 h4 h5 => ⟨⟨r, u, rfl, h1, h2, h3, h4⟩, h5⟩
  generalize (va_Qi (fun (r : Int32) (u : Unit) => post r ) (xB (dC, dI) vwCl [(cI, .int), (cZ, .boolean)] A (fun u : Unit => (mW ad cI cZ m_thrown m_size m_outLong m_lines m_toldLines m_tokens m_places m_p m_pre m_end m_text m_out m_lineAt m_lineLong m_depth m_signed m_led m_told m_place m_begin m_tokenLong m_stemLong m_address m_letters m_stems m_s))) A) = Qc at hQ ⊢
  have hl := lv_entry ([.int x0]) (n := 1) (Nat.le_of_ble_eq_true rfl)
  rw [lg_entry_eq]
  generalize (lg_sl ([.int x0]) ++ List.replicate (1 - (lg_sl ([.int x0])).length) Slot.unset).toArray = ls at hl ⊢
  have hl : lv_has ls 1 [(0, .int x0)] := hl
  refine (fun (key : ∀ (H : Heap) (locs : List Loc), va_P (dC, dI) vwCl (mW ad cI cZ m_thrown m_size m_outLong m_lines m_toldLines m_tokens m_places m_p m_pre m_end m_text m_out m_lineAt m_lineLong m_depth m_signed m_led m_told m_place m_begin m_tokenLong m_stemLong m_address m_letters m_stems m_s) H → va_D A (mW ad cI cZ m_thrown m_size m_outLong m_lines m_toldLines m_tokens m_places m_p m_pre m_end m_text m_out m_lineAt m_lineLong m_depth m_signed m_led m_told m_place m_begin m_tokenLong m_stemLong m_address m_letters m_stems m_s) → va_S A s.heap H locs → W p l e (headSpec wsX8_isBlank ({ frames := 0, cells := 0, slots := 0, locals := 0 })).room s m ([.int x0] : List Value).toArray below meth c H locs 0 0 (MQ below Qc ([.int x0] : List Value).toArray s 0 0 A) (F0 m 0 ls [])) => key _ _ hP hD hS) ?_
  intro H locs hP hD hS
  delta wpX8_isBlank at h
  refine lv_iload_n hx hb dX8_isBlank_0 rfl (lv_at hl 0 rfl) ?_
  refine lv_bipush (v := 9) hx hb dX8_isBlank_1 (by decide) ?_
  refine lv_icmp_eq (tgt := 24) hx hb dX8_isBlank_3 (by decide) (fun c9 => ?_) (fun c9 => ?_)
  · have h := h.1 c9
    refine lv_iconst (v := 1) hx hb dX8_isBlank_24 (by decide) ?_
    refine lv_goto (tgt := 29) hx hb dX8_isBlank_25 (by decide) ?_
    exact W.zret (v := 1) hx hb hr (bN_nar bN1) (fun t ht hW => hQ 1 () t h (by rw [ht]; exact hP) (va_K.moved hW.alike hK) hD (hS.F ht)) hS.2.2 dX8_isBlank_29
  · have h := h.2 c9
    refine lv_iload_n hx hb dX8_isBlank_6 rfl (lv_at hl 0 rfl) ?_
    refine lv_bipush (v := 10) hx hb dX8_isBlank_7 (by decide) ?_
    refine lv_icmp_eq (tgt := 24) hx hb dX8_isBlank_9 (by decide) (fun c9 => ?_) (fun c9 => ?_)
    · have h := h.1 c9
      refine lv_iconst (v := 1) hx hb dX8_isBlank_24 (by decide) ?_
      refine lv_goto (tgt := 29) hx hb dX8_isBlank_25 (by decide) ?_
      exact W.zret (v := 1) hx hb hr (bN_nar bN1) (fun t ht hW => hQ 1 () t h (by rw [ht]; exact hP) (va_K.moved hW.alike hK) hD (hS.F ht)) hS.2.2 dX8_isBlank_29
    · have h := h.2 c9
      refine lv_iload_n hx hb dX8_isBlank_12 rfl (lv_at hl 0 rfl) ?_
      refine lv_bipush (v := 13) hx hb dX8_isBlank_13 (by decide) ?_
      refine lv_icmp_eq (tgt := 24) hx hb dX8_isBlank_15 (by decide) (fun c9 => ?_) (fun c9 => ?_)
      · have h := h.1 c9
        refine lv_iconst (v := 1) hx hb dX8_isBlank_24 (by decide) ?_
        refine lv_goto (tgt := 29) hx hb dX8_isBlank_25 (by decide) ?_
        exact W.zret (v := 1) hx hb hr (bN_nar bN1) (fun t ht hW => hQ 1 () t h (by rw [ht]; exact hP) (va_K.moved hW.alike hK) hD (hS.F ht)) hS.2.2 dX8_isBlank_29
      · have h := h.2 c9
        refine lv_iload_n hx hb dX8_isBlank_18 rfl (lv_at hl 0 rfl) ?_
        refine lv_bipush (v := 32) hx hb dX8_isBlank_19 (by decide) ?_
        refine lv_icmp_ne (tgt := 28) hx hb dX8_isBlank_21 (by decide) (fun c9 => ?_) (fun c9 => ?_)
        · have h := h.1 c9
          refine lv_iconst (v := 0) hx hb dX8_isBlank_28 (by decide) ?_
          exact W.zret (v := 0) hx hb hr (bN_nar bN0) (fun t ht hW => hQ 0 () t h (by rw [ht]; exact hP) (va_K.moved hW.alike hK) hD (hS.F ht)) hS.2.2 dX8_isBlank_29
        · have h := h.2 c9
          refine lv_iconst (v := 1) hx hb dX8_isBlank_24 (by decide) ?_
          refine lv_goto (tgt := 29) hx hb dX8_isBlank_25 (by decide) ?_
          exact W.zret (v := 1) hx hb hr (bN_nar bN1) (fun t ht hW => hQ 1 () t h (by rw [ht]; exact hP) (va_K.moved hW.alike hK) hD (hS.F ht)) hS.2.2 dX8_isBlank_29
set_option maxHeartbeats 4000000 in
set_option maxRecDepth 100000 in
theorem sX8_within (l : Launch) (dC : Nat → ClassId) (dI : Nat → Nat → Nat) (ad : Nat → Nat) (cI cZ : ClassId) (sa sv : Nat → Nat) (m_thrown : Int32) (m_size : Int32) (m_outLong : Int32) (m_lines : Int32) (m_toldLines : Int32) (m_tokens : Int32) (m_places : Int32) (m_p : Int32) (m_pre : Int32) (m_end : Int32) (m_text : Nat → Int32) (m_out : Nat → Int32) (m_lineAt : Nat → Int32) (m_lineLong : Nat → Int32) (m_depth : Nat → Int32) (m_signed : Nat → Int32) (m_led : Nat → Int32) (m_told : Nat → Int32) (m_place : Nat → Int32) (m_begin : Nat → Int32) (m_tokenLong : Nat → Int32) (m_stemLong : Nat → Int32) (m_address : Nat → Int32) (m_letters : Nat → Int32) (m_stems : Nat → Int32) (m_s : Nat → Int32) (x0 : Int32) (x1 : Int32) (x2 : Int32) {post : Int32 → Prop} (h : wpX8_within post x0 x1 x2) : xMi l (dC, dI) vwCl [(cI, .int), (cZ, .boolean)] (sI sa sv) yX8_within wsX8_within ({ frames := 0, cells := 0, slots := 0, locals := 0 }) (mW ad cI cZ m_thrown m_size m_outLong m_lines m_toldLines m_tokens m_places m_p m_pre m_end m_text m_out m_lineAt m_lineLong m_depth m_signed m_led m_told m_place m_begin m_tokenLong m_stemLong m_address m_letters m_stems m_s) [.int x0, .int x1, .int x2] (fun (r : Int32) (u : Unit) => post r ) (fun u : Unit => (mW ad cI cZ m_thrown m_size m_outLong m_lines m_toldLines m_tokens m_places m_p m_pre m_end m_text m_out m_lineAt m_lineLong m_depth m_signed m_led m_told m_place m_begin m_tokenLong m_stemLong m_address m_letters m_stems m_s)) := by
  intro sz
  refine Met.ofW (cc := cX8_within) (maxL := 3) (ret := (some .boolean)) (by decide) rfl ?_
  intro p e s m args below meth c s₁ B hml hv
  obtain ⟨rfl, hsz, hP, hK, hD0, hI⟩ := hv
  have hx := B.exec
  have hb := B.bytes
  have hr := B.returns
  have hts := atoms_spec (ws := wsX8_within) B.pre
  have hown : s.vm.findClass RX8 = some m.cls := findClass_of_methodNamed B.named
  have hlocks := B.notSynchronized
  subst hsz
  have hD := hD0.self (sz := s.heap.size)
  generalize hAe : va_A (mW ad cI cZ m_thrown m_size m_outLong m_lines m_toldLines m_tokens m_places m_p m_pre m_end m_text m_out m_lineAt m_lineLong m_depth m_signed m_led m_told m_place m_begin m_tokenLong m_stemLong m_address m_letters m_stems m_s) s.heap.size = A at hD hI ⊢
  have hA : ∀ q : Nat, s.heap.size ≤ q → A q := fun q h => by rw [← hAe]; exact Or.inr h
  have hS : va_S A s.heap s.heap [] := va_S.rf
  have Fx : CallFix p m c cX8_within 3 s ([.int x0, .int x1, .int x2] : List Value).toArray wsX8_within RX8 := ⟨hx, hb, hml, hown, hts⟩
  have hQ : ∀ (r : Int32) (u : Unit) (t : State), (fun (r : Int32) (u : Unit) => post r ) r u → va_P (dC, dI) vwCl ((fun u : Unit => (mW ad cI cZ m_thrown m_size m_outLong m_lines m_toldLines m_tokens m_places m_p m_pre m_end m_text m_out m_lineAt m_lineLong m_depth m_signed m_led m_told m_place m_begin m_tokenLong m_stemLong m_address m_letters m_stems m_s)) u) t.heap → va_K (dC, dI) vwCl [(cI, .int), (cZ, .boolean)] t → va_D A ((fun u : Unit => (mW ad cI cZ m_thrown m_size m_outLong m_lines m_toldLines m_tokens m_places m_p m_pre m_end m_text m_out m_lineAt m_lineLong m_depth m_signed m_led m_told m_place m_begin m_tokenLong m_stemLong m_address m_letters m_stems m_s)) u) → va_F A s t → (va_Qi (fun (r : Int32) (u : Unit) => post r ) (xB (dC, dI) vwCl [(cI, .int), (cZ, .boolean)] A (fun u : Unit => (mW ad cI cZ m_thrown m_size m_outLong m_lines m_toldLines m_tokens m_places m_p m_pre m_end m_text m_out m_lineAt m_lineLong m_depth m_signed m_led m_told m_place m_begin m_tokenLong m_stemLong m_address m_letters m_stems m_s))) A) ([.int x0, .int x1, .int x2] : List Value).toArray s (.returned (some (.int r))) t := fun r u t h1 h2 h3 h4 h5 => ⟨⟨r, u, rfl, h1, h2, h3, h4⟩, h5⟩
  generalize (va_Qi (fun (r : Int32) (u : Unit) => post r ) (xB (dC, dI) vwCl [(cI, .int), (cZ, .boolean)] A (fun u : Unit => (mW ad cI cZ m_thrown m_size m_outLong m_lines m_toldLines m_tokens m_places m_p m_pre m_end m_text m_out m_lineAt m_lineLong m_depth m_signed m_led m_told m_place m_begin m_tokenLong m_stemLong m_address m_letters m_stems m_s))) A) = Qc at hQ ⊢
  have hl := lv_entry ([.int x0, .int x1, .int x2]) (n := 3) (Nat.le_of_ble_eq_true rfl)
  rw [lg_entry_eq]
  generalize (lg_sl ([.int x0, .int x1, .int x2]) ++ List.replicate (3 - (lg_sl ([.int x0, .int x1, .int x2])).length) Slot.unset).toArray = ls at hl ⊢
  have hl : lv_has ls 3 [(0, .int x0), (1, .int x1), (2, .int x2)] := hl
  refine (fun (key : ∀ (H : Heap) (locs : List Loc), va_P (dC, dI) vwCl (mW ad cI cZ m_thrown m_size m_outLong m_lines m_toldLines m_tokens m_places m_p m_pre m_end m_text m_out m_lineAt m_lineLong m_depth m_signed m_led m_told m_place m_begin m_tokenLong m_stemLong m_address m_letters m_stems m_s) H → va_D A (mW ad cI cZ m_thrown m_size m_outLong m_lines m_toldLines m_tokens m_places m_p m_pre m_end m_text m_out m_lineAt m_lineLong m_depth m_signed m_led m_told m_place m_begin m_tokenLong m_stemLong m_address m_letters m_stems m_s) → va_S A s.heap H locs → W p l e (headSpec wsX8_within ({ frames := 0, cells := 0, slots := 0, locals := 0 })).room s m ([.int x0, .int x1, .int x2] : List Value).toArray below meth c H locs 0 0 (MQ below Qc ([.int x0, .int x1, .int x2] : List Value).toArray s 0 0 A) (F0 m 0 ls [])) => key _ _ hP hD hS) ?_
  intro H locs hP hD hS
  delta wpX8_within at h
  refine lv_iload_n hx hb dX8_within_0 rfl (lv_at hl 0 rfl) ?_
  refine lv_iload_n hx hb dX8_within_1 rfl (lv_at hl 1 rfl) ?_
  refine lv_icmp_lt (tgt := 14) hx hb dX8_within_2 (by decide) (fun c9 => ?_) (fun c9 => ?_)
  · have h := h.1 c9
    refine lv_iconst (v := 0) hx hb dX8_within_14 (by decide) ?_
    exact W.zret (v := 0) hx hb hr (bN_nar bN0) (fun t ht hW => hQ 0 () t h (by rw [ht]; exact hP) (va_K.moved hW.alike hK) hD (hS.F ht)) hS.2.2 dX8_within_15
  · have h := h.2 c9
    refine lv_iload_n hx hb dX8_within_5 rfl (lv_at hl 0 rfl) ?_
    refine lv_iload_n hx hb dX8_within_6 rfl (lv_at hl 2 rfl) ?_
    refine lv_icmp_gt (tgt := 14) hx hb dX8_within_7 (by decide) (fun c9 => ?_) (fun c9 => ?_)
    · have h := h.1 c9
      refine lv_iconst (v := 0) hx hb dX8_within_14 (by decide) ?_
      exact W.zret (v := 0) hx hb hr (bN_nar bN0) (fun t ht hW => hQ 0 () t h (by rw [ht]; exact hP) (va_K.moved hW.alike hK) hD (hS.F ht)) hS.2.2 dX8_within_15
    · have h := h.2 c9
      refine lv_iconst (v := 1) hx hb dX8_within_10 (by decide) ?_
      refine lv_goto (tgt := 15) hx hb dX8_within_11 (by decide) ?_
      exact W.zret (v := 1) hx hb hr (bN_nar bN1) (fun t ht hW => hQ 1 () t h (by rw [ht]; exact hP) (va_K.moved hW.alike hK) hD (hS.F ht)) hS.2.2 dX8_within_15
set_option maxHeartbeats 4000000 in
set_option maxRecDepth 100000 in
theorem sX8_small (l : Launch) (dC : Nat → ClassId) (dI : Nat → Nat → Nat) (ad : Nat → Nat) (cI cZ : ClassId) (sa sv : Nat → Nat) (m_thrown : Int32) (m_size : Int32) (m_outLong : Int32) (m_lines : Int32) (m_toldLines : Int32) (m_tokens : Int32) (m_places : Int32) (m_p : Int32) (m_pre : Int32) (m_end : Int32) (m_text : Nat → Int32) (m_out : Nat → Int32) (m_lineAt : Nat → Int32) (m_lineLong : Nat → Int32) (m_depth : Nat → Int32) (m_signed : Nat → Int32) (m_led : Nat → Int32) (m_told : Nat → Int32) (m_place : Nat → Int32) (m_begin : Nat → Int32) (m_tokenLong : Nat → Int32) (m_stemLong : Nat → Int32) (m_address : Nat → Int32) (m_letters : Nat → Int32) (m_stems : Nat → Int32) (m_s : Nat → Int32) (x0 : Int32) {post : Int32 → Prop} (h : wpX8_small post x0) : xMi l (dC, dI) vwCl [(cI, .int), (cZ, .boolean)] (sI sa sv) yX8_small wsX8_small ({ frames := 1, cells := 0, slots := 0, locals := 22 }) (mW ad cI cZ m_thrown m_size m_outLong m_lines m_toldLines m_tokens m_places m_p m_pre m_end m_text m_out m_lineAt m_lineLong m_depth m_signed m_led m_told m_place m_begin m_tokenLong m_stemLong m_address m_letters m_stems m_s) [.int x0] (fun (r : Int32) (u : Unit) => post r ) (fun u : Unit => (mW ad cI cZ m_thrown m_size m_outLong m_lines m_toldLines m_tokens m_places m_p m_pre m_end m_text m_out m_lineAt m_lineLong m_depth m_signed m_led m_told m_place m_begin m_tokenLong m_stemLong m_address m_letters m_stems m_s)) := by
  intro sz
  refine Met.ofW (cc := cX8_small) (maxL := 1) (ret := (some .int)) (by decide) rfl ?_
  intro p e s m args below meth c s₁ B hml hv
  obtain ⟨rfl, hsz, hP, hK, hD0, hI⟩ := hv
  have hx := B.exec
  have hb := B.bytes
  have hr := B.returns
  have hts := atoms_spec (ws := wsX8_small) B.pre
  have hown : s.vm.findClass RX8 = some m.cls := findClass_of_methodNamed B.named
  have hlocks := B.notSynchronized
  subst hsz
  have hD := hD0.self (sz := s.heap.size)
  generalize hAe : va_A (mW ad cI cZ m_thrown m_size m_outLong m_lines m_toldLines m_tokens m_places m_p m_pre m_end m_text m_out m_lineAt m_lineLong m_depth m_signed m_led m_told m_place m_begin m_tokenLong m_stemLong m_address m_letters m_stems m_s) s.heap.size = A at hD hI ⊢
  have hA : ∀ q : Nat, s.heap.size ≤ q → A q := fun q h => by rw [← hAe]; exact Or.inr h
  have hS : va_S A s.heap s.heap [] := va_S.rf
  have Fx : CallFix p m c cX8_small 1 s ([.int x0] : List Value).toArray wsX8_small RX8 := ⟨hx, hb, hml, hown, hts⟩
  have hQ : ∀ (r : Int32) (u : Unit) (t : State), (fun (r : Int32) (u : Unit) => post r ) r u → va_P (dC, dI) vwCl ((fun u : Unit => (mW ad cI cZ m_thrown m_size m_outLong m_lines m_toldLines m_tokens m_places m_p m_pre m_end m_text m_out m_lineAt m_lineLong m_depth m_signed m_led m_told m_place m_begin m_tokenLong m_stemLong m_address m_letters m_stems m_s)) u) t.heap → va_K (dC, dI) vwCl [(cI, .int), (cZ, .boolean)] t → va_D A ((fun u : Unit => (mW ad cI cZ m_thrown m_size m_outLong m_lines m_toldLines m_tokens m_places m_p m_pre m_end m_text m_out m_lineAt m_lineLong m_depth m_signed m_led m_told m_place m_begin m_tokenLong m_stemLong m_address m_letters m_stems m_s)) u) → va_F A s t → (va_Qi (fun (r : Int32) (u : Unit) => post r ) (xB (dC, dI) vwCl [(cI, .int), (cZ, .boolean)] A (fun u : Unit => (mW ad cI cZ m_thrown m_size m_outLong m_lines m_toldLines m_tokens m_places m_p m_pre m_end m_text m_out m_lineAt m_lineLong m_depth m_signed m_led m_told m_place m_begin m_tokenLong m_stemLong m_address m_letters m_stems m_s))) A) ([.int x0] : List Value).toArray s (.returned (some (.int r))) t := fun r u t h1 h2 h3 h4 h5 => ⟨⟨r, u, rfl, h1, h2, h3, h4⟩, h5⟩
  generalize (va_Qi (fun (r : Int32) (u : Unit) => post r ) (xB (dC, dI) vwCl [(cI, .int), (cZ, .boolean)] A (fun u : Unit => (mW ad cI cZ m_thrown m_size m_outLong m_lines m_toldLines m_tokens m_places m_p m_pre m_end m_text m_out m_lineAt m_lineLong m_depth m_signed m_led m_told m_place m_begin m_tokenLong m_stemLong m_address m_letters m_stems m_s))) A) = Qc at hQ ⊢
  have hl := lv_entry ([.int x0]) (n := 1) (Nat.le_of_ble_eq_true rfl)
  rw [lg_entry_eq]
  generalize (lg_sl ([.int x0]) ++ List.replicate (1 - (lg_sl ([.int x0])).length) Slot.unset).toArray = ls at hl ⊢
  have hl : lv_has ls 1 [(0, .int x0)] := hl
  refine (fun (key : ∀ (H : Heap) (locs : List Loc), va_P (dC, dI) vwCl (mW ad cI cZ m_thrown m_size m_outLong m_lines m_toldLines m_tokens m_places m_p m_pre m_end m_text m_out m_lineAt m_lineLong m_depth m_signed m_led m_told m_place m_begin m_tokenLong m_stemLong m_address m_letters m_stems m_s) H → va_D A (mW ad cI cZ m_thrown m_size m_outLong m_lines m_toldLines m_tokens m_places m_p m_pre m_end m_text m_out m_lineAt m_lineLong m_depth m_signed m_led m_told m_place m_begin m_tokenLong m_stemLong m_address m_letters m_stems m_s) → va_S A s.heap H locs → W p l e (headSpec wsX8_small ({ frames := 1, cells := 0, slots := 0, locals := 22 })).room s m ([.int x0] : List Value).toArray below meth c H locs 0 0 (MQ below Qc ([.int x0] : List Value).toArray s 0 0 A) (F0 m 0 ls [])) => key _ _ hP hD hS) ?_
  have J259 : ∀ (H : Heap) (locs : List Loc) (ls : Array Slot), lv_has ls 1 [(0, .int x0)] → va_P (dC, dI) vwCl (mW ad cI cZ m_thrown m_size m_outLong m_lines m_toldLines m_tokens m_places m_p m_pre m_end m_text m_out m_lineAt m_lineLong m_depth m_signed m_led m_told m_place m_begin m_tokenLong m_stemLong m_address m_letters m_stems m_s) H → va_D A (mW ad cI cZ m_thrown m_size m_outLong m_lines m_toldLines m_tokens m_places m_p m_pre m_end m_text m_out m_lineAt m_lineLong m_depth m_signed m_led m_told m_place m_begin m_tokenLong m_stemLong m_address m_letters m_stems m_s) → va_S A s.heap H locs → wjX8_small_259 post x0  → W p l e (headSpec wsX8_small ({ frames := 1, cells := 0, slots := 0, locals := 22 })).room s m ([.int x0] : List Value).toArray below meth c H locs 0 0 (MQ below Qc ([.int x0] : List Value).toArray s 0 0 A) (F0 m 259 ls []) := by
    intro  H locs ls hl hP hD hS h
    delta wjX8_small_259 at h
    refine lv_iload_n hx hb dX8_small_259 rfl (lv_at hl 0 rfl) ?_
    refine lv_bipush (v := 63) hx hb dX8_small_260 (by decide) ?_
    refine lv_iadd hx hb dX8_small_262 ?_
    refine lv_goto (tgt := 267) hx hb dX8_small_263 (by decide) ?_
    exact W.iret (v := (x0 + 63)) hx hb hr (fun t ht hW => hQ (x0 + 63) () t h (by rw [ht]; exact hP) (va_K.moved hW.alike hK) hD (hS.F ht)) hS.2.2 dX8_small_267
  have J179 : ∀ (H : Heap) (locs : List Loc) (ls : Array Slot), lv_has ls 1 [(0, .int x0)] → va_P (dC, dI) vwCl (mW ad cI cZ m_thrown m_size m_outLong m_lines m_toldLines m_tokens m_places m_p m_pre m_end m_text m_out m_lineAt m_lineLong m_depth m_signed m_led m_told m_place m_begin m_tokenLong m_stemLong m_address m_letters m_stems m_s) H → va_D A (mW ad cI cZ m_thrown m_size m_outLong m_lines m_toldLines m_tokens m_places m_p m_pre m_end m_text m_out m_lineAt m_lineLong m_depth m_signed m_led m_told m_place m_begin m_tokenLong m_stemLong m_address m_letters m_stems m_s) → va_S A s.heap H locs → wjX8_small_179 post x0  → W p l e (headSpec wsX8_small ({ frames := 1, cells := 0, slots := 0, locals := 22 })).room s m ([.int x0] : List Value).toArray below meth c H locs 0 0 (MQ below Qc ([.int x0] : List Value).toArray s 0 0 A) (F0 m 179 ls []) := by
    intro  H locs ls hl hP hD hS h
    delta wjX8_small_179 at h
    refine lv_iload_n hx hb dX8_small_179 rfl (lv_at hl 0 rfl) ?_
    refine lv_iconst (v := 2) hx hb dX8_small_180 (by decide) ?_
    refine lv_irem hx hb dX8_small_181 (by decide) ?_
    refine lv_iconst (v := 1) hx hb dX8_small_182 (by decide) ?_
    refine lv_icmp_ne (tgt := 192) hx hb dX8_small_183 (by decide) (fun c9 => ?_) (fun c9 => ?_)
    · have h := h.1 c9
      refine lv_iload_n hx hb dX8_small_192 rfl (lv_at hl 0 rfl) ?_
      exact W.iret (v := x0) hx hb hr (fun t ht hW => hQ x0 () t h (by rw [ht]; exact hP) (va_K.moved hW.alike hK) hD (hS.F ht)) hS.2.2 dX8_small_193
    · have h := h.2 c9
      refine lv_iload_n hx hb dX8_small_186 rfl (lv_at hl 0 rfl) ?_
      refine lv_iconst (v := 1) hx hb dX8_small_187 (by decide) ?_
      refine lv_iadd hx hb dX8_small_188 ?_
      refine lv_goto (tgt := 193) hx hb dX8_small_189 (by decide) ?_
      exact W.iret (v := (x0 + 1)) hx hb hr (fun t ht hW => hQ (x0 + 1) () t h (by rw [ht]; exact hP) (va_K.moved hW.alike hK) hD (hS.F ht)) hS.2.2 dX8_small_193
  have J139 : ∀ (H : Heap) (locs : List Loc) (ls : Array Slot), lv_has ls 1 [(0, .int x0)] → va_P (dC, dI) vwCl (mW ad cI cZ m_thrown m_size m_outLong m_lines m_toldLines m_tokens m_places m_p m_pre m_end m_text m_out m_lineAt m_lineLong m_depth m_signed m_led m_told m_place m_begin m_tokenLong m_stemLong m_address m_letters m_stems m_s) H → va_D A (mW ad cI cZ m_thrown m_size m_outLong m_lines m_toldLines m_tokens m_places m_p m_pre m_end m_text m_out m_lineAt m_lineLong m_depth m_signed m_led m_told m_place m_begin m_tokenLong m_stemLong m_address m_letters m_stems m_s) → va_S A s.heap H locs → wjX8_small_139 post x0  → W p l e (headSpec wsX8_small ({ frames := 1, cells := 0, slots := 0, locals := 22 })).room s m ([.int x0] : List Value).toArray below meth c H locs 0 0 (MQ below Qc ([.int x0] : List Value).toArray s 0 0 A) (F0 m 139 ls []) := by
    intro  H locs ls hl hP hD hS h
    delta wjX8_small_139 at h
    refine lv_iload_n hx hb dX8_small_139 rfl (lv_at hl 0 rfl) ?_
    refine lv_iconst (v := 2) hx hb dX8_small_140 (by decide) ?_
    refine lv_irem hx hb dX8_small_141 (by decide) ?_
    refine lv_if_ne (tgt := 151) hx hb dX8_small_142 (by decide) (fun c9 => ?_) (fun c9 => ?_)
    · have h := h.1 c9
      refine lv_iload_n hx hb dX8_small_151 rfl (lv_at hl 0 rfl) ?_
      exact W.iret (v := x0) hx hb hr (fun t ht hW => hQ x0 () t h (by rw [ht]; exact hP) (va_K.moved hW.alike hK) hD (hS.F ht)) hS.2.2 dX8_small_152
    · have h := h.2 c9
      refine lv_iload_n hx hb dX8_small_145 rfl (lv_at hl 0 rfl) ?_
      refine lv_iconst (v := 1) hx hb dX8_small_146 (by decide) ?_
      refine lv_iadd hx hb dX8_small_147 ?_
      refine lv_goto (tgt := 152) hx hb dX8_small_148 (by decide) ?_
      exact W.iret (v := (x0 + 1)) hx hb hr (fun t ht hW => hQ (x0 + 1) () t h (by rw [ht]; exact hP) (va_K.moved hW.alike hK) hD (hS.F ht)) hS.2.2 dX8_small_152
  have J64 : ∀ (H : Heap) (locs : List Loc) (ls : Array Slot), lv_has ls 1 [(0, .int x0)] → va_P (dC, dI) vwCl (mW ad cI cZ m_thrown m_size m_outLong m_lines m_toldLines m_tokens m_places m_p m_pre m_end m_text m_out m_lineAt m_lineLong m_depth m_signed m_led m_told m_place m_begin m_tokenLong m_stemLong m_address m_letters m_stems m_s) H → va_D A (mW ad cI cZ m_thrown m_size m_outLong m_lines m_toldLines m_tokens m_places m_p m_pre m_end m_text m_out m_lineAt m_lineLong m_depth m_signed m_led m_told m_place m_begin m_tokenLong m_stemLong m_address m_letters m_stems m_s) → va_S A s.heap H locs → wjX8_small_64 post x0  → W p l e (headSpec wsX8_small ({ frames := 1, cells := 0, slots := 0, locals := 22 })).room s m ([.int x0] : List Value).toArray below meth c H locs 0 0 (MQ below Qc ([.int x0] : List Value).toArray s 0 0 A) (F0 m 64 ls []) := by
    intro  H locs ls hl hP hD hS h
    delta wjX8_small_64 at h
    refine lv_iload_n hx hb dX8_small_64 rfl (lv_at hl 0 rfl) ?_
    refine lv_bipush (v := 32) hx hb dX8_small_65 (by decide) ?_
    refine lv_iadd hx hb dX8_small_67 ?_
    exact W.iret (v := (x0 + 32)) hx hb hr (fun t ht hW => hQ (x0 + 32) () t h (by rw [ht]; exact hP) (va_K.moved hW.alike hK) hD (hS.F ht)) hS.2.2 dX8_small_68
  have J51 : ∀ (H : Heap) (locs : List Loc) (ls : Array Slot), lv_has ls 1 [(0, .int x0)] → va_P (dC, dI) vwCl (mW ad cI cZ m_thrown m_size m_outLong m_lines m_toldLines m_tokens m_places m_p m_pre m_end m_text m_out m_lineAt m_lineLong m_depth m_signed m_led m_told m_place m_begin m_tokenLong m_stemLong m_address m_letters m_stems m_s) H → va_D A (mW ad cI cZ m_thrown m_size m_outLong m_lines m_toldLines m_tokens m_places m_p m_pre m_end m_text m_out m_lineAt m_lineLong m_depth m_signed m_led m_told m_place m_begin m_tokenLong m_stemLong m_address m_letters m_stems m_s) → va_S A s.heap H locs → wjX8_small_51 post x0  → W p l e (headSpec wsX8_small ({ frames := 1, cells := 0, slots := 0, locals := 22 })).room s m ([.int x0] : List Value).toArray below meth c H locs 0 0 (MQ below Qc ([.int x0] : List Value).toArray s 0 0 A) (F0 m 51 ls []) := by
    intro  H locs ls hl hP hD hS h
    delta wjX8_small_51 at h
    refine lv_iload_n hx hb dX8_small_51 rfl (lv_at hl 0 rfl) ?_
    refine lv_sipush (v := 1040) hx hb dX8_small_52 (by decide) ?_
    refine lv_sipush (v := 1071) hx hb dX8_small_55 (by decide) ?_
    refine xc_si (As := [.int x0, .int 1040, .int 1071]) (rest := []) xG Fx (sX8_within l dC dI ad cI cZ sa sv m_thrown m_size m_outLong m_lines m_toldLines m_tokens m_places m_p m_pre m_end m_text m_out m_lineAt m_lineLong m_depth m_signed m_led m_told m_place m_begin m_tokenLong m_stemLong m_address m_letters m_stems m_s x0 1040 1071 h) (va_cwS 3 hts gX8_small_X8_within rfl rfl rfl hdX8_within ⟨Nat.le_of_ble_eq_true rfl, Nat.le_of_ble_eq_true rfl⟩) hK hP hD hS hA hI rfl hl.1 rfl (Nat.le_of_ble_eq_true rfl) dX8_small_58 ⟨Nat.zero_le _, Nat.zero_le _⟩ (fun r_1 u H locs h hP hD hS => ?_)
    refine lv_if_eq (tgt := 69) hx hb dX8_small_61 (by decide) (fun c9 => ?_) (fun c9 => ?_)
    · have h := h.1 c9
      refine lv_iload_n hx hb dX8_small_69 rfl (lv_at hl 0 rfl) ?_
      refine lv_sipush (v := 1024) hx hb dX8_small_70 (by decide) ?_
      refine lv_sipush (v := 1039) hx hb dX8_small_73 (by decide) ?_
      refine xc_si (As := [.int x0, .int 1024, .int 1039]) (rest := []) xG Fx (sX8_within l dC dI ad cI cZ sa sv m_thrown m_size m_outLong m_lines m_toldLines m_tokens m_places m_p m_pre m_end m_text m_out m_lineAt m_lineLong m_depth m_signed m_led m_told m_place m_begin m_tokenLong m_stemLong m_address m_letters m_stems m_s x0 1024 1039 h) (va_cwS 3 hts gX8_small_X8_within rfl rfl rfl hdX8_within ⟨Nat.le_of_ble_eq_true rfl, Nat.le_of_ble_eq_true rfl⟩) hK hP hD hS hA hI rfl hl.1 rfl (Nat.le_of_ble_eq_true rfl) dX8_small_76 ⟨Nat.zero_le _, Nat.zero_le _⟩ (fun r_2 u H locs h hP hD hS => ?_)
      refine lv_if_eq (tgt := 87) hx hb dX8_small_79 (by decide) (fun c9 => ?_) (fun c9 => ?_)
      · have h := h.1 c9
        refine lv_iload_n hx hb dX8_small_87 rfl (lv_at hl 0 rfl) ?_
        refine lv_sipush (v := 256) hx hb dX8_small_88 (by decide) ?_
        refine lv_sipush (v := 311) hx hb dX8_small_91 (by decide) ?_
        refine xc_si (As := [.int x0, .int 256, .int 311]) (rest := []) xG Fx (sX8_within l dC dI ad cI cZ sa sv m_thrown m_size m_outLong m_lines m_toldLines m_tokens m_places m_p m_pre m_end m_text m_out m_lineAt m_lineLong m_depth m_signed m_led m_told m_place m_begin m_tokenLong m_stemLong m_address m_letters m_stems m_s x0 256 311 h) (va_cwS 3 hts gX8_small_X8_within rfl rfl rfl hdX8_within ⟨Nat.le_of_ble_eq_true rfl, Nat.le_of_ble_eq_true rfl⟩) hK hP hD hS hA hI rfl hl.1 rfl (Nat.le_of_ble_eq_true rfl) dX8_small_94 ⟨Nat.zero_le _, Nat.zero_le _⟩ (fun r_3 u H locs h hP hD hS => ?_)
        refine lv_if_ne (tgt := 139) hx hb dX8_small_97 (by decide) (fun c9 => ?_) (fun c9 => ?_)
        · have h := h.1 c9
          exact J139  H locs ls (lv_sub hl [0] rfl) hP hD hS h
        · have h := h.2 c9
          refine lv_iload_n hx hb dX8_small_100 rfl (lv_at hl 0 rfl) ?_
          refine lv_sipush (v := 330) hx hb dX8_small_101 (by decide) ?_
          refine lv_sipush (v := 375) hx hb dX8_small_104 (by decide) ?_
          refine xc_si (As := [.int x0, .int 330, .int 375]) (rest := []) xG Fx (sX8_within l dC dI ad cI cZ sa sv m_thrown m_size m_outLong m_lines m_toldLines m_tokens m_places m_p m_pre m_end m_text m_out m_lineAt m_lineLong m_depth m_signed m_led m_told m_place m_begin m_tokenLong m_stemLong m_address m_letters m_stems m_s x0 330 375 h) (va_cwS 3 hts gX8_small_X8_within rfl rfl rfl hdX8_within ⟨Nat.le_of_ble_eq_true rfl, Nat.le_of_ble_eq_true rfl⟩) hK hP hD hS hA hI rfl hl.1 rfl (Nat.le_of_ble_eq_true rfl) dX8_small_107 ⟨Nat.zero_le _, Nat.zero_le _⟩ (fun r_4 u H locs h hP hD hS => ?_)
          refine lv_if_ne (tgt := 139) hx hb dX8_small_110 (by decide) (fun c9 => ?_) (fun c9 => ?_)
          · have h := h.1 c9
            exact J139  H locs ls (lv_sub hl [0] rfl) hP hD hS h
          · have h := h.2 c9
            refine lv_iload_n hx hb dX8_small_113 rfl (lv_at hl 0 rfl) ?_
            refine lv_sipush (v := 1120) hx hb dX8_small_114 (by decide) ?_
            refine lv_sipush (v := 1153) hx hb dX8_small_117 (by decide) ?_
            refine xc_si (As := [.int x0, .int 1120, .int 1153]) (rest := []) xG Fx (sX8_within l dC dI ad cI cZ sa sv m_thrown m_size m_outLong m_lines m_toldLines m_tokens m_places m_p m_pre m_end m_text m_out m_lineAt m_lineLong m_depth m_signed m_led m_told m_place m_begin m_tokenLong m_stemLong m_address m_letters m_stems m_s x0 1120 1153 h) (va_cwS 3 hts gX8_small_X8_within rfl rfl rfl hdX8_within ⟨Nat.le_of_ble_eq_true rfl, Nat.le_of_ble_eq_true rfl⟩) hK hP hD hS hA hI rfl hl.1 rfl (Nat.le_of_ble_eq_true rfl) dX8_small_120 ⟨Nat.zero_le _, Nat.zero_le _⟩ (fun r_5 u H locs h hP hD hS => ?_)
            refine lv_if_ne (tgt := 139) hx hb dX8_small_123 (by decide) (fun c9 => ?_) (fun c9 => ?_)
            · have h := h.1 c9
              exact J139  H locs ls (lv_sub hl [0] rfl) hP hD hS h
            · have h := h.2 c9
              refine lv_iload_n hx hb dX8_small_126 rfl (lv_at hl 0 rfl) ?_
              refine lv_sipush (v := 1162) hx hb dX8_small_127 (by decide) ?_
              refine lv_sipush (v := 1215) hx hb dX8_small_130 (by decide) ?_
              refine xc_si (As := [.int x0, .int 1162, .int 1215]) (rest := []) xG Fx (sX8_within l dC dI ad cI cZ sa sv m_thrown m_size m_outLong m_lines m_toldLines m_tokens m_places m_p m_pre m_end m_text m_out m_lineAt m_lineLong m_depth m_signed m_led m_told m_place m_begin m_tokenLong m_stemLong m_address m_letters m_stems m_s x0 1162 1215 h) (va_cwS 3 hts gX8_small_X8_within rfl rfl rfl hdX8_within ⟨Nat.le_of_ble_eq_true rfl, Nat.le_of_ble_eq_true rfl⟩) hK hP hD hS hA hI rfl hl.1 rfl (Nat.le_of_ble_eq_true rfl) dX8_small_133 ⟨Nat.zero_le _, Nat.zero_le _⟩ (fun r_6 u H locs h hP hD hS => ?_)
              refine lv_if_eq (tgt := 153) hx hb dX8_small_136 (by decide) (fun c9 => ?_) (fun c9 => ?_)
              · have h := h.1 c9
                refine lv_iload_n hx hb dX8_small_153 rfl (lv_at hl 0 rfl) ?_
                refine lv_sipush (v := 313) hx hb dX8_small_154 (by decide) ?_
                refine lv_sipush (v := 328) hx hb dX8_small_157 (by decide) ?_
                refine xc_si (As := [.int x0, .int 313, .int 328]) (rest := []) xG Fx (sX8_within l dC dI ad cI cZ sa sv m_thrown m_size m_outLong m_lines m_toldLines m_tokens m_places m_p m_pre m_end m_text m_out m_lineAt m_lineLong m_depth m_signed m_led m_told m_place m_begin m_tokenLong m_stemLong m_address m_letters m_stems m_s x0 313 328 h) (va_cwS 3 hts gX8_small_X8_within rfl rfl rfl hdX8_within ⟨Nat.le_of_ble_eq_true rfl, Nat.le_of_ble_eq_true rfl⟩) hK hP hD hS hA hI rfl hl.1 rfl (Nat.le_of_ble_eq_true rfl) dX8_small_160 ⟨Nat.zero_le _, Nat.zero_le _⟩ (fun r_7 u H locs h hP hD hS => ?_)
                refine lv_if_ne (tgt := 179) hx hb dX8_small_163 (by decide) (fun c9 => ?_) (fun c9 => ?_)
                · have h := h.1 c9
                  exact J179  H locs ls (lv_sub hl [0] rfl) hP hD hS h
                · have h := h.2 c9
                  refine lv_iload_n hx hb dX8_small_166 rfl (lv_at hl 0 rfl) ?_
                  refine lv_sipush (v := 377) hx hb dX8_small_167 (by decide) ?_
                  refine lv_sipush (v := 382) hx hb dX8_small_170 (by decide) ?_
                  refine xc_si (As := [.int x0, .int 377, .int 382]) (rest := []) xG Fx (sX8_within l dC dI ad cI cZ sa sv m_thrown m_size m_outLong m_lines m_toldLines m_tokens m_places m_p m_pre m_end m_text m_out m_lineAt m_lineLong m_depth m_signed m_led m_told m_place m_begin m_tokenLong m_stemLong m_address m_letters m_stems m_s x0 377 382 h) (va_cwS 3 hts gX8_small_X8_within rfl rfl rfl hdX8_within ⟨Nat.le_of_ble_eq_true rfl, Nat.le_of_ble_eq_true rfl⟩) hK hP hD hS hA hI rfl hl.1 rfl (Nat.le_of_ble_eq_true rfl) dX8_small_173 ⟨Nat.zero_le _, Nat.zero_le _⟩ (fun r_8 u H locs h hP hD hS => ?_)
                  refine lv_if_eq (tgt := 194) hx hb dX8_small_176 (by decide) (fun c9 => ?_) (fun c9 => ?_)
                  · have h := h.1 c9
                    refine lv_iload_n hx hb dX8_small_194 rfl (lv_at hl 0 rfl) ?_
                    refine lv_sipush (v := 376) hx hb dX8_small_195 (by decide) ?_
                    refine lv_icmp_ne (tgt := 205) hx hb dX8_small_198 (by decide) (fun c9 => ?_) (fun c9 => ?_)
                    · have h := h.1 c9
                      refine lv_iload_n hx hb dX8_small_205 rfl (lv_at hl 0 rfl) ?_
                      refine lv_sipush (v := 902) hx hb dX8_small_206 (by decide) ?_
                      refine lv_icmp_ne (tgt := 216) hx hb dX8_small_209 (by decide) (fun c9 => ?_) (fun c9 => ?_)
                      · have h := h.1 c9
                        refine lv_iload_n hx hb dX8_small_216 rfl (lv_at hl 0 rfl) ?_
                        refine lv_sipush (v := 904) hx hb dX8_small_217 (by decide) ?_
                        refine lv_sipush (v := 906) hx hb dX8_small_220 (by decide) ?_
                        refine xc_si (As := [.int x0, .int 904, .int 906]) (rest := []) xG Fx (sX8_within l dC dI ad cI cZ sa sv m_thrown m_size m_outLong m_lines m_toldLines m_tokens m_places m_p m_pre m_end m_text m_out m_lineAt m_lineLong m_depth m_signed m_led m_told m_place m_begin m_tokenLong m_stemLong m_address m_letters m_stems m_s x0 904 906 h) (va_cwS 3 hts gX8_small_X8_within rfl rfl rfl hdX8_within ⟨Nat.le_of_ble_eq_true rfl, Nat.le_of_ble_eq_true rfl⟩) hK hP hD hS hA hI rfl hl.1 rfl (Nat.le_of_ble_eq_true rfl) dX8_small_223 ⟨Nat.zero_le _, Nat.zero_le _⟩ (fun r_9 u H locs h hP hD hS => ?_)
                        refine lv_if_eq (tgt := 234) hx hb dX8_small_226 (by decide) (fun c9 => ?_) (fun c9 => ?_)
                        · have h := h.1 c9
                          refine lv_iload_n hx hb dX8_small_234 rfl (lv_at hl 0 rfl) ?_
                          refine lv_sipush (v := 908) hx hb dX8_small_235 (by decide) ?_
                          refine lv_icmp_ne (tgt := 245) hx hb dX8_small_238 (by decide) (fun c9 => ?_) (fun c9 => ?_)
                          · have h := h.1 c9
                            refine lv_iload_n hx hb dX8_small_245 rfl (lv_at hl 0 rfl) ?_
                            refine lv_sipush (v := 910) hx hb dX8_small_246 (by decide) ?_
                            refine lv_icmp_eq (tgt := 259) hx hb dX8_small_249 (by decide) (fun c9 => ?_) (fun c9 => ?_)
                            · have h := h.1 c9
                              exact J259  H locs ls (lv_sub hl [0] rfl) hP hD hS h
                            · have h := h.2 c9
                              refine lv_iload_n hx hb dX8_small_252 rfl (lv_at hl 0 rfl) ?_
                              refine lv_sipush (v := 911) hx hb dX8_small_253 (by decide) ?_
                              refine lv_icmp_ne (tgt := 266) hx hb dX8_small_256 (by decide) (fun c9 => ?_) (fun c9 => ?_)
                              · have h := h.1 c9
                                refine lv_iload_n hx hb dX8_small_266 rfl (lv_at hl 0 rfl) ?_
                                exact W.iret (v := x0) hx hb hr (fun t ht hW => hQ x0 () t h (by rw [ht]; exact hP) (va_K.moved hW.alike hK) hD (hS.F ht)) hS.2.2 dX8_small_267
                              · have h := h.2 c9
                                exact J259  H locs ls (lv_sub hl [0] rfl) hP hD hS h
                          · have h := h.2 c9
                            refine lv_sipush (v := 972) hx hb dX8_small_241 (by decide) ?_
                            exact W.iret (v := 972) hx hb hr (fun t ht hW => hQ 972 () t h (by rw [ht]; exact hP) (va_K.moved hW.alike hK) hD (hS.F ht)) hS.2.2 dX8_small_244
                        · have h := h.2 c9
                          refine lv_iload_n hx hb dX8_small_229 rfl (lv_at hl 0 rfl) ?_
                          refine lv_bipush (v := 37) hx hb dX8_small_230 (by decide) ?_
                          refine lv_iadd hx hb dX8_small_232 ?_
                          exact W.iret (v := (x0 + 37)) hx hb hr (fun t ht hW => hQ (x0 + 37) () t h (by rw [ht]; exact hP) (va_K.moved hW.alike hK) hD (hS.F ht)) hS.2.2 dX8_small_233
                      · have h := h.2 c9
                        refine lv_sipush (v := 940) hx hb dX8_small_212 (by decide) ?_
                        exact W.iret (v := 940) hx hb hr (fun t ht hW => hQ 940 () t h (by rw [ht]; exact hP) (va_K.moved hW.alike hK) hD (hS.F ht)) hS.2.2 dX8_small_215
                    · have h := h.2 c9
                      refine lv_sipush (v := 255) hx hb dX8_small_201 (by decide) ?_
                      exact W.iret (v := 255) hx hb hr (fun t ht hW => hQ 255 () t h (by rw [ht]; exact hP) (va_K.moved hW.alike hK) hD (hS.F ht)) hS.2.2 dX8_small_204
                  · have h := h.2 c9
                    exact J179  H locs ls (lv_sub hl [0] rfl) hP hD hS h
              · have h := h.2 c9
                exact J139  H locs ls (lv_sub hl [0] rfl) hP hD hS h
      · have h := h.2 c9
        refine lv_iload_n hx hb dX8_small_82 rfl (lv_at hl 0 rfl) ?_
        refine lv_bipush (v := 80) hx hb dX8_small_83 (by decide) ?_
        refine lv_iadd hx hb dX8_small_85 ?_
        exact W.iret (v := (x0 + 80)) hx hb hr (fun t ht hW => hQ (x0 + 80) () t h (by rw [ht]; exact hP) (va_K.moved hW.alike hK) hD (hS.F ht)) hS.2.2 dX8_small_86
    · have h := h.2 c9
      exact J64  H locs ls (lv_sub hl [0] rfl) hP hD hS h
  have J31 : ∀ (H : Heap) (locs : List Loc) (ls : Array Slot), lv_has ls 1 [(0, .int x0)] → va_P (dC, dI) vwCl (mW ad cI cZ m_thrown m_size m_outLong m_lines m_toldLines m_tokens m_places m_p m_pre m_end m_text m_out m_lineAt m_lineLong m_depth m_signed m_led m_told m_place m_begin m_tokenLong m_stemLong m_address m_letters m_stems m_s) H → va_D A (mW ad cI cZ m_thrown m_size m_outLong m_lines m_toldLines m_tokens m_places m_p m_pre m_end m_text m_out m_lineAt m_lineLong m_depth m_signed m_led m_told m_place m_begin m_tokenLong m_stemLong m_address m_letters m_stems m_s) → va_S A s.heap H locs → wjX8_small_31 post x0  → W p l e (headSpec wsX8_small ({ frames := 1, cells := 0, slots := 0, locals := 22 })).room s m ([.int x0] : List Value).toArray below meth c H locs 0 0 (MQ below Qc ([.int x0] : List Value).toArray s 0 0 A) (F0 m 31 ls []) := by
    intro  H locs ls hl hP hD hS h
    delta wjX8_small_31 at h
    refine lv_iload_n hx hb dX8_small_31 rfl (lv_at hl 0 rfl) ?_
    refine lv_sipush (v := 913) hx hb dX8_small_32 (by decide) ?_
    refine lv_sipush (v := 939) hx hb dX8_small_35 (by decide) ?_
    refine xc_si (As := [.int x0, .int 913, .int 939]) (rest := []) xG Fx (sX8_within l dC dI ad cI cZ sa sv m_thrown m_size m_outLong m_lines m_toldLines m_tokens m_places m_p m_pre m_end m_text m_out m_lineAt m_lineLong m_depth m_signed m_led m_told m_place m_begin m_tokenLong m_stemLong m_address m_letters m_stems m_s x0 913 939 h) (va_cwS 3 hts gX8_small_X8_within rfl rfl rfl hdX8_within ⟨Nat.le_of_ble_eq_true rfl, Nat.le_of_ble_eq_true rfl⟩) hK hP hD hS hA hI rfl hl.1 rfl (Nat.le_of_ble_eq_true rfl) dX8_small_38 ⟨Nat.zero_le _, Nat.zero_le _⟩ (fun r_10 u H locs h hP hD hS => ?_)
    refine lv_if_eq (tgt := 51) hx hb dX8_small_41 (by decide) (fun c9 => ?_) (fun c9 => ?_)
    · have h := h.1 c9
      exact J51  H locs ls (lv_sub hl [0] rfl) hP hD hS h
    · have h := h.2 c9
      refine lv_iload_n hx hb dX8_small_44 rfl (lv_at hl 0 rfl) ?_
      refine lv_sipush (v := 930) hx hb dX8_small_45 (by decide) ?_
      refine lv_icmp_ne (tgt := 64) hx hb dX8_small_48 (by decide) (fun c9 => ?_) (fun c9 => ?_)
      · have h := h.1 c9
        exact J64  H locs ls (lv_sub hl [0] rfl) hP hD hS h
      · have h := h.2 c9
        exact J51  H locs ls (lv_sub hl [0] rfl) hP hD hS h
  intro H locs hP hD hS
  delta wpX8_small at h
  refine lv_iload_n hx hb dX8_small_0 rfl (lv_at hl 0 rfl) ?_
  refine lv_bipush (v := 65) hx hb dX8_small_1 (by decide) ?_
  refine lv_bipush (v := 90) hx hb dX8_small_3 (by decide) ?_
  refine xc_si (As := [.int x0, .int 65, .int 90]) (rest := []) xG Fx (sX8_within l dC dI ad cI cZ sa sv m_thrown m_size m_outLong m_lines m_toldLines m_tokens m_places m_p m_pre m_end m_text m_out m_lineAt m_lineLong m_depth m_signed m_led m_told m_place m_begin m_tokenLong m_stemLong m_address m_letters m_stems m_s x0 65 90 h) (va_cwS 3 hts gX8_small_X8_within rfl rfl rfl hdX8_within ⟨Nat.le_of_ble_eq_true rfl, Nat.le_of_ble_eq_true rfl⟩) hK hP hD hS hA hI rfl hl.1 rfl (Nat.le_of_ble_eq_true rfl) dX8_small_5 ⟨Nat.zero_le _, Nat.zero_le _⟩ (fun r_11 u H locs h hP hD hS => ?_)
  refine lv_if_ne (tgt := 64) hx hb dX8_small_8 (by decide) (fun c9 => ?_) (fun c9 => ?_)
  · have h := h.1 c9
    exact J64  H locs ls (lv_sub hl [0] rfl) hP hD hS h
  · have h := h.2 c9
    refine lv_iload_n hx hb dX8_small_11 rfl (lv_at hl 0 rfl) ?_
    refine lv_sipush (v := 192) hx hb dX8_small_12 (by decide) ?_
    refine lv_sipush (v := 222) hx hb dX8_small_15 (by decide) ?_
    refine xc_si (As := [.int x0, .int 192, .int 222]) (rest := []) xG Fx (sX8_within l dC dI ad cI cZ sa sv m_thrown m_size m_outLong m_lines m_toldLines m_tokens m_places m_p m_pre m_end m_text m_out m_lineAt m_lineLong m_depth m_signed m_led m_told m_place m_begin m_tokenLong m_stemLong m_address m_letters m_stems m_s x0 192 222 h) (va_cwS 3 hts gX8_small_X8_within rfl rfl rfl hdX8_within ⟨Nat.le_of_ble_eq_true rfl, Nat.le_of_ble_eq_true rfl⟩) hK hP hD hS hA hI rfl hl.1 rfl (Nat.le_of_ble_eq_true rfl) dX8_small_18 ⟨Nat.zero_le _, Nat.zero_le _⟩ (fun r_12 u H locs h hP hD hS => ?_)
    refine lv_if_eq (tgt := 31) hx hb dX8_small_21 (by decide) (fun c9 => ?_) (fun c9 => ?_)
    · have h := h.1 c9
      exact J31  H locs ls (lv_sub hl [0] rfl) hP hD hS h
    · have h := h.2 c9
      refine lv_iload_n hx hb dX8_small_24 rfl (lv_at hl 0 rfl) ?_
      refine lv_sipush (v := 215) hx hb dX8_small_25 (by decide) ?_
      refine lv_icmp_ne (tgt := 64) hx hb dX8_small_28 (by decide) (fun c9 => ?_) (fun c9 => ?_)
      · have h := h.1 c9
        exact J64  H locs ls (lv_sub hl [0] rfl) hP hD hS h
      · have h := h.2 c9
        exact J31  H locs ls (lv_sub hl [0] rfl) hP hD hS h
