set_option maxHeartbeats 4000000 in
set_option maxRecDepth 100000 in
theorem sX8_skipTo (l : Launch) (dC : Nat → ClassId) (dI : Nat → Nat → Nat) (ad : Nat → Nat) (cI cZ : ClassId) (sa sv : Nat → Nat) (m_thrown : Int32) (m_size : Int32) (m_outLong : Int32) (m_lines : Int32) (m_toldLines : Int32) (m_tokens : Int32) (m_places : Int32) (m_p : Int32) (m_pre : Int32) (m_end : Int32) (m_text : Nat → Int32) (m_out : Nat → Int32) (m_lineAt : Nat → Int32) (m_lineLong : Nat → Int32) (m_depth : Nat → Int32) (m_signed : Nat → Int32) (m_led : Nat → Int32) (m_told : Nat → Int32) (m_place : Nat → Int32) (m_begin : Nat → Int32) (m_tokenLong : Nat → Int32) (m_stemLong : Nat → Int32) (m_address : Nat → Int32) (m_letters : Nat → Int32) (m_stems : Nat → Int32) (m_s : Nat → Int32) (x1 : Int32) (x2 : Int32) {post : Int32 → Prop} (h : wpX8_skipTo post m_size m_p m_text x1 x2) : xMv l (dC, dI) vwCl [(cI, .int), (cZ, .boolean)] (sI sa sv) yX8_skipTo wsX8_skipTo ({ frames := 1, cells := 0, slots := 0, locals := 21 }) (mW ad cI cZ m_thrown m_size m_outLong m_lines m_toldLines m_tokens m_places m_p m_pre m_end m_text m_out m_lineAt m_lineLong m_depth m_signed m_led m_told m_place m_begin m_tokenLong m_stemLong m_address m_letters m_stems m_s) [.ref (ad 0), .int x1, .int x2] (fun u : Int32 => post u) (fun u : Int32 => (mW ad cI cZ m_thrown m_size m_outLong m_lines m_toldLines m_tokens m_places u m_pre m_end m_text m_out m_lineAt m_lineLong m_depth m_signed m_led m_told m_place m_begin m_tokenLong m_stemLong m_address m_letters m_stems m_s)) := by
  intro sz
  refine Met.ofW (cc := cX8_skipTo) (maxL := 4) (ret := none) (by decide) rfl ?_
  intro p e s m args below meth c s₁ B hml hv
  obtain ⟨rfl, hsz, hP, hK, hD0, hI⟩ := hv
  have hx := B.exec
  have hb := B.bytes
  have hr := B.returns
  have hts := atoms_spec (ws := wsX8_skipTo) B.pre
  have hown : s.vm.findClass RX8 = some m.cls := findClass_of_methodNamed B.named
  have hlocks := B.notSynchronized
  subst hsz
  have hD := hD0.self (sz := s.heap.size)
  generalize hAe : va_A (mW ad cI cZ m_thrown m_size m_outLong m_lines m_toldLines m_tokens m_places m_p m_pre m_end m_text m_out m_lineAt m_lineLong m_depth m_signed m_led m_told m_place m_begin m_tokenLong m_stemLong m_address m_letters m_stems m_s) s.heap.size = A at hD hI ⊢
  have hA : ∀ q : Nat, s.heap.size ≤ q → A q := fun q h => by rw [← hAe]; exact Or.inr h
  have hS : va_S A s.heap s.heap [] := va_S.rf
  have Fx : CallFix p m c cX8_skipTo 4 s ([.ref (ad 0), .int x1, .int x2] : List Value).toArray wsX8_skipTo RX8 := ⟨hx, hb, hml, hown, hts⟩
  have hQ : ∀ (u : Int32) (t : State), (fun u : Int32 => post u) u → va_P (dC, dI) vwCl ((fun u : Int32 => (mW ad cI cZ m_thrown m_size m_outLong m_lines m_toldLines m_tokens m_places u m_pre m_end m_text m_out m_lineAt m_lineLong m_depth m_signed m_led m_told m_place m_begin m_tokenLong m_stemLong m_address m_letters m_stems m_s)) u) t.heap → va_K (dC, dI) vwCl [(cI, .int), (cZ, .boolean)] t → va_D A ((fun u : Int32 => (mW ad cI cZ m_thrown m_size m_outLong m_lines m_toldLines m_tokens m_places u m_pre m_end m_text m_out m_lineAt m_lineLong m_depth m_signed m_led m_told m_place m_begin m_tokenLong m_stemLong m_address m_letters m_stems m_s)) u) → va_F A s t → (va_Qv (fun u : Int32 => post u) (xB (dC, dI) vwCl [(cI, .int), (cZ, .boolean)] A (fun u : Int32 => (mW ad cI cZ m_thrown m_size m_outLong m_lines m_toldLines m_tokens m_places u m_pre m_end m_text m_out m_lineAt m_lineLong m_depth m_signed m_led m_told m_place m_begin m_tokenLong m_stemLong m_address m_letters m_stems m_s))) A) ([.ref (ad 0), .int x1, .int x2] : List Value).toArray s (.returned none) t := fun u t h1 h2 h3 h4 h5 => ⟨⟨u, rfl, h1, h2, h3, h4⟩, h5⟩
  generalize (va_Qv (fun u : Int32 => post u) (xB (dC, dI) vwCl [(cI, .int), (cZ, .boolean)] A (fun u : Int32 => (mW ad cI cZ m_thrown m_size m_outLong m_lines m_toldLines m_tokens m_places u m_pre m_end m_text m_out m_lineAt m_lineLong m_depth m_signed m_led m_told m_place m_begin m_tokenLong m_stemLong m_address m_letters m_stems m_s))) A) = Qc at hQ ⊢
  have hl := lv_entry ([.ref (ad 0), .int x1, .int x2]) (n := 4) (Nat.le_of_ble_eq_true rfl)
  rw [lg_entry_eq]
  generalize (lg_sl ([.ref (ad 0), .int x1, .int x2]) ++ List.replicate (4 - (lg_sl ([.ref (ad 0), .int x1, .int x2])).length) Slot.unset).toArray = ls at hl ⊢
  have hl : lv_has ls 4 [(0, .ref (ad 0)), (1, .int x1), (2, .int x2)] := hl
  refine (fun (key : ∀ (H : Heap) (locs : List Loc), va_P (dC, dI) vwCl (mW ad cI cZ m_thrown m_size m_outLong m_lines m_toldLines m_tokens m_places m_p m_pre m_end m_text m_out m_lineAt m_lineLong m_depth m_signed m_led m_told m_place m_begin m_tokenLong m_stemLong m_address m_letters m_stems m_s) H → va_D A (mW ad cI cZ m_thrown m_size m_outLong m_lines m_toldLines m_tokens m_places m_p m_pre m_end m_text m_out m_lineAt m_lineLong m_depth m_signed m_led m_told m_place m_begin m_tokenLong m_stemLong m_address m_letters m_stems m_s) → va_S A s.heap H locs → W p l e (headSpec wsX8_skipTo ({ frames := 1, cells := 0, slots := 0, locals := 21 })).room s m ([.ref (ad 0), .int x1, .int x2] : List Value).toArray below meth c H locs 0 0 (MQ below Qc ([.ref (ad 0), .int x1, .int x2] : List Value).toArray s 0 0 A) (F0 m 0 ls [])) => key _ _ hP hD hS) ?_
  have inX8 : ∀ w ∈ wsX80, w ∈ wsX8_skipTo := (fun _ h9 => List.mem_cons_of_mem _ (List.mem_append_right _ h9))
  have J80 : ∀ (m_p : Int32) (s0 : Int32) (s1 : Int32) (H : Heap) (locs : List Loc) (ls : Array Slot), lv_has ls 4 [(0, .ref (ad 0))] → va_P (dC, dI) vwCl (mW ad cI cZ m_thrown m_size m_outLong m_lines m_toldLines m_tokens m_places m_p m_pre m_end m_text m_out m_lineAt m_lineLong m_depth m_signed m_led m_told m_place m_begin m_tokenLong m_stemLong m_address m_letters m_stems m_s) H → va_D A (mW ad cI cZ m_thrown m_size m_outLong m_lines m_toldLines m_tokens m_places m_p m_pre m_end m_text m_out m_lineAt m_lineLong m_depth m_signed m_led m_told m_place m_begin m_tokenLong m_stemLong m_address m_letters m_stems m_s) → va_S A s.heap H locs → wjX8_skipTo_80 post m_size m_text x1 x2 m_p s0 s1 → W p l e (headSpec wsX8_skipTo ({ frames := 1, cells := 0, slots := 0, locals := 21 })).room s m ([.ref (ad 0), .int x1, .int x2] : List Value).toArray below meth c H locs 0 0 (MQ below Qc ([.ref (ad 0), .int x1, .int x2] : List Value).toArray s 0 0 A) (F0 m 80 ls [.int s0, .int s1, .ref (ad 0)]) := by
    intro m_p s0 s1 H locs ls hl hP hD hS h
    delta wjX8_skipTo_80 at h
    refine lv_iadd hx hb dX8_skipTo_80 ?_
    refine lv_topi (fun m_p_1 em_p_1 => ?_)
    have h := h m_p_1 em_p_1
    refine va_put (D := (dC, dI)) (ci := 7) (v := .int m_p_1) (ty := .int) (C := RX8) (T := TX8) (N := 26) hx hb hts inX8 tyX8 tyX8_ok nmX8 hown hK hP hD hS 0 rfl rfl 22 (by decide) (hts (.fieldLink RX8 150 "MailWordsModel" "p" "I") (List.mem_of_getElem? (i := 3) rfl)) (fun _ h9 => h9) rfl (tyX8_ok 22 (by decide)) rfl rfl (Nat.le_of_ble_eq_true rfl) dX8_skipTo_81 (fun H locs hP hD hS => ?_)
    have hP : va_P (dC, dI) vwCl (mW ad cI cZ m_thrown m_size m_outLong m_lines m_toldLines m_tokens m_places m_p_1 m_pre m_end m_text m_out m_lineAt m_lineLong m_depth m_signed m_led m_told m_place m_begin m_tokenLong m_stemLong m_address m_letters m_stems m_s) H := hP
    have hD : va_D A (mW ad cI cZ m_thrown m_size m_outLong m_lines m_toldLines m_tokens m_places m_p_1 m_pre m_end m_text m_out m_lineAt m_lineLong m_depth m_signed m_led m_told m_place m_begin m_tokenLong m_stemLong m_address m_letters m_stems m_s) := hD
    refine lv_aload_n hx hb dX8_skipTo_84 rfl (lv_at hl 0 rfl) ?_
    refine va_get (D := (dC, dI)) (ci := 7) (v := .int m_p_1) (C := RX8) (T := TX8) (N := 26) hx hb hts inX8 hown hK hP 0 rfl rfl 22 (by decide) (hts (.fieldLink RX8 150 "MailWordsModel" "p" "I") (List.mem_of_getElem? (i := 3) rfl)) (fun _ h9 => h9) rfl dX8_skipTo_85 ?_
    refine lv_aload_n hx hb dX8_skipTo_88 rfl (lv_at hl 0 rfl) ?_
    refine va_get (D := (dC, dI)) (ci := 7) (v := .int m_size) (C := RX8) (T := TX8) (N := 26) hx hb hts inX8 hown hK hP 0 rfl rfl 2 (by decide) (hts (.fieldLink RX8 64 "MailWordsModel" "size" "I") (List.mem_of_getElem? (i := 1) rfl)) (fun _ h9 => h9) rfl dX8_skipTo_89 ?_
    refine lv_icmp_le (tgt := 103) hx hb dX8_skipTo_92 (by decide) (fun c9 => ?_) (fun c9 => ?_)
    · have h := h.1 c9
      exact W.vret hx hb hr (fun t ht hW => hQ m_p_1 t h (by rw [ht]; exact hP) (va_K.moved hW.alike hK) hD (hS.F ht)) hS.2.2 dX8_skipTo_103
    · have h := h.2 c9
      refine lv_aload_n hx hb dX8_skipTo_95 rfl (lv_at hl 0 rfl) ?_
      refine lv_aload_n hx hb dX8_skipTo_96 rfl (lv_at hl 0 rfl) ?_
      refine va_get (D := (dC, dI)) (ci := 7) (v := .int m_size) (C := RX8) (T := TX8) (N := 26) hx hb hts inX8 hown hK hP 0 rfl rfl 2 (by decide) (hts (.fieldLink RX8 64 "MailWordsModel" "size" "I") (List.mem_of_getElem? (i := 1) rfl)) (fun _ h9 => h9) rfl dX8_skipTo_97 ?_
      refine va_put (D := (dC, dI)) (ci := 7) (v := .int m_size) (ty := .int) (C := RX8) (T := TX8) (N := 26) hx hb hts inX8 tyX8 tyX8_ok nmX8 hown hK hP hD hS 0 rfl rfl 22 (by decide) (hts (.fieldLink RX8 150 "MailWordsModel" "p" "I") (List.mem_of_getElem? (i := 3) rfl)) (fun _ h9 => h9) rfl (tyX8_ok 22 (by decide)) rfl rfl (Nat.le_of_ble_eq_true rfl) dX8_skipTo_100 (fun H locs hP hD hS => ?_)
      have hP : va_P (dC, dI) vwCl (mW ad cI cZ m_thrown m_size m_outLong m_lines m_toldLines m_tokens m_places m_size m_pre m_end m_text m_out m_lineAt m_lineLong m_depth m_signed m_led m_told m_place m_begin m_tokenLong m_stemLong m_address m_letters m_stems m_s) H := hP
      have hD : va_D A (mW ad cI cZ m_thrown m_size m_outLong m_lines m_toldLines m_tokens m_places m_size m_pre m_end m_text m_out m_lineAt m_lineLong m_depth m_signed m_led m_told m_place m_begin m_tokenLong m_stemLong m_address m_letters m_stems m_s) := hD
      exact W.vret hx hb hr (fun t ht hW => hQ m_size t h (by rw [ht]; exact hP) (va_K.moved hW.alike hK) hD (hS.F ht)) hS.2.2 dX8_skipTo_103
  have J69 : ∀ (m_p : Int32) (x3 : Int32) (H : Heap) (locs : List Loc) (ls : Array Slot), lv_has ls 4 [(0, .ref (ad 0)), (2, .int x2), (3, .int x3)] → va_P (dC, dI) vwCl (mW ad cI cZ m_thrown m_size m_outLong m_lines m_toldLines m_tokens m_places m_p m_pre m_end m_text m_out m_lineAt m_lineLong m_depth m_signed m_led m_told m_place m_begin m_tokenLong m_stemLong m_address m_letters m_stems m_s) H → va_D A (mW ad cI cZ m_thrown m_size m_outLong m_lines m_toldLines m_tokens m_places m_p m_pre m_end m_text m_out m_lineAt m_lineLong m_depth m_signed m_led m_told m_place m_begin m_tokenLong m_stemLong m_address m_letters m_stems m_s) → va_S A s.heap H locs → wjX8_skipTo_69 post m_size m_text x1 x2 m_p x3 → W p l e (headSpec wsX8_skipTo ({ frames := 1, cells := 0, slots := 0, locals := 21 })).room s m ([.ref (ad 0), .int x1, .int x2] : List Value).toArray below meth c H locs 0 0 (MQ below Qc ([.ref (ad 0), .int x1, .int x2] : List Value).toArray s 0 0 A) (F0 m 69 ls []) := by
    intro m_p x3 H locs ls hl hP hD hS h
    delta wjX8_skipTo_69 at h
    refine lv_aload_n hx hb dX8_skipTo_69 rfl (lv_at hl 0 rfl) ?_
    refine lv_iload_n hx hb dX8_skipTo_70 rfl (lv_at hl 2 rfl) ?_
    refine lv_iload_n hx hb dX8_skipTo_71 rfl (lv_at hl 1 rfl) ?_
    refine lv_if_eq (tgt := 79) hx hb dX8_skipTo_72 (by decide) (fun c9 => ?_) (fun c9 => ?_)
    · have h := h.1 c9
      refine lv_iconst (v := 1) hx hb dX8_skipTo_79 (by decide) ?_
      exact J80 m_p 1 x3 H locs ls (lv_sub hl [0] rfl) hP hD hS h
    · have h := h.2 c9
      refine lv_iconst (v := 3) hx hb dX8_skipTo_75 (by decide) ?_
      refine lv_goto (tgt := 80) hx hb dX8_skipTo_76 (by decide) ?_
      exact J80 m_p 3 x3 H locs ls (lv_sub hl [0] rfl) hP hD hS h
  have L2 : ∀ (m_p : Int32) (n : Nat) (x3 : Int32) (H : Heap) (locs : List Loc) (ls : Array Slot), lv_has ls 4 [(0, .ref (ad 0)), (2, .int x2), (3, .int x3)] → va_P (dC, dI) vwCl (mW ad cI cZ m_thrown m_size m_outLong m_lines m_toldLines m_tokens m_places m_p m_pre m_end m_text m_out m_lineAt m_lineLong m_depth m_signed m_led m_told m_place m_begin m_tokenLong m_stemLong m_address m_letters m_stems m_s) H → va_D A (mW ad cI cZ m_thrown m_size m_outLong m_lines m_toldLines m_tokens m_places m_p m_pre m_end m_text m_out m_lineAt m_lineLong m_depth m_signed m_led m_told m_place m_begin m_tokenLong m_stemLong m_address m_letters m_stems m_s) → va_S A s.heap H locs → wlX8_skipTo_2 post m_size m_text x1 x2 m_p n x3 → W p l e (headSpec wsX8_skipTo ({ frames := 1, cells := 0, slots := 0, locals := 21 })).room s m ([.ref (ad 0), .int x1, .int x2] : List Value).toArray below meth c H locs 0 0 (MQ below Qc ([.ref (ad 0), .int x1, .int x2] : List Value).toArray s 0 0 A) (F0 m 2 ls []) := by
    intro m_p
    intro n
    induction n with
    | zero => intro x3 H locs ls _ _ _ _ h; exact absurd h (fun z => z)
    | succ n2 ih2 =>
      intro x3 H locs ls hl hP hD hS h
      have J63 : ∀ (x3 : Int32) (H : Heap) (locs : List Loc) (ls : Array Slot), lv_has ls 4 [(0, .ref (ad 0)), (2, .int x2), (3, .int x3)] → va_P (dC, dI) vwCl (mW ad cI cZ m_thrown m_size m_outLong m_lines m_toldLines m_tokens m_places m_p m_pre m_end m_text m_out m_lineAt m_lineLong m_depth m_signed m_led m_told m_place m_begin m_tokenLong m_stemLong m_address m_letters m_stems m_s) H → va_D A (mW ad cI cZ m_thrown m_size m_outLong m_lines m_toldLines m_tokens m_places m_p m_pre m_end m_text m_out m_lineAt m_lineLong m_depth m_signed m_led m_told m_place m_begin m_tokenLong m_stemLong m_address m_letters m_stems m_s) → va_S A s.heap H locs → wjX8_skipTo_63 (fun x3 => wlX8_skipTo_2 post m_size m_text x1 x2 m_p n2 x3) post m_size m_text x1 x2 m_p x3 → W p l e (headSpec wsX8_skipTo ({ frames := 1, cells := 0, slots := 0, locals := 21 })).room s m ([.ref (ad 0), .int x1, .int x2] : List Value).toArray below meth c H locs 0 0 (MQ below Qc ([.ref (ad 0), .int x1, .int x2] : List Value).toArray s 0 0 A) (F0 m 63 ls []) := by
        intro x3 H locs ls hl hP hD hS h
        delta wjX8_skipTo_63 at h
        obtain ⟨x3_2, ex3_2⟩ : ∃ y : Int32, y = x3 + 1 := ⟨_, rfl⟩
        have h := h x3_2 ex3_2
        refine lv_iinc (v := x3_2) (lv' := [(3, .int x3_2), (0, .ref (ad 0)), (2, .int x2)]) hx hb dX8_skipTo_63 hl (k := 2) rfl (by rw [ex3_2]; rfl) (by decide) rfl (fun ls hl => ?_)
        refine lv_goto (tgt := 2) hx hb dX8_skipTo_66 (by decide) ?_
        exact ih2 x3_2 H locs ls (lv_sub hl [1, 2, 0] rfl) hP hD hS h
      rw [wlX8_skipTo_2] at h
      refine lv_iload_n hx hb dX8_skipTo_2 rfl (lv_at hl 2 rfl) ?_
      refine lv_aload_n hx hb dX8_skipTo_3 rfl (lv_at hl 0 rfl) ?_
      refine va_get (D := (dC, dI)) (ci := 7) (v := .int m_size) (C := RX8) (T := TX8) (N := 26) hx hb hts inX8 hown hK hP 0 rfl rfl 2 (by decide) (hts (.fieldLink RX8 64 "MailWordsModel" "size" "I") (List.mem_of_getElem? (i := 1) rfl)) (fun _ h9 => h9) rfl dX8_skipTo_4 ?_
      refine lv_icmp_ge (tgt := 69) hx hb dX8_skipTo_7 (by decide) (fun c9 => ?_) (fun c9 => ?_)
      · have h := h.1 c9
        exact J69 m_p x3 H locs ls (lv_sub hl [0, 1, 2] rfl) hP hD hS h
      · have h := h.2 c9
        refine lv_iload_n hx hb dX8_skipTo_10 rfl (lv_at hl 1 rfl) ?_
        refine lv_if_eq (tgt := 52) hx hb dX8_skipTo_11 (by decide) (fun c9 => ?_) (fun c9 => ?_)
        · have h := h.1 c9
          refine lv_aload_n hx hb dX8_skipTo_52 rfl (lv_at hl 0 rfl) ?_
          refine va_get (D := (dC, dI)) (ci := 7) (v := .ref (ad 1)) (C := RX8) (T := TX8) (N := 26) hx hb hts inX8 hown hK hP 0 rfl rfl 1 (by decide) (hts (.fieldLink RX8 7 "MailWordsModel" "text" "[I") (List.mem_of_getElem? (i := 2) rfl)) (fun _ h9 => h9) rfl dX8_skipTo_53 ?_
          refine lv_iload_n hx hb dX8_skipTo_56 rfl (lv_at hl 2 rfl) ?_
          have hi9 := h.1
          have h := h.2
          refine va_iald hx hb hK hP 1 0 rfl rfl hi9 dX8_skipTo_57 ?_
          refine lv_bipush (v := 62) hx hb dX8_skipTo_58 (by decide) ?_
          refine lv_icmp_eq (tgt := 69) hx hb dX8_skipTo_60 (by decide) (fun c9 => ?_) (fun c9 => ?_)
          · have h := h.1 c9
            exact J69 m_p x3 H locs ls (lv_sub hl [0, 1, 2] rfl) hP hD hS h
          · have h := h.2 c9
            exact J63 x3 H locs ls (lv_sub hl [0, 1, 2] rfl) hP hD hS h
        · have h := h.2 c9
          refine lv_aload_n hx hb dX8_skipTo_14 rfl (lv_at hl 0 rfl) ?_
          refine va_get (D := (dC, dI)) (ci := 7) (v := .ref (ad 1)) (C := RX8) (T := TX8) (N := 26) hx hb hts inX8 hown hK hP 0 rfl rfl 1 (by decide) (hts (.fieldLink RX8 7 "MailWordsModel" "text" "[I") (List.mem_of_getElem? (i := 2) rfl)) (fun _ h9 => h9) rfl dX8_skipTo_15 ?_
          refine lv_iload_n hx hb dX8_skipTo_18 rfl (lv_at hl 2 rfl) ?_
          have hi9 := h.1
          have h := h.2
          refine va_iald hx hb hK hP 1 0 rfl rfl hi9 dX8_skipTo_19 ?_
          refine lv_bipush (v := 45) hx hb dX8_skipTo_20 (by decide) ?_
          refine lv_icmp_ne (tgt := 63) hx hb dX8_skipTo_22 (by decide) (fun c9 => ?_) (fun c9 => ?_)
          · have h := h.1 c9
            exact J63 x3 H locs ls (lv_sub hl [0, 1, 2] rfl) hP hD hS h
          · have h := h.2 c9
            refine lv_aload_n hx hb dX8_skipTo_25 rfl (lv_at hl 0 rfl) ?_
            refine lv_iload_n hx hb dX8_skipTo_26 rfl (lv_at hl 2 rfl) ?_
            refine lv_iconst (v := 1) hx hb dX8_skipTo_27 (by decide) ?_
            refine lv_iadd hx hb dX8_skipTo_28 ?_
            refine xc_vi (As := [.int (x3 + 1)]) (rest := []) xG Fx (sX8_look l dC dI ad cI cZ sa sv m_thrown m_size m_outLong m_lines m_toldLines m_tokens m_places m_p m_pre m_end m_text m_out m_lineAt m_lineLong m_depth m_signed m_led m_told m_place m_begin m_tokenLong m_stemLong m_address m_letters m_stems m_s (x3 + 1) h) (cwV 1 hts gX8_skipTo_X8_look rfl rfl rfl hdX8_look ⟨Nat.le_of_ble_eq_true rfl, Nat.le_of_ble_eq_true rfl⟩) (va_recv hK hP (ci := 7) (q0 := 0) rfl rfl) hK hP hD hS hA hI rfl hl.1 rfl (Nat.le_of_ble_eq_true rfl) dX8_skipTo_29 ⟨Nat.zero_le _, Nat.zero_le _⟩ (fun r_3 u H locs h hP hD hS => ?_)
            refine lv_bipush (v := 45) hx hb dX8_skipTo_32 (by decide) ?_
            refine lv_icmp_ne (tgt := 63) hx hb dX8_skipTo_34 (by decide) (fun c9 => ?_) (fun c9 => ?_)
            · have h := h.1 c9
              exact J63 x3 H locs ls (lv_sub hl [0, 1, 2] rfl) hP hD hS h
            · have h := h.2 c9
              refine lv_aload_n hx hb dX8_skipTo_37 rfl (lv_at hl 0 rfl) ?_
              refine lv_iload_n hx hb dX8_skipTo_38 rfl (lv_at hl 2 rfl) ?_
              refine lv_iconst (v := 2) hx hb dX8_skipTo_39 (by decide) ?_
              refine lv_iadd hx hb dX8_skipTo_40 ?_
              refine xc_vi (As := [.int (x3 + 2)]) (rest := []) xG Fx (sX8_look l dC dI ad cI cZ sa sv m_thrown m_size m_outLong m_lines m_toldLines m_tokens m_places m_p m_pre m_end m_text m_out m_lineAt m_lineLong m_depth m_signed m_led m_told m_place m_begin m_tokenLong m_stemLong m_address m_letters m_stems m_s (x3 + 2) h) (cwV 1 hts gX8_skipTo_X8_look rfl rfl rfl hdX8_look ⟨Nat.le_of_ble_eq_true rfl, Nat.le_of_ble_eq_true rfl⟩) (va_recv hK hP (ci := 7) (q0 := 0) rfl rfl) hK hP hD hS hA hI rfl hl.1 rfl (Nat.le_of_ble_eq_true rfl) dX8_skipTo_41 ⟨Nat.zero_le _, Nat.zero_le _⟩ (fun r_4 u H locs h hP hD hS => ?_)
              refine lv_bipush (v := 62) hx hb dX8_skipTo_44 (by decide) ?_
              refine lv_icmp_ne (tgt := 63) hx hb dX8_skipTo_46 (by decide) (fun c9 => ?_) (fun c9 => ?_)
              · have h := h.1 c9
                exact J63 x3 H locs ls (lv_sub hl [0, 1, 2] rfl) hP hD hS h
              · have h := h.2 c9
                refine lv_goto (tgt := 69) hx hb dX8_skipTo_49 (by decide) ?_
                exact J69 m_p x3 H locs ls (lv_sub hl [0, 1, 2] rfl) hP hD hS h
  intro H locs hP hD hS
  delta wpX8_skipTo at h
  refine lv_iload_n hx hb dX8_skipTo_0 rfl (lv_at hl 1 rfl) ?_
  refine lv_istore_n (lv' := [(3, .int x1), (0, .ref (ad 0)), (1, .int x1), (2, .int x2)]) hx hb dX8_skipTo_1 rfl hl (by decide) rfl (fun ls hl => ?_)
  obtain ⟨n, h⟩ := h
  exact L2 m_p n x1 H locs ls (lv_sub hl [1, 3, 0] rfl) hP hD hS h
set_option maxHeartbeats 4000000 in
set_option maxRecDepth 100000 in
theorem sX8_readLess (l : Launch) (dC : Nat → ClassId) (dI : Nat → Nat → Nat) (ad : Nat → Nat) (cI cZ : ClassId) (sa sv : Nat → Nat) (m_thrown : Int32) (m_size : Int32) (m_outLong : Int32) (m_lines : Int32) (m_toldLines : Int32) (m_tokens : Int32) (m_places : Int32) (m_p : Int32) (m_pre : Int32) (m_end : Int32) (m_text : Nat → Int32) (m_out : Nat → Int32) (m_lineAt : Nat → Int32) (m_lineLong : Nat → Int32) (m_depth : Nat → Int32) (m_signed : Nat → Int32) (m_led : Nat → Int32) (m_told : Nat → Int32) (m_place : Nat → Int32) (m_begin : Nat → Int32) (m_tokenLong : Nat → Int32) (m_stemLong : Nat → Int32) (m_address : Nat → Int32) (m_letters : Nat → Int32) (m_stems : Nat → Int32) (m_s : Nat → Int32)  {post : Int32 → Int32 → Int32 → (Nat → Int32) → Prop} (h : wpX8_readLess post m_size m_outLong m_p m_pre m_text m_out) : xMv l (dC, dI) vwCl [(cI, .int), (cZ, .boolean)] (sI sa sv) yX8_readLess wsX8_readLess ({ frames := 5, cells := 0, slots := 0, locals := 117 }) (mW ad cI cZ m_thrown m_size m_outLong m_lines m_toldLines m_tokens m_places m_p m_pre m_end m_text m_out m_lineAt m_lineLong m_depth m_signed m_led m_told m_place m_begin m_tokenLong m_stemLong m_address m_letters m_stems m_s) [.ref (ad 0)] (fun u : Int32 × Int32 × Int32 × (Nat → Int32) => post u.1 u.2.1 u.2.2.1 u.2.2.2) (fun u : Int32 × Int32 × Int32 × (Nat → Int32) => (mW ad cI cZ m_thrown m_size u.1 m_lines m_toldLines m_tokens m_places u.2.1 u.2.2.1 m_end m_text u.2.2.2 m_lineAt m_lineLong m_depth m_signed m_led m_told m_place m_begin m_tokenLong m_stemLong m_address m_letters m_stems m_s)) := by
  intro sz
  refine Met.ofW (cc := cX8_readLess) (maxL := 2) (ret := none) (by decide) rfl ?_
  intro p e s m args below meth c s₁ B hml hv
  obtain ⟨rfl, hsz, hP, hK, hD0, hI⟩ := hv
  have hx := B.exec
  have hb := B.bytes
  have hr := B.returns
  have hts := atoms_spec (ws := wsX8_readLess) B.pre
  have hown : s.vm.findClass RX8 = some m.cls := findClass_of_methodNamed B.named
  have hlocks := B.notSynchronized
  subst hsz
  have hD := hD0.self (sz := s.heap.size)
  generalize hAe : va_A (mW ad cI cZ m_thrown m_size m_outLong m_lines m_toldLines m_tokens m_places m_p m_pre m_end m_text m_out m_lineAt m_lineLong m_depth m_signed m_led m_told m_place m_begin m_tokenLong m_stemLong m_address m_letters m_stems m_s) s.heap.size = A at hD hI ⊢
  have hA : ∀ q : Nat, s.heap.size ≤ q → A q := fun q h => by rw [← hAe]; exact Or.inr h
  have hS : va_S A s.heap s.heap [] := va_S.rf
  have Fx : CallFix p m c cX8_readLess 2 s ([.ref (ad 0)] : List Value).toArray wsX8_readLess RX8 := ⟨hx, hb, hml, hown, hts⟩
  have hQ : ∀ (u : Int32 × Int32 × Int32 × (Nat → Int32)) (t : State), (fun u : Int32 × Int32 × Int32 × (Nat → Int32) => post u.1 u.2.1 u.2.2.1 u.2.2.2) u → va_P (dC, dI) vwCl ((fun u : Int32 × Int32 × Int32 × (Nat → Int32) => (mW ad cI cZ m_thrown m_size u.1 m_lines m_toldLines m_tokens m_places u.2.1 u.2.2.1 m_end m_text u.2.2.2 m_lineAt m_lineLong m_depth m_signed m_led m_told m_place m_begin m_tokenLong m_stemLong m_address m_letters m_stems m_s)) u) t.heap → va_K (dC, dI) vwCl [(cI, .int), (cZ, .boolean)] t → va_D A ((fun u : Int32 × Int32 × Int32 × (Nat → Int32) => (mW ad cI cZ m_thrown m_size u.1 m_lines m_toldLines m_tokens m_places u.2.1 u.2.2.1 m_end m_text u.2.2.2 m_lineAt m_lineLong m_depth m_signed m_led m_told m_place m_begin m_tokenLong m_stemLong m_address m_letters m_stems m_s)) u) → va_F A s t → (va_Qv (fun u : Int32 × Int32 × Int32 × (Nat → Int32) => post u.1 u.2.1 u.2.2.1 u.2.2.2) (xB (dC, dI) vwCl [(cI, .int), (cZ, .boolean)] A (fun u : Int32 × Int32 × Int32 × (Nat → Int32) => (mW ad cI cZ m_thrown m_size u.1 m_lines m_toldLines m_tokens m_places u.2.1 u.2.2.1 m_end m_text u.2.2.2 m_lineAt m_lineLong m_depth m_signed m_led m_told m_place m_begin m_tokenLong m_stemLong m_address m_letters m_stems m_s))) A) ([.ref (ad 0)] : List Value).toArray s (.returned none) t := fun u t h1 h2 h3 h4 h5 => ⟨⟨u, rfl, h1, h2, h3, h4⟩, h5⟩
  generalize (va_Qv (fun u : Int32 × Int32 × Int32 × (Nat → Int32) => post u.1 u.2.1 u.2.2.1 u.2.2.2) (xB (dC, dI) vwCl [(cI, .int), (cZ, .boolean)] A (fun u : Int32 × Int32 × Int32 × (Nat → Int32) => (mW ad cI cZ m_thrown m_size u.1 m_lines m_toldLines m_tokens m_places u.2.1 u.2.2.1 m_end m_text u.2.2.2 m_lineAt m_lineLong m_depth m_signed m_led m_told m_place m_begin m_tokenLong m_stemLong m_address m_letters m_stems m_s))) A) = Qc at hQ ⊢
  have hl := lv_entry ([.ref (ad 0)]) (n := 2) (Nat.le_of_ble_eq_true rfl)
  rw [lg_entry_eq]
  generalize (lg_sl ([.ref (ad 0)]) ++ List.replicate (2 - (lg_sl ([.ref (ad 0)])).length) Slot.unset).toArray = ls at hl ⊢
  have hl : lv_has ls 2 [(0, .ref (ad 0))] := hl
  refine (fun (key : ∀ (H : Heap) (locs : List Loc), va_P (dC, dI) vwCl (mW ad cI cZ m_thrown m_size m_outLong m_lines m_toldLines m_tokens m_places m_p m_pre m_end m_text m_out m_lineAt m_lineLong m_depth m_signed m_led m_told m_place m_begin m_tokenLong m_stemLong m_address m_letters m_stems m_s) H → va_D A (mW ad cI cZ m_thrown m_size m_outLong m_lines m_toldLines m_tokens m_places m_p m_pre m_end m_text m_out m_lineAt m_lineLong m_depth m_signed m_led m_told m_place m_begin m_tokenLong m_stemLong m_address m_letters m_stems m_s) → va_S A s.heap H locs → W p l e (headSpec wsX8_readLess ({ frames := 5, cells := 0, slots := 0, locals := 117 })).room s m ([.ref (ad 0)] : List Value).toArray below meth c H locs 0 0 (MQ below Qc ([.ref (ad 0)] : List Value).toArray s 0 0 A) (F0 m 0 ls [])) => key _ _ hP hD hS) ?_
  have inX8 : ∀ w ∈ wsX80, w ∈ wsX8_readLess := (fun _ h9 => List.mem_cons_of_mem _ (List.mem_append_right _ h9))
  have J123 : ∀ (m_outLong : Int32) (m_p : Int32) (m_pre : Int32) (m_out : Nat → Int32) (H : Heap) (locs : List Loc) (ls : Array Slot), lv_has ls 2 [(0, .ref (ad 0))] → va_P (dC, dI) vwCl (mW ad cI cZ m_thrown m_size m_outLong m_lines m_toldLines m_tokens m_places m_p m_pre m_end m_text m_out m_lineAt m_lineLong m_depth m_signed m_led m_told m_place m_begin m_tokenLong m_stemLong m_address m_letters m_stems m_s) H → va_D A (mW ad cI cZ m_thrown m_size m_outLong m_lines m_toldLines m_tokens m_places m_p m_pre m_end m_text m_out m_lineAt m_lineLong m_depth m_signed m_led m_told m_place m_begin m_tokenLong m_stemLong m_address m_letters m_stems m_s) → va_S A s.heap H locs → wjX8_readLess_123 post m_size m_text m_outLong m_p m_pre m_out → W p l e (headSpec wsX8_readLess ({ frames := 5, cells := 0, slots := 0, locals := 117 })).room s m ([.ref (ad 0)] : List Value).toArray below meth c H locs 0 0 (MQ below Qc ([.ref (ad 0)] : List Value).toArray s 0 0 A) (F0 m 123 ls []) := by
    intro m_outLong m_p m_pre m_out H locs ls hl hP hD hS h
    delta wjX8_readLess_123 at h
    refine lv_aload_n hx hb dX8_readLess_123 rfl (lv_at hl 0 rfl) ?_
    refine lv_bipush (v := 60) hx hb dX8_readLess_124 (by decide) ?_
    refine xc_vv (As := [.int 60]) (rest := []) xG Fx (sX8_write l dC dI ad cI cZ sa sv m_thrown m_size m_outLong m_lines m_toldLines m_tokens m_places m_p m_pre m_end m_text m_out m_lineAt m_lineLong m_depth m_signed m_led m_told m_place m_begin m_tokenLong m_stemLong m_address m_letters m_stems m_s 60 h) (cwV 1 hts gX8_readLess_X8_write rfl rfl rfl hdX8_write ⟨Nat.le_of_ble_eq_true rfl, Nat.le_of_ble_eq_true rfl⟩) (va_recv hK hP (ci := 7) (q0 := 0) rfl rfl) hK hP hD hS hA hI rfl hl.1 rfl (Nat.le_of_ble_eq_true rfl) dX8_readLess_126 ⟨Nat.zero_le _, Nat.zero_le _⟩ (fun u H locs h hP hD hS => ?_)
    obtain ⟨m_outLong_2, m_out_3⟩ := u
    have hP : va_P (dC, dI) vwCl (mW ad cI cZ m_thrown m_size m_outLong_2 m_lines m_toldLines m_tokens m_places m_p m_pre m_end m_text m_out_3 m_lineAt m_lineLong m_depth m_signed m_led m_told m_place m_begin m_tokenLong m_stemLong m_address m_letters m_stems m_s) H := hP
    have hD : va_D A (mW ad cI cZ m_thrown m_size m_outLong_2 m_lines m_toldLines m_tokens m_places m_p m_pre m_end m_text m_out_3 m_lineAt m_lineLong m_depth m_signed m_led m_told m_place m_begin m_tokenLong m_stemLong m_address m_letters m_stems m_s) := hD
    refine lv_aload_n hx hb dX8_readLess_129 rfl (lv_at hl 0 rfl) ?_
    refine lv_dup hx hb dX8_readLess_130 rfl ?_
    refine va_get (D := (dC, dI)) (ci := 7) (v := .int m_p) (C := RX8) (T := TX8) (N := 26) hx hb hts inX8 hown hK hP 0 rfl rfl 22 (by decide) (hts (.fieldLink RX8 150 "MailWordsModel" "p" "I") (List.mem_of_getElem? (i := 1) rfl)) (fun _ h9 => h9) rfl dX8_readLess_131 ?_
    refine lv_iconst (v := 1) hx hb dX8_readLess_134 (by decide) ?_
    refine lv_iadd hx hb dX8_readLess_135 ?_
    refine lv_topi (fun m_p_4 em_p_4 => ?_)
    have h := h m_p_4 em_p_4
    refine va_put (D := (dC, dI)) (ci := 7) (v := .int m_p_4) (ty := .int) (C := RX8) (T := TX8) (N := 26) hx hb hts inX8 tyX8 tyX8_ok nmX8 hown hK hP hD hS 0 rfl rfl 22 (by decide) (hts (.fieldLink RX8 150 "MailWordsModel" "p" "I") (List.mem_of_getElem? (i := 1) rfl)) (fun _ h9 => h9) rfl (tyX8_ok 22 (by decide)) rfl rfl (Nat.le_of_ble_eq_true rfl) dX8_readLess_136 (fun H locs hP hD hS => ?_)
    have hP : va_P (dC, dI) vwCl (mW ad cI cZ m_thrown m_size m_outLong_2 m_lines m_toldLines m_tokens m_places m_p_4 m_pre m_end m_text m_out_3 m_lineAt m_lineLong m_depth m_signed m_led m_told m_place m_begin m_tokenLong m_stemLong m_address m_letters m_stems m_s) H := hP
    have hD : va_D A (mW ad cI cZ m_thrown m_size m_outLong_2 m_lines m_toldLines m_tokens m_places m_p_4 m_pre m_end m_text m_out_3 m_lineAt m_lineLong m_depth m_signed m_led m_told m_place m_begin m_tokenLong m_stemLong m_address m_letters m_stems m_s) := hD
    exact W.vret hx hb hr (fun t ht hW => hQ (m_outLong_2, m_p_4, m_pre, m_out_3) t h (by rw [ht]; exact hP) (va_K.moved hW.alike hK) hD (hS.F ht)) hS.2.2 dX8_readLess_139
  have J116 : ∀ (m_outLong : Int32) (m_p : Int32) (m_pre : Int32) (m_out : Nat → Int32) (H : Heap) (locs : List Loc) (ls : Array Slot), lv_has ls 2 [(0, .ref (ad 0))] → va_P (dC, dI) vwCl (mW ad cI cZ m_thrown m_size m_outLong m_lines m_toldLines m_tokens m_places m_p m_pre m_end m_text m_out m_lineAt m_lineLong m_depth m_signed m_led m_told m_place m_begin m_tokenLong m_stemLong m_address m_letters m_stems m_s) H → va_D A (mW ad cI cZ m_thrown m_size m_outLong m_lines m_toldLines m_tokens m_places m_p m_pre m_end m_text m_out m_lineAt m_lineLong m_depth m_signed m_led m_told m_place m_begin m_tokenLong m_stemLong m_address m_letters m_stems m_s) → va_S A s.heap H locs → wjX8_readLess_116 post m_size m_text m_outLong m_p m_pre m_out → W p l e (headSpec wsX8_readLess ({ frames := 5, cells := 0, slots := 0, locals := 117 })).room s m ([.ref (ad 0)] : List Value).toArray below meth c H locs 0 0 (MQ below Qc ([.ref (ad 0)] : List Value).toArray s 0 0 A) (F0 m 116 ls []) := by
    intro m_outLong m_p m_pre m_out H locs ls hl hP hD hS h
    delta wjX8_readLess_116 at h
    refine lv_aload_n hx hb dX8_readLess_116 rfl (lv_at hl 0 rfl) ?_
    refine xc_vv (As := []) (rest := []) xG Fx (sX8_readTag l dC dI ad cI cZ sa sv m_thrown m_size m_outLong m_lines m_toldLines m_tokens m_places m_p m_pre m_end m_text m_out m_lineAt m_lineLong m_depth m_signed m_led m_told m_place m_begin m_tokenLong m_stemLong m_address m_letters m_stems m_s h) (cwV 0 hts gX8_readLess_X8_readTag rfl rfl rfl hdX8_readTag ⟨Nat.le_of_ble_eq_true rfl, Nat.le_of_ble_eq_true rfl⟩) (va_recv hK hP (ci := 7) (q0 := 0) rfl rfl) hK hP hD hS hA hI rfl hl.1 rfl (Nat.le_of_ble_eq_true rfl) dX8_readLess_117 ⟨Nat.zero_le _, Nat.zero_le _⟩ (fun u H locs h hP hD hS => ?_)
    obtain ⟨m_outLong_6, m_p_7, m_pre_8, m_out_9⟩ := u
    have hP : va_P (dC, dI) vwCl (mW ad cI cZ m_thrown m_size m_outLong_6 m_lines m_toldLines m_tokens m_places m_p_7 m_pre_8 m_end m_text m_out_9 m_lineAt m_lineLong m_depth m_signed m_led m_told m_place m_begin m_tokenLong m_stemLong m_address m_letters m_stems m_s) H := hP
    have hD : va_D A (mW ad cI cZ m_thrown m_size m_outLong_6 m_lines m_toldLines m_tokens m_places m_p_7 m_pre_8 m_end m_text m_out_9 m_lineAt m_lineLong m_depth m_signed m_led m_told m_place m_begin m_tokenLong m_stemLong m_address m_letters m_stems m_s) := hD
    refine lv_goto (tgt := 139) hx hb dX8_readLess_120 (by decide) ?_
    exact W.vret hx hb hr (fun t ht hW => hQ (m_outLong_6, m_p_7, m_pre_8, m_out_9) t h (by rw [ht]; exact hP) (va_K.moved hW.alike hK) hD (hS.F ht)) hS.2.2 dX8_readLess_139
  have J73 : ∀ (m_outLong : Int32) (m_p : Int32) (m_pre : Int32) (m_out : Nat → Int32) (H : Heap) (locs : List Loc) (ls : Array Slot), lv_has ls 2 [(0, .ref (ad 0))] → va_P (dC, dI) vwCl (mW ad cI cZ m_thrown m_size m_outLong m_lines m_toldLines m_tokens m_places m_p m_pre m_end m_text m_out m_lineAt m_lineLong m_depth m_signed m_led m_told m_place m_begin m_tokenLong m_stemLong m_address m_letters m_stems m_s) H → va_D A (mW ad cI cZ m_thrown m_size m_outLong m_lines m_toldLines m_tokens m_places m_p m_pre m_end m_text m_out m_lineAt m_lineLong m_depth m_signed m_led m_told m_place m_begin m_tokenLong m_stemLong m_address m_letters m_stems m_s) → va_S A s.heap H locs → wjX8_readLess_73 post m_size m_text m_outLong m_p m_pre m_out → W p l e (headSpec wsX8_readLess ({ frames := 5, cells := 0, slots := 0, locals := 117 })).room s m ([.ref (ad 0)] : List Value).toArray below meth c H locs 0 0 (MQ below Qc ([.ref (ad 0)] : List Value).toArray s 0 0 A) (F0 m 73 ls []) := by
    intro m_outLong m_p m_pre m_out H locs ls hl hP hD hS h
    delta wjX8_readLess_73 at h
    refine lv_aload_n hx hb dX8_readLess_73 rfl (lv_at hl 0 rfl) ?_
    refine lv_aload_n hx hb dX8_readLess_74 rfl (lv_at hl 0 rfl) ?_
    refine va_get (D := (dC, dI)) (ci := 7) (v := .int m_p) (C := RX8) (T := TX8) (N := 26) hx hb hts inX8 hown hK hP 0 rfl rfl 22 (by decide) (hts (.fieldLink RX8 150 "MailWordsModel" "p" "I") (List.mem_of_getElem? (i := 1) rfl)) (fun _ h9 => h9) rfl dX8_readLess_75 ?_
    refine lv_iconst (v := 2) hx hb dX8_readLess_78 (by decide) ?_
    refine lv_iadd hx hb dX8_readLess_79 ?_
    refine lv_iconst (v := 0) hx hb dX8_readLess_80 (by decide) ?_
    refine xc_vv (As := [.int (m_p + 2), .int 0]) (rest := []) xG Fx (sX8_skipTo l dC dI ad cI cZ sa sv m_thrown m_size m_outLong m_lines m_toldLines m_tokens m_places m_p m_pre m_end m_text m_out m_lineAt m_lineLong m_depth m_signed m_led m_told m_place m_begin m_tokenLong m_stemLong m_address m_letters m_stems m_s (m_p + 2) 0 h) (cwV 2 hts gX8_readLess_X8_skipTo rfl rfl rfl hdX8_skipTo ⟨Nat.le_of_ble_eq_true rfl, Nat.le_of_ble_eq_true rfl⟩) (va_recv hK hP (ci := 7) (q0 := 0) rfl rfl) hK hP hD hS hA hI rfl hl.1 rfl (Nat.le_of_ble_eq_true rfl) dX8_readLess_81 ⟨Nat.zero_le _, Nat.zero_le _⟩ (fun m_p_11 H locs h hP hD hS => ?_)
    have hP : va_P (dC, dI) vwCl (mW ad cI cZ m_thrown m_size m_outLong m_lines m_toldLines m_tokens m_places m_p_11 m_pre m_end m_text m_out m_lineAt m_lineLong m_depth m_signed m_led m_told m_place m_begin m_tokenLong m_stemLong m_address m_letters m_stems m_s) H := hP
    have hD : va_D A (mW ad cI cZ m_thrown m_size m_outLong m_lines m_toldLines m_tokens m_places m_p_11 m_pre m_end m_text m_out m_lineAt m_lineLong m_depth m_signed m_led m_told m_place m_begin m_tokenLong m_stemLong m_address m_letters m_stems m_s) := hD
    refine lv_goto (tgt := 139) hx hb dX8_readLess_84 (by decide) ?_
    exact W.vret hx hb hr (fun t ht hW => hQ (m_outLong, m_p_11, m_pre, m_out) t h (by rw [ht]; exact hP) (va_K.moved hW.alike hK) hD (hS.F ht)) hS.2.2 dX8_readLess_139
  have J61 : ∀ (m_outLong : Int32) (m_p : Int32) (m_pre : Int32) (m_out : Nat → Int32) (x1 : Int32) (H : Heap) (locs : List Loc) (ls : Array Slot), lv_has ls 2 [(0, .ref (ad 0)), (1, .int x1)] → va_P (dC, dI) vwCl (mW ad cI cZ m_thrown m_size m_outLong m_lines m_toldLines m_tokens m_places m_p m_pre m_end m_text m_out m_lineAt m_lineLong m_depth m_signed m_led m_told m_place m_begin m_tokenLong m_stemLong m_address m_letters m_stems m_s) H → va_D A (mW ad cI cZ m_thrown m_size m_outLong m_lines m_toldLines m_tokens m_places m_p m_pre m_end m_text m_out m_lineAt m_lineLong m_depth m_signed m_led m_told m_place m_begin m_tokenLong m_stemLong m_address m_letters m_stems m_s) → va_S A s.heap H locs → wjX8_readLess_61 post m_size m_text m_outLong m_p m_pre m_out x1 → W p l e (headSpec wsX8_readLess ({ frames := 5, cells := 0, slots := 0, locals := 117 })).room s m ([.ref (ad 0)] : List Value).toArray below meth c H locs 0 0 (MQ below Qc ([.ref (ad 0)] : List Value).toArray s 0 0 A) (F0 m 61 ls []) := by
    intro m_outLong m_p m_pre m_out x1 H locs ls hl hP hD hS h
    delta wjX8_readLess_61 at h
    refine lv_iload_n hx hb dX8_readLess_61 rfl (lv_at hl 1 rfl) ?_
    refine lv_bipush (v := 33) hx hb dX8_readLess_62 (by decide) ?_
    refine lv_icmp_eq (tgt := 73) hx hb dX8_readLess_64 (by decide) (fun c9 => ?_) (fun c9 => ?_)
    · have h := h.1 c9
      exact J73 m_outLong m_p m_pre m_out H locs ls (lv_sub hl [0] rfl) hP hD hS h
    · have h := h.2 c9
      refine lv_iload_n hx hb dX8_readLess_67 rfl (lv_at hl 1 rfl) ?_
      refine lv_bipush (v := 63) hx hb dX8_readLess_68 (by decide) ?_
      refine lv_icmp_ne (tgt := 87) hx hb dX8_readLess_70 (by decide) (fun c9 => ?_) (fun c9 => ?_)
      · have h := h.1 c9
        refine lv_iload_n hx hb dX8_readLess_87 rfl (lv_at hl 1 rfl) ?_
        refine xc_si (As := [.int x1]) (rest := []) xG Fx (sX8_isPlain l dC dI ad cI cZ sa sv m_thrown m_size m_outLong m_lines m_toldLines m_tokens m_places m_p m_pre m_end m_text m_out m_lineAt m_lineLong m_depth m_signed m_led m_told m_place m_begin m_tokenLong m_stemLong m_address m_letters m_stems m_s x1 h) (va_cwS 1 hts gX8_readLess_X8_isPlain rfl rfl rfl hdX8_isPlain ⟨Nat.le_of_ble_eq_true rfl, Nat.le_of_ble_eq_true rfl⟩) hK hP hD hS hA hI rfl hl.1 rfl (Nat.le_of_ble_eq_true rfl) dX8_readLess_88 ⟨Nat.zero_le _, Nat.zero_le _⟩ (fun r_12 u H locs h hP hD hS => ?_)
        refine lv_if_ne (tgt := 116) hx hb dX8_readLess_91 (by decide) (fun c9 => ?_) (fun c9 => ?_)
        · have h := h.1 c9
          exact J116 m_outLong m_p m_pre m_out H locs ls (lv_sub hl [0] rfl) hP hD hS h
        · have h := h.2 c9
          refine lv_iload_n hx hb dX8_readLess_94 rfl (lv_at hl 1 rfl) ?_
          refine lv_bipush (v := 47) hx hb dX8_readLess_95 (by decide) ?_
          refine lv_icmp_ne (tgt := 123) hx hb dX8_readLess_97 (by decide) (fun c9 => ?_) (fun c9 => ?_)
          · have h := h.1 c9
            exact J123 m_outLong m_p m_pre m_out H locs ls (lv_sub hl [0] rfl) hP hD hS h
          · have h := h.2 c9
            refine lv_aload_n hx hb dX8_readLess_100 rfl (lv_at hl 0 rfl) ?_
            refine lv_aload_n hx hb dX8_readLess_101 rfl (lv_at hl 0 rfl) ?_
            refine va_get (D := (dC, dI)) (ci := 7) (v := .int m_p) (C := RX8) (T := TX8) (N := 26) hx hb hts inX8 hown hK hP 0 rfl rfl 22 (by decide) (hts (.fieldLink RX8 150 "MailWordsModel" "p" "I") (List.mem_of_getElem? (i := 1) rfl)) (fun _ h9 => h9) rfl dX8_readLess_102 ?_
            refine lv_iconst (v := 2) hx hb dX8_readLess_105 (by decide) ?_
            refine lv_iadd hx hb dX8_readLess_106 ?_
            refine xc_vi (As := [.int (m_p + 2)]) (rest := []) xG Fx (sX8_look l dC dI ad cI cZ sa sv m_thrown m_size m_outLong m_lines m_toldLines m_tokens m_places m_p m_pre m_end m_text m_out m_lineAt m_lineLong m_depth m_signed m_led m_told m_place m_begin m_tokenLong m_stemLong m_address m_letters m_stems m_s (m_p + 2) h) (cwV 1 hts gX8_readLess_X8_look rfl rfl rfl hdX8_look ⟨Nat.le_of_ble_eq_true rfl, Nat.le_of_ble_eq_true rfl⟩) (va_recv hK hP (ci := 7) (q0 := 0) rfl rfl) hK hP hD hS hA hI rfl hl.1 rfl (Nat.le_of_ble_eq_true rfl) dX8_readLess_107 ⟨Nat.zero_le _, Nat.zero_le _⟩ (fun r_13 u H locs h hP hD hS => ?_)
            refine xc_si (As := [.int r_13]) (rest := []) xG Fx (sX8_isPlain l dC dI ad cI cZ sa sv m_thrown m_size m_outLong m_lines m_toldLines m_tokens m_places m_p m_pre m_end m_text m_out m_lineAt m_lineLong m_depth m_signed m_led m_told m_place m_begin m_tokenLong m_stemLong m_address m_letters m_stems m_s r_13 h) (va_cwS 1 hts gX8_readLess_X8_isPlain rfl rfl rfl hdX8_isPlain ⟨Nat.le_of_ble_eq_true rfl, Nat.le_of_ble_eq_true rfl⟩) hK hP hD hS hA hI rfl hl.1 rfl (Nat.le_of_ble_eq_true rfl) dX8_readLess_110 ⟨Nat.zero_le _, Nat.zero_le _⟩ (fun r_14 u H locs h hP hD hS => ?_)
            refine lv_if_eq (tgt := 123) hx hb dX8_readLess_113 (by decide) (fun c9 => ?_) (fun c9 => ?_)
            · have h := h.1 c9
              exact J123 m_outLong m_p m_pre m_out H locs ls (lv_sub hl [0] rfl) hP hD hS h
            · have h := h.2 c9
              exact J116 m_outLong m_p m_pre m_out H locs ls (lv_sub hl [0] rfl) hP hD hS h
      · have h := h.2 c9
        exact J73 m_outLong m_p m_pre m_out H locs ls (lv_sub hl [0] rfl) hP hD hS h
  intro H locs hP hD hS
  delta wpX8_readLess at h
  refine lv_aload_n hx hb dX8_readLess_0 rfl (lv_at hl 0 rfl) ?_
  refine lv_aload_n hx hb dX8_readLess_1 rfl (lv_at hl 0 rfl) ?_
  refine va_get (D := (dC, dI)) (ci := 7) (v := .int m_p) (C := RX8) (T := TX8) (N := 26) hx hb hts inX8 hown hK hP 0 rfl rfl 22 (by decide) (hts (.fieldLink RX8 150 "MailWordsModel" "p" "I") (List.mem_of_getElem? (i := 1) rfl)) (fun _ h9 => h9) rfl dX8_readLess_2 ?_
  refine lv_iconst (v := 1) hx hb dX8_readLess_5 (by decide) ?_
  refine lv_iadd hx hb dX8_readLess_6 ?_
  refine xc_vi (As := [.int (m_p + 1)]) (rest := []) xG Fx (sX8_look l dC dI ad cI cZ sa sv m_thrown m_size m_outLong m_lines m_toldLines m_tokens m_places m_p m_pre m_end m_text m_out m_lineAt m_lineLong m_depth m_signed m_led m_told m_place m_begin m_tokenLong m_stemLong m_address m_letters m_stems m_s (m_p + 1) h) (cwV 1 hts gX8_readLess_X8_look rfl rfl rfl hdX8_look ⟨Nat.le_of_ble_eq_true rfl, Nat.le_of_ble_eq_true rfl⟩) (va_recv hK hP (ci := 7) (q0 := 0) rfl rfl) hK hP hD hS hA hI rfl hl.1 rfl (Nat.le_of_ble_eq_true rfl) dX8_readLess_7 ⟨Nat.zero_le _, Nat.zero_le _⟩ (fun r_15 u H locs h hP hD hS => ?_)
  refine lv_istore_n (lv' := [(1, .int r_15), (0, .ref (ad 0))]) hx hb dX8_readLess_10 rfl hl (by decide) rfl (fun ls hl => ?_)
  refine lv_iload_n hx hb dX8_readLess_11 rfl (lv_at hl 0 rfl) ?_
  refine lv_bipush (v := 33) hx hb dX8_readLess_12 (by decide) ?_
  refine lv_icmp_ne (tgt := 61) hx hb dX8_readLess_14 (by decide) (fun c9 => ?_) (fun c9 => ?_)
  · have h := h.1 c9
    exact J61 m_outLong m_p m_pre m_out r_15 H locs ls (lv_sub hl [1, 0] rfl) hP hD hS h
  · have h := h.2 c9
    refine lv_aload_n hx hb dX8_readLess_17 rfl (lv_at hl 1 rfl) ?_
    refine lv_aload_n hx hb dX8_readLess_18 rfl (lv_at hl 1 rfl) ?_
    refine va_get (D := (dC, dI)) (ci := 7) (v := .int m_p) (C := RX8) (T := TX8) (N := 26) hx hb hts inX8 hown hK hP 0 rfl rfl 22 (by decide) (hts (.fieldLink RX8 150 "MailWordsModel" "p" "I") (List.mem_of_getElem? (i := 1) rfl)) (fun _ h9 => h9) rfl dX8_readLess_19 ?_
    refine lv_iconst (v := 2) hx hb dX8_readLess_22 (by decide) ?_
    refine lv_iadd hx hb dX8_readLess_23 ?_
    refine xc_vi (As := [.int (m_p + 2)]) (rest := []) xG Fx (sX8_look l dC dI ad cI cZ sa sv m_thrown m_size m_outLong m_lines m_toldLines m_tokens m_places m_p m_pre m_end m_text m_out m_lineAt m_lineLong m_depth m_signed m_led m_told m_place m_begin m_tokenLong m_stemLong m_address m_letters m_stems m_s (m_p + 2) h) (cwV 1 hts gX8_readLess_X8_look rfl rfl rfl hdX8_look ⟨Nat.le_of_ble_eq_true rfl, Nat.le_of_ble_eq_true rfl⟩) (va_recv hK hP (ci := 7) (q0 := 0) rfl rfl) hK hP hD hS hA hI rfl hl.1 rfl (Nat.le_of_ble_eq_true rfl) dX8_readLess_24 ⟨Nat.zero_le _, Nat.zero_le _⟩ (fun r_16 u H locs h hP hD hS => ?_)
    refine lv_bipush (v := 45) hx hb dX8_readLess_27 (by decide) ?_
    refine lv_icmp_ne (tgt := 61) hx hb dX8_readLess_29 (by decide) (fun c9 => ?_) (fun c9 => ?_)
    · have h := h.1 c9
      exact J61 m_outLong m_p m_pre m_out r_15 H locs ls (lv_sub hl [1, 0] rfl) hP hD hS h
    · have h := h.2 c9
      refine lv_aload_n hx hb dX8_readLess_32 rfl (lv_at hl 1 rfl) ?_
      refine lv_aload_n hx hb dX8_readLess_33 rfl (lv_at hl 1 rfl) ?_
      refine va_get (D := (dC, dI)) (ci := 7) (v := .int m_p) (C := RX8) (T := TX8) (N := 26) hx hb hts inX8 hown hK hP 0 rfl rfl 22 (by decide) (hts (.fieldLink RX8 150 "MailWordsModel" "p" "I") (List.mem_of_getElem? (i := 1) rfl)) (fun _ h9 => h9) rfl dX8_readLess_34 ?_
      refine lv_iconst (v := 3) hx hb dX8_readLess_37 (by decide) ?_
      refine lv_iadd hx hb dX8_readLess_38 ?_
      refine xc_vi (As := [.int (m_p + 3)]) (rest := []) xG Fx (sX8_look l dC dI ad cI cZ sa sv m_thrown m_size m_outLong m_lines m_toldLines m_tokens m_places m_p m_pre m_end m_text m_out m_lineAt m_lineLong m_depth m_signed m_led m_told m_place m_begin m_tokenLong m_stemLong m_address m_letters m_stems m_s (m_p + 3) h) (cwV 1 hts gX8_readLess_X8_look rfl rfl rfl hdX8_look ⟨Nat.le_of_ble_eq_true rfl, Nat.le_of_ble_eq_true rfl⟩) (va_recv hK hP (ci := 7) (q0 := 0) rfl rfl) hK hP hD hS hA hI rfl hl.1 rfl (Nat.le_of_ble_eq_true rfl) dX8_readLess_39 ⟨Nat.zero_le _, Nat.zero_le _⟩ (fun r_17 u H locs h hP hD hS => ?_)
      refine lv_bipush (v := 45) hx hb dX8_readLess_42 (by decide) ?_
      refine lv_icmp_ne (tgt := 61) hx hb dX8_readLess_44 (by decide) (fun c9 => ?_) (fun c9 => ?_)
      · have h := h.1 c9
        exact J61 m_outLong m_p m_pre m_out r_15 H locs ls (lv_sub hl [1, 0] rfl) hP hD hS h
      · have h := h.2 c9
        refine lv_aload_n hx hb dX8_readLess_47 rfl (lv_at hl 1 rfl) ?_
        refine lv_aload_n hx hb dX8_readLess_48 rfl (lv_at hl 1 rfl) ?_
        refine va_get (D := (dC, dI)) (ci := 7) (v := .int m_p) (C := RX8) (T := TX8) (N := 26) hx hb hts inX8 hown hK hP 0 rfl rfl 22 (by decide) (hts (.fieldLink RX8 150 "MailWordsModel" "p" "I") (List.mem_of_getElem? (i := 1) rfl)) (fun _ h9 => h9) rfl dX8_readLess_49 ?_
        refine lv_iconst (v := 4) hx hb dX8_readLess_52 (by decide) ?_
        refine lv_iadd hx hb dX8_readLess_53 ?_
        refine lv_iconst (v := 1) hx hb dX8_readLess_54 (by decide) ?_
        refine xc_vv (As := [.int (m_p + 4), .int 1]) (rest := []) xG Fx (sX8_skipTo l dC dI ad cI cZ sa sv m_thrown m_size m_outLong m_lines m_toldLines m_tokens m_places m_p m_pre m_end m_text m_out m_lineAt m_lineLong m_depth m_signed m_led m_told m_place m_begin m_tokenLong m_stemLong m_address m_letters m_stems m_s (m_p + 4) 1 h) (cwV 2 hts gX8_readLess_X8_skipTo rfl rfl rfl hdX8_skipTo ⟨Nat.le_of_ble_eq_true rfl, Nat.le_of_ble_eq_true rfl⟩) (va_recv hK hP (ci := 7) (q0 := 0) rfl rfl) hK hP hD hS hA hI rfl hl.1 rfl (Nat.le_of_ble_eq_true rfl) dX8_readLess_55 ⟨Nat.zero_le _, Nat.zero_le _⟩ (fun m_p_19 H locs h hP hD hS => ?_)
        have hP : va_P (dC, dI) vwCl (mW ad cI cZ m_thrown m_size m_outLong m_lines m_toldLines m_tokens m_places m_p_19 m_pre m_end m_text m_out m_lineAt m_lineLong m_depth m_signed m_led m_told m_place m_begin m_tokenLong m_stemLong m_address m_letters m_stems m_s) H := hP
        have hD : va_D A (mW ad cI cZ m_thrown m_size m_outLong m_lines m_toldLines m_tokens m_places m_p_19 m_pre m_end m_text m_out m_lineAt m_lineLong m_depth m_signed m_led m_told m_place m_begin m_tokenLong m_stemLong m_address m_letters m_stems m_s) := hD
        refine lv_goto (tgt := 139) hx hb dX8_readLess_58 (by decide) ?_
        exact W.vret hx hb hr (fun t ht hW => hQ (m_outLong, m_p_19, m_pre, m_out) t h (by rw [ht]; exact hP) (va_K.moved hW.alike hK) hD (hS.F ht)) hS.2.2 dX8_readLess_139
set_option maxHeartbeats 4000000 in
set_option maxRecDepth 100000 in
theorem sX8_worth (l : Launch) (dC : Nat → ClassId) (dI : Nat → Nat → Nat) (ad : Nat → Nat) (cI cZ : ClassId) (sa sv : Nat → Nat) (m_thrown : Int32) (m_size : Int32) (m_outLong : Int32) (m_lines : Int32) (m_toldLines : Int32) (m_tokens : Int32) (m_places : Int32) (m_p : Int32) (m_pre : Int32) (m_end : Int32) (m_text : Nat → Int32) (m_out : Nat → Int32) (m_lineAt : Nat → Int32) (m_lineLong : Nat → Int32) (m_depth : Nat → Int32) (m_signed : Nat → Int32) (m_led : Nat → Int32) (m_told : Nat → Int32) (m_place : Nat → Int32) (m_begin : Nat → Int32) (m_tokenLong : Nat → Int32) (m_stemLong : Nat → Int32) (m_address : Nat → Int32) (m_letters : Nat → Int32) (m_stems : Nat → Int32) (m_s : Nat → Int32) (x0 : Int32) (x1 : Int32) {post : Int32 → Prop} (h : wpX8_worth post x0 x1) : xMi l (dC, dI) vwCl [(cI, .int), (cZ, .boolean)] (sI sa sv) yX8_worth wsX8_worth ({ frames := 1, cells := 0, slots := 0, locals := 20 }) (mW ad cI cZ m_thrown m_size m_outLong m_lines m_toldLines m_tokens m_places m_p m_pre m_end m_text m_out m_lineAt m_lineLong m_depth m_signed m_led m_told m_place m_begin m_tokenLong m_stemLong m_address m_letters m_stems m_s) [.int x0, .int x1] (fun (r : Int32) (u : Unit) => post r ) (fun u : Unit => (mW ad cI cZ m_thrown m_size m_outLong m_lines m_toldLines m_tokens m_places m_p m_pre m_end m_text m_out m_lineAt m_lineLong m_depth m_signed m_led m_told m_place m_begin m_tokenLong m_stemLong m_address m_letters m_stems m_s)) := by
  intro sz
  refine Met.ofW (cc := cX8_worth) (maxL := 2) (ret := (some .int)) (by decide) rfl ?_
  intro p e s m args below meth c s₁ B hml hv
  obtain ⟨rfl, hsz, hP, hK, hD0, hI⟩ := hv
  have hx := B.exec
  have hb := B.bytes
  have hr := B.returns
  have hts := atoms_spec (ws := wsX8_worth) B.pre
  have hown : s.vm.findClass RX8 = some m.cls := findClass_of_methodNamed B.named
  have hlocks := B.notSynchronized
  subst hsz
  have hD := hD0.self (sz := s.heap.size)
  generalize hAe : va_A (mW ad cI cZ m_thrown m_size m_outLong m_lines m_toldLines m_tokens m_places m_p m_pre m_end m_text m_out m_lineAt m_lineLong m_depth m_signed m_led m_told m_place m_begin m_tokenLong m_stemLong m_address m_letters m_stems m_s) s.heap.size = A at hD hI ⊢
  have hA : ∀ q : Nat, s.heap.size ≤ q → A q := fun q h => by rw [← hAe]; exact Or.inr h
  have hS : va_S A s.heap s.heap [] := va_S.rf
  have Fx : CallFix p m c cX8_worth 2 s ([.int x0, .int x1] : List Value).toArray wsX8_worth RX8 := ⟨hx, hb, hml, hown, hts⟩
  have hQ : ∀ (r : Int32) (u : Unit) (t : State), (fun (r : Int32) (u : Unit) => post r ) r u → va_P (dC, dI) vwCl ((fun u : Unit => (mW ad cI cZ m_thrown m_size m_outLong m_lines m_toldLines m_tokens m_places m_p m_pre m_end m_text m_out m_lineAt m_lineLong m_depth m_signed m_led m_told m_place m_begin m_tokenLong m_stemLong m_address m_letters m_stems m_s)) u) t.heap → va_K (dC, dI) vwCl [(cI, .int), (cZ, .boolean)] t → va_D A ((fun u : Unit => (mW ad cI cZ m_thrown m_size m_outLong m_lines m_toldLines m_tokens m_places m_p m_pre m_end m_text m_out m_lineAt m_lineLong m_depth m_signed m_led m_told m_place m_begin m_tokenLong m_stemLong m_address m_letters m_stems m_s)) u) → va_F A s t → (va_Qi (fun (r : Int32) (u : Unit) => post r ) (xB (dC, dI) vwCl [(cI, .int), (cZ, .boolean)] A (fun u : Unit => (mW ad cI cZ m_thrown m_size m_outLong m_lines m_toldLines m_tokens m_places m_p m_pre m_end m_text m_out m_lineAt m_lineLong m_depth m_signed m_led m_told m_place m_begin m_tokenLong m_stemLong m_address m_letters m_stems m_s))) A) ([.int x0, .int x1] : List Value).toArray s (.returned (some (.int r))) t := fun r u t h1 h2 h3 h4 h5 => ⟨⟨r, u, rfl, h1, h2, h3, h4⟩, h5⟩
  generalize (va_Qi (fun (r : Int32) (u : Unit) => post r ) (xB (dC, dI) vwCl [(cI, .int), (cZ, .boolean)] A (fun u : Unit => (mW ad cI cZ m_thrown m_size m_outLong m_lines m_toldLines m_tokens m_places m_p m_pre m_end m_text m_out m_lineAt m_lineLong m_depth m_signed m_led m_told m_place m_begin m_tokenLong m_stemLong m_address m_letters m_stems m_s))) A) = Qc at hQ ⊢
  have hl := lv_entry ([.int x0, .int x1]) (n := 2) (Nat.le_of_ble_eq_true rfl)
  rw [lg_entry_eq]
  generalize (lg_sl ([.int x0, .int x1]) ++ List.replicate (2 - (lg_sl ([.int x0, .int x1])).length) Slot.unset).toArray = ls at hl ⊢
  have hl : lv_has ls 2 [(0, .int x0), (1, .int x1)] := hl
  refine (fun (key : ∀ (H : Heap) (locs : List Loc), va_P (dC, dI) vwCl (mW ad cI cZ m_thrown m_size m_outLong m_lines m_toldLines m_tokens m_places m_p m_pre m_end m_text m_out m_lineAt m_lineLong m_depth m_signed m_led m_told m_place m_begin m_tokenLong m_stemLong m_address m_letters m_stems m_s) H → va_D A (mW ad cI cZ m_thrown m_size m_outLong m_lines m_toldLines m_tokens m_places m_p m_pre m_end m_text m_out m_lineAt m_lineLong m_depth m_signed m_led m_told m_place m_begin m_tokenLong m_stemLong m_address m_letters m_stems m_s) → va_S A s.heap H locs → W p l e (headSpec wsX8_worth ({ frames := 1, cells := 0, slots := 0, locals := 20 })).room s m ([.int x0, .int x1] : List Value).toArray below meth c H locs 0 0 (MQ below Qc ([.int x0, .int x1] : List Value).toArray s 0 0 A) (F0 m 0 ls [])) => key _ _ hP hD hS) ?_
  have J42 : ∀ (H : Heap) (locs : List Loc) (ls : Array Slot), lv_has ls 2 [(0, .int x0)] → va_P (dC, dI) vwCl (mW ad cI cZ m_thrown m_size m_outLong m_lines m_toldLines m_tokens m_places m_p m_pre m_end m_text m_out m_lineAt m_lineLong m_depth m_signed m_led m_told m_place m_begin m_tokenLong m_stemLong m_address m_letters m_stems m_s) H → va_D A (mW ad cI cZ m_thrown m_size m_outLong m_lines m_toldLines m_tokens m_places m_p m_pre m_end m_text m_out m_lineAt m_lineLong m_depth m_signed m_led m_told m_place m_begin m_tokenLong m_stemLong m_address m_letters m_stems m_s) → va_S A s.heap H locs → wjX8_worth_42 post x0 x1  → W p l e (headSpec wsX8_worth ({ frames := 1, cells := 0, slots := 0, locals := 20 })).room s m ([.int x0, .int x1] : List Value).toArray below meth c H locs 0 0 (MQ below Qc ([.int x0, .int x1] : List Value).toArray s 0 0 A) (F0 m 42 ls []) := by
    intro  H locs ls hl hP hD hS h
    delta wjX8_worth_42 at h
    refine lv_iload_n hx hb dX8_worth_42 rfl (lv_at hl 0 rfl) ?_
    refine lv_bipush (v := 65) hx hb dX8_worth_43 (by decide) ?_
    refine lv_icmp_lt (tgt := 64) hx hb dX8_worth_45 (by decide) (fun c9 => ?_) (fun c9 => ?_)
    · have h := h.1 c9
      refine lv_iconst (v := (-1)) hx hb dX8_worth_64 (by decide) ?_
      exact W.iret (v := (-1)) hx hb hr (fun t ht hW => hQ (-1) () t h (by rw [ht]; exact hP) (va_K.moved hW.alike hK) hD (hS.F ht)) hS.2.2 dX8_worth_65
    · have h := h.2 c9
      refine lv_iload_n hx hb dX8_worth_48 rfl (lv_at hl 0 rfl) ?_
      refine lv_bipush (v := 70) hx hb dX8_worth_49 (by decide) ?_
      refine lv_icmp_gt (tgt := 64) hx hb dX8_worth_51 (by decide) (fun c9 => ?_) (fun c9 => ?_)
      · have h := h.1 c9
        refine lv_iconst (v := (-1)) hx hb dX8_worth_64 (by decide) ?_
        exact W.iret (v := (-1)) hx hb hr (fun t ht hW => hQ (-1) () t h (by rw [ht]; exact hP) (va_K.moved hW.alike hK) hD (hS.F ht)) hS.2.2 dX8_worth_65
      · have h := h.2 c9
        refine lv_iload_n hx hb dX8_worth_54 rfl (lv_at hl 0 rfl) ?_
        refine lv_bipush (v := 65) hx hb dX8_worth_55 (by decide) ?_
        refine lv_isub hx hb dX8_worth_57 ?_
        refine lv_bipush (v := 10) hx hb dX8_worth_58 (by decide) ?_
        refine lv_iadd hx hb dX8_worth_60 ?_
        refine lv_goto (tgt := 65) hx hb dX8_worth_61 (by decide) ?_
        exact W.iret (v := ((x0 - 65) + 10)) hx hb hr (fun t ht hW => hQ ((x0 - 65) + 10) () t h (by rw [ht]; exact hP) (va_K.moved hW.alike hK) hD (hS.F ht)) hS.2.2 dX8_worth_65
  intro H locs hP hD hS
  delta wpX8_worth at h
  refine lv_iload_n hx hb dX8_worth_0 rfl (lv_at hl 0 rfl) ?_
  refine xc_si (As := [.int x0]) (rest := []) xG Fx (sX8_isDigit l dC dI ad cI cZ sa sv m_thrown m_size m_outLong m_lines m_toldLines m_tokens m_places m_p m_pre m_end m_text m_out m_lineAt m_lineLong m_depth m_signed m_led m_told m_place m_begin m_tokenLong m_stemLong m_address m_letters m_stems m_s x0 h) (va_cwS 1 hts gX8_worth_X8_isDigit rfl rfl rfl hdX8_isDigit ⟨Nat.le_of_ble_eq_true rfl, Nat.le_of_ble_eq_true rfl⟩) hK hP hD hS hA hI rfl hl.1 rfl (Nat.le_of_ble_eq_true rfl) dX8_worth_1 ⟨Nat.zero_le _, Nat.zero_le _⟩ (fun r_1 u H locs h hP hD hS => ?_)
  refine lv_if_eq (tgt := 12) hx hb dX8_worth_4 (by decide) (fun c9 => ?_) (fun c9 => ?_)
  · have h := h.1 c9
    refine lv_iload_n hx hb dX8_worth_12 rfl (lv_at hl 1 rfl) ?_
    refine lv_bipush (v := 10) hx hb dX8_worth_13 (by decide) ?_
    refine lv_icmp_ne (tgt := 20) hx hb dX8_worth_15 (by decide) (fun c9 => ?_) (fun c9 => ?_)
    · have h := h.1 c9
      refine lv_iload_n hx hb dX8_worth_20 rfl (lv_at hl 0 rfl) ?_
      refine lv_bipush (v := 97) hx hb dX8_worth_21 (by decide) ?_
      refine lv_icmp_lt (tgt := 42) hx hb dX8_worth_23 (by decide) (fun c9 => ?_) (fun c9 => ?_)
      · have h := h.1 c9
        exact J42  H locs ls (lv_sub hl [0] rfl) hP hD hS h
      · have h := h.2 c9
        refine lv_iload_n hx hb dX8_worth_26 rfl (lv_at hl 0 rfl) ?_
        refine lv_bipush (v := 102) hx hb dX8_worth_27 (by decide) ?_
        refine lv_icmp_gt (tgt := 42) hx hb dX8_worth_29 (by decide) (fun c9 => ?_) (fun c9 => ?_)
        · have h := h.1 c9
          exact J42  H locs ls (lv_sub hl [0] rfl) hP hD hS h
        · have h := h.2 c9
          refine lv_iload_n hx hb dX8_worth_32 rfl (lv_at hl 0 rfl) ?_
          refine lv_bipush (v := 97) hx hb dX8_worth_33 (by decide) ?_
          refine lv_isub hx hb dX8_worth_35 ?_
          refine lv_bipush (v := 10) hx hb dX8_worth_36 (by decide) ?_
          refine lv_iadd hx hb dX8_worth_38 ?_
          refine lv_goto (tgt := 65) hx hb dX8_worth_39 (by decide) ?_
          exact W.iret (v := ((x0 - 97) + 10)) hx hb hr (fun t ht hW => hQ ((x0 - 97) + 10) () t h (by rw [ht]; exact hP) (va_K.moved hW.alike hK) hD (hS.F ht)) hS.2.2 dX8_worth_65
    · have h := h.2 c9
      refine lv_iconst (v := (-1)) hx hb dX8_worth_18 (by decide) ?_
      exact W.iret (v := (-1)) hx hb hr (fun t ht hW => hQ (-1) () t h (by rw [ht]; exact hP) (va_K.moved hW.alike hK) hD (hS.F ht)) hS.2.2 dX8_worth_19
  · have h := h.2 c9
    refine lv_iload_n hx hb dX8_worth_7 rfl (lv_at hl 0 rfl) ?_
    refine lv_bipush (v := 48) hx hb dX8_worth_8 (by decide) ?_
    refine lv_isub hx hb dX8_worth_10 ?_
    exact W.iret (v := (x0 - 48)) hx hb hr (fun t ht hW => hQ (x0 - 48) () t h (by rw [ht]; exact hP) (va_K.moved hW.alike hK) hD (hS.F ht)) hS.2.2 dX8_worth_11
set_option maxHeartbeats 4000000 in
set_option maxRecDepth 100000 in
theorem sX8_readNumber (l : Launch) (dC : Nat → ClassId) (dI : Nat → Nat → Nat) (ad : Nat → Nat) (cI cZ : ClassId) (sa sv : Nat → Nat) (m_thrown : Int32) (m_size : Int32) (m_outLong : Int32) (m_lines : Int32) (m_toldLines : Int32) (m_tokens : Int32) (m_places : Int32) (m_p : Int32) (m_pre : Int32) (m_end : Int32) (m_text : Nat → Int32) (m_out : Nat → Int32) (m_lineAt : Nat → Int32) (m_lineLong : Nat → Int32) (m_depth : Nat → Int32) (m_signed : Nat → Int32) (m_led : Nat → Int32) (m_told : Nat → Int32) (m_place : Nat → Int32) (m_begin : Nat → Int32) (m_tokenLong : Nat → Int32) (m_stemLong : Nat → Int32) (m_address : Nat → Int32) (m_letters : Nat → Int32) (m_stems : Nat → Int32) (m_s : Nat → Int32) (x1 : Int32) (x2 : Int32) (x3 : Int32) {post : Int32 → Int32 → (Nat → Int32) → Prop} (h : wpX8_readNumber post m_size m_outLong m_p m_text m_out x1 x2 x3) : xMv l (dC, dI) vwCl [(cI, .int), (cZ, .boolean)] (sI sa sv) yX8_readNumber wsX8_readNumber ({ frames := 2, cells := 0, slots := 0, locals := 41 }) (mW ad cI cZ m_thrown m_size m_outLong m_lines m_toldLines m_tokens m_places m_p m_pre m_end m_text m_out m_lineAt m_lineLong m_depth m_signed m_led m_told m_place m_begin m_tokenLong m_stemLong m_address m_letters m_stems m_s) [.ref (ad 0), .int x1, .int x2, .int x3] (fun u : Int32 × Int32 × (Nat → Int32) => post u.1 u.2.1 u.2.2) (fun u : Int32 × Int32 × (Nat → Int32) => (mW ad cI cZ m_thrown m_size u.1 m_lines m_toldLines m_tokens m_places u.2.1 m_pre m_end m_text u.2.2 m_lineAt m_lineLong m_depth m_signed m_led m_told m_place m_begin m_tokenLong m_stemLong m_address m_letters m_stems m_s)) := by
  intro sz
  refine Met.ofW (cc := cX8_readNumber) (maxL := 6) (ret := none) (by decide) rfl ?_
  intro p e s m args below meth c s₁ B hml hv
  obtain ⟨rfl, hsz, hP, hK, hD0, hI⟩ := hv
  have hx := B.exec
  have hb := B.bytes
  have hr := B.returns
  have hts := atoms_spec (ws := wsX8_readNumber) B.pre
  have hown : s.vm.findClass RX8 = some m.cls := findClass_of_methodNamed B.named
  have hlocks := B.notSynchronized
  subst hsz
  have hD := hD0.self (sz := s.heap.size)
  generalize hAe : va_A (mW ad cI cZ m_thrown m_size m_outLong m_lines m_toldLines m_tokens m_places m_p m_pre m_end m_text m_out m_lineAt m_lineLong m_depth m_signed m_led m_told m_place m_begin m_tokenLong m_stemLong m_address m_letters m_stems m_s) s.heap.size = A at hD hI ⊢
  have hA : ∀ q : Nat, s.heap.size ≤ q → A q := fun q h => by rw [← hAe]; exact Or.inr h
  have hS : va_S A s.heap s.heap [] := va_S.rf
  have Fx : CallFix p m c cX8_readNumber 6 s ([.ref (ad 0), .int x1, .int x2, .int x3] : List Value).toArray wsX8_readNumber RX8 := ⟨hx, hb, hml, hown, hts⟩
  have hQ : ∀ (u : Int32 × Int32 × (Nat → Int32)) (t : State), (fun u : Int32 × Int32 × (Nat → Int32) => post u.1 u.2.1 u.2.2) u → va_P (dC, dI) vwCl ((fun u : Int32 × Int32 × (Nat → Int32) => (mW ad cI cZ m_thrown m_size u.1 m_lines m_toldLines m_tokens m_places u.2.1 m_pre m_end m_text u.2.2 m_lineAt m_lineLong m_depth m_signed m_led m_told m_place m_begin m_tokenLong m_stemLong m_address m_letters m_stems m_s)) u) t.heap → va_K (dC, dI) vwCl [(cI, .int), (cZ, .boolean)] t → va_D A ((fun u : Int32 × Int32 × (Nat → Int32) => (mW ad cI cZ m_thrown m_size u.1 m_lines m_toldLines m_tokens m_places u.2.1 m_pre m_end m_text u.2.2 m_lineAt m_lineLong m_depth m_signed m_led m_told m_place m_begin m_tokenLong m_stemLong m_address m_letters m_stems m_s)) u) → va_F A s t → (va_Qv (fun u : Int32 × Int32 × (Nat → Int32) => post u.1 u.2.1 u.2.2) (xB (dC, dI) vwCl [(cI, .int), (cZ, .boolean)] A (fun u : Int32 × Int32 × (Nat → Int32) => (mW ad cI cZ m_thrown m_size u.1 m_lines m_toldLines m_tokens m_places u.2.1 m_pre m_end m_text u.2.2 m_lineAt m_lineLong m_depth m_signed m_led m_told m_place m_begin m_tokenLong m_stemLong m_address m_letters m_stems m_s))) A) ([.ref (ad 0), .int x1, .int x2, .int x3] : List Value).toArray s (.returned none) t := fun u t h1 h2 h3 h4 h5 => ⟨⟨u, rfl, h1, h2, h3, h4⟩, h5⟩
  generalize (va_Qv (fun u : Int32 × Int32 × (Nat → Int32) => post u.1 u.2.1 u.2.2) (xB (dC, dI) vwCl [(cI, .int), (cZ, .boolean)] A (fun u : Int32 × Int32 × (Nat → Int32) => (mW ad cI cZ m_thrown m_size u.1 m_lines m_toldLines m_tokens m_places u.2.1 m_pre m_end m_text u.2.2 m_lineAt m_lineLong m_depth m_signed m_led m_told m_place m_begin m_tokenLong m_stemLong m_address m_letters m_stems m_s))) A) = Qc at hQ ⊢
  have hl := lv_entry ([.ref (ad 0), .int x1, .int x2, .int x3]) (n := 6) (Nat.le_of_ble_eq_true rfl)
  rw [lg_entry_eq]
  generalize (lg_sl ([.ref (ad 0), .int x1, .int x2, .int x3]) ++ List.replicate (6 - (lg_sl ([.ref (ad 0), .int x1, .int x2, .int x3])).length) Slot.unset).toArray = ls at hl ⊢
  have hl : lv_has ls 6 [(0, .ref (ad 0)), (1, .int x1), (2, .int x2), (3, .int x3)] := hl
  refine (fun (key : ∀ (H : Heap) (locs : List Loc), va_P (dC, dI) vwCl (mW ad cI cZ m_thrown m_size m_outLong m_lines m_toldLines m_tokens m_places m_p m_pre m_end m_text m_out m_lineAt m_lineLong m_depth m_signed m_led m_told m_place m_begin m_tokenLong m_stemLong m_address m_letters m_stems m_s) H → va_D A (mW ad cI cZ m_thrown m_size m_outLong m_lines m_toldLines m_tokens m_places m_p m_pre m_end m_text m_out m_lineAt m_lineLong m_depth m_signed m_led m_told m_place m_begin m_tokenLong m_stemLong m_address m_letters m_stems m_s) → va_S A s.heap H locs → W p l e (headSpec wsX8_readNumber ({ frames := 2, cells := 0, slots := 0, locals := 41 })).room s m ([.ref (ad 0), .int x1, .int x2, .int x3] : List Value).toArray below meth c H locs 0 0 (MQ below Qc ([.ref (ad 0), .int x1, .int x2, .int x3] : List Value).toArray s 0 0 A) (F0 m 0 ls [])) => key _ _ hP hD hS) ?_
  have inX8 : ∀ w ∈ wsX80, w ∈ wsX8_readNumber := (fun _ h9 => List.mem_cons_of_mem _ (List.mem_append_right _ h9))
  have J142 : ∀ (m_outLong : Int32) (m_p : Int32) (m_out : Nat → Int32) (s0 : Int32) (H : Heap) (locs : List Loc) (ls : Array Slot), lv_has ls 6 [] → va_P (dC, dI) vwCl (mW ad cI cZ m_thrown m_size m_outLong m_lines m_toldLines m_tokens m_places m_p m_pre m_end m_text m_out m_lineAt m_lineLong m_depth m_signed m_led m_told m_place m_begin m_tokenLong m_stemLong m_address m_letters m_stems m_s) H → va_D A (mW ad cI cZ m_thrown m_size m_outLong m_lines m_toldLines m_tokens m_places m_p m_pre m_end m_text m_out m_lineAt m_lineLong m_depth m_signed m_led m_told m_place m_begin m_tokenLong m_stemLong m_address m_letters m_stems m_s) → va_S A s.heap H locs → wjX8_readNumber_142 post m_size m_text x1 x2 x3 m_outLong m_p m_out s0 → W p l e (headSpec wsX8_readNumber ({ frames := 2, cells := 0, slots := 0, locals := 41 })).room s m ([.ref (ad 0), .int x1, .int x2, .int x3] : List Value).toArray below meth c H locs 0 0 (MQ below Qc ([.ref (ad 0), .int x1, .int x2, .int x3] : List Value).toArray s 0 0 A) (F0 m 142 ls [.int s0, .ref (ad 0)]) := by
    intro m_outLong m_p m_out s0 H locs ls hl hP hD hS h
    delta wjX8_readNumber_142 at h
    refine va_put (D := (dC, dI)) (ci := 7) (v := .int s0) (ty := .int) (C := RX8) (T := TX8) (N := 26) hx hb hts inX8 tyX8 tyX8_ok nmX8 hown hK hP hD hS 0 rfl rfl 22 (by decide) (hts (.fieldLink RX8 150 "MailWordsModel" "p" "I") (List.mem_of_getElem? (i := 1) rfl)) (fun _ h9 => h9) rfl (tyX8_ok 22 (by decide)) rfl rfl (Nat.le_of_ble_eq_true rfl) dX8_readNumber_142 (fun H locs hP hD hS => ?_)
    have hP : va_P (dC, dI) vwCl (mW ad cI cZ m_thrown m_size m_outLong m_lines m_toldLines m_tokens m_places s0 m_pre m_end m_text m_out m_lineAt m_lineLong m_depth m_signed m_led m_told m_place m_begin m_tokenLong m_stemLong m_address m_letters m_stems m_s) H := hP
    have hD : va_D A (mW ad cI cZ m_thrown m_size m_outLong m_lines m_toldLines m_tokens m_places s0 m_pre m_end m_text m_out m_lineAt m_lineLong m_depth m_signed m_led m_told m_place m_begin m_tokenLong m_stemLong m_address m_letters m_stems m_s) := hD
    exact W.vret hx hb hr (fun t ht hW => hQ (m_outLong, s0, m_out) t h (by rw [ht]; exact hP) (va_K.moved hW.alike hK) hD (hS.F ht)) hS.2.2 dX8_readNumber_145
  have J118 : ∀ (m_outLong : Int32) (m_p : Int32) (m_out : Nat → Int32) (x4 : Int32) (s0 : Int32) (H : Heap) (locs : List Loc) (ls : Array Slot), lv_has ls 6 [(0, .ref (ad 0)), (4, .int x4)] → va_P (dC, dI) vwCl (mW ad cI cZ m_thrown m_size m_outLong m_lines m_toldLines m_tokens m_places m_p m_pre m_end m_text m_out m_lineAt m_lineLong m_depth m_signed m_led m_told m_place m_begin m_tokenLong m_stemLong m_address m_letters m_stems m_s) H → va_D A (mW ad cI cZ m_thrown m_size m_outLong m_lines m_toldLines m_tokens m_places m_p m_pre m_end m_text m_out m_lineAt m_lineLong m_depth m_signed m_led m_told m_place m_begin m_tokenLong m_stemLong m_address m_letters m_stems m_s) → va_S A s.heap H locs → wjX8_readNumber_118 post m_size m_text x1 x2 x3 m_outLong m_p m_out x4 s0 → W p l e (headSpec wsX8_readNumber ({ frames := 2, cells := 0, slots := 0, locals := 41 })).room s m ([.ref (ad 0), .int x1, .int x2, .int x3] : List Value).toArray below meth c H locs 0 0 (MQ below Qc ([.ref (ad 0), .int x1, .int x2, .int x3] : List Value).toArray s 0 0 A) (F0 m 118 ls [.int s0, .ref (ad 0)]) := by
    intro m_outLong m_p m_out x4 s0 H locs ls hl hP hD hS h
    delta wjX8_readNumber_118 at h
    refine xc_vv (As := [.int s0]) (rest := []) xG Fx (sX8_write l dC dI ad cI cZ sa sv m_thrown m_size m_outLong m_lines m_toldLines m_tokens m_places m_p m_pre m_end m_text m_out m_lineAt m_lineLong m_depth m_signed m_led m_told m_place m_begin m_tokenLong m_stemLong m_address m_letters m_stems m_s s0 h) (cwV 1 hts gX8_readNumber_X8_write rfl rfl rfl hdX8_write ⟨Nat.le_of_ble_eq_true rfl, Nat.le_of_ble_eq_true rfl⟩) (va_recv hK hP (ci := 7) (q0 := 0) rfl rfl) hK hP hD hS hA hI rfl hl.1 rfl (Nat.le_of_ble_eq_true rfl) dX8_readNumber_118 ⟨Nat.zero_le _, Nat.zero_le _⟩ (fun u H locs h hP hD hS => ?_)
    obtain ⟨m_outLong_2, m_out_3⟩ := u
    have hP : va_P (dC, dI) vwCl (mW ad cI cZ m_thrown m_size m_outLong_2 m_lines m_toldLines m_tokens m_places m_p m_pre m_end m_text m_out_3 m_lineAt m_lineLong m_depth m_signed m_led m_told m_place m_begin m_tokenLong m_stemLong m_address m_letters m_stems m_s) H := hP
    have hD : va_D A (mW ad cI cZ m_thrown m_size m_outLong_2 m_lines m_toldLines m_tokens m_places m_p m_pre m_end m_text m_out_3 m_lineAt m_lineLong m_depth m_signed m_led m_told m_place m_begin m_tokenLong m_stemLong m_address m_letters m_stems m_s) := hD
    refine lv_aload_n hx hb dX8_readNumber_121 rfl (lv_at hl 0 rfl) ?_
    refine lv_aload_n hx hb dX8_readNumber_122 rfl (lv_at hl 0 rfl) ?_
    refine lv_iload hx hb dX8_readNumber_123 (lv_at hl 1 rfl) ?_
    refine xc_vi (As := [.int x4]) (rest := [.ref (ad 0)]) xG Fx (sX8_look l dC dI ad cI cZ sa sv m_thrown m_size m_outLong_2 m_lines m_toldLines m_tokens m_places m_p m_pre m_end m_text m_out_3 m_lineAt m_lineLong m_depth m_signed m_led m_told m_place m_begin m_tokenLong m_stemLong m_address m_letters m_stems m_s x4 h) (cwV 1 hts gX8_readNumber_X8_look rfl rfl rfl hdX8_look ⟨Nat.le_of_ble_eq_true rfl, Nat.le_of_ble_eq_true rfl⟩) (va_recv hK hP (ci := 7) (q0 := 0) rfl rfl) hK hP hD hS hA hI rfl hl.1 rfl (Nat.le_of_ble_eq_true rfl) dX8_readNumber_125 ⟨Nat.zero_le _, Nat.zero_le _⟩ (fun r_4 u H locs h hP hD hS => ?_)
    refine lv_bipush (v := 59) hx hb dX8_readNumber_128 (by decide) ?_
    refine lv_icmp_ne (tgt := 140) hx hb dX8_readNumber_130 (by decide) (fun c9 => ?_) (fun c9 => ?_)
    · have h := h.1 c9
      refine lv_iload hx hb dX8_readNumber_140 (lv_at hl 1 rfl) ?_
      exact J142 m_outLong_2 m_p m_out_3 x4 H locs ls (lv_sub hl [] rfl) hP hD hS h
    · have h := h.2 c9
      refine lv_iload hx hb dX8_readNumber_133 (lv_at hl 1 rfl) ?_
      refine lv_iconst (v := 1) hx hb dX8_readNumber_135 (by decide) ?_
      refine lv_iadd hx hb dX8_readNumber_136 ?_
      refine lv_goto (tgt := 142) hx hb dX8_readNumber_137 (by decide) ?_
      exact J142 m_outLong_2 m_p m_out_3 (x4 + 1) H locs ls (lv_sub hl [] rfl) hP hD hS h
  have J111 : ∀ (m_outLong : Int32) (m_p : Int32) (m_out : Nat → Int32) (x4 : Int32) (H : Heap) (locs : List Loc) (ls : Array Slot), lv_has ls 6 [(0, .ref (ad 0)), (4, .int x4)] → va_P (dC, dI) vwCl (mW ad cI cZ m_thrown m_size m_outLong m_lines m_toldLines m_tokens m_places m_p m_pre m_end m_text m_out m_lineAt m_lineLong m_depth m_signed m_led m_told m_place m_begin m_tokenLong m_stemLong m_address m_letters m_stems m_s) H → va_D A (mW ad cI cZ m_thrown m_size m_outLong m_lines m_toldLines m_tokens m_places m_p m_pre m_end m_text m_out m_lineAt m_lineLong m_depth m_signed m_led m_told m_place m_begin m_tokenLong m_stemLong m_address m_letters m_stems m_s) → va_S A s.heap H locs → wjX8_readNumber_111 post m_size m_text x1 x2 x3 m_outLong m_p m_out x4 → W p l e (headSpec wsX8_readNumber ({ frames := 2, cells := 0, slots := 0, locals := 41 })).room s m ([.ref (ad 0), .int x1, .int x2, .int x3] : List Value).toArray below meth c H locs 0 0 (MQ below Qc ([.ref (ad 0), .int x1, .int x2, .int x3] : List Value).toArray s 0 0 A) (F0 m 111 ls [.ref (ad 0)]) := by
    intro m_outLong m_p m_out x4 H locs ls hl hP hD hS h
    delta wjX8_readNumber_111 at h
    refine lv_ldc (v := 65533) hx hb hown (hts (.constant RX8 200 (65533)) (List.mem_of_getElem? (i := 5) rfl)) dX8_readNumber_111 ?_
    refine lv_goto (tgt := 118) hx hb dX8_readNumber_113 (by decide) ?_
    exact J118 m_outLong m_p m_out x4 65533 H locs ls (lv_sub hl [0, 1] rfl) hP hD hS h
  have J69 : ∀ (m_outLong : Int32) (m_p : Int32) (m_out : Nat → Int32) (H : Heap) (locs : List Loc) (ls : Array Slot), lv_has ls 6 [(0, .ref (ad 0))] → va_P (dC, dI) vwCl (mW ad cI cZ m_thrown m_size m_outLong m_lines m_toldLines m_tokens m_places m_p m_pre m_end m_text m_out m_lineAt m_lineLong m_depth m_signed m_led m_told m_place m_begin m_tokenLong m_stemLong m_address m_letters m_stems m_s) H → va_D A (mW ad cI cZ m_thrown m_size m_outLong m_lines m_toldLines m_tokens m_places m_p m_pre m_end m_text m_out m_lineAt m_lineLong m_depth m_signed m_led m_told m_place m_begin m_tokenLong m_stemLong m_address m_letters m_stems m_s) → va_S A s.heap H locs → wjX8_readNumber_69 post m_size m_text x1 x2 x3 m_outLong m_p m_out → W p l e (headSpec wsX8_readNumber ({ frames := 2, cells := 0, slots := 0, locals := 41 })).room s m ([.ref (ad 0), .int x1, .int x2, .int x3] : List Value).toArray below meth c H locs 0 0 (MQ below Qc ([.ref (ad 0), .int x1, .int x2, .int x3] : List Value).toArray s 0 0 A) (F0 m 69 ls []) := by
    intro m_outLong m_p m_out H locs ls hl hP hD hS h
    delta wjX8_readNumber_69 at h
    refine lv_aload_n hx hb dX8_readNumber_69 rfl (lv_at hl 0 rfl) ?_
    refine lv_bipush (v := 38) hx hb dX8_readNumber_70 (by decide) ?_
    refine xc_vv (As := [.int 38]) (rest := []) xG Fx (sX8_write l dC dI ad cI cZ sa sv m_thrown m_size m_outLong m_lines m_toldLines m_tokens m_places m_p m_pre m_end m_text m_out m_lineAt m_lineLong m_depth m_signed m_led m_told m_place m_begin m_tokenLong m_stemLong m_address m_letters m_stems m_s 38 h) (cwV 1 hts gX8_readNumber_X8_write rfl rfl rfl hdX8_write ⟨Nat.le_of_ble_eq_true rfl, Nat.le_of_ble_eq_true rfl⟩) (va_recv hK hP (ci := 7) (q0 := 0) rfl rfl) hK hP hD hS hA hI rfl hl.1 rfl (Nat.le_of_ble_eq_true rfl) dX8_readNumber_72 ⟨Nat.zero_le _, Nat.zero_le _⟩ (fun u H locs h hP hD hS => ?_)
    obtain ⟨m_outLong_6, m_out_7⟩ := u
    have hP : va_P (dC, dI) vwCl (mW ad cI cZ m_thrown m_size m_outLong_6 m_lines m_toldLines m_tokens m_places m_p m_pre m_end m_text m_out_7 m_lineAt m_lineLong m_depth m_signed m_led m_told m_place m_begin m_tokenLong m_stemLong m_address m_letters m_stems m_s) H := hP
    have hD : va_D A (mW ad cI cZ m_thrown m_size m_outLong_6 m_lines m_toldLines m_tokens m_places m_p m_pre m_end m_text m_out_7 m_lineAt m_lineLong m_depth m_signed m_led m_told m_place m_begin m_tokenLong m_stemLong m_address m_letters m_stems m_s) := hD
    refine lv_aload_n hx hb dX8_readNumber_75 rfl (lv_at hl 0 rfl) ?_
    refine lv_dup hx hb dX8_readNumber_76 rfl ?_
    refine va_get (D := (dC, dI)) (ci := 7) (v := .int m_p) (C := RX8) (T := TX8) (N := 26) hx hb hts inX8 hown hK hP 0 rfl rfl 22 (by decide) (hts (.fieldLink RX8 150 "MailWordsModel" "p" "I") (List.mem_of_getElem? (i := 1) rfl)) (fun _ h9 => h9) rfl dX8_readNumber_77 ?_
    refine lv_iconst (v := 1) hx hb dX8_readNumber_80 (by decide) ?_
    refine lv_iadd hx hb dX8_readNumber_81 ?_
    refine lv_topi (fun m_p_8 em_p_8 => ?_)
    have h := h m_p_8 em_p_8
    refine va_put (D := (dC, dI)) (ci := 7) (v := .int m_p_8) (ty := .int) (C := RX8) (T := TX8) (N := 26) hx hb hts inX8 tyX8 tyX8_ok nmX8 hown hK hP hD hS 0 rfl rfl 22 (by decide) (hts (.fieldLink RX8 150 "MailWordsModel" "p" "I") (List.mem_of_getElem? (i := 1) rfl)) (fun _ h9 => h9) rfl (tyX8_ok 22 (by decide)) rfl rfl (Nat.le_of_ble_eq_true rfl) dX8_readNumber_82 (fun H locs hP hD hS => ?_)
    have hP : va_P (dC, dI) vwCl (mW ad cI cZ m_thrown m_size m_outLong_6 m_lines m_toldLines m_tokens m_places m_p_8 m_pre m_end m_text m_out_7 m_lineAt m_lineLong m_depth m_signed m_led m_told m_place m_begin m_tokenLong m_stemLong m_address m_letters m_stems m_s) H := hP
    have hD : va_D A (mW ad cI cZ m_thrown m_size m_outLong_6 m_lines m_toldLines m_tokens m_places m_p_8 m_pre m_end m_text m_out_7 m_lineAt m_lineLong m_depth m_signed m_led m_told m_place m_begin m_tokenLong m_stemLong m_address m_letters m_stems m_s) := hD
    exact W.vret hx hb hr (fun t ht hW => hQ (m_outLong_6, m_p_8, m_out_7) t h (by rw [ht]; exact hP) (va_K.moved hW.alike hK) hD (hS.F ht)) hS.2.2 dX8_readNumber_85
  have L6 : ∀ (m_outLong : Int32) (m_p : Int32) (m_out : Nat → Int32) (n : Nat) (x4 : Int32) (x5 : Int32) (H : Heap) (locs : List Loc) (ls : Array Slot), lv_has ls 6 [(0, .ref (ad 0)), (1, .int x1), (2, .int x2), (3, .int x3), (4, .int x4), (5, .int x5)] → va_P (dC, dI) vwCl (mW ad cI cZ m_thrown m_size m_outLong m_lines m_toldLines m_tokens m_places m_p m_pre m_end m_text m_out m_lineAt m_lineLong m_depth m_signed m_led m_told m_place m_begin m_tokenLong m_stemLong m_address m_letters m_stems m_s) H → va_D A (mW ad cI cZ m_thrown m_size m_outLong m_lines m_toldLines m_tokens m_places m_p m_pre m_end m_text m_out m_lineAt m_lineLong m_depth m_signed m_led m_told m_place m_begin m_tokenLong m_stemLong m_address m_letters m_stems m_s) → va_S A s.heap H locs → wlX8_readNumber_6 post m_size m_text x1 x2 x3 m_outLong m_p m_out n x4 x5 → W p l e (headSpec wsX8_readNumber ({ frames := 2, cells := 0, slots := 0, locals := 41 })).room s m ([.ref (ad 0), .int x1, .int x2, .int x3] : List Value).toArray below meth c H locs 0 0 (MQ below Qc ([.ref (ad 0), .int x1, .int x2, .int x3] : List Value).toArray s 0 0 A) (F0 m 6 ls []) := by
    intro m_outLong m_p m_out
    intro n
    induction n with
    | zero => intro x4 x5 H locs ls _ _ _ _ h; exact absurd h (fun z => z)
    | succ n6 ih6 =>
      intro x4 x5 H locs ls hl hP hD hS h
      have J47 : ∀ (x4 : Int32) (s0 : Int32) (H : Heap) (locs : List Loc) (ls : Array Slot), lv_has ls 6 [(0, .ref (ad 0)), (1, .int x1), (2, .int x2), (3, .int x3), (4, .int x4)] → va_P (dC, dI) vwCl (mW ad cI cZ m_thrown m_size m_outLong m_lines m_toldLines m_tokens m_places m_p m_pre m_end m_text m_out m_lineAt m_lineLong m_depth m_signed m_led m_told m_place m_begin m_tokenLong m_stemLong m_address m_letters m_stems m_s) H → va_D A (mW ad cI cZ m_thrown m_size m_outLong m_lines m_toldLines m_tokens m_places m_p m_pre m_end m_text m_out m_lineAt m_lineLong m_depth m_signed m_led m_told m_place m_begin m_tokenLong m_stemLong m_address m_letters m_stems m_s) → va_S A s.heap H locs → wjX8_readNumber_47 (fun x4 x5 => wlX8_readNumber_6 post m_size m_text x1 x2 x3 m_outLong m_p m_out n6 x4 x5) post m_size m_text x1 x2 x3 m_outLong m_p m_out x4 s0 → W p l e (headSpec wsX8_readNumber ({ frames := 2, cells := 0, slots := 0, locals := 41 })).room s m ([.ref (ad 0), .int x1, .int x2, .int x3] : List Value).toArray below meth c H locs 0 0 (MQ below Qc ([.ref (ad 0), .int x1, .int x2, .int x3] : List Value).toArray s 0 0 A) (F0 m 47 ls [.int s0]) := by
        intro x4 s0 H locs ls hl hP hD hS h
        delta wjX8_readNumber_47 at h
        refine lv_istore (lv' := [(5, .int s0), (0, .ref (ad 0)), (1, .int x1), (2, .int x2), (3, .int x3), (4, .int x4)]) hx hb dX8_readNumber_47 hl (by decide) rfl (fun ls hl => ?_)
        obtain ⟨x4_9, ex4_9⟩ : ∃ y : Int32, y = x4 + 1 := ⟨_, rfl⟩
        have h := h x4_9 ex4_9
        refine lv_iinc (v := x4_9) (lv' := [(4, .int x4_9), (5, .int s0), (0, .ref (ad 0)), (1, .int x1), (2, .int x2), (3, .int x3)]) hx hb dX8_readNumber_49 hl (k := 5) rfl (by rw [ex4_9]; rfl) (by decide) rfl (fun ls hl => ?_)
        refine lv_goto (tgt := 6) hx hb dX8_readNumber_52 (by decide) ?_
        exact ih6 x4_9 s0 H locs ls (lv_sub hl [2, 3, 4, 5, 0, 1] rfl) hP hD hS h
      rw [wlX8_readNumber_6] at h
      refine lv_aload_n hx hb dX8_readNumber_6 rfl (lv_at hl 0 rfl) ?_
      refine lv_iload hx hb dX8_readNumber_7 (lv_at hl 4 rfl) ?_
      refine xc_vi (As := [.int x4]) (rest := []) xG Fx (sX8_look l dC dI ad cI cZ sa sv m_thrown m_size m_outLong m_lines m_toldLines m_tokens m_places m_p m_pre m_end m_text m_out m_lineAt m_lineLong m_depth m_signed m_led m_told m_place m_begin m_tokenLong m_stemLong m_address m_letters m_stems m_s x4 h) (cwV 1 hts gX8_readNumber_X8_look rfl rfl rfl hdX8_look ⟨Nat.le_of_ble_eq_true rfl, Nat.le_of_ble_eq_true rfl⟩) (va_recv hK hP (ci := 7) (q0 := 0) rfl rfl) hK hP hD hS hA hI rfl hl.1 rfl (Nat.le_of_ble_eq_true rfl) dX8_readNumber_9 ⟨Nat.zero_le _, Nat.zero_le _⟩ (fun r_10 u H locs h hP hD hS => ?_)
      refine lv_iload_n hx hb dX8_readNumber_12 rfl (lv_at hl 2 rfl) ?_
      refine xc_si (As := [.int r_10, .int x2]) (rest := []) xG Fx (sX8_worth l dC dI ad cI cZ sa sv m_thrown m_size m_outLong m_lines m_toldLines m_tokens m_places m_p m_pre m_end m_text m_out m_lineAt m_lineLong m_depth m_signed m_led m_told m_place m_begin m_tokenLong m_stemLong m_address m_letters m_stems m_s r_10 x2 h) (va_cwS 2 hts gX8_readNumber_X8_worth rfl rfl rfl hdX8_worth ⟨Nat.le_of_ble_eq_true rfl, Nat.le_of_ble_eq_true rfl⟩) hK hP hD hS hA hI rfl hl.1 rfl (Nat.le_of_ble_eq_true rfl) dX8_readNumber_13 ⟨Nat.zero_le _, Nat.zero_le _⟩ (fun r_11 u H locs h hP hD hS => ?_)
      refine lv_if_lt (tgt := 55) hx hb dX8_readNumber_16 (by decide) (fun c9 => ?_) (fun c9 => ?_)
      · have h := h.1 c9
        refine lv_iload hx hb dX8_readNumber_55 (lv_at hl 4 rfl) ?_
        refine lv_iload_n hx hb dX8_readNumber_57 rfl (lv_at hl 1 rfl) ?_
        refine lv_icmp_eq (tgt := 69) hx hb dX8_readNumber_58 (by decide) (fun c9 => ?_) (fun c9 => ?_)
        · have h := h.1 c9
          exact J69 m_outLong m_p m_out H locs ls (lv_sub hl [0] rfl) hP hD hS h
        · have h := h.2 c9
          refine lv_iload hx hb dX8_readNumber_61 (lv_at hl 4 rfl) ?_
          refine lv_iload_n hx hb dX8_readNumber_63 rfl (lv_at hl 1 rfl) ?_
          refine lv_isub hx hb dX8_readNumber_64 ?_
          refine lv_iload_n hx hb dX8_readNumber_65 rfl (lv_at hl 3 rfl) ?_
          refine lv_icmp_le (tgt := 86) hx hb dX8_readNumber_66 (by decide) (fun c9 => ?_) (fun c9 => ?_)
          · have h := h.1 c9
            refine lv_aload_n hx hb dX8_readNumber_86 rfl (lv_at hl 0 rfl) ?_
            refine lv_iload hx hb dX8_readNumber_87 (lv_at hl 5 rfl) ?_
            refine lv_if_eq (tgt := 111) hx hb dX8_readNumber_89 (by decide) (fun c9 => ?_) (fun c9 => ?_)
            · have h := h.1 c9
              exact J111 m_outLong m_p m_out x4 H locs ls (lv_sub hl [0, 4] rfl) hP hD hS h
            · have h := h.2 c9
              refine lv_iload hx hb dX8_readNumber_92 (lv_at hl 5 rfl) ?_
              refine lv_ldc (v := 65535) hx hb hown (hts (.constant RX8 67 (65535)) (List.mem_of_getElem? (i := 2) rfl)) dX8_readNumber_94 ?_
              refine lv_icmp_gt (tgt := 111) hx hb dX8_readNumber_96 (by decide) (fun c9 => ?_) (fun c9 => ?_)
              · have h := h.1 c9
                exact J111 m_outLong m_p m_out x4 H locs ls (lv_sub hl [0, 4] rfl) hP hD hS h
              · have h := h.2 c9
                refine lv_iload hx hb dX8_readNumber_99 (lv_at hl 5 rfl) ?_
                refine lv_ldc (v := 55296) hx hb hown (hts (.constant RX8 198 (55296)) (List.mem_of_getElem? (i := 3) rfl)) dX8_readNumber_101 ?_
                refine lv_ldc (v := 57343) hx hb hown (hts (.constant RX8 199 (57343)) (List.mem_of_getElem? (i := 4) rfl)) dX8_readNumber_103 ?_
                refine xc_si (As := [.int x5, .int 55296, .int 57343]) (rest := [.ref (ad 0)]) xG Fx (sX8_within l dC dI ad cI cZ sa sv m_thrown m_size m_outLong m_lines m_toldLines m_tokens m_places m_p m_pre m_end m_text m_out m_lineAt m_lineLong m_depth m_signed m_led m_told m_place m_begin m_tokenLong m_stemLong m_address m_letters m_stems m_s x5 55296 57343 h) (va_cwS 3 hts gX8_readNumber_X8_within rfl rfl rfl hdX8_within ⟨Nat.le_of_ble_eq_true rfl, Nat.le_of_ble_eq_true rfl⟩) hK hP hD hS hA hI rfl hl.1 rfl (Nat.le_of_ble_eq_true rfl) dX8_readNumber_105 ⟨Nat.zero_le _, Nat.zero_le _⟩ (fun r_12 u H locs h hP hD hS => ?_)
                refine lv_if_eq (tgt := 116) hx hb dX8_readNumber_108 (by decide) (fun c9 => ?_) (fun c9 => ?_)
                · have h := h.1 c9
                  refine lv_iload hx hb dX8_readNumber_116 (lv_at hl 5 rfl) ?_
                  exact J118 m_outLong m_p m_out x4 x5 H locs ls (lv_sub hl [0, 4] rfl) hP hD hS h
                · have h := h.2 c9
                  exact J111 m_outLong m_p m_out x4 H locs ls (lv_sub hl [0, 4] rfl) hP hD hS h
          · have h := h.2 c9
            exact J69 m_outLong m_p m_out H locs ls (lv_sub hl [0] rfl) hP hD hS h
      · have h := h.2 c9
        refine lv_iload hx hb dX8_readNumber_19 (lv_at hl 4 rfl) ?_
        refine lv_iload_n hx hb dX8_readNumber_21 rfl (lv_at hl 1 rfl) ?_
        refine lv_isub hx hb dX8_readNumber_22 ?_
        refine lv_iload_n hx hb dX8_readNumber_23 rfl (lv_at hl 3 rfl) ?_
        refine lv_icmp_ge (tgt := 45) hx hb dX8_readNumber_24 (by decide) (fun c9 => ?_) (fun c9 => ?_)
        · have h := h.1 c9
          refine lv_iload hx hb dX8_readNumber_45 (lv_at hl 5 rfl) ?_
          exact J47 x4 x5 H locs ls (lv_sub hl [0, 1, 2, 3, 4] rfl) hP hD hS h
        · have h := h.2 c9
          refine lv_iload_n hx hb dX8_readNumber_27 rfl (lv_at hl 2 rfl) ?_
          refine lv_iload hx hb dX8_readNumber_28 (lv_at hl 5 rfl) ?_
          refine lv_imul hx hb dX8_readNumber_30 ?_
          refine lv_aload_n hx hb dX8_readNumber_31 rfl (lv_at hl 0 rfl) ?_
          refine lv_iload hx hb dX8_readNumber_32 (lv_at hl 4 rfl) ?_
          refine xc_vi (As := [.int x4]) (rest := [.int (x2 * x5)]) xG Fx (sX8_look l dC dI ad cI cZ sa sv m_thrown m_size m_outLong m_lines m_toldLines m_tokens m_places m_p m_pre m_end m_text m_out m_lineAt m_lineLong m_depth m_signed m_led m_told m_place m_begin m_tokenLong m_stemLong m_address m_letters m_stems m_s x4 h) (cwV 1 hts gX8_readNumber_X8_look rfl rfl rfl hdX8_look ⟨Nat.le_of_ble_eq_true rfl, Nat.le_of_ble_eq_true rfl⟩) (va_recv hK hP (ci := 7) (q0 := 0) rfl rfl) hK hP hD hS hA hI rfl hl.1 rfl (Nat.le_of_ble_eq_true rfl) dX8_readNumber_34 ⟨Nat.zero_le _, Nat.zero_le _⟩ (fun r_13 u H locs h hP hD hS => ?_)
          refine lv_iload_n hx hb dX8_readNumber_37 rfl (lv_at hl 2 rfl) ?_
          refine xc_si (As := [.int r_13, .int x2]) (rest := [.int (x2 * x5)]) xG Fx (sX8_worth l dC dI ad cI cZ sa sv m_thrown m_size m_outLong m_lines m_toldLines m_tokens m_places m_p m_pre m_end m_text m_out m_lineAt m_lineLong m_depth m_signed m_led m_told m_place m_begin m_tokenLong m_stemLong m_address m_letters m_stems m_s r_13 x2 h) (va_cwS 2 hts gX8_readNumber_X8_worth rfl rfl rfl hdX8_worth ⟨Nat.le_of_ble_eq_true rfl, Nat.le_of_ble_eq_true rfl⟩) hK hP hD hS hA hI rfl hl.1 rfl (Nat.le_of_ble_eq_true rfl) dX8_readNumber_38 ⟨Nat.zero_le _, Nat.zero_le _⟩ (fun r_14 u H locs h hP hD hS => ?_)
          refine lv_iadd hx hb dX8_readNumber_41 ?_
          refine lv_goto (tgt := 47) hx hb dX8_readNumber_42 (by decide) ?_
          exact J47 x4 ((x2 * x5) + r_14) H locs ls (lv_sub hl [0, 1, 2, 3, 4] rfl) hP hD hS h
  intro H locs hP hD hS
  delta wpX8_readNumber at h
  refine lv_iload_n hx hb dX8_readNumber_0 rfl (lv_at hl 1 rfl) ?_
  refine lv_istore (lv' := [(4, .int x1), (0, .ref (ad 0)), (1, .int x1), (2, .int x2), (3, .int x3)]) hx hb dX8_readNumber_1 hl (by decide) rfl (fun ls hl => ?_)
  refine lv_iconst (v := 0) hx hb dX8_readNumber_3 (by decide) ?_
  refine lv_istore (lv' := [(5, .int 0), (4, .int x1), (0, .ref (ad 0)), (1, .int x1), (2, .int x2), (3, .int x3)]) hx hb dX8_readNumber_4 hl (by decide) rfl (fun ls hl => ?_)
  obtain ⟨n, h⟩ := h
  exact L6 m_outLong m_p m_out n x1 0 H locs ls (lv_sub hl [2, 3, 4, 5, 1, 0] rfl) hP hD hS h
set_option maxHeartbeats 4000000 in
set_option maxRecDepth 100000 in
theorem sX8_named (l : Launch) (dC : Nat → ClassId) (dI : Nat → Nat → Nat) (ad : Nat → Nat) (cI cZ : ClassId) (sa sv : Nat → Nat) (m_thrown : Int32) (m_size : Int32) (m_outLong : Int32) (m_lines : Int32) (m_toldLines : Int32) (m_tokens : Int32) (m_places : Int32) (m_p : Int32) (m_pre : Int32) (m_end : Int32) (m_text : Nat → Int32) (m_out : Nat → Int32) (m_lineAt : Nat → Int32) (m_lineLong : Nat → Int32) (m_depth : Nat → Int32) (m_signed : Nat → Int32) (m_led : Nat → Int32) (m_told : Nat → Int32) (m_place : Nat → Int32) (m_begin : Nat → Int32) (m_tokenLong : Nat → Int32) (m_stemLong : Nat → Int32) (m_address : Nat → Int32) (m_letters : Nat → Int32) (m_stems : Nat → Int32) (m_s : Nat → Int32) (x1 : Int64) (x3 : Int32) {post : Int32 → Int32 → Int32 → (Nat → Int32) → Prop} (h : wpX8_named post m_size m_outLong m_p m_text m_out x1 x3) : xMi l (dC, dI) vwCl [(cI, .int), (cZ, .boolean)] (sI sa sv) yX8_named wsX8_named ({ frames := 3, cells := 0, slots := 0, locals := 69 }) (mW ad cI cZ m_thrown m_size m_outLong m_lines m_toldLines m_tokens m_places m_p m_pre m_end m_text m_out m_lineAt m_lineLong m_depth m_signed m_led m_told m_place m_begin m_tokenLong m_stemLong m_address m_letters m_stems m_s) [.ref (ad 0), .long x1, .int x3] (fun (r : Int32) (u : Int32 × Int32 × (Nat → Int32)) => post r u.1 u.2.1 u.2.2) (fun u : Int32 × Int32 × (Nat → Int32) => (mW ad cI cZ m_thrown m_size u.1 m_lines m_toldLines m_tokens m_places u.2.1 m_pre m_end m_text u.2.2 m_lineAt m_lineLong m_depth m_signed m_led m_told m_place m_begin m_tokenLong m_stemLong m_address m_letters m_stems m_s)) := by
  intro sz
  refine Met.ofW (cc := cX8_named) (maxL := 5) (ret := (some .boolean)) (by decide) rfl ?_
  intro p e s m args below meth c s₁ B hml hv
  obtain ⟨rfl, hsz, hP, hK, hD0, hI⟩ := hv
  have hx := B.exec
  have hb := B.bytes
  have hr := B.returns
  have hts := atoms_spec (ws := wsX8_named) B.pre
  have hown : s.vm.findClass RX8 = some m.cls := findClass_of_methodNamed B.named
  have hlocks := B.notSynchronized
  subst hsz
  have hD := hD0.self (sz := s.heap.size)
  generalize hAe : va_A (mW ad cI cZ m_thrown m_size m_outLong m_lines m_toldLines m_tokens m_places m_p m_pre m_end m_text m_out m_lineAt m_lineLong m_depth m_signed m_led m_told m_place m_begin m_tokenLong m_stemLong m_address m_letters m_stems m_s) s.heap.size = A at hD hI ⊢
  have hA : ∀ q : Nat, s.heap.size ≤ q → A q := fun q h => by rw [← hAe]; exact Or.inr h
  have hS : va_S A s.heap s.heap [] := va_S.rf
  have Fx : CallFix p m c cX8_named 5 s ([.ref (ad 0), .long x1, .int x3] : List Value).toArray wsX8_named RX8 := ⟨hx, hb, hml, hown, hts⟩
  have hQ : ∀ (r : Int32) (u : Int32 × Int32 × (Nat → Int32)) (t : State), (fun (r : Int32) (u : Int32 × Int32 × (Nat → Int32)) => post r u.1 u.2.1 u.2.2) r u → va_P (dC, dI) vwCl ((fun u : Int32 × Int32 × (Nat → Int32) => (mW ad cI cZ m_thrown m_size u.1 m_lines m_toldLines m_tokens m_places u.2.1 m_pre m_end m_text u.2.2 m_lineAt m_lineLong m_depth m_signed m_led m_told m_place m_begin m_tokenLong m_stemLong m_address m_letters m_stems m_s)) u) t.heap → va_K (dC, dI) vwCl [(cI, .int), (cZ, .boolean)] t → va_D A ((fun u : Int32 × Int32 × (Nat → Int32) => (mW ad cI cZ m_thrown m_size u.1 m_lines m_toldLines m_tokens m_places u.2.1 m_pre m_end m_text u.2.2 m_lineAt m_lineLong m_depth m_signed m_led m_told m_place m_begin m_tokenLong m_stemLong m_address m_letters m_stems m_s)) u) → va_F A s t → (va_Qi (fun (r : Int32) (u : Int32 × Int32 × (Nat → Int32)) => post r u.1 u.2.1 u.2.2) (xB (dC, dI) vwCl [(cI, .int), (cZ, .boolean)] A (fun u : Int32 × Int32 × (Nat → Int32) => (mW ad cI cZ m_thrown m_size u.1 m_lines m_toldLines m_tokens m_places u.2.1 m_pre m_end m_text u.2.2 m_lineAt m_lineLong m_depth m_signed m_led m_told m_place m_begin m_tokenLong m_stemLong m_address m_letters m_stems m_s))) A) ([.ref (ad 0), .long x1, .int x3] : List Value).toArray s (.returned (some (.int r))) t := fun r u t h1 h2 h3 h4 h5 => ⟨⟨r, u, rfl, h1, h2, h3, h4⟩, h5⟩
  generalize (va_Qi (fun (r : Int32) (u : Int32 × Int32 × (Nat → Int32)) => post r u.1 u.2.1 u.2.2) (xB (dC, dI) vwCl [(cI, .int), (cZ, .boolean)] A (fun u : Int32 × Int32 × (Nat → Int32) => (mW ad cI cZ m_thrown m_size u.1 m_lines m_toldLines m_tokens m_places u.2.1 m_pre m_end m_text u.2.2 m_lineAt m_lineLong m_depth m_signed m_led m_told m_place m_begin m_tokenLong m_stemLong m_address m_letters m_stems m_s))) A) = Qc at hQ ⊢
  have hl := lv_entry ([.ref (ad 0), .long x1, .int x3]) (n := 5) (Nat.le_of_ble_eq_true rfl)
  rw [lg_entry_eq]
  generalize (lg_sl ([.ref (ad 0), .long x1, .int x3]) ++ List.replicate (5 - (lg_sl ([.ref (ad 0), .long x1, .int x3])).length) Slot.unset).toArray = ls at hl ⊢
  have hl : lv_has ls 5 [(0, .ref (ad 0)), (1, .long x1), (3, .int x3)] := hl
  refine (fun (key : ∀ (H : Heap) (locs : List Loc), va_P (dC, dI) vwCl (mW ad cI cZ m_thrown m_size m_outLong m_lines m_toldLines m_tokens m_places m_p m_pre m_end m_text m_out m_lineAt m_lineLong m_depth m_signed m_led m_told m_place m_begin m_tokenLong m_stemLong m_address m_letters m_stems m_s) H → va_D A (mW ad cI cZ m_thrown m_size m_outLong m_lines m_toldLines m_tokens m_places m_p m_pre m_end m_text m_out m_lineAt m_lineLong m_depth m_signed m_led m_told m_place m_begin m_tokenLong m_stemLong m_address m_letters m_stems m_s) → va_S A s.heap H locs → W p l e (headSpec wsX8_named ({ frames := 3, cells := 0, slots := 0, locals := 69 })).room s m ([.ref (ad 0), .long x1, .int x3] : List Value).toArray below meth c H locs 0 0 (MQ below Qc ([.ref (ad 0), .long x1, .int x3] : List Value).toArray s 0 0 A) (F0 m 0 ls [])) => key _ _ hP hD hS) ?_
  have inX8 : ∀ w ∈ wsX80, w ∈ wsX8_named := (fun _ h9 => List.mem_cons_of_mem _ (List.mem_append_right _ h9))
  have J81 : ∀ (m_outLong : Int32) (m_p : Int32) (m_out : Nat → Int32) (s0 : Int32) (H : Heap) (locs : List Loc) (ls : Array Slot), lv_has ls 5 [] → va_P (dC, dI) vwCl (mW ad cI cZ m_thrown m_size m_outLong m_lines m_toldLines m_tokens m_places m_p m_pre m_end m_text m_out m_lineAt m_lineLong m_depth m_signed m_led m_told m_place m_begin m_tokenLong m_stemLong m_address m_letters m_stems m_s) H → va_D A (mW ad cI cZ m_thrown m_size m_outLong m_lines m_toldLines m_tokens m_places m_p m_pre m_end m_text m_out m_lineAt m_lineLong m_depth m_signed m_led m_told m_place m_begin m_tokenLong m_stemLong m_address m_letters m_stems m_s) → va_S A s.heap H locs → wjX8_named_81 post m_size m_text x1 x3 m_outLong m_p m_out s0 → W p l e (headSpec wsX8_named ({ frames := 3, cells := 0, slots := 0, locals := 69 })).room s m ([.ref (ad 0), .long x1, .int x3] : List Value).toArray below meth c H locs 0 0 (MQ below Qc ([.ref (ad 0), .long x1, .int x3] : List Value).toArray s 0 0 A) (F0 m 81 ls [.int s0, .ref (ad 0)]) := by
    intro m_outLong m_p m_out s0 H locs ls hl hP hD hS h
    delta wjX8_named_81 at h
    refine va_put (D := (dC, dI)) (ci := 7) (v := .int s0) (ty := .int) (C := RX8) (T := TX8) (N := 26) hx hb hts inX8 tyX8 tyX8_ok nmX8 hown hK hP hD hS 0 rfl rfl 22 (by decide) (hts (.fieldLink RX8 150 "MailWordsModel" "p" "I") (List.mem_of_getElem? (i := 1) rfl)) (fun _ h9 => h9) rfl (tyX8_ok 22 (by decide)) rfl rfl (Nat.le_of_ble_eq_true rfl) dX8_named_81 (fun H locs hP hD hS => ?_)
    have hP : va_P (dC, dI) vwCl (mW ad cI cZ m_thrown m_size m_outLong m_lines m_toldLines m_tokens m_places s0 m_pre m_end m_text m_out m_lineAt m_lineLong m_depth m_signed m_led m_told m_place m_begin m_tokenLong m_stemLong m_address m_letters m_stems m_s) H := hP
    have hD : va_D A (mW ad cI cZ m_thrown m_size m_outLong m_lines m_toldLines m_tokens m_places s0 m_pre m_end m_text m_out m_lineAt m_lineLong m_depth m_signed m_led m_told m_place m_begin m_tokenLong m_stemLong m_address m_letters m_stems m_s) := hD
    refine lv_iconst (v := 1) hx hb dX8_named_84 (by decide) ?_
    exact W.zret (v := 1) hx hb hr (bN_nar bN1) (fun t ht hW => hQ 1 (m_outLong, s0, m_out) t h (by rw [ht]; exact hP) (va_K.moved hW.alike hK) hD (hS.F ht)) hS.2.2 dX8_named_85
  have J55 : ∀ (m_outLong : Int32) (m_p : Int32) (m_out : Nat → Int32) (x4 : Int32) (H : Heap) (locs : List Loc) (ls : Array Slot), lv_has ls 5 [(0, .ref (ad 0)), (3, .int x3), (4, .int x4)] → va_P (dC, dI) vwCl (mW ad cI cZ m_thrown m_size m_outLong m_lines m_toldLines m_tokens m_places m_p m_pre m_end m_text m_out m_lineAt m_lineLong m_depth m_signed m_led m_told m_place m_begin m_tokenLong m_stemLong m_address m_letters m_stems m_s) H → va_D A (mW ad cI cZ m_thrown m_size m_outLong m_lines m_toldLines m_tokens m_places m_p m_pre m_end m_text m_out m_lineAt m_lineLong m_depth m_signed m_led m_told m_place m_begin m_tokenLong m_stemLong m_address m_letters m_stems m_s) → va_S A s.heap H locs → wjX8_named_55 post m_size m_text x1 x3 m_outLong m_p m_out x4 → W p l e (headSpec wsX8_named ({ frames := 3, cells := 0, slots := 0, locals := 69 })).room s m ([.ref (ad 0), .long x1, .int x3] : List Value).toArray below meth c H locs 0 0 (MQ below Qc ([.ref (ad 0), .long x1, .int x3] : List Value).toArray s 0 0 A) (F0 m 55 ls []) := by
    intro m_outLong m_p m_out x4 H locs ls hl hP hD hS h
    delta wjX8_named_55 at h
    refine lv_aload_n hx hb dX8_named_55 rfl (lv_at hl 0 rfl) ?_
    refine lv_iload_n hx hb dX8_named_56 rfl (lv_at hl 1 rfl) ?_
    refine xc_vv (As := [.int x3]) (rest := []) xG Fx (sX8_write l dC dI ad cI cZ sa sv m_thrown m_size m_outLong m_lines m_toldLines m_tokens m_places m_p m_pre m_end m_text m_out m_lineAt m_lineLong m_depth m_signed m_led m_told m_place m_begin m_tokenLong m_stemLong m_address m_letters m_stems m_s x3 h) (cwV 1 hts gX8_named_X8_write rfl rfl rfl hdX8_write ⟨Nat.le_of_ble_eq_true rfl, Nat.le_of_ble_eq_true rfl⟩) (va_recv hK hP (ci := 7) (q0 := 0) rfl rfl) hK hP hD hS hA hI rfl hl.1 rfl (Nat.le_of_ble_eq_true rfl) dX8_named_57 ⟨Nat.zero_le _, Nat.zero_le _⟩ (fun u H locs h hP hD hS => ?_)
    obtain ⟨m_outLong_2, m_out_3⟩ := u
    have hP : va_P (dC, dI) vwCl (mW ad cI cZ m_thrown m_size m_outLong_2 m_lines m_toldLines m_tokens m_places m_p m_pre m_end m_text m_out_3 m_lineAt m_lineLong m_depth m_signed m_led m_told m_place m_begin m_tokenLong m_stemLong m_address m_letters m_stems m_s) H := hP
    have hD : va_D A (mW ad cI cZ m_thrown m_size m_outLong_2 m_lines m_toldLines m_tokens m_places m_p m_pre m_end m_text m_out_3 m_lineAt m_lineLong m_depth m_signed m_led m_told m_place m_begin m_tokenLong m_stemLong m_address m_letters m_stems m_s) := hD
    refine lv_aload_n hx hb dX8_named_60 rfl (lv_at hl 0 rfl) ?_
    refine lv_aload_n hx hb dX8_named_61 rfl (lv_at hl 0 rfl) ?_
    refine lv_iload hx hb dX8_named_62 (lv_at hl 2 rfl) ?_
    refine xc_vi (As := [.int x4]) (rest := [.ref (ad 0)]) xG Fx (sX8_look l dC dI ad cI cZ sa sv m_thrown m_size m_outLong_2 m_lines m_toldLines m_tokens m_places m_p m_pre m_end m_text m_out_3 m_lineAt m_lineLong m_depth m_signed m_led m_told m_place m_begin m_tokenLong m_stemLong m_address m_letters m_stems m_s x4 h) (cwV 1 hts gX8_named_X8_look rfl rfl rfl hdX8_look ⟨Nat.le_of_ble_eq_true rfl, Nat.le_of_ble_eq_true rfl⟩) (va_recv hK hP (ci := 7) (q0 := 0) rfl rfl) hK hP hD hS hA hI rfl hl.1 rfl (Nat.le_of_ble_eq_true rfl) dX8_named_64 ⟨Nat.zero_le _, Nat.zero_le _⟩ (fun r_4 u H locs h hP hD hS => ?_)
    refine lv_bipush (v := 59) hx hb dX8_named_67 (by decide) ?_
    refine lv_icmp_ne (tgt := 79) hx hb dX8_named_69 (by decide) (fun c9 => ?_) (fun c9 => ?_)
    · have h := h.1 c9
      refine lv_iload hx hb dX8_named_79 (lv_at hl 2 rfl) ?_
      exact J81 m_outLong_2 m_p m_out_3 x4 H locs ls (lv_sub hl [] rfl) hP hD hS h
    · have h := h.2 c9
      refine lv_iload hx hb dX8_named_72 (lv_at hl 2 rfl) ?_
      refine lv_iconst (v := 1) hx hb dX8_named_74 (by decide) ?_
      refine lv_iadd hx hb dX8_named_75 ?_
      refine lv_goto (tgt := 81) hx hb dX8_named_76 (by decide) ?_
      exact J81 m_outLong_2 m_p m_out_3 (x4 + 1) H locs ls (lv_sub hl [] rfl) hP hD hS h
  intro H locs hP hD hS
  delta wpX8_named at h
  refine lv_aload_n hx hb dX8_named_0 rfl (lv_at hl 0 rfl) ?_
  refine lv_aload_n hx hb dX8_named_1 rfl (lv_at hl 0 rfl) ?_
  refine va_get (D := (dC, dI)) (ci := 7) (v := .int m_p) (C := RX8) (T := TX8) (N := 26) hx hb hts inX8 hown hK hP 0 rfl rfl 22 (by decide) (hts (.fieldLink RX8 150 "MailWordsModel" "p" "I") (List.mem_of_getElem? (i := 1) rfl)) (fun _ h9 => h9) rfl dX8_named_2 ?_
  refine lv_iconst (v := 1) hx hb dX8_named_5 (by decide) ?_
  refine lv_iadd hx hb dX8_named_6 ?_
  refine lv_lload_n hx hb dX8_named_7 rfl (lv_at hl 1 rfl) ?_
  refine lv_iconst (v := 0) hx hb dX8_named_8 (by decide) ?_
  refine xc_vi (As := [.int (m_p + 1), .long x1, .int 0]) (rest := []) xG Fx (sX8_stands l dC dI ad cI cZ sa sv m_thrown m_size m_outLong m_lines m_toldLines m_tokens m_places m_p m_pre m_end m_text m_out m_lineAt m_lineLong m_depth m_signed m_led m_told m_place m_begin m_tokenLong m_stemLong m_address m_letters m_stems m_s (m_p + 1) x1 0 h) (cwV 3 hts gX8_named_X8_stands rfl rfl rfl hdX8_stands ⟨Nat.le_of_ble_eq_true rfl, Nat.le_of_ble_eq_true rfl⟩) (va_recv hK hP (ci := 7) (q0 := 0) rfl rfl) hK hP hD hS hA hI rfl hl.1 rfl (Nat.le_of_ble_eq_true rfl) dX8_named_9 ⟨Nat.zero_le _, Nat.zero_le _⟩ (fun r_5 u H locs h hP hD hS => ?_)
  refine lv_if_ne (tgt := 17) hx hb dX8_named_12 (by decide) (fun c9 => ?_) (fun c9 => ?_)
  · have h := h.1 c9
    refine lv_aload_n hx hb dX8_named_17 rfl (lv_at hl 0 rfl) ?_
    refine va_get (D := (dC, dI)) (ci := 7) (v := .int m_p) (C := RX8) (T := TX8) (N := 26) hx hb hts inX8 hown hK hP 0 rfl rfl 22 (by decide) (hts (.fieldLink RX8 150 "MailWordsModel" "p" "I") (List.mem_of_getElem? (i := 1) rfl)) (fun _ h9 => h9) rfl dX8_named_18 ?_
    refine lv_iconst (v := 1) hx hb dX8_named_21 (by decide) ?_
    refine lv_iadd hx hb dX8_named_22 ?_
    refine lv_lload_n hx hb dX8_named_23 rfl (lv_at hl 1 rfl) ?_
    refine xc_si (As := [.long x1]) (rest := [.int (m_p + 1)]) xG Fx (sX8_lengthOf l dC dI ad cI cZ sa sv m_thrown m_size m_outLong m_lines m_toldLines m_tokens m_places m_p m_pre m_end m_text m_out m_lineAt m_lineLong m_depth m_signed m_led m_told m_place m_begin m_tokenLong m_stemLong m_address m_letters m_stems m_s x1 h) (va_cwS 1 hts gX8_named_X8_lengthOf rfl rfl rfl hdX8_lengthOf ⟨Nat.le_of_ble_eq_true rfl, Nat.le_of_ble_eq_true rfl⟩) hK hP hD hS hA hI rfl hl.1 rfl (Nat.le_of_ble_eq_true rfl) dX8_named_24 ⟨Nat.zero_le _, Nat.zero_le _⟩ (fun r_6 u H locs h hP hD hS => ?_)
    refine lv_iadd hx hb dX8_named_27 ?_
    refine lv_topi (fun x4_7 ex4_7 => ?_)
    have h := h x4_7 ex4_7
    refine lv_istore (lv' := [(4, .int x4_7), (0, .ref (ad 0)), (1, .long x1), (3, .int x3)]) hx hb dX8_named_28 hl (by decide) rfl (fun ls hl => ?_)
    refine lv_aload_n hx hb dX8_named_30 rfl (lv_at hl 1 rfl) ?_
    refine lv_iload hx hb dX8_named_31 (lv_at hl 0 rfl) ?_
    refine xc_vi (As := [.int x4_7]) (rest := []) xG Fx (sX8_look l dC dI ad cI cZ sa sv m_thrown m_size m_outLong m_lines m_toldLines m_tokens m_places m_p m_pre m_end m_text m_out m_lineAt m_lineLong m_depth m_signed m_led m_told m_place m_begin m_tokenLong m_stemLong m_address m_letters m_stems m_s x4_7 h) (cwV 1 hts gX8_named_X8_look rfl rfl rfl hdX8_look ⟨Nat.le_of_ble_eq_true rfl, Nat.le_of_ble_eq_true rfl⟩) (va_recv hK hP (ci := 7) (q0 := 0) rfl rfl) hK hP hD hS hA hI rfl hl.1 rfl (Nat.le_of_ble_eq_true rfl) dX8_named_33 ⟨Nat.zero_le _, Nat.zero_le _⟩ (fun r_8 u H locs h hP hD hS => ?_)
    refine lv_bipush (v := 59) hx hb dX8_named_36 (by decide) ?_
    refine lv_icmp_eq (tgt := 55) hx hb dX8_named_38 (by decide) (fun c9 => ?_) (fun c9 => ?_)
    · have h := h.1 c9
      exact J55 m_outLong m_p m_out x4_7 H locs ls (lv_sub hl [1, 3, 0] rfl) hP hD hS h
    · have h := h.2 c9
      refine lv_aload_n hx hb dX8_named_41 rfl (lv_at hl 1 rfl) ?_
      refine lv_iload hx hb dX8_named_42 (lv_at hl 0 rfl) ?_
      refine xc_vi (As := [.int x4_7]) (rest := []) xG Fx (sX8_look l dC dI ad cI cZ sa sv m_thrown m_size m_outLong m_lines m_toldLines m_tokens m_places m_p m_pre m_end m_text m_out m_lineAt m_lineLong m_depth m_signed m_led m_told m_place m_begin m_tokenLong m_stemLong m_address m_letters m_stems m_s x4_7 h) (cwV 1 hts gX8_named_X8_look rfl rfl rfl hdX8_look ⟨Nat.le_of_ble_eq_true rfl, Nat.le_of_ble_eq_true rfl⟩) (va_recv hK hP (ci := 7) (q0 := 0) rfl rfl) hK hP hD hS hA hI rfl hl.1 rfl (Nat.le_of_ble_eq_true rfl) dX8_named_44 ⟨Nat.zero_le _, Nat.zero_le _⟩ (fun r_9 u H locs h hP hD hS => ?_)
      refine xc_si (As := [.int r_9]) (rest := []) xG Fx (sX8_isWord l dC dI ad cI cZ sa sv m_thrown m_size m_outLong m_lines m_toldLines m_tokens m_places m_p m_pre m_end m_text m_out m_lineAt m_lineLong m_depth m_signed m_led m_told m_place m_begin m_tokenLong m_stemLong m_address m_letters m_stems m_s r_9 h) (va_cwS 1 hts gX8_named_X8_isWord rfl rfl rfl hdX8_isWord ⟨Nat.le_of_ble_eq_true rfl, Nat.le_of_ble_eq_true rfl⟩) hK hP hD hS hA hI rfl hl.1 rfl (Nat.le_of_ble_eq_true rfl) dX8_named_47 ⟨Nat.zero_le _, Nat.zero_le _⟩ (fun r_10 u H locs h hP hD hS => ?_)
      refine lv_if_eq (tgt := 55) hx hb dX8_named_50 (by decide) (fun c9 => ?_) (fun c9 => ?_)
      · have h := h.1 c9
        exact J55 m_outLong m_p m_out x4_7 H locs ls (lv_sub hl [1, 3, 0] rfl) hP hD hS h
      · have h := h.2 c9
        refine lv_iconst (v := 0) hx hb dX8_named_53 (by decide) ?_
        exact W.zret (v := 0) hx hb hr (bN_nar bN0) (fun t ht hW => hQ 0 (m_outLong, m_p, m_out) t h (by rw [ht]; exact hP) (va_K.moved hW.alike hK) hD (hS.F ht)) hS.2.2 dX8_named_54
  · have h := h.2 c9
    refine lv_iconst (v := 0) hx hb dX8_named_15 (by decide) ?_
    exact W.zret (v := 0) hx hb hr (bN_nar bN0) (fun t ht hW => hQ 0 (m_outLong, m_p, m_out) t h (by rw [ht]; exact hP) (va_K.moved hW.alike hK) hD (hS.F ht)) hS.2.2 dX8_named_16
set_option maxHeartbeats 4000000 in
set_option maxRecDepth 100000 in
theorem sX8_readAmp (l : Launch) (dC : Nat → ClassId) (dI : Nat → Nat → Nat) (ad : Nat → Nat) (cI cZ : ClassId) (sa sv : Nat → Nat) (m_thrown : Int32) (m_size : Int32) (m_outLong : Int32) (m_lines : Int32) (m_toldLines : Int32) (m_tokens : Int32) (m_places : Int32) (m_p : Int32) (m_pre : Int32) (m_end : Int32) (m_text : Nat → Int32) (m_out : Nat → Int32) (m_lineAt : Nat → Int32) (m_lineLong : Nat → Int32) (m_depth : Nat → Int32) (m_signed : Nat → Int32) (m_led : Nat → Int32) (m_told : Nat → Int32) (m_place : Nat → Int32) (m_begin : Nat → Int32) (m_tokenLong : Nat → Int32) (m_stemLong : Nat → Int32) (m_address : Nat → Int32) (m_letters : Nat → Int32) (m_stems : Nat → Int32) (m_s : Nat → Int32)  {post : Int32 → Int32 → (Nat → Int32) → Prop} (h : wpX8_readAmp post m_size m_outLong m_p m_text m_out) : xMv l (dC, dI) vwCl [(cI, .int), (cZ, .boolean)] (sI sa sv) yX8_readAmp wsX8_readAmp ({ frames := 4, cells := 0, slots := 0, locals := 93 }) (mW ad cI cZ m_thrown m_size m_outLong m_lines m_toldLines m_tokens m_places m_p m_pre m_end m_text m_out m_lineAt m_lineLong m_depth m_signed m_led m_told m_place m_begin m_tokenLong m_stemLong m_address m_letters m_stems m_s) [.ref (ad 0)] (fun u : Int32 × Int32 × (Nat → Int32) => post u.1 u.2.1 u.2.2) (fun u : Int32 × Int32 × (Nat → Int32) => (mW ad cI cZ m_thrown m_size u.1 m_lines m_toldLines m_tokens m_places u.2.1 m_pre m_end m_text u.2.2 m_lineAt m_lineLong m_depth m_signed m_led m_told m_place m_begin m_tokenLong m_stemLong m_address m_letters m_stems m_s)) := by
  intro sz
  refine Met.ofW (cc := cX8_readAmp) (maxL := 2) (ret := none) (by decide) rfl ?_
  intro p e s m args below meth c s₁ B hml hv
  obtain ⟨rfl, hsz, hP, hK, hD0, hI⟩ := hv
  have hx := B.exec
  have hb := B.bytes
  have hr := B.returns
  have hts := atoms_spec (ws := wsX8_readAmp) B.pre
  have hown : s.vm.findClass RX8 = some m.cls := findClass_of_methodNamed B.named
  have hlocks := B.notSynchronized
  subst hsz
  have hD := hD0.self (sz := s.heap.size)
  generalize hAe : va_A (mW ad cI cZ m_thrown m_size m_outLong m_lines m_toldLines m_tokens m_places m_p m_pre m_end m_text m_out m_lineAt m_lineLong m_depth m_signed m_led m_told m_place m_begin m_tokenLong m_stemLong m_address m_letters m_stems m_s) s.heap.size = A at hD hI ⊢
  have hA : ∀ q : Nat, s.heap.size ≤ q → A q := fun q h => by rw [← hAe]; exact Or.inr h
  have hS : va_S A s.heap s.heap [] := va_S.rf
  have Fx : CallFix p m c cX8_readAmp 2 s ([.ref (ad 0)] : List Value).toArray wsX8_readAmp RX8 := ⟨hx, hb, hml, hown, hts⟩
  have hQ : ∀ (u : Int32 × Int32 × (Nat → Int32)) (t : State), (fun u : Int32 × Int32 × (Nat → Int32) => post u.1 u.2.1 u.2.2) u → va_P (dC, dI) vwCl ((fun u : Int32 × Int32 × (Nat → Int32) => (mW ad cI cZ m_thrown m_size u.1 m_lines m_toldLines m_tokens m_places u.2.1 m_pre m_end m_text u.2.2 m_lineAt m_lineLong m_depth m_signed m_led m_told m_place m_begin m_tokenLong m_stemLong m_address m_letters m_stems m_s)) u) t.heap → va_K (dC, dI) vwCl [(cI, .int), (cZ, .boolean)] t → va_D A ((fun u : Int32 × Int32 × (Nat → Int32) => (mW ad cI cZ m_thrown m_size u.1 m_lines m_toldLines m_tokens m_places u.2.1 m_pre m_end m_text u.2.2 m_lineAt m_lineLong m_depth m_signed m_led m_told m_place m_begin m_tokenLong m_stemLong m_address m_letters m_stems m_s)) u) → va_F A s t → (va_Qv (fun u : Int32 × Int32 × (Nat → Int32) => post u.1 u.2.1 u.2.2) (xB (dC, dI) vwCl [(cI, .int), (cZ, .boolean)] A (fun u : Int32 × Int32 × (Nat → Int32) => (mW ad cI cZ m_thrown m_size u.1 m_lines m_toldLines m_tokens m_places u.2.1 m_pre m_end m_text u.2.2 m_lineAt m_lineLong m_depth m_signed m_led m_told m_place m_begin m_tokenLong m_stemLong m_address m_letters m_stems m_s))) A) ([.ref (ad 0)] : List Value).toArray s (.returned none) t := fun u t h1 h2 h3 h4 h5 => ⟨⟨u, rfl, h1, h2, h3, h4⟩, h5⟩
  generalize (va_Qv (fun u : Int32 × Int32 × (Nat → Int32) => post u.1 u.2.1 u.2.2) (xB (dC, dI) vwCl [(cI, .int), (cZ, .boolean)] A (fun u : Int32 × Int32 × (Nat → Int32) => (mW ad cI cZ m_thrown m_size u.1 m_lines m_toldLines m_tokens m_places u.2.1 m_pre m_end m_text u.2.2 m_lineAt m_lineLong m_depth m_signed m_led m_told m_place m_begin m_tokenLong m_stemLong m_address m_letters m_stems m_s))) A) = Qc at hQ ⊢
  have hl := lv_entry ([.ref (ad 0)]) (n := 2) (Nat.le_of_ble_eq_true rfl)
  rw [lg_entry_eq]
  generalize (lg_sl ([.ref (ad 0)]) ++ List.replicate (2 - (lg_sl ([.ref (ad 0)])).length) Slot.unset).toArray = ls at hl ⊢
  have hl : lv_has ls 2 [(0, .ref (ad 0))] := hl
  refine (fun (key : ∀ (H : Heap) (locs : List Loc), va_P (dC, dI) vwCl (mW ad cI cZ m_thrown m_size m_outLong m_lines m_toldLines m_tokens m_places m_p m_pre m_end m_text m_out m_lineAt m_lineLong m_depth m_signed m_led m_told m_place m_begin m_tokenLong m_stemLong m_address m_letters m_stems m_s) H → va_D A (mW ad cI cZ m_thrown m_size m_outLong m_lines m_toldLines m_tokens m_places m_p m_pre m_end m_text m_out m_lineAt m_lineLong m_depth m_signed m_led m_told m_place m_begin m_tokenLong m_stemLong m_address m_letters m_stems m_s) → va_S A s.heap H locs → W p l e (headSpec wsX8_readAmp ({ frames := 4, cells := 0, slots := 0, locals := 93 })).room s m ([.ref (ad 0)] : List Value).toArray below meth c H locs 0 0 (MQ below Qc ([.ref (ad 0)] : List Value).toArray s 0 0 A) (F0 m 0 ls [])) => key _ _ hP hD hS) ?_
  have inX8 : ∀ w ∈ wsX80, w ∈ wsX8_readAmp := (fun _ h9 => List.mem_cons_of_mem _ (List.mem_append_right _ h9))
  have J241 : ∀ (m_outLong : Int32) (m_p : Int32) (m_out : Nat → Int32) (x1 : Int32) (H : Heap) (locs : List Loc) (ls : Array Slot), lv_has ls 2 [(0, .ref (ad 0)), (1, .int x1)] → va_P (dC, dI) vwCl (mW ad cI cZ m_thrown m_size m_outLong m_lines m_toldLines m_tokens m_places m_p m_pre m_end m_text m_out m_lineAt m_lineLong m_depth m_signed m_led m_told m_place m_begin m_tokenLong m_stemLong m_address m_letters m_stems m_s) H → va_D A (mW ad cI cZ m_thrown m_size m_outLong m_lines m_toldLines m_tokens m_places m_p m_pre m_end m_text m_out m_lineAt m_lineLong m_depth m_signed m_led m_told m_place m_begin m_tokenLong m_stemLong m_address m_letters m_stems m_s) → va_S A s.heap H locs → wjX8_readAmp_241 post m_size m_text m_outLong m_p m_out x1 → W p l e (headSpec wsX8_readAmp ({ frames := 4, cells := 0, slots := 0, locals := 93 })).room s m ([.ref (ad 0)] : List Value).toArray below meth c H locs 0 0 (MQ below Qc ([.ref (ad 0)] : List Value).toArray s 0 0 A) (F0 m 241 ls []) := by
    intro m_outLong m_p m_out x1 H locs ls hl hP hD hS h
    delta wjX8_readAmp_241 at h
    refine lv_iload_n hx hb dX8_readAmp_241 rfl (lv_at hl 1 rfl) ?_
    refine lv_if_eq (tgt := 246) hx hb dX8_readAmp_242 (by decide) (fun c9 => ?_) (fun c9 => ?_)
    · have h := h.1 c9
      refine lv_aload_n hx hb dX8_readAmp_246 rfl (lv_at hl 0 rfl) ?_
      refine lv_bipush (v := 38) hx hb dX8_readAmp_247 (by decide) ?_
      refine xc_vv (As := [.int 38]) (rest := []) xG Fx (sX8_write l dC dI ad cI cZ sa sv m_thrown m_size m_outLong m_lines m_toldLines m_tokens m_places m_p m_pre m_end m_text m_out m_lineAt m_lineLong m_depth m_signed m_led m_told m_place m_begin m_tokenLong m_stemLong m_address m_letters m_stems m_s 38 h) (cwV 1 hts gX8_readAmp_X8_write rfl rfl rfl hdX8_write ⟨Nat.le_of_ble_eq_true rfl, Nat.le_of_ble_eq_true rfl⟩) (va_recv hK hP (ci := 7) (q0 := 0) rfl rfl) hK hP hD hS hA hI rfl hl.1 rfl (Nat.le_of_ble_eq_true rfl) dX8_readAmp_249 ⟨Nat.zero_le _, Nat.zero_le _⟩ (fun u H locs h hP hD hS => ?_)
      obtain ⟨m_outLong_2, m_out_3⟩ := u
      have hP : va_P (dC, dI) vwCl (mW ad cI cZ m_thrown m_size m_outLong_2 m_lines m_toldLines m_tokens m_places m_p m_pre m_end m_text m_out_3 m_lineAt m_lineLong m_depth m_signed m_led m_told m_place m_begin m_tokenLong m_stemLong m_address m_letters m_stems m_s) H := hP
      have hD : va_D A (mW ad cI cZ m_thrown m_size m_outLong_2 m_lines m_toldLines m_tokens m_places m_p m_pre m_end m_text m_out_3 m_lineAt m_lineLong m_depth m_signed m_led m_told m_place m_begin m_tokenLong m_stemLong m_address m_letters m_stems m_s) := hD
      refine lv_aload_n hx hb dX8_readAmp_252 rfl (lv_at hl 0 rfl) ?_
      refine lv_dup hx hb dX8_readAmp_253 rfl ?_
      refine va_get (D := (dC, dI)) (ci := 7) (v := .int m_p) (C := RX8) (T := TX8) (N := 26) hx hb hts inX8 hown hK hP 0 rfl rfl 22 (by decide) (hts (.fieldLink RX8 150 "MailWordsModel" "p" "I") (List.mem_of_getElem? (i := 1) rfl)) (fun _ h9 => h9) rfl dX8_readAmp_254 ?_
      refine lv_iconst (v := 1) hx hb dX8_readAmp_257 (by decide) ?_
      refine lv_iadd hx hb dX8_readAmp_258 ?_
      refine lv_topi (fun m_p_4 em_p_4 => ?_)
      have h := h m_p_4 em_p_4
      refine va_put (D := (dC, dI)) (ci := 7) (v := .int m_p_4) (ty := .int) (C := RX8) (T := TX8) (N := 26) hx hb hts inX8 tyX8 tyX8_ok nmX8 hown hK hP hD hS 0 rfl rfl 22 (by decide) (hts (.fieldLink RX8 150 "MailWordsModel" "p" "I") (List.mem_of_getElem? (i := 1) rfl)) (fun _ h9 => h9) rfl (tyX8_ok 22 (by decide)) rfl rfl (Nat.le_of_ble_eq_true rfl) dX8_readAmp_259 (fun H locs hP hD hS => ?_)
      have hP : va_P (dC, dI) vwCl (mW ad cI cZ m_thrown m_size m_outLong_2 m_lines m_toldLines m_tokens m_places m_p_4 m_pre m_end m_text m_out_3 m_lineAt m_lineLong m_depth m_signed m_led m_told m_place m_begin m_tokenLong m_stemLong m_address m_letters m_stems m_s) H := hP
      have hD : va_D A (mW ad cI cZ m_thrown m_size m_outLong_2 m_lines m_toldLines m_tokens m_places m_p_4 m_pre m_end m_text m_out_3 m_lineAt m_lineLong m_depth m_signed m_led m_told m_place m_begin m_tokenLong m_stemLong m_address m_letters m_stems m_s) := hD
      exact W.vret hx hb hr (fun t ht hW => hQ (m_outLong_2, m_p_4, m_out_3) t h (by rw [ht]; exact hP) (va_K.moved hW.alike hK) hD (hS.F ht)) hS.2.2 dX8_readAmp_262
    · have h := h.2 c9
      exact W.vret hx hb hr (fun t ht hW => hQ (m_outLong, m_p, m_out) t h (by rw [ht]; exact hP) (va_K.moved hW.alike hK) hD (hS.F ht)) hS.2.2 dX8_readAmp_245
  have J240 : ∀ (m_outLong : Int32) (m_p : Int32) (m_out : Nat → Int32) (s0 : Int32) (H : Heap) (locs : List Loc) (ls : Array Slot), lv_has ls 2 [(0, .ref (ad 0))] → va_P (dC, dI) vwCl (mW ad cI cZ m_thrown m_size m_outLong m_lines m_toldLines m_tokens m_places m_p m_pre m_end m_text m_out m_lineAt m_lineLong m_depth m_signed m_led m_told m_place m_begin m_tokenLong m_stemLong m_address m_letters m_stems m_s) H → va_D A (mW ad cI cZ m_thrown m_size m_outLong m_lines m_toldLines m_tokens m_places m_p m_pre m_end m_text m_out m_lineAt m_lineLong m_depth m_signed m_led m_told m_place m_begin m_tokenLong m_stemLong m_address m_letters m_stems m_s) → va_S A s.heap H locs → wjX8_readAmp_240 post m_size m_text m_outLong m_p m_out s0 → W p l e (headSpec wsX8_readAmp ({ frames := 4, cells := 0, slots := 0, locals := 93 })).room s m ([.ref (ad 0)] : List Value).toArray below meth c H locs 0 0 (MQ below Qc ([.ref (ad 0)] : List Value).toArray s 0 0 A) (F0 m 240 ls [.int s0]) := by
    intro m_outLong m_p m_out s0 H locs ls hl hP hD hS h
    delta wjX8_readAmp_240 at h
    refine lv_istore_n (lv' := [(1, .int s0), (0, .ref (ad 0))]) hx hb dX8_readAmp_240 rfl hl (by decide) rfl (fun ls hl => ?_)
    exact J241 m_outLong m_p m_out s0 H locs ls (lv_sub hl [1, 0] rfl) hP hD hS h
  have J235 : ∀ (m_outLong : Int32) (m_p : Int32) (m_out : Nat → Int32) (H : Heap) (locs : List Loc) (ls : Array Slot), lv_has ls 2 [(0, .ref (ad 0))] → va_P (dC, dI) vwCl (mW ad cI cZ m_thrown m_size m_outLong m_lines m_toldLines m_tokens m_places m_p m_pre m_end m_text m_out m_lineAt m_lineLong m_depth m_signed m_led m_told m_place m_begin m_tokenLong m_stemLong m_address m_letters m_stems m_s) H → va_D A (mW ad cI cZ m_thrown m_size m_outLong m_lines m_toldLines m_tokens m_places m_p m_pre m_end m_text m_out m_lineAt m_lineLong m_depth m_signed m_led m_told m_place m_begin m_tokenLong m_stemLong m_address m_letters m_stems m_s) → va_S A s.heap H locs → wjX8_readAmp_235 post m_size m_text m_outLong m_p m_out → W p l e (headSpec wsX8_readAmp ({ frames := 4, cells := 0, slots := 0, locals := 93 })).room s m ([.ref (ad 0)] : List Value).toArray below meth c H locs 0 0 (MQ below Qc ([.ref (ad 0)] : List Value).toArray s 0 0 A) (F0 m 235 ls []) := by
    intro m_outLong m_p m_out H locs ls hl hP hD hS h
    delta wjX8_readAmp_235 at h
    refine lv_iconst (v := 1) hx hb dX8_readAmp_235 (by decide) ?_
    refine lv_goto (tgt := 240) hx hb dX8_readAmp_236 (by decide) ?_
    exact J240 m_outLong m_p m_out 1 H locs ls (lv_sub hl [0] rfl) hP hD hS h
  have J152 : ∀ (m_outLong : Int32) (m_p : Int32) (m_out : Nat → Int32) (s0 : Int32) (H : Heap) (locs : List Loc) (ls : Array Slot), lv_has ls 2 [(0, .ref (ad 0))] → va_P (dC, dI) vwCl (mW ad cI cZ m_thrown m_size m_outLong m_lines m_toldLines m_tokens m_places m_p m_pre m_end m_text m_out m_lineAt m_lineLong m_depth m_signed m_led m_told m_place m_begin m_tokenLong m_stemLong m_address m_letters m_stems m_s) H → va_D A (mW ad cI cZ m_thrown m_size m_outLong m_lines m_toldLines m_tokens m_places m_p m_pre m_end m_text m_out m_lineAt m_lineLong m_depth m_signed m_led m_told m_place m_begin m_tokenLong m_stemLong m_address m_letters m_stems m_s) → va_S A s.heap H locs → wjX8_readAmp_152 post m_size m_text m_outLong m_p m_out s0 → W p l e (headSpec wsX8_readAmp ({ frames := 4, cells := 0, slots := 0, locals := 93 })).room s m ([.ref (ad 0)] : List Value).toArray below meth c H locs 0 0 (MQ below Qc ([.ref (ad 0)] : List Value).toArray s 0 0 A) (F0 m 152 ls [.int s0]) := by
    intro m_outLong m_p m_out s0 H locs ls hl hP hD hS h
    delta wjX8_readAmp_152 at h
    refine lv_istore_n (lv' := [(1, .int s0), (0, .ref (ad 0))]) hx hb dX8_readAmp_152 rfl hl (by decide) rfl (fun ls hl => ?_)
    refine lv_iload_n hx hb dX8_readAmp_153 rfl (lv_at hl 0 rfl) ?_
    refine lv_if_ne (tgt := 241) hx hb dX8_readAmp_154 (by decide) (fun c9 => ?_) (fun c9 => ?_)
    · have h := h.1 c9
      exact J241 m_outLong m_p m_out s0 H locs ls (lv_sub hl [1, 0] rfl) hP hD hS h
    · have h := h.2 c9
      refine lv_aload_n hx hb dX8_readAmp_157 rfl (lv_at hl 1 rfl) ?_
      refine lv_ldc2 (v := 1869966700) hx hb hown (hts (.constantLong RX8 223 (1869966700)) (List.mem_of_getElem? (i := 9) rfl)) dX8_readAmp_158 ?_
      refine lv_sipush (v := 246) hx hb dX8_readAmp_161 (by decide) ?_
      refine xc_vi (As := [.long 1869966700, .int 246]) (rest := []) xG Fx (sX8_named l dC dI ad cI cZ sa sv m_thrown m_size m_outLong m_lines m_toldLines m_tokens m_places m_p m_pre m_end m_text m_out m_lineAt m_lineLong m_depth m_signed m_led m_told m_place m_begin m_tokenLong m_stemLong m_address m_letters m_stems m_s 1869966700 246 h) (cwV 2 hts gX8_readAmp_X8_named rfl rfl rfl hdX8_named ⟨Nat.le_of_ble_eq_true rfl, Nat.le_of_ble_eq_true rfl⟩) (va_recv hK hP (ci := 7) (q0 := 0) rfl rfl) hK hP hD hS hA hI rfl hl.1 rfl (Nat.le_of_ble_eq_true rfl) dX8_readAmp_164 ⟨Nat.zero_le _, Nat.zero_le _⟩ (fun r_5 u H locs h hP hD hS => ?_)
      obtain ⟨m_outLong_6, m_p_7, m_out_8⟩ := u
      have hP : va_P (dC, dI) vwCl (mW ad cI cZ m_thrown m_size m_outLong_6 m_lines m_toldLines m_tokens m_places m_p_7 m_pre m_end m_text m_out_8 m_lineAt m_lineLong m_depth m_signed m_led m_told m_place m_begin m_tokenLong m_stemLong m_address m_letters m_stems m_s) H := hP
      have hD : va_D A (mW ad cI cZ m_thrown m_size m_outLong_6 m_lines m_toldLines m_tokens m_places m_p_7 m_pre m_end m_text m_out_8 m_lineAt m_lineLong m_depth m_signed m_led m_told m_place m_begin m_tokenLong m_stemLong m_address m_letters m_stems m_s) := hD
      refine lv_if_ne (tgt := 235) hx hb dX8_readAmp_167 (by decide) (fun c9 => ?_) (fun c9 => ?_)
      · have h := h.1 c9
        exact J235 m_outLong_6 m_p_7 m_out_8 H locs ls (lv_sub hl [1] rfl) hP hD hS h
      · have h := h.2 c9
        refine lv_aload_n hx hb dX8_readAmp_170 rfl (lv_at hl 1 rfl) ?_
        refine lv_ldc2 (v := 1635085676) hx hb hown (hts (.constantLong RX8 225 (1635085676)) (List.mem_of_getElem? (i := 10) rfl)) dX8_readAmp_171 ?_
        refine lv_sipush (v := 228) hx hb dX8_readAmp_174 (by decide) ?_
        refine xc_vi (As := [.long 1635085676, .int 228]) (rest := []) xG Fx (sX8_named l dC dI ad cI cZ sa sv m_thrown m_size m_outLong_6 m_lines m_toldLines m_tokens m_places m_p_7 m_pre m_end m_text m_out_8 m_lineAt m_lineLong m_depth m_signed m_led m_told m_place m_begin m_tokenLong m_stemLong m_address m_letters m_stems m_s 1635085676 228 h) (cwV 2 hts gX8_readAmp_X8_named rfl rfl rfl hdX8_named ⟨Nat.le_of_ble_eq_true rfl, Nat.le_of_ble_eq_true rfl⟩) (va_recv hK hP (ci := 7) (q0 := 0) rfl rfl) hK hP hD hS hA hI rfl hl.1 rfl (Nat.le_of_ble_eq_true rfl) dX8_readAmp_177 ⟨Nat.zero_le _, Nat.zero_le _⟩ (fun r_9 u H locs h hP hD hS => ?_)
        obtain ⟨m_outLong_10, m_p_11, m_out_12⟩ := u
        have hP : va_P (dC, dI) vwCl (mW ad cI cZ m_thrown m_size m_outLong_10 m_lines m_toldLines m_tokens m_places m_p_11 m_pre m_end m_text m_out_12 m_lineAt m_lineLong m_depth m_signed m_led m_told m_place m_begin m_tokenLong m_stemLong m_address m_letters m_stems m_s) H := hP
        have hD : va_D A (mW ad cI cZ m_thrown m_size m_outLong_10 m_lines m_toldLines m_tokens m_places m_p_11 m_pre m_end m_text m_out_12 m_lineAt m_lineLong m_depth m_signed m_led m_told m_place m_begin m_tokenLong m_stemLong m_address m_letters m_stems m_s) := hD
        refine lv_if_ne (tgt := 235) hx hb dX8_readAmp_180 (by decide) (fun c9 => ?_) (fun c9 => ?_)
        · have h := h.1 c9
          exact J235 m_outLong_10 m_p_11 m_out_12 H locs ls (lv_sub hl [1] rfl) hP hD hS h
        · have h := h.2 c9
          refine lv_aload_n hx hb dX8_readAmp_183 rfl (lv_at hl 1 rfl) ?_
          refine lv_ldc2 (v := 1970629996) hx hb hown (hts (.constantLong RX8 227 (1970629996)) (List.mem_of_getElem? (i := 11) rfl)) dX8_readAmp_184 ?_
          refine lv_sipush (v := 252) hx hb dX8_readAmp_187 (by decide) ?_
          refine xc_vi (As := [.long 1970629996, .int 252]) (rest := []) xG Fx (sX8_named l dC dI ad cI cZ sa sv m_thrown m_size m_outLong_10 m_lines m_toldLines m_tokens m_places m_p_11 m_pre m_end m_text m_out_12 m_lineAt m_lineLong m_depth m_signed m_led m_told m_place m_begin m_tokenLong m_stemLong m_address m_letters m_stems m_s 1970629996 252 h) (cwV 2 hts gX8_readAmp_X8_named rfl rfl rfl hdX8_named ⟨Nat.le_of_ble_eq_true rfl, Nat.le_of_ble_eq_true rfl⟩) (va_recv hK hP (ci := 7) (q0 := 0) rfl rfl) hK hP hD hS hA hI rfl hl.1 rfl (Nat.le_of_ble_eq_true rfl) dX8_readAmp_190 ⟨Nat.zero_le _, Nat.zero_le _⟩ (fun r_13 u H locs h hP hD hS => ?_)
          obtain ⟨m_outLong_14, m_p_15, m_out_16⟩ := u
          have hP : va_P (dC, dI) vwCl (mW ad cI cZ m_thrown m_size m_outLong_14 m_lines m_toldLines m_tokens m_places m_p_15 m_pre m_end m_text m_out_16 m_lineAt m_lineLong m_depth m_signed m_led m_told m_place m_begin m_tokenLong m_stemLong m_address m_letters m_stems m_s) H := hP
          have hD : va_D A (mW ad cI cZ m_thrown m_size m_outLong_14 m_lines m_toldLines m_tokens m_places m_p_15 m_pre m_end m_text m_out_16 m_lineAt m_lineLong m_depth m_signed m_led m_told m_place m_begin m_tokenLong m_stemLong m_address m_letters m_stems m_s) := hD
          refine lv_if_ne (tgt := 235) hx hb dX8_readAmp_193 (by decide) (fun c9 => ?_) (fun c9 => ?_)
          · have h := h.1 c9
            exact J235 m_outLong_14 m_p_15 m_out_16 H locs ls (lv_sub hl [1] rfl) hP hD hS h
          · have h := h.2 c9
            refine lv_aload_n hx hb dX8_readAmp_196 rfl (lv_at hl 1 rfl) ?_
            refine lv_ldc2 (v := 495975164263) hx hb hown (hts (.constantLong RX8 229 (495975164263)) (List.mem_of_getElem? (i := 12) rfl)) dX8_readAmp_197 ?_
            refine lv_sipush (v := 223) hx hb dX8_readAmp_200 (by decide) ?_
            refine xc_vi (As := [.long 495975164263, .int 223]) (rest := []) xG Fx (sX8_named l dC dI ad cI cZ sa sv m_thrown m_size m_outLong_14 m_lines m_toldLines m_tokens m_places m_p_15 m_pre m_end m_text m_out_16 m_lineAt m_lineLong m_depth m_signed m_led m_told m_place m_begin m_tokenLong m_stemLong m_address m_letters m_stems m_s 495975164263 223 h) (cwV 2 hts gX8_readAmp_X8_named rfl rfl rfl hdX8_named ⟨Nat.le_of_ble_eq_true rfl, Nat.le_of_ble_eq_true rfl⟩) (va_recv hK hP (ci := 7) (q0 := 0) rfl rfl) hK hP hD hS hA hI rfl hl.1 rfl (Nat.le_of_ble_eq_true rfl) dX8_readAmp_203 ⟨Nat.zero_le _, Nat.zero_le _⟩ (fun r_17 u H locs h hP hD hS => ?_)
            obtain ⟨m_outLong_18, m_p_19, m_out_20⟩ := u
            have hP : va_P (dC, dI) vwCl (mW ad cI cZ m_thrown m_size m_outLong_18 m_lines m_toldLines m_tokens m_places m_p_19 m_pre m_end m_text m_out_20 m_lineAt m_lineLong m_depth m_signed m_led m_told m_place m_begin m_tokenLong m_stemLong m_address m_letters m_stems m_s) H := hP
            have hD : va_D A (mW ad cI cZ m_thrown m_size m_outLong_18 m_lines m_toldLines m_tokens m_places m_p_19 m_pre m_end m_text m_out_20 m_lineAt m_lineLong m_depth m_signed m_led m_told m_place m_begin m_tokenLong m_stemLong m_address m_letters m_stems m_s) := hD
            refine lv_if_ne (tgt := 235) hx hb dX8_readAmp_206 (by decide) (fun c9 => ?_) (fun c9 => ?_)
            · have h := h.1 c9
              exact J235 m_outLong_18 m_p_19 m_out_20 H locs ls (lv_sub hl [1] rfl) hP hD hS h
            · have h := h.2 c9
              refine lv_aload_n hx hb dX8_readAmp_209 rfl (lv_at hl 1 rfl) ?_
              refine lv_ldc2 (v := 1702195823) hx hb hown (hts (.constantLong RX8 231 (1702195823)) (List.mem_of_getElem? (i := 13) rfl)) dX8_readAmp_210 ?_
              refine lv_sipush (v := 8364) hx hb dX8_readAmp_213 (by decide) ?_
              refine xc_vi (As := [.long 1702195823, .int 8364]) (rest := []) xG Fx (sX8_named l dC dI ad cI cZ sa sv m_thrown m_size m_outLong_18 m_lines m_toldLines m_tokens m_places m_p_19 m_pre m_end m_text m_out_20 m_lineAt m_lineLong m_depth m_signed m_led m_told m_place m_begin m_tokenLong m_stemLong m_address m_letters m_stems m_s 1702195823 8364 h) (cwV 2 hts gX8_readAmp_X8_named rfl rfl rfl hdX8_named ⟨Nat.le_of_ble_eq_true rfl, Nat.le_of_ble_eq_true rfl⟩) (va_recv hK hP (ci := 7) (q0 := 0) rfl rfl) hK hP hD hS hA hI rfl hl.1 rfl (Nat.le_of_ble_eq_true rfl) dX8_readAmp_216 ⟨Nat.zero_le _, Nat.zero_le _⟩ (fun r_21 u H locs h hP hD hS => ?_)
              obtain ⟨m_outLong_22, m_p_23, m_out_24⟩ := u
              have hP : va_P (dC, dI) vwCl (mW ad cI cZ m_thrown m_size m_outLong_22 m_lines m_toldLines m_tokens m_places m_p_23 m_pre m_end m_text m_out_24 m_lineAt m_lineLong m_depth m_signed m_led m_told m_place m_begin m_tokenLong m_stemLong m_address m_letters m_stems m_s) H := hP
              have hD : va_D A (mW ad cI cZ m_thrown m_size m_outLong_22 m_lines m_toldLines m_tokens m_places m_p_23 m_pre m_end m_text m_out_24 m_lineAt m_lineLong m_depth m_signed m_led m_told m_place m_begin m_tokenLong m_stemLong m_address m_letters m_stems m_s) := hD
              refine lv_if_ne (tgt := 235) hx hb dX8_readAmp_219 (by decide) (fun c9 => ?_) (fun c9 => ?_)
              · have h := h.1 c9
                exact J235 m_outLong_22 m_p_23 m_out_24 H locs ls (lv_sub hl [1] rfl) hP hD hS h
              · have h := h.2 c9
                refine lv_aload_n hx hb dX8_readAmp_222 rfl (lv_at hl 1 rfl) ?_
                refine lv_ldc2 (v := 1668247673) hx hb hown (hts (.constantLong RX8 233 (1668247673)) (List.mem_of_getElem? (i := 14) rfl)) dX8_readAmp_223 ?_
                refine lv_sipush (v := 169) hx hb dX8_readAmp_226 (by decide) ?_
                refine xc_vi (As := [.long 1668247673, .int 169]) (rest := []) xG Fx (sX8_named l dC dI ad cI cZ sa sv m_thrown m_size m_outLong_22 m_lines m_toldLines m_tokens m_places m_p_23 m_pre m_end m_text m_out_24 m_lineAt m_lineLong m_depth m_signed m_led m_told m_place m_begin m_tokenLong m_stemLong m_address m_letters m_stems m_s 1668247673 169 h) (cwV 2 hts gX8_readAmp_X8_named rfl rfl rfl hdX8_named ⟨Nat.le_of_ble_eq_true rfl, Nat.le_of_ble_eq_true rfl⟩) (va_recv hK hP (ci := 7) (q0 := 0) rfl rfl) hK hP hD hS hA hI rfl hl.1 rfl (Nat.le_of_ble_eq_true rfl) dX8_readAmp_229 ⟨Nat.zero_le _, Nat.zero_le _⟩ (fun r_25 u H locs h hP hD hS => ?_)
                obtain ⟨m_outLong_26, m_p_27, m_out_28⟩ := u
                have hP : va_P (dC, dI) vwCl (mW ad cI cZ m_thrown m_size m_outLong_26 m_lines m_toldLines m_tokens m_places m_p_27 m_pre m_end m_text m_out_28 m_lineAt m_lineLong m_depth m_signed m_led m_told m_place m_begin m_tokenLong m_stemLong m_address m_letters m_stems m_s) H := hP
                have hD : va_D A (mW ad cI cZ m_thrown m_size m_outLong_26 m_lines m_toldLines m_tokens m_places m_p_27 m_pre m_end m_text m_out_28 m_lineAt m_lineLong m_depth m_signed m_led m_told m_place m_begin m_tokenLong m_stemLong m_address m_letters m_stems m_s) := hD
                refine lv_if_eq (tgt := 239) hx hb dX8_readAmp_232 (by decide) (fun c9 => ?_) (fun c9 => ?_)
                · have h := h.1 c9
                  refine lv_iconst (v := 0) hx hb dX8_readAmp_239 (by decide) ?_
                  exact J240 m_outLong_26 m_p_27 m_out_28 0 H locs ls (lv_sub hl [1] rfl) hP hD hS h
                · have h := h.2 c9
                  exact J235 m_outLong_26 m_p_27 m_out_28 H locs ls (lv_sub hl [1] rfl) hP hD hS h
  have J147 : ∀ (m_outLong : Int32) (m_p : Int32) (m_out : Nat → Int32) (H : Heap) (locs : List Loc) (ls : Array Slot), lv_has ls 2 [(0, .ref (ad 0))] → va_P (dC, dI) vwCl (mW ad cI cZ m_thrown m_size m_outLong m_lines m_toldLines m_tokens m_places m_p m_pre m_end m_text m_out m_lineAt m_lineLong m_depth m_signed m_led m_told m_place m_begin m_tokenLong m_stemLong m_address m_letters m_stems m_s) H → va_D A (mW ad cI cZ m_thrown m_size m_outLong m_lines m_toldLines m_tokens m_places m_p m_pre m_end m_text m_out m_lineAt m_lineLong m_depth m_signed m_led m_told m_place m_begin m_tokenLong m_stemLong m_address m_letters m_stems m_s) → va_S A s.heap H locs → wjX8_readAmp_147 post m_size m_text m_outLong m_p m_out → W p l e (headSpec wsX8_readAmp ({ frames := 4, cells := 0, slots := 0, locals := 93 })).room s m ([.ref (ad 0)] : List Value).toArray below meth c H locs 0 0 (MQ below Qc ([.ref (ad 0)] : List Value).toArray s 0 0 A) (F0 m 147 ls []) := by
    intro m_outLong m_p m_out H locs ls hl hP hD hS h
    delta wjX8_readAmp_147 at h
    refine lv_iconst (v := 1) hx hb dX8_readAmp_147 (by decide) ?_
    refine lv_goto (tgt := 152) hx hb dX8_readAmp_148 (by decide) ?_
    exact J152 m_outLong m_p m_out 1 H locs ls (lv_sub hl [0] rfl) hP hD hS h
  intro H locs hP hD hS
  delta wpX8_readAmp at h
  refine lv_aload_n hx hb dX8_readAmp_0 rfl (lv_at hl 0 rfl) ?_
  refine lv_aload_n hx hb dX8_readAmp_1 rfl (lv_at hl 0 rfl) ?_
  refine va_get (D := (dC, dI)) (ci := 7) (v := .int m_p) (C := RX8) (T := TX8) (N := 26) hx hb hts inX8 hown hK hP 0 rfl rfl 22 (by decide) (hts (.fieldLink RX8 150 "MailWordsModel" "p" "I") (List.mem_of_getElem? (i := 1) rfl)) (fun _ h9 => h9) rfl dX8_readAmp_2 ?_
  refine lv_iconst (v := 1) hx hb dX8_readAmp_5 (by decide) ?_
  refine lv_iadd hx hb dX8_readAmp_6 ?_
  refine xc_vi (As := [.int (m_p + 1)]) (rest := []) xG Fx (sX8_look l dC dI ad cI cZ sa sv m_thrown m_size m_outLong m_lines m_toldLines m_tokens m_places m_p m_pre m_end m_text m_out m_lineAt m_lineLong m_depth m_signed m_led m_told m_place m_begin m_tokenLong m_stemLong m_address m_letters m_stems m_s (m_p + 1) h) (cwV 1 hts gX8_readAmp_X8_look rfl rfl rfl hdX8_look ⟨Nat.le_of_ble_eq_true rfl, Nat.le_of_ble_eq_true rfl⟩) (va_recv hK hP (ci := 7) (q0 := 0) rfl rfl) hK hP hD hS hA hI rfl hl.1 rfl (Nat.le_of_ble_eq_true rfl) dX8_readAmp_7 ⟨Nat.zero_le _, Nat.zero_le _⟩ (fun r_29 u H locs h hP hD hS => ?_)
  refine lv_bipush (v := 35) hx hb dX8_readAmp_10 (by decide) ?_
  refine lv_icmp_ne (tgt := 62) hx hb dX8_readAmp_12 (by decide) (fun c9 => ?_) (fun c9 => ?_)
  · have h := h.1 c9
    refine lv_aload_n hx hb dX8_readAmp_62 rfl (lv_at hl 0 rfl) ?_
    refine lv_ldc2 (v := 6385008) hx hb hown (hts (.constantLong RX8 205 (6385008)) (List.mem_of_getElem? (i := 2) rfl)) dX8_readAmp_63 ?_
    refine lv_bipush (v := 38) hx hb dX8_readAmp_66 (by decide) ?_
    refine xc_vi (As := [.long 6385008, .int 38]) (rest := []) xG Fx (sX8_named l dC dI ad cI cZ sa sv m_thrown m_size m_outLong m_lines m_toldLines m_tokens m_places m_p m_pre m_end m_text m_out m_lineAt m_lineLong m_depth m_signed m_led m_told m_place m_begin m_tokenLong m_stemLong m_address m_letters m_stems m_s 6385008 38 h) (cwV 2 hts gX8_readAmp_X8_named rfl rfl rfl hdX8_named ⟨Nat.le_of_ble_eq_true rfl, Nat.le_of_ble_eq_true rfl⟩) (va_recv hK hP (ci := 7) (q0 := 0) rfl rfl) hK hP hD hS hA hI rfl hl.1 rfl (Nat.le_of_ble_eq_true rfl) dX8_readAmp_68 ⟨Nat.zero_le _, Nat.zero_le _⟩ (fun r_30 u H locs h hP hD hS => ?_)
    obtain ⟨m_outLong_31, m_p_32, m_out_33⟩ := u
    have hP : va_P (dC, dI) vwCl (mW ad cI cZ m_thrown m_size m_outLong_31 m_lines m_toldLines m_tokens m_places m_p_32 m_pre m_end m_text m_out_33 m_lineAt m_lineLong m_depth m_signed m_led m_told m_place m_begin m_tokenLong m_stemLong m_address m_letters m_stems m_s) H := hP
    have hD : va_D A (mW ad cI cZ m_thrown m_size m_outLong_31 m_lines m_toldLines m_tokens m_places m_p_32 m_pre m_end m_text m_out_33 m_lineAt m_lineLong m_depth m_signed m_led m_told m_place m_begin m_tokenLong m_stemLong m_address m_letters m_stems m_s) := hD
    refine lv_if_ne (tgt := 147) hx hb dX8_readAmp_71 (by decide) (fun c9 => ?_) (fun c9 => ?_)
    · have h := h.1 c9
      exact J147 m_outLong_31 m_p_32 m_out_33 H locs ls (lv_sub hl [0] rfl) hP hD hS h
    · have h := h.2 c9
      refine lv_aload_n hx hb dX8_readAmp_74 rfl (lv_at hl 0 rfl) ?_
      refine lv_ldc2 (v := 27764) hx hb hown (hts (.constantLong RX8 211 (27764)) (List.mem_of_getElem? (i := 3) rfl)) dX8_readAmp_75 ?_
      refine lv_bipush (v := 60) hx hb dX8_readAmp_78 (by decide) ?_
      refine xc_vi (As := [.long 27764, .int 60]) (rest := []) xG Fx (sX8_named l dC dI ad cI cZ sa sv m_thrown m_size m_outLong_31 m_lines m_toldLines m_tokens m_places m_p_32 m_pre m_end m_text m_out_33 m_lineAt m_lineLong m_depth m_signed m_led m_told m_place m_begin m_tokenLong m_stemLong m_address m_letters m_stems m_s 27764 60 h) (cwV 2 hts gX8_readAmp_X8_named rfl rfl rfl hdX8_named ⟨Nat.le_of_ble_eq_true rfl, Nat.le_of_ble_eq_true rfl⟩) (va_recv hK hP (ci := 7) (q0 := 0) rfl rfl) hK hP hD hS hA hI rfl hl.1 rfl (Nat.le_of_ble_eq_true rfl) dX8_readAmp_80 ⟨Nat.zero_le _, Nat.zero_le _⟩ (fun r_34 u H locs h hP hD hS => ?_)
      obtain ⟨m_outLong_35, m_p_36, m_out_37⟩ := u
      have hP : va_P (dC, dI) vwCl (mW ad cI cZ m_thrown m_size m_outLong_35 m_lines m_toldLines m_tokens m_places m_p_36 m_pre m_end m_text m_out_37 m_lineAt m_lineLong m_depth m_signed m_led m_told m_place m_begin m_tokenLong m_stemLong m_address m_letters m_stems m_s) H := hP
      have hD : va_D A (mW ad cI cZ m_thrown m_size m_outLong_35 m_lines m_toldLines m_tokens m_places m_p_36 m_pre m_end m_text m_out_37 m_lineAt m_lineLong m_depth m_signed m_led m_told m_place m_begin m_tokenLong m_stemLong m_address m_letters m_stems m_s) := hD
      refine lv_if_ne (tgt := 147) hx hb dX8_readAmp_83 (by decide) (fun c9 => ?_) (fun c9 => ?_)
      · have h := h.1 c9
        exact J147 m_outLong_35 m_p_36 m_out_37 H locs ls (lv_sub hl [0] rfl) hP hD hS h
      · have h := h.2 c9
        refine lv_aload_n hx hb dX8_readAmp_86 rfl (lv_at hl 0 rfl) ?_
        refine lv_ldc2 (v := 26484) hx hb hown (hts (.constantLong RX8 213 (26484)) (List.mem_of_getElem? (i := 4) rfl)) dX8_readAmp_87 ?_
        refine lv_bipush (v := 62) hx hb dX8_readAmp_90 (by decide) ?_
        refine xc_vi (As := [.long 26484, .int 62]) (rest := []) xG Fx (sX8_named l dC dI ad cI cZ sa sv m_thrown m_size m_outLong_35 m_lines m_toldLines m_tokens m_places m_p_36 m_pre m_end m_text m_out_37 m_lineAt m_lineLong m_depth m_signed m_led m_told m_place m_begin m_tokenLong m_stemLong m_address m_letters m_stems m_s 26484 62 h) (cwV 2 hts gX8_readAmp_X8_named rfl rfl rfl hdX8_named ⟨Nat.le_of_ble_eq_true rfl, Nat.le_of_ble_eq_true rfl⟩) (va_recv hK hP (ci := 7) (q0 := 0) rfl rfl) hK hP hD hS hA hI rfl hl.1 rfl (Nat.le_of_ble_eq_true rfl) dX8_readAmp_92 ⟨Nat.zero_le _, Nat.zero_le _⟩ (fun r_38 u H locs h hP hD hS => ?_)
        obtain ⟨m_outLong_39, m_p_40, m_out_41⟩ := u
        have hP : va_P (dC, dI) vwCl (mW ad cI cZ m_thrown m_size m_outLong_39 m_lines m_toldLines m_tokens m_places m_p_40 m_pre m_end m_text m_out_41 m_lineAt m_lineLong m_depth m_signed m_led m_told m_place m_begin m_tokenLong m_stemLong m_address m_letters m_stems m_s) H := hP
        have hD : va_D A (mW ad cI cZ m_thrown m_size m_outLong_39 m_lines m_toldLines m_tokens m_places m_p_40 m_pre m_end m_text m_out_41 m_lineAt m_lineLong m_depth m_signed m_led m_told m_place m_begin m_tokenLong m_stemLong m_address m_letters m_stems m_s) := hD
        refine lv_if_ne (tgt := 147) hx hb dX8_readAmp_95 (by decide) (fun c9 => ?_) (fun c9 => ?_)
        · have h := h.1 c9
          exact J147 m_outLong_39 m_p_40 m_out_41 H locs ls (lv_sub hl [0] rfl) hP hD hS h
        · have h := h.2 c9
          refine lv_aload_n hx hb dX8_readAmp_98 rfl (lv_at hl 0 rfl) ?_
          refine lv_ldc2 (v := 1903521652) hx hb hown (hts (.constantLong RX8 215 (1903521652)) (List.mem_of_getElem? (i := 5) rfl)) dX8_readAmp_99 ?_
          refine lv_bipush (v := 34) hx hb dX8_readAmp_102 (by decide) ?_
          refine xc_vi (As := [.long 1903521652, .int 34]) (rest := []) xG Fx (sX8_named l dC dI ad cI cZ sa sv m_thrown m_size m_outLong_39 m_lines m_toldLines m_tokens m_places m_p_40 m_pre m_end m_text m_out_41 m_lineAt m_lineLong m_depth m_signed m_led m_told m_place m_begin m_tokenLong m_stemLong m_address m_letters m_stems m_s 1903521652 34 h) (cwV 2 hts gX8_readAmp_X8_named rfl rfl rfl hdX8_named ⟨Nat.le_of_ble_eq_true rfl, Nat.le_of_ble_eq_true rfl⟩) (va_recv hK hP (ci := 7) (q0 := 0) rfl rfl) hK hP hD hS hA hI rfl hl.1 rfl (Nat.le_of_ble_eq_true rfl) dX8_readAmp_104 ⟨Nat.zero_le _, Nat.zero_le _⟩ (fun r_42 u H locs h hP hD hS => ?_)
          obtain ⟨m_outLong_43, m_p_44, m_out_45⟩ := u
          have hP : va_P (dC, dI) vwCl (mW ad cI cZ m_thrown m_size m_outLong_43 m_lines m_toldLines m_tokens m_places m_p_44 m_pre m_end m_text m_out_45 m_lineAt m_lineLong m_depth m_signed m_led m_told m_place m_begin m_tokenLong m_stemLong m_address m_letters m_stems m_s) H := hP
          have hD : va_D A (mW ad cI cZ m_thrown m_size m_outLong_43 m_lines m_toldLines m_tokens m_places m_p_44 m_pre m_end m_text m_out_45 m_lineAt m_lineLong m_depth m_signed m_led m_told m_place m_begin m_tokenLong m_stemLong m_address m_letters m_stems m_s) := hD
          refine lv_if_ne (tgt := 147) hx hb dX8_readAmp_107 (by decide) (fun c9 => ?_) (fun c9 => ?_)
          · have h := h.1 c9
            exact J147 m_outLong_43 m_p_44 m_out_45 H locs ls (lv_sub hl [0] rfl) hP hD hS h
          · have h := h.2 c9
            refine lv_aload_n hx hb dX8_readAmp_110 rfl (lv_at hl 0 rfl) ?_
            refine lv_ldc2 (v := 1634758515) hx hb hown (hts (.constantLong RX8 217 (1634758515)) (List.mem_of_getElem? (i := 6) rfl)) dX8_readAmp_111 ?_
            refine lv_bipush (v := 39) hx hb dX8_readAmp_114 (by decide) ?_
            refine xc_vi (As := [.long 1634758515, .int 39]) (rest := []) xG Fx (sX8_named l dC dI ad cI cZ sa sv m_thrown m_size m_outLong_43 m_lines m_toldLines m_tokens m_places m_p_44 m_pre m_end m_text m_out_45 m_lineAt m_lineLong m_depth m_signed m_led m_told m_place m_begin m_tokenLong m_stemLong m_address m_letters m_stems m_s 1634758515 39 h) (cwV 2 hts gX8_readAmp_X8_named rfl rfl rfl hdX8_named ⟨Nat.le_of_ble_eq_true rfl, Nat.le_of_ble_eq_true rfl⟩) (va_recv hK hP (ci := 7) (q0 := 0) rfl rfl) hK hP hD hS hA hI rfl hl.1 rfl (Nat.le_of_ble_eq_true rfl) dX8_readAmp_116 ⟨Nat.zero_le _, Nat.zero_le _⟩ (fun r_46 u H locs h hP hD hS => ?_)
            obtain ⟨m_outLong_47, m_p_48, m_out_49⟩ := u
            have hP : va_P (dC, dI) vwCl (mW ad cI cZ m_thrown m_size m_outLong_47 m_lines m_toldLines m_tokens m_places m_p_48 m_pre m_end m_text m_out_49 m_lineAt m_lineLong m_depth m_signed m_led m_told m_place m_begin m_tokenLong m_stemLong m_address m_letters m_stems m_s) H := hP
            have hD : va_D A (mW ad cI cZ m_thrown m_size m_outLong_47 m_lines m_toldLines m_tokens m_places m_p_48 m_pre m_end m_text m_out_49 m_lineAt m_lineLong m_depth m_signed m_led m_told m_place m_begin m_tokenLong m_stemLong m_address m_letters m_stems m_s) := hD
            refine lv_if_ne (tgt := 147) hx hb dX8_readAmp_119 (by decide) (fun c9 => ?_) (fun c9 => ?_)
            · have h := h.1 c9
              exact J147 m_outLong_47 m_p_48 m_out_49 H locs ls (lv_sub hl [0] rfl) hP hD hS h
            · have h := h.2 c9
              refine lv_aload_n hx hb dX8_readAmp_122 rfl (lv_at hl 0 rfl) ?_
              refine lv_ldc2 (v := 1851945840) hx hb hown (hts (.constantLong RX8 219 (1851945840)) (List.mem_of_getElem? (i := 7) rfl)) dX8_readAmp_123 ?_
              refine lv_bipush (v := 32) hx hb dX8_readAmp_126 (by decide) ?_
              refine xc_vi (As := [.long 1851945840, .int 32]) (rest := []) xG Fx (sX8_named l dC dI ad cI cZ sa sv m_thrown m_size m_outLong_47 m_lines m_toldLines m_tokens m_places m_p_48 m_pre m_end m_text m_out_49 m_lineAt m_lineLong m_depth m_signed m_led m_told m_place m_begin m_tokenLong m_stemLong m_address m_letters m_stems m_s 1851945840 32 h) (cwV 2 hts gX8_readAmp_X8_named rfl rfl rfl hdX8_named ⟨Nat.le_of_ble_eq_true rfl, Nat.le_of_ble_eq_true rfl⟩) (va_recv hK hP (ci := 7) (q0 := 0) rfl rfl) hK hP hD hS hA hI rfl hl.1 rfl (Nat.le_of_ble_eq_true rfl) dX8_readAmp_128 ⟨Nat.zero_le _, Nat.zero_le _⟩ (fun r_50 u H locs h hP hD hS => ?_)
              obtain ⟨m_outLong_51, m_p_52, m_out_53⟩ := u
              have hP : va_P (dC, dI) vwCl (mW ad cI cZ m_thrown m_size m_outLong_51 m_lines m_toldLines m_tokens m_places m_p_52 m_pre m_end m_text m_out_53 m_lineAt m_lineLong m_depth m_signed m_led m_told m_place m_begin m_tokenLong m_stemLong m_address m_letters m_stems m_s) H := hP
              have hD : va_D A (mW ad cI cZ m_thrown m_size m_outLong_51 m_lines m_toldLines m_tokens m_places m_p_52 m_pre m_end m_text m_out_53 m_lineAt m_lineLong m_depth m_signed m_led m_told m_place m_begin m_tokenLong m_stemLong m_address m_letters m_stems m_s) := hD
              refine lv_if_ne (tgt := 147) hx hb dX8_readAmp_131 (by decide) (fun c9 => ?_) (fun c9 => ?_)
              · have h := h.1 c9
                exact J147 m_outLong_51 m_p_52 m_out_53 H locs ls (lv_sub hl [0] rfl) hP hD hS h
              · have h := h.2 c9
                refine lv_aload_n hx hb dX8_readAmp_134 rfl (lv_at hl 0 rfl) ?_
                refine lv_ldc2 (v := 111468954874981) hx hb hown (hts (.constantLong RX8 221 (111468954874981)) (List.mem_of_getElem? (i := 8) rfl)) dX8_readAmp_135 ?_
                refine lv_sipush (v := 233) hx hb dX8_readAmp_138 (by decide) ?_
                refine xc_vi (As := [.long 111468954874981, .int 233]) (rest := []) xG Fx (sX8_named l dC dI ad cI cZ sa sv m_thrown m_size m_outLong_51 m_lines m_toldLines m_tokens m_places m_p_52 m_pre m_end m_text m_out_53 m_lineAt m_lineLong m_depth m_signed m_led m_told m_place m_begin m_tokenLong m_stemLong m_address m_letters m_stems m_s 111468954874981 233 h) (cwV 2 hts gX8_readAmp_X8_named rfl rfl rfl hdX8_named ⟨Nat.le_of_ble_eq_true rfl, Nat.le_of_ble_eq_true rfl⟩) (va_recv hK hP (ci := 7) (q0 := 0) rfl rfl) hK hP hD hS hA hI rfl hl.1 rfl (Nat.le_of_ble_eq_true rfl) dX8_readAmp_141 ⟨Nat.zero_le _, Nat.zero_le _⟩ (fun r_54 u H locs h hP hD hS => ?_)
                obtain ⟨m_outLong_55, m_p_56, m_out_57⟩ := u
                have hP : va_P (dC, dI) vwCl (mW ad cI cZ m_thrown m_size m_outLong_55 m_lines m_toldLines m_tokens m_places m_p_56 m_pre m_end m_text m_out_57 m_lineAt m_lineLong m_depth m_signed m_led m_told m_place m_begin m_tokenLong m_stemLong m_address m_letters m_stems m_s) H := hP
                have hD : va_D A (mW ad cI cZ m_thrown m_size m_outLong_55 m_lines m_toldLines m_tokens m_places m_p_56 m_pre m_end m_text m_out_57 m_lineAt m_lineLong m_depth m_signed m_led m_told m_place m_begin m_tokenLong m_stemLong m_address m_letters m_stems m_s) := hD
                refine lv_if_eq (tgt := 151) hx hb dX8_readAmp_144 (by decide) (fun c9 => ?_) (fun c9 => ?_)
                · have h := h.1 c9
                  refine lv_iconst (v := 0) hx hb dX8_readAmp_151 (by decide) ?_
                  exact J152 m_outLong_55 m_p_56 m_out_57 0 H locs ls (lv_sub hl [0] rfl) hP hD hS h
                · have h := h.2 c9
                  exact J147 m_outLong_55 m_p_56 m_out_57 H locs ls (lv_sub hl [0] rfl) hP hD hS h
  · have h := h.2 c9
    refine lv_aload_n hx hb dX8_readAmp_15 rfl (lv_at hl 0 rfl) ?_
    refine lv_aload_n hx hb dX8_readAmp_16 rfl (lv_at hl 0 rfl) ?_
    refine va_get (D := (dC, dI)) (ci := 7) (v := .int m_p) (C := RX8) (T := TX8) (N := 26) hx hb hts inX8 hown hK hP 0 rfl rfl 22 (by decide) (hts (.fieldLink RX8 150 "MailWordsModel" "p" "I") (List.mem_of_getElem? (i := 1) rfl)) (fun _ h9 => h9) rfl dX8_readAmp_17 ?_
    refine lv_iconst (v := 2) hx hb dX8_readAmp_20 (by decide) ?_
    refine lv_iadd hx hb dX8_readAmp_21 ?_
    refine xc_vi (As := [.int (m_p + 2)]) (rest := []) xG Fx (sX8_look l dC dI ad cI cZ sa sv m_thrown m_size m_outLong m_lines m_toldLines m_tokens m_places m_p m_pre m_end m_text m_out m_lineAt m_lineLong m_depth m_signed m_led m_told m_place m_begin m_tokenLong m_stemLong m_address m_letters m_stems m_s (m_p + 2) h) (cwV 1 hts gX8_readAmp_X8_look rfl rfl rfl hdX8_look ⟨Nat.le_of_ble_eq_true rfl, Nat.le_of_ble_eq_true rfl⟩) (va_recv hK hP (ci := 7) (q0 := 0) rfl rfl) hK hP hD hS hA hI rfl hl.1 rfl (Nat.le_of_ble_eq_true rfl) dX8_readAmp_22 ⟨Nat.zero_le _, Nat.zero_le _⟩ (fun r_58 u H locs h hP hD hS => ?_)
    refine lv_bipush (v := 120) hx hb dX8_readAmp_25 (by decide) ?_
    refine lv_icmp_ne (tgt := 47) hx hb dX8_readAmp_27 (by decide) (fun c9 => ?_) (fun c9 => ?_)
    · have h := h.1 c9
      refine lv_aload_n hx hb dX8_readAmp_47 rfl (lv_at hl 0 rfl) ?_
      refine lv_aload_n hx hb dX8_readAmp_48 rfl (lv_at hl 0 rfl) ?_
      refine va_get (D := (dC, dI)) (ci := 7) (v := .int m_p) (C := RX8) (T := TX8) (N := 26) hx hb hts inX8 hown hK hP 0 rfl rfl 22 (by decide) (hts (.fieldLink RX8 150 "MailWordsModel" "p" "I") (List.mem_of_getElem? (i := 1) rfl)) (fun _ h9 => h9) rfl dX8_readAmp_49 ?_
      refine lv_iconst (v := 2) hx hb dX8_readAmp_52 (by decide) ?_
      refine lv_iadd hx hb dX8_readAmp_53 ?_
      refine lv_bipush (v := 10) hx hb dX8_readAmp_54 (by decide) ?_
      refine lv_bipush (v := 7) hx hb dX8_readAmp_56 (by decide) ?_
      refine xc_vv (As := [.int (m_p + 2), .int 10, .int 7]) (rest := []) xG Fx (sX8_readNumber l dC dI ad cI cZ sa sv m_thrown m_size m_outLong m_lines m_toldLines m_tokens m_places m_p m_pre m_end m_text m_out m_lineAt m_lineLong m_depth m_signed m_led m_told m_place m_begin m_tokenLong m_stemLong m_address m_letters m_stems m_s (m_p + 2) 10 7 h) (cwV 3 hts gX8_readAmp_X8_readNumber rfl rfl rfl hdX8_readNumber ⟨Nat.le_of_ble_eq_true rfl, Nat.le_of_ble_eq_true rfl⟩) (va_recv hK hP (ci := 7) (q0 := 0) rfl rfl) hK hP hD hS hA hI rfl hl.1 rfl (Nat.le_of_ble_eq_true rfl) dX8_readAmp_58 ⟨Nat.zero_le _, Nat.zero_le _⟩ (fun u H locs h hP hD hS => ?_)
      obtain ⟨m_outLong_60, m_p_61, m_out_62⟩ := u
      have hP : va_P (dC, dI) vwCl (mW ad cI cZ m_thrown m_size m_outLong_60 m_lines m_toldLines m_tokens m_places m_p_61 m_pre m_end m_text m_out_62 m_lineAt m_lineLong m_depth m_signed m_led m_told m_place m_begin m_tokenLong m_stemLong m_address m_letters m_stems m_s) H := hP
      have hD : va_D A (mW ad cI cZ m_thrown m_size m_outLong_60 m_lines m_toldLines m_tokens m_places m_p_61 m_pre m_end m_text m_out_62 m_lineAt m_lineLong m_depth m_signed m_led m_told m_place m_begin m_tokenLong m_stemLong m_address m_letters m_stems m_s) := hD
      exact W.vret hx hb hr (fun t ht hW => hQ (m_outLong_60, m_p_61, m_out_62) t h (by rw [ht]; exact hP) (va_K.moved hW.alike hK) hD (hS.F ht)) hS.2.2 dX8_readAmp_61
    · have h := h.2 c9
      refine lv_aload_n hx hb dX8_readAmp_30 rfl (lv_at hl 0 rfl) ?_
      refine lv_aload_n hx hb dX8_readAmp_31 rfl (lv_at hl 0 rfl) ?_
      refine va_get (D := (dC, dI)) (ci := 7) (v := .int m_p) (C := RX8) (T := TX8) (N := 26) hx hb hts inX8 hown hK hP 0 rfl rfl 22 (by decide) (hts (.fieldLink RX8 150 "MailWordsModel" "p" "I") (List.mem_of_getElem? (i := 1) rfl)) (fun _ h9 => h9) rfl dX8_readAmp_32 ?_
      refine lv_iconst (v := 3) hx hb dX8_readAmp_35 (by decide) ?_
      refine lv_iadd hx hb dX8_readAmp_36 ?_
      refine lv_bipush (v := 16) hx hb dX8_readAmp_37 (by decide) ?_
      refine lv_bipush (v := 6) hx hb dX8_readAmp_39 (by decide) ?_
      refine xc_vv (As := [.int (m_p + 3), .int 16, .int 6]) (rest := []) xG Fx (sX8_readNumber l dC dI ad cI cZ sa sv m_thrown m_size m_outLong m_lines m_toldLines m_tokens m_places m_p m_pre m_end m_text m_out m_lineAt m_lineLong m_depth m_signed m_led m_told m_place m_begin m_tokenLong m_stemLong m_address m_letters m_stems m_s (m_p + 3) 16 6 h) (cwV 3 hts gX8_readAmp_X8_readNumber rfl rfl rfl hdX8_readNumber ⟨Nat.le_of_ble_eq_true rfl, Nat.le_of_ble_eq_true rfl⟩) (va_recv hK hP (ci := 7) (q0 := 0) rfl rfl) hK hP hD hS hA hI rfl hl.1 rfl (Nat.le_of_ble_eq_true rfl) dX8_readAmp_41 ⟨Nat.zero_le _, Nat.zero_le _⟩ (fun u H locs h hP hD hS => ?_)
      obtain ⟨m_outLong_64, m_p_65, m_out_66⟩ := u
      have hP : va_P (dC, dI) vwCl (mW ad cI cZ m_thrown m_size m_outLong_64 m_lines m_toldLines m_tokens m_places m_p_65 m_pre m_end m_text m_out_66 m_lineAt m_lineLong m_depth m_signed m_led m_told m_place m_begin m_tokenLong m_stemLong m_address m_letters m_stems m_s) H := hP
      have hD : va_D A (mW ad cI cZ m_thrown m_size m_outLong_64 m_lines m_toldLines m_tokens m_places m_p_65 m_pre m_end m_text m_out_66 m_lineAt m_lineLong m_depth m_signed m_led m_told m_place m_begin m_tokenLong m_stemLong m_address m_letters m_stems m_s) := hD
      refine lv_goto (tgt := 61) hx hb dX8_readAmp_44 (by decide) ?_
      exact W.vret hx hb hr (fun t ht hW => hQ (m_outLong_64, m_p_65, m_out_66) t h (by rw [ht]; exact hP) (va_K.moved hW.alike hK) hD (hS.F ht)) hS.2.2 dX8_readAmp_61
set_option maxHeartbeats 4000000 in
set_option maxRecDepth 100000 in
theorem sX8_page (l : Launch) (dC : Nat → ClassId) (dI : Nat → Nat → Nat) (ad : Nat → Nat) (cI cZ : ClassId) (sa sv : Nat → Nat) (m_thrown : Int32) (m_size : Int32) (m_outLong : Int32) (m_lines : Int32) (m_toldLines : Int32) (m_tokens : Int32) (m_places : Int32) (m_p : Int32) (m_pre : Int32) (m_end : Int32) (m_text : Nat → Int32) (m_out : Nat → Int32) (m_lineAt : Nat → Int32) (m_lineLong : Nat → Int32) (m_depth : Nat → Int32) (m_signed : Nat → Int32) (m_led : Nat → Int32) (m_told : Nat → Int32) (m_place : Nat → Int32) (m_begin : Nat → Int32) (m_tokenLong : Nat → Int32) (m_stemLong : Nat → Int32) (m_address : Nat → Int32) (m_letters : Nat → Int32) (m_stems : Nat → Int32) (m_s : Nat → Int32)  {post : Int32 → Int32 → Int32 → Int32 → Int32 → Int32 → (Nat → Int32) → (Nat → Int32) → Prop} (h : wpX8_page post m_thrown m_size m_outLong m_p m_pre m_text m_out) : xMi l (dC, dI) vwCl [(cI, .int), (cZ, .boolean)] (sI sa sv) yX8_page wsX8_page ({ frames := 6, cells := 0, slots := 0, locals := 138 }) (mW ad cI cZ m_thrown m_size m_outLong m_lines m_toldLines m_tokens m_places m_p m_pre m_end m_text m_out m_lineAt m_lineLong m_depth m_signed m_led m_told m_place m_begin m_tokenLong m_stemLong m_address m_letters m_stems m_s) [.ref (ad 0)] (fun (r : Int32) (u : Int32 × Int32 × Int32 × Int32 × Int32 × (Nat → Int32) × (Nat → Int32)) => post r u.1 u.2.1 u.2.2.1 u.2.2.2.1 u.2.2.2.2.1 u.2.2.2.2.2.1 u.2.2.2.2.2.2) (fun u : Int32 × Int32 × Int32 × Int32 × Int32 × (Nat → Int32) × (Nat → Int32) => (mW ad cI cZ u.1 u.2.1 u.2.2.1 m_lines m_toldLines m_tokens m_places u.2.2.2.1 u.2.2.2.2.1 m_end u.2.2.2.2.2.1 u.2.2.2.2.2.2 m_lineAt m_lineLong m_depth m_signed m_led m_told m_place m_begin m_tokenLong m_stemLong m_address m_letters m_stems m_s)) := by
  intro sz
  refine Met.ofW (cc := cX8_page) (maxL := 2) (ret := (some .int)) (by decide) rfl ?_
  intro p e s m args below meth c s₁ B hml hv
  obtain ⟨rfl, hsz, hP, hK, hD0, hI⟩ := hv
  have hx := B.exec
  have hb := B.bytes
  have hr := B.returns
  have hts := atoms_spec (ws := wsX8_page) B.pre
  have hown : s.vm.findClass RX8 = some m.cls := findClass_of_methodNamed B.named
  have hlocks := B.notSynchronized
  subst hsz
  have hD := hD0.self (sz := s.heap.size)
  generalize hAe : va_A (mW ad cI cZ m_thrown m_size m_outLong m_lines m_toldLines m_tokens m_places m_p m_pre m_end m_text m_out m_lineAt m_lineLong m_depth m_signed m_led m_told m_place m_begin m_tokenLong m_stemLong m_address m_letters m_stems m_s) s.heap.size = A at hD hI ⊢
  have hA : ∀ q : Nat, s.heap.size ≤ q → A q := fun q h => by rw [← hAe]; exact Or.inr h
  have hS : va_S A s.heap s.heap [] := va_S.rf
  have Fx : CallFix p m c cX8_page 2 s ([.ref (ad 0)] : List Value).toArray wsX8_page RX8 := ⟨hx, hb, hml, hown, hts⟩
  have hQ : ∀ (r : Int32) (u : Int32 × Int32 × Int32 × Int32 × Int32 × (Nat → Int32) × (Nat → Int32)) (t : State), (fun (r : Int32) (u : Int32 × Int32 × Int32 × Int32 × Int32 × (Nat → Int32) × (Nat → Int32)) => post r u.1 u.2.1 u.2.2.1 u.2.2.2.1 u.2.2.2.2.1 u.2.2.2.2.2.1 u.2.2.2.2.2.2) r u → va_P (dC, dI) vwCl ((fun u : Int32 × Int32 × Int32 × Int32 × Int32 × (Nat → Int32) × (Nat → Int32) => (mW ad cI cZ u.1 u.2.1 u.2.2.1 m_lines m_toldLines m_tokens m_places u.2.2.2.1 u.2.2.2.2.1 m_end u.2.2.2.2.2.1 u.2.2.2.2.2.2 m_lineAt m_lineLong m_depth m_signed m_led m_told m_place m_begin m_tokenLong m_stemLong m_address m_letters m_stems m_s)) u) t.heap → va_K (dC, dI) vwCl [(cI, .int), (cZ, .boolean)] t → va_D A ((fun u : Int32 × Int32 × Int32 × Int32 × Int32 × (Nat → Int32) × (Nat → Int32) => (mW ad cI cZ u.1 u.2.1 u.2.2.1 m_lines m_toldLines m_tokens m_places u.2.2.2.1 u.2.2.2.2.1 m_end u.2.2.2.2.2.1 u.2.2.2.2.2.2 m_lineAt m_lineLong m_depth m_signed m_led m_told m_place m_begin m_tokenLong m_stemLong m_address m_letters m_stems m_s)) u) → va_F A s t → (va_Qi (fun (r : Int32) (u : Int32 × Int32 × Int32 × Int32 × Int32 × (Nat → Int32) × (Nat → Int32)) => post r u.1 u.2.1 u.2.2.1 u.2.2.2.1 u.2.2.2.2.1 u.2.2.2.2.2.1 u.2.2.2.2.2.2) (xB (dC, dI) vwCl [(cI, .int), (cZ, .boolean)] A (fun u : Int32 × Int32 × Int32 × Int32 × Int32 × (Nat → Int32) × (Nat → Int32) => (mW ad cI cZ u.1 u.2.1 u.2.2.1 m_lines m_toldLines m_tokens m_places u.2.2.2.1 u.2.2.2.2.1 m_end u.2.2.2.2.2.1 u.2.2.2.2.2.2 m_lineAt m_lineLong m_depth m_signed m_led m_told m_place m_begin m_tokenLong m_stemLong m_address m_letters m_stems m_s))) A) ([.ref (ad 0)] : List Value).toArray s (.returned (some (.int r))) t := fun r u t h1 h2 h3 h4 h5 => ⟨⟨r, u, rfl, h1, h2, h3, h4⟩, h5⟩
  generalize (va_Qi (fun (r : Int32) (u : Int32 × Int32 × Int32 × Int32 × Int32 × (Nat → Int32) × (Nat → Int32)) => post r u.1 u.2.1 u.2.2.1 u.2.2.2.1 u.2.2.2.2.1 u.2.2.2.2.2.1 u.2.2.2.2.2.2) (xB (dC, dI) vwCl [(cI, .int), (cZ, .boolean)] A (fun u : Int32 × Int32 × Int32 × Int32 × Int32 × (Nat → Int32) × (Nat → Int32) => (mW ad cI cZ u.1 u.2.1 u.2.2.1 m_lines m_toldLines m_tokens m_places u.2.2.2.1 u.2.2.2.2.1 m_end u.2.2.2.2.2.1 u.2.2.2.2.2.2 m_lineAt m_lineLong m_depth m_signed m_led m_told m_place m_begin m_tokenLong m_stemLong m_address m_letters m_stems m_s))) A) = Qc at hQ ⊢
  have hl := lv_entry ([.ref (ad 0)]) (n := 2) (Nat.le_of_ble_eq_true rfl)
  rw [lg_entry_eq]
  generalize (lg_sl ([.ref (ad 0)]) ++ List.replicate (2 - (lg_sl ([.ref (ad 0)])).length) Slot.unset).toArray = ls at hl ⊢
  have hl : lv_has ls 2 [(0, .ref (ad 0))] := hl
  refine (fun (key : ∀ (H : Heap) (locs : List Loc), va_P (dC, dI) vwCl (mW ad cI cZ m_thrown m_size m_outLong m_lines m_toldLines m_tokens m_places m_p m_pre m_end m_text m_out m_lineAt m_lineLong m_depth m_signed m_led m_told m_place m_begin m_tokenLong m_stemLong m_address m_letters m_stems m_s) H → va_D A (mW ad cI cZ m_thrown m_size m_outLong m_lines m_toldLines m_tokens m_places m_p m_pre m_end m_text m_out m_lineAt m_lineLong m_depth m_signed m_led m_told m_place m_begin m_tokenLong m_stemLong m_address m_letters m_stems m_s) → va_S A s.heap H locs → W p l e (headSpec wsX8_page ({ frames := 6, cells := 0, slots := 0, locals := 138 })).room s m ([.ref (ad 0)] : List Value).toArray below meth c H locs 0 0 (MQ below Qc ([.ref (ad 0)] : List Value).toArray s 0 0 A) (F0 m 0 ls [])) => key _ _ hP hD hS) ?_
  have inX8 : ∀ w ∈ wsX80, w ∈ wsX8_page := (fun _ h9 => List.mem_cons_of_mem _ (List.mem_append_right _ h9))
  have L113 : ∀ (m_thrown : Int32) (m_size : Int32) (m_outLong : Int32) (m_p : Int32) (m_pre : Int32) (m_out : Nat → Int32) (n : Nat) (m_text : Nat → Int32) (x1 : Int32) (H : Heap) (locs : List Loc) (ls : Array Slot), lv_has ls 2 [(0, .ref (ad 0)), (1, .int x1)] → va_P (dC, dI) vwCl (mW ad cI cZ m_thrown m_size m_outLong m_lines m_toldLines m_tokens m_places m_p m_pre m_end m_text m_out m_lineAt m_lineLong m_depth m_signed m_led m_told m_place m_begin m_tokenLong m_stemLong m_address m_letters m_stems m_s) H → va_D A (mW ad cI cZ m_thrown m_size m_outLong m_lines m_toldLines m_tokens m_places m_p m_pre m_end m_text m_out m_lineAt m_lineLong m_depth m_signed m_led m_told m_place m_begin m_tokenLong m_stemLong m_address m_letters m_stems m_s) → va_S A s.heap H locs → wlX8_page_113 post m_thrown m_size m_outLong m_p m_pre m_out n m_text x1 → W p l e (headSpec wsX8_page ({ frames := 6, cells := 0, slots := 0, locals := 138 })).room s m ([.ref (ad 0)] : List Value).toArray below meth c H locs 0 0 (MQ below Qc ([.ref (ad 0)] : List Value).toArray s 0 0 A) (F0 m 113 ls []) := by
    intro m_thrown m_size m_outLong m_p m_pre m_out
    intro n
    induction n with
    | zero => intro m_text x1 H locs ls _ _ _ _ h; exact absurd h (fun z => z)
    | succ n113 ih113 =>
      intro m_text x1 H locs ls hl hP hD hS h
      rw [wlX8_page_113] at h
      refine lv_iload_n hx hb dX8_page_113 rfl (lv_at hl 1 rfl) ?_
      refine lv_aload_n hx hb dX8_page_114 rfl (lv_at hl 0 rfl) ?_
      refine va_get (D := (dC, dI)) (ci := 7) (v := .int m_outLong) (C := RX8) (T := TX8) (N := 26) hx hb hts inX8 hown hK hP 0 rfl rfl 4 (by decide) (hts (.fieldLink RX8 86 "MailWordsModel" "outLong" "I") (List.mem_of_getElem? (i := 2) rfl)) (fun _ h9 => h9) rfl dX8_page_115 ?_
      refine lv_icmp_ge (tgt := 139) hx hb dX8_page_118 (by decide) (fun c9 => ?_) (fun c9 => ?_)
      · have h := h.1 c9
        refine lv_aload_n hx hb dX8_page_139 rfl (lv_at hl 0 rfl) ?_
        refine lv_aload_n hx hb dX8_page_140 rfl (lv_at hl 0 rfl) ?_
        refine va_get (D := (dC, dI)) (ci := 7) (v := .int m_outLong) (C := RX8) (T := TX8) (N := 26) hx hb hts inX8 hown hK hP 0 rfl rfl 4 (by decide) (hts (.fieldLink RX8 86 "MailWordsModel" "outLong" "I") (List.mem_of_getElem? (i := 2) rfl)) (fun _ h9 => h9) rfl dX8_page_141 ?_
        refine va_put (D := (dC, dI)) (ci := 7) (v := .int m_outLong) (ty := .int) (C := RX8) (T := TX8) (N := 26) hx hb hts inX8 tyX8 tyX8_ok nmX8 hown hK hP hD hS 0 rfl rfl 2 (by decide) (hts (.fieldLink RX8 64 "MailWordsModel" "size" "I") (List.mem_of_getElem? (i := 5) rfl)) (fun _ h9 => h9) rfl (tyX8_ok 2 (by decide)) rfl rfl (Nat.le_of_ble_eq_true rfl) dX8_page_144 (fun H locs hP hD hS => ?_)
        have hP : va_P (dC, dI) vwCl (mW ad cI cZ m_thrown m_outLong m_outLong m_lines m_toldLines m_tokens m_places m_p m_pre m_end m_text m_out m_lineAt m_lineLong m_depth m_signed m_led m_told m_place m_begin m_tokenLong m_stemLong m_address m_letters m_stems m_s) H := hP
        have hD : va_D A (mW ad cI cZ m_thrown m_outLong m_outLong m_lines m_toldLines m_tokens m_places m_p m_pre m_end m_text m_out m_lineAt m_lineLong m_depth m_signed m_led m_told m_place m_begin m_tokenLong m_stemLong m_address m_letters m_stems m_s) := hD
        refine lv_aload_n hx hb dX8_page_147 rfl (lv_at hl 0 rfl) ?_
        refine va_get (D := (dC, dI)) (ci := 7) (v := .int m_outLong) (C := RX8) (T := TX8) (N := 26) hx hb hts inX8 hown hK hP 0 rfl rfl 2 (by decide) (hts (.fieldLink RX8 64 "MailWordsModel" "size" "I") (List.mem_of_getElem? (i := 5) rfl)) (fun _ h9 => h9) rfl dX8_page_148 ?_
        exact W.iret (v := m_outLong) hx hb hr (fun t ht hW => hQ m_outLong (m_thrown, m_outLong, m_outLong, m_p, m_pre, m_text, m_out) t h (by rw [ht]; exact hP) (va_K.moved hW.alike hK) hD (hS.F ht)) hS.2.2 dX8_page_151
      · have h := h.2 c9
        refine lv_aload_n hx hb dX8_page_121 rfl (lv_at hl 0 rfl) ?_
        refine va_get (D := (dC, dI)) (ci := 7) (v := .ref (ad 1)) (C := RX8) (T := TX8) (N := 26) hx hb hts inX8 hown hK hP 0 rfl rfl 1 (by decide) (hts (.fieldLink RX8 7 "MailWordsModel" "text" "[I") (List.mem_of_getElem? (i := 6) rfl)) (fun _ h9 => h9) rfl dX8_page_122 ?_
        refine lv_iload_n hx hb dX8_page_125 rfl (lv_at hl 1 rfl) ?_
        refine lv_aload_n hx hb dX8_page_126 rfl (lv_at hl 0 rfl) ?_
        refine va_get (D := (dC, dI)) (ci := 7) (v := .ref (ad 2)) (C := RX8) (T := TX8) (N := 26) hx hb hts inX8 hown hK hP 0 rfl rfl 3 (by decide) (hts (.fieldLink RX8 13 "MailWordsModel" "out" "[I") (List.mem_of_getElem? (i := 7) rfl)) (fun _ h9 => h9) rfl dX8_page_127 ?_
        refine lv_iload_n hx hb dX8_page_130 rfl (lv_at hl 1 rfl) ?_
        have hi9 := h.1
        have h := h.2
        refine va_iald hx hb hK hP 2 0 rfl rfl hi9 dX8_page_131 ?_
        have hi9 := h.1
        have h := h.2
        refine va_iast hx hb hK hP hD hS 1 0 rfl rfl hi9 dX8_page_132 (fun H locs hP hD hS => ?_)
        have hP : va_P (dC, dI) vwCl (mW ad cI cZ m_thrown m_size m_outLong m_lines m_toldLines m_tokens m_places m_p m_pre m_end (upd m_text x1.toNatClampNeg (m_out x1.toNatClampNeg)) m_out m_lineAt m_lineLong m_depth m_signed m_led m_told m_place m_begin m_tokenLong m_stemLong m_address m_letters m_stems m_s) H := hP
        have hD : va_D A (mW ad cI cZ m_thrown m_size m_outLong m_lines m_toldLines m_tokens m_places m_p m_pre m_end (upd m_text x1.toNatClampNeg (m_out x1.toNatClampNeg)) m_out m_lineAt m_lineLong m_depth m_signed m_led m_told m_place m_begin m_tokenLong m_stemLong m_address m_letters m_stems m_s) := hD
        obtain ⟨x1_1, ex1_1⟩ : ∃ y : Int32, y = x1 + 1 := ⟨_, rfl⟩
        have h := h x1_1 ex1_1
        refine lv_iinc (v := x1_1) (lv' := [(1, .int x1_1), (0, .ref (ad 0))]) hx hb dX8_page_133 hl (k := 1) rfl (by rw [ex1_1]; rfl) (by decide) rfl (fun ls hl => ?_)
        refine lv_goto (tgt := 113) hx hb dX8_page_136 (by decide) ?_
        exact ih113 (upd m_text x1.toNatClampNeg (m_out x1.toNatClampNeg)) x1_1 H locs ls (lv_sub hl [1, 0] rfl) hP hD hS h
  have J111 : ∀ (m_thrown : Int32) (m_size : Int32) (m_outLong : Int32) (m_p : Int32) (m_pre : Int32) (m_text : Nat → Int32) (m_out : Nat → Int32) (H : Heap) (locs : List Loc) (ls : Array Slot), lv_has ls 2 [(0, .ref (ad 0))] → va_P (dC, dI) vwCl (mW ad cI cZ m_thrown m_size m_outLong m_lines m_toldLines m_tokens m_places m_p m_pre m_end m_text m_out m_lineAt m_lineLong m_depth m_signed m_led m_told m_place m_begin m_tokenLong m_stemLong m_address m_letters m_stems m_s) H → va_D A (mW ad cI cZ m_thrown m_size m_outLong m_lines m_toldLines m_tokens m_places m_p m_pre m_end m_text m_out m_lineAt m_lineLong m_depth m_signed m_led m_told m_place m_begin m_tokenLong m_stemLong m_address m_letters m_stems m_s) → va_S A s.heap H locs → wjX8_page_111 post m_thrown m_size m_outLong m_p m_pre m_text m_out → W p l e (headSpec wsX8_page ({ frames := 6, cells := 0, slots := 0, locals := 138 })).room s m ([.ref (ad 0)] : List Value).toArray below meth c H locs 0 0 (MQ below Qc ([.ref (ad 0)] : List Value).toArray s 0 0 A) (F0 m 111 ls []) := by
    intro m_thrown m_size m_outLong m_p m_pre m_text m_out H locs ls hl hP hD hS h
    delta wjX8_page_111 at h
    refine lv_iconst (v := 0) hx hb dX8_page_111 (by decide) ?_
    refine lv_istore_n (lv' := [(1, .int 0), (0, .ref (ad 0))]) hx hb dX8_page_112 rfl hl (by decide) rfl (fun ls hl => ?_)
    obtain ⟨n, h⟩ := h
    exact L113 m_thrown m_size m_outLong m_p m_pre m_out n m_text 0 H locs ls (lv_sub hl [1, 0] rfl) hP hD hS h
  have L20 : ∀ (m_thrown : Int32) (m_size : Int32) (m_text : Nat → Int32) (n : Nat) (m_outLong : Int32) (m_p : Int32) (m_pre : Int32) (m_out : Nat → Int32) (H : Heap) (locs : List Loc) (ls : Array Slot), lv_has ls 2 [(0, .ref (ad 0))] → va_P (dC, dI) vwCl (mW ad cI cZ m_thrown m_size m_outLong m_lines m_toldLines m_tokens m_places m_p m_pre m_end m_text m_out m_lineAt m_lineLong m_depth m_signed m_led m_told m_place m_begin m_tokenLong m_stemLong m_address m_letters m_stems m_s) H → va_D A (mW ad cI cZ m_thrown m_size m_outLong m_lines m_toldLines m_tokens m_places m_p m_pre m_end m_text m_out m_lineAt m_lineLong m_depth m_signed m_led m_told m_place m_begin m_tokenLong m_stemLong m_address m_letters m_stems m_s) → va_S A s.heap H locs → wlX8_page_20 post m_thrown m_size m_text n m_outLong m_p m_pre m_out → W p l e (headSpec wsX8_page ({ frames := 6, cells := 0, slots := 0, locals := 138 })).room s m ([.ref (ad 0)] : List Value).toArray below meth c H locs 0 0 (MQ below Qc ([.ref (ad 0)] : List Value).toArray s 0 0 A) (F0 m 20 ls []) := by
    intro m_thrown m_size m_text
    intro n
    induction n with
    | zero => intro m_outLong m_p m_pre m_out H locs ls _ _ _ _ h; exact absurd h (fun z => z)
    | succ n20 ih20 =>
      intro m_outLong m_p m_pre m_out H locs ls hl hP hD hS h
      have J87 : ∀ (m_outLong : Int32) (m_p : Int32) (m_pre : Int32) (m_out : Nat → Int32) (H : Heap) (locs : List Loc) (ls : Array Slot), lv_has ls 2 [(0, .ref (ad 0))] → va_P (dC, dI) vwCl (mW ad cI cZ m_thrown m_size m_outLong m_lines m_toldLines m_tokens m_places m_p m_pre m_end m_text m_out m_lineAt m_lineLong m_depth m_signed m_led m_told m_place m_begin m_tokenLong m_stemLong m_address m_letters m_stems m_s) H → va_D A (mW ad cI cZ m_thrown m_size m_outLong m_lines m_toldLines m_tokens m_places m_p m_pre m_end m_text m_out m_lineAt m_lineLong m_depth m_signed m_led m_told m_place m_begin m_tokenLong m_stemLong m_address m_letters m_stems m_s) → va_S A s.heap H locs → wjX8_page_87 (fun m_outLong m_p m_pre m_out => wlX8_page_20 post m_thrown m_size m_text n20 m_outLong m_p m_pre m_out) post m_thrown m_size m_outLong m_p m_pre m_text m_out → W p l e (headSpec wsX8_page ({ frames := 6, cells := 0, slots := 0, locals := 138 })).room s m ([.ref (ad 0)] : List Value).toArray below meth c H locs 0 0 (MQ below Qc ([.ref (ad 0)] : List Value).toArray s 0 0 A) (F0 m 87 ls []) := by
        intro m_outLong m_p m_pre m_out H locs ls hl hP hD hS h
        delta wjX8_page_87 at h
        refine lv_aload_n hx hb dX8_page_87 rfl (lv_at hl 0 rfl) ?_
        refine lv_dup hx hb dX8_page_88 rfl ?_
        refine va_get (D := (dC, dI)) (ci := 7) (v := .int m_p) (C := RX8) (T := TX8) (N := 26) hx hb hts inX8 hown hK hP 0 rfl rfl 22 (by decide) (hts (.fieldLink RX8 150 "MailWordsModel" "p" "I") (List.mem_of_getElem? (i := 3) rfl)) (fun _ h9 => h9) rfl dX8_page_89 ?_
        refine lv_iconst (v := 1) hx hb dX8_page_92 (by decide) ?_
        refine lv_iadd hx hb dX8_page_93 ?_
        refine lv_topi (fun m_p_2 em_p_2 => ?_)
        have h := h m_p_2 em_p_2
        refine va_put (D := (dC, dI)) (ci := 7) (v := .int m_p_2) (ty := .int) (C := RX8) (T := TX8) (N := 26) hx hb hts inX8 tyX8 tyX8_ok nmX8 hown hK hP hD hS 0 rfl rfl 22 (by decide) (hts (.fieldLink RX8 150 "MailWordsModel" "p" "I") (List.mem_of_getElem? (i := 3) rfl)) (fun _ h9 => h9) rfl (tyX8_ok 22 (by decide)) rfl rfl (Nat.le_of_ble_eq_true rfl) dX8_page_94 (fun H locs hP hD hS => ?_)
        have hP : va_P (dC, dI) vwCl (mW ad cI cZ m_thrown m_size m_outLong m_lines m_toldLines m_tokens m_places m_p_2 m_pre m_end m_text m_out m_lineAt m_lineLong m_depth m_signed m_led m_told m_place m_begin m_tokenLong m_stemLong m_address m_letters m_stems m_s) H := hP
        have hD : va_D A (mW ad cI cZ m_thrown m_size m_outLong m_lines m_toldLines m_tokens m_places m_p_2 m_pre m_end m_text m_out m_lineAt m_lineLong m_depth m_signed m_led m_told m_place m_begin m_tokenLong m_stemLong m_address m_letters m_stems m_s) := hD
        refine lv_goto (tgt := 20) hx hb dX8_page_97 (by decide) ?_
        exact ih20 m_outLong m_p_2 m_pre m_out H locs ls (lv_sub hl [0] rfl) hP hD hS h
      rw [wlX8_page_20] at h
      refine lv_aload_n hx hb dX8_page_20 rfl (lv_at hl 0 rfl) ?_
      refine va_get (D := (dC, dI)) (ci := 7) (v := .int m_p) (C := RX8) (T := TX8) (N := 26) hx hb hts inX8 hown hK hP 0 rfl rfl 22 (by decide) (hts (.fieldLink RX8 150 "MailWordsModel" "p" "I") (List.mem_of_getElem? (i := 3) rfl)) (fun _ h9 => h9) rfl dX8_page_21 ?_
      refine lv_aload_n hx hb dX8_page_24 rfl (lv_at hl 0 rfl) ?_
      refine va_get (D := (dC, dI)) (ci := 7) (v := .int m_size) (C := RX8) (T := TX8) (N := 26) hx hb hts inX8 hown hK hP 0 rfl rfl 2 (by decide) (hts (.fieldLink RX8 64 "MailWordsModel" "size" "I") (List.mem_of_getElem? (i := 5) rfl)) (fun _ h9 => h9) rfl dX8_page_25 ?_
      refine lv_icmp_ge (tgt := 100) hx hb dX8_page_28 (by decide) (fun c9 => ?_) (fun c9 => ?_)
      · have h := h.1 c9
        refine lv_aload_n hx hb dX8_page_100 rfl (lv_at hl 0 rfl) ?_
        refine va_get (D := (dC, dI)) (ci := 7) (v := .int m_pre) (C := RX8) (T := TX8) (N := 26) hx hb hts inX8 hown hK hP 0 rfl rfl 23 (by decide) (hts (.fieldLink RX8 89 "MailWordsModel" "pre" "Z") (List.mem_of_getElem? (i := 4) rfl)) (fun _ h9 => h9) rfl dX8_page_101 ?_
        refine lv_if_ne (tgt := 111) hx hb dX8_page_104 (by decide) (fun c9 => ?_) (fun c9 => ?_)
        · have h := h.1 c9
          exact J111 m_thrown m_size m_outLong m_p m_pre m_text m_out H locs ls (lv_sub hl [0] rfl) hP hD hS h
        · have h := h.2 c9
          refine lv_aload_n hx hb dX8_page_107 rfl (lv_at hl 0 rfl) ?_
          refine xc_vv (As := []) (rest := []) xG Fx (sX8_dropSpaces l dC dI ad cI cZ sa sv m_thrown m_size m_outLong m_lines m_toldLines m_tokens m_places m_p m_pre m_end m_text m_out m_lineAt m_lineLong m_depth m_signed m_led m_told m_place m_begin m_tokenLong m_stemLong m_address m_letters m_stems m_s h) (cwV 0 hts gX8_page_X8_dropSpaces rfl rfl rfl hdX8_dropSpaces ⟨Nat.le_of_ble_eq_true rfl, Nat.le_of_ble_eq_true rfl⟩) (va_recv hK hP (ci := 7) (q0 := 0) rfl rfl) hK hP hD hS hA hI rfl hl.1 rfl (Nat.le_of_ble_eq_true rfl) dX8_page_108 ⟨Nat.zero_le _, Nat.zero_le _⟩ (fun m_outLong_4 H locs h hP hD hS => ?_)
          have hP : va_P (dC, dI) vwCl (mW ad cI cZ m_thrown m_size m_outLong_4 m_lines m_toldLines m_tokens m_places m_p m_pre m_end m_text m_out m_lineAt m_lineLong m_depth m_signed m_led m_told m_place m_begin m_tokenLong m_stemLong m_address m_letters m_stems m_s) H := hP
          have hD : va_D A (mW ad cI cZ m_thrown m_size m_outLong_4 m_lines m_toldLines m_tokens m_places m_p m_pre m_end m_text m_out m_lineAt m_lineLong m_depth m_signed m_led m_told m_place m_begin m_tokenLong m_stemLong m_address m_letters m_stems m_s) := hD
          exact J111 m_thrown m_size m_outLong_4 m_p m_pre m_text m_out H locs ls (lv_sub hl [0] rfl) hP hD hS h
      · have h := h.2 c9
        refine lv_aload_n hx hb dX8_page_31 rfl (lv_at hl 0 rfl) ?_
        refine va_get (D := (dC, dI)) (ci := 7) (v := .ref (ad 1)) (C := RX8) (T := TX8) (N := 26) hx hb hts inX8 hown hK hP 0 rfl rfl 1 (by decide) (hts (.fieldLink RX8 7 "MailWordsModel" "text" "[I") (List.mem_of_getElem? (i := 6) rfl)) (fun _ h9 => h9) rfl dX8_page_32 ?_
        refine lv_aload_n hx hb dX8_page_35 rfl (lv_at hl 0 rfl) ?_
        refine va_get (D := (dC, dI)) (ci := 7) (v := .int m_p) (C := RX8) (T := TX8) (N := 26) hx hb hts inX8 hown hK hP 0 rfl rfl 22 (by decide) (hts (.fieldLink RX8 150 "MailWordsModel" "p" "I") (List.mem_of_getElem? (i := 3) rfl)) (fun _ h9 => h9) rfl dX8_page_36 ?_
        have hi9 := h.1
        have h := h.2
        refine va_iald hx hb hK hP 1 0 rfl rfl hi9 dX8_page_39 ?_
        refine lv_topi (fun x1_5 ex1_5 => ?_)
        have h := h x1_5 ex1_5
        refine lv_istore_n (lv' := [(1, .int x1_5), (0, .ref (ad 0))]) hx hb dX8_page_40 rfl hl (by decide) rfl (fun ls hl => ?_)
        refine lv_iload_n hx hb dX8_page_41 rfl (lv_at hl 0 rfl) ?_
        refine lv_bipush (v := 60) hx hb dX8_page_42 (by decide) ?_
        refine lv_icmp_ne (tgt := 54) hx hb dX8_page_44 (by decide) (fun c9 => ?_) (fun c9 => ?_)
        · have h := h.1 c9
          refine lv_iload_n hx hb dX8_page_54 rfl (lv_at hl 0 rfl) ?_
          refine lv_bipush (v := 38) hx hb dX8_page_55 (by decide) ?_
          refine lv_icmp_ne (tgt := 67) hx hb dX8_page_57 (by decide) (fun c9 => ?_) (fun c9 => ?_)
          · have h := h.1 c9
            refine lv_iload_n hx hb dX8_page_67 rfl (lv_at hl 0 rfl) ?_
            refine xc_si (As := [.int x1_5]) (rest := []) xG Fx (sX8_isBlank l dC dI ad cI cZ sa sv m_thrown m_size m_outLong m_lines m_toldLines m_tokens m_places m_p m_pre m_end m_text m_out m_lineAt m_lineLong m_depth m_signed m_led m_told m_place m_begin m_tokenLong m_stemLong m_address m_letters m_stems m_s x1_5 h) (va_cwS 1 hts gX8_page_X8_isBlank rfl rfl rfl hdX8_isBlank ⟨Nat.le_of_ble_eq_true rfl, Nat.le_of_ble_eq_true rfl⟩) hK hP hD hS hA hI rfl hl.1 rfl (Nat.le_of_ble_eq_true rfl) dX8_page_68 ⟨Nat.zero_le _, Nat.zero_le _⟩ (fun r_6 u H locs h hP hD hS => ?_)
            refine lv_if_eq (tgt := 82) hx hb dX8_page_71 (by decide) (fun c9 => ?_) (fun c9 => ?_)
            · have h := h.1 c9
              refine lv_aload_n hx hb dX8_page_82 rfl (lv_at hl 1 rfl) ?_
              refine lv_iload_n hx hb dX8_page_83 rfl (lv_at hl 0 rfl) ?_
              refine xc_vv (As := [.int x1_5]) (rest := []) xG Fx (sX8_write l dC dI ad cI cZ sa sv m_thrown m_size m_outLong m_lines m_toldLines m_tokens m_places m_p m_pre m_end m_text m_out m_lineAt m_lineLong m_depth m_signed m_led m_told m_place m_begin m_tokenLong m_stemLong m_address m_letters m_stems m_s x1_5 h) (cwV 1 hts gX8_page_X8_write rfl rfl rfl hdX8_write ⟨Nat.le_of_ble_eq_true rfl, Nat.le_of_ble_eq_true rfl⟩) (va_recv hK hP (ci := 7) (q0 := 0) rfl rfl) hK hP hD hS hA hI rfl hl.1 rfl (Nat.le_of_ble_eq_true rfl) dX8_page_84 ⟨Nat.zero_le _, Nat.zero_le _⟩ (fun u H locs h hP hD hS => ?_)
              obtain ⟨m_outLong_8, m_out_9⟩ := u
              have hP : va_P (dC, dI) vwCl (mW ad cI cZ m_thrown m_size m_outLong_8 m_lines m_toldLines m_tokens m_places m_p m_pre m_end m_text m_out_9 m_lineAt m_lineLong m_depth m_signed m_led m_told m_place m_begin m_tokenLong m_stemLong m_address m_letters m_stems m_s) H := hP
              have hD : va_D A (mW ad cI cZ m_thrown m_size m_outLong_8 m_lines m_toldLines m_tokens m_places m_p m_pre m_end m_text m_out_9 m_lineAt m_lineLong m_depth m_signed m_led m_told m_place m_begin m_tokenLong m_stemLong m_address m_letters m_stems m_s) := hD
              exact J87 m_outLong_8 m_p m_pre m_out_9 H locs ls (lv_sub hl [1] rfl) hP hD hS h
            · have h := h.2 c9
              refine lv_aload_n hx hb dX8_page_74 rfl (lv_at hl 1 rfl) ?_
              refine lv_iload_n hx hb dX8_page_75 rfl (lv_at hl 0 rfl) ?_
              refine xc_vv (As := [.int x1_5]) (rest := []) xG Fx (sX8_writeBlank l dC dI ad cI cZ sa sv m_thrown m_size m_outLong m_lines m_toldLines m_tokens m_places m_p m_pre m_end m_text m_out m_lineAt m_lineLong m_depth m_signed m_led m_told m_place m_begin m_tokenLong m_stemLong m_address m_letters m_stems m_s x1_5 h) (cwV 1 hts gX8_page_X8_writeBlank rfl rfl rfl hdX8_writeBlank ⟨Nat.le_of_ble_eq_true rfl, Nat.le_of_ble_eq_true rfl⟩) (va_recv hK hP (ci := 7) (q0 := 0) rfl rfl) hK hP hD hS hA hI rfl hl.1 rfl (Nat.le_of_ble_eq_true rfl) dX8_page_76 ⟨Nat.zero_le _, Nat.zero_le _⟩ (fun u H locs h hP hD hS => ?_)
              obtain ⟨m_outLong_11, m_out_12⟩ := u
              have hP : va_P (dC, dI) vwCl (mW ad cI cZ m_thrown m_size m_outLong_11 m_lines m_toldLines m_tokens m_places m_p m_pre m_end m_text m_out_12 m_lineAt m_lineLong m_depth m_signed m_led m_told m_place m_begin m_tokenLong m_stemLong m_address m_letters m_stems m_s) H := hP
              have hD : va_D A (mW ad cI cZ m_thrown m_size m_outLong_11 m_lines m_toldLines m_tokens m_places m_p m_pre m_end m_text m_out_12 m_lineAt m_lineLong m_depth m_signed m_led m_told m_place m_begin m_tokenLong m_stemLong m_address m_letters m_stems m_s) := hD
              refine lv_goto (tgt := 87) hx hb dX8_page_79 (by decide) ?_
              exact J87 m_outLong_11 m_p m_pre m_out_12 H locs ls (lv_sub hl [1] rfl) hP hD hS h
          · have h := h.2 c9
            refine lv_aload_n hx hb dX8_page_60 rfl (lv_at hl 1 rfl) ?_
            refine xc_vv (As := []) (rest := []) xG Fx (sX8_readAmp l dC dI ad cI cZ sa sv m_thrown m_size m_outLong m_lines m_toldLines m_tokens m_places m_p m_pre m_end m_text m_out m_lineAt m_lineLong m_depth m_signed m_led m_told m_place m_begin m_tokenLong m_stemLong m_address m_letters m_stems m_s h) (cwV 0 hts gX8_page_X8_readAmp rfl rfl rfl hdX8_readAmp ⟨Nat.le_of_ble_eq_true rfl, Nat.le_of_ble_eq_true rfl⟩) (va_recv hK hP (ci := 7) (q0 := 0) rfl rfl) hK hP hD hS hA hI rfl hl.1 rfl (Nat.le_of_ble_eq_true rfl) dX8_page_61 ⟨Nat.zero_le _, Nat.zero_le _⟩ (fun u H locs h hP hD hS => ?_)
            obtain ⟨m_outLong_14, m_p_15, m_out_16⟩ := u
            have hP : va_P (dC, dI) vwCl (mW ad cI cZ m_thrown m_size m_outLong_14 m_lines m_toldLines m_tokens m_places m_p_15 m_pre m_end m_text m_out_16 m_lineAt m_lineLong m_depth m_signed m_led m_told m_place m_begin m_tokenLong m_stemLong m_address m_letters m_stems m_s) H := hP
            have hD : va_D A (mW ad cI cZ m_thrown m_size m_outLong_14 m_lines m_toldLines m_tokens m_places m_p_15 m_pre m_end m_text m_out_16 m_lineAt m_lineLong m_depth m_signed m_led m_told m_place m_begin m_tokenLong m_stemLong m_address m_letters m_stems m_s) := hD
            refine lv_goto (tgt := 97) hx hb dX8_page_64 (by decide) ?_
            refine lv_goto (tgt := 20) hx hb dX8_page_97 (by decide) ?_
            exact ih20 m_outLong_14 m_p_15 m_pre m_out_16 H locs ls (lv_sub hl [1] rfl) hP hD hS h
        · have h := h.2 c9
          refine lv_aload_n hx hb dX8_page_47 rfl (lv_at hl 1 rfl) ?_
          refine xc_vv (As := []) (rest := []) xG Fx (sX8_readLess l dC dI ad cI cZ sa sv m_thrown m_size m_outLong m_lines m_toldLines m_tokens m_places m_p m_pre m_end m_text m_out m_lineAt m_lineLong m_depth m_signed m_led m_told m_place m_begin m_tokenLong m_stemLong m_address m_letters m_stems m_s h) (cwV 0 hts gX8_page_X8_readLess rfl rfl rfl hdX8_readLess ⟨Nat.le_of_ble_eq_true rfl, Nat.le_of_ble_eq_true rfl⟩) (va_recv hK hP (ci := 7) (q0 := 0) rfl rfl) hK hP hD hS hA hI rfl hl.1 rfl (Nat.le_of_ble_eq_true rfl) dX8_page_48 ⟨Nat.zero_le _, Nat.zero_le _⟩ (fun u H locs h hP hD hS => ?_)
          obtain ⟨m_outLong_18, m_p_19, m_pre_20, m_out_21⟩ := u
          have hP : va_P (dC, dI) vwCl (mW ad cI cZ m_thrown m_size m_outLong_18 m_lines m_toldLines m_tokens m_places m_p_19 m_pre_20 m_end m_text m_out_21 m_lineAt m_lineLong m_depth m_signed m_led m_told m_place m_begin m_tokenLong m_stemLong m_address m_letters m_stems m_s) H := hP
          have hD : va_D A (mW ad cI cZ m_thrown m_size m_outLong_18 m_lines m_toldLines m_tokens m_places m_p_19 m_pre_20 m_end m_text m_out_21 m_lineAt m_lineLong m_depth m_signed m_led m_told m_place m_begin m_tokenLong m_stemLong m_address m_letters m_stems m_s) := hD
          refine lv_goto (tgt := 97) hx hb dX8_page_51 (by decide) ?_
          refine lv_goto (tgt := 20) hx hb dX8_page_97 (by decide) ?_
          exact ih20 m_outLong_18 m_p_19 m_pre_20 m_out_21 H locs ls (lv_sub hl [1] rfl) hP hD hS h
  intro H locs hP hD hS
  delta wpX8_page at h
  refine lv_aload_n hx hb dX8_page_0 rfl (lv_at hl 0 rfl) ?_
  refine lv_iconst (v := 0) hx hb dX8_page_1 (by decide) ?_
  refine va_put (D := (dC, dI)) (ci := 7) (v := .int 0) (ty := .int) (C := RX8) (T := TX8) (N := 26) hx hb hts inX8 tyX8 tyX8_ok nmX8 hown hK hP hD hS 0 rfl rfl 0 (by decide) (hts (.fieldLink RX8 60 "MailWordsModel" "thrown" "I") (List.mem_of_getElem? (i := 1) rfl)) (fun _ h9 => h9) rfl (tyX8_ok 0 (by decide)) rfl rfl (Nat.le_of_ble_eq_true rfl) dX8_page_2 (fun H locs hP hD hS => ?_)
  have hP : va_P (dC, dI) vwCl (mW ad cI cZ 0 m_size m_outLong m_lines m_toldLines m_tokens m_places m_p m_pre m_end m_text m_out m_lineAt m_lineLong m_depth m_signed m_led m_told m_place m_begin m_tokenLong m_stemLong m_address m_letters m_stems m_s) H := hP
  have hD : va_D A (mW ad cI cZ 0 m_size m_outLong m_lines m_toldLines m_tokens m_places m_p m_pre m_end m_text m_out m_lineAt m_lineLong m_depth m_signed m_led m_told m_place m_begin m_tokenLong m_stemLong m_address m_letters m_stems m_s) := hD
  refine lv_aload_n hx hb dX8_page_5 rfl (lv_at hl 0 rfl) ?_
  refine lv_iconst (v := 0) hx hb dX8_page_6 (by decide) ?_
  refine va_put (D := (dC, dI)) (ci := 7) (v := .int 0) (ty := .int) (C := RX8) (T := TX8) (N := 26) hx hb hts inX8 tyX8 tyX8_ok nmX8 hown hK hP hD hS 0 rfl rfl 4 (by decide) (hts (.fieldLink RX8 86 "MailWordsModel" "outLong" "I") (List.mem_of_getElem? (i := 2) rfl)) (fun _ h9 => h9) rfl (tyX8_ok 4 (by decide)) rfl rfl (Nat.le_of_ble_eq_true rfl) dX8_page_7 (fun H locs hP hD hS => ?_)
  have hP : va_P (dC, dI) vwCl (mW ad cI cZ 0 m_size 0 m_lines m_toldLines m_tokens m_places m_p m_pre m_end m_text m_out m_lineAt m_lineLong m_depth m_signed m_led m_told m_place m_begin m_tokenLong m_stemLong m_address m_letters m_stems m_s) H := hP
  have hD : va_D A (mW ad cI cZ 0 m_size 0 m_lines m_toldLines m_tokens m_places m_p m_pre m_end m_text m_out m_lineAt m_lineLong m_depth m_signed m_led m_told m_place m_begin m_tokenLong m_stemLong m_address m_letters m_stems m_s) := hD
  refine lv_aload_n hx hb dX8_page_10 rfl (lv_at hl 0 rfl) ?_
  refine lv_iconst (v := 0) hx hb dX8_page_11 (by decide) ?_
  refine va_put (D := (dC, dI)) (ci := 7) (v := .int 0) (ty := .int) (C := RX8) (T := TX8) (N := 26) hx hb hts inX8 tyX8 tyX8_ok nmX8 hown hK hP hD hS 0 rfl rfl 22 (by decide) (hts (.fieldLink RX8 150 "MailWordsModel" "p" "I") (List.mem_of_getElem? (i := 3) rfl)) (fun _ h9 => h9) rfl (tyX8_ok 22 (by decide)) rfl rfl (Nat.le_of_ble_eq_true rfl) dX8_page_12 (fun H locs hP hD hS => ?_)
  have hP : va_P (dC, dI) vwCl (mW ad cI cZ 0 m_size 0 m_lines m_toldLines m_tokens m_places 0 m_pre m_end m_text m_out m_lineAt m_lineLong m_depth m_signed m_led m_told m_place m_begin m_tokenLong m_stemLong m_address m_letters m_stems m_s) H := hP
  have hD : va_D A (mW ad cI cZ 0 m_size 0 m_lines m_toldLines m_tokens m_places 0 m_pre m_end m_text m_out m_lineAt m_lineLong m_depth m_signed m_led m_told m_place m_begin m_tokenLong m_stemLong m_address m_letters m_stems m_s) := hD
  refine lv_aload_n hx hb dX8_page_15 rfl (lv_at hl 0 rfl) ?_
  refine lv_iconst (v := 0) hx hb dX8_page_16 (by decide) ?_
  refine va_put (D := (dC, dI)) (ci := 7) (v := .int 0) (ty := .boolean) (C := RX8) (T := TX8) (N := 26) hx hb hts inX8 tyX8 tyX8_ok nmX8 hown hK hP hD hS 0 rfl rfl 23 (by decide) (hts (.fieldLink RX8 89 "MailWordsModel" "pre" "Z") (List.mem_of_getElem? (i := 4) rfl)) (fun _ h9 => h9) rfl (tyX8_ok 23 (by decide)) (bN_nar bN0) (bN_fit bN0) (Nat.le_of_ble_eq_true rfl) dX8_page_17 (fun H locs hP hD hS => ?_)
  have hP : va_P (dC, dI) vwCl (mW ad cI cZ 0 m_size 0 m_lines m_toldLines m_tokens m_places 0 0 m_end m_text m_out m_lineAt m_lineLong m_depth m_signed m_led m_told m_place m_begin m_tokenLong m_stemLong m_address m_letters m_stems m_s) H := hP
  have hD : va_D A (mW ad cI cZ 0 m_size 0 m_lines m_toldLines m_tokens m_places 0 0 m_end m_text m_out m_lineAt m_lineLong m_depth m_signed m_led m_told m_place m_begin m_tokenLong m_stemLong m_address m_letters m_stems m_s) := hD
  obtain ⟨n, h⟩ := h
  exact L20 0 m_size m_text n 0 0 0 m_out H locs ls (lv_sub hl [0] rfl) hP hD hS h
set_option maxHeartbeats 4000000 in
set_option maxRecDepth 100000 in
theorem sX8_depthOf (l : Launch) (dC : Nat → ClassId) (dI : Nat → Nat → Nat) (ad : Nat → Nat) (cI cZ : ClassId) (sa sv : Nat → Nat) (m_thrown : Int32) (m_size : Int32) (m_outLong : Int32) (m_lines : Int32) (m_toldLines : Int32) (m_tokens : Int32) (m_places : Int32) (m_p : Int32) (m_pre : Int32) (m_end : Int32) (m_text : Nat → Int32) (m_out : Nat → Int32) (m_lineAt : Nat → Int32) (m_lineLong : Nat → Int32) (m_depth : Nat → Int32) (m_signed : Nat → Int32) (m_led : Nat → Int32) (m_told : Nat → Int32) (m_place : Nat → Int32) (m_begin : Nat → Int32) (m_tokenLong : Nat → Int32) (m_stemLong : Nat → Int32) (m_address : Nat → Int32) (m_letters : Nat → Int32) (m_stems : Nat → Int32) (m_s : Nat → Int32) (x1 : Int32) (x2 : Int32) {post : Int32 → Prop} (h : wpX8_depthOf post m_text x1 x2) : xMi l (dC, dI) vwCl [(cI, .int), (cZ, .boolean)] (sI sa sv) yX8_depthOf wsX8_depthOf ({ frames := 0, cells := 0, slots := 0, locals := 0 }) (mW ad cI cZ m_thrown m_size m_outLong m_lines m_toldLines m_tokens m_places m_p m_pre m_end m_text m_out m_lineAt m_lineLong m_depth m_signed m_led m_told m_place m_begin m_tokenLong m_stemLong m_address m_letters m_stems m_s) [.ref (ad 0), .int x1, .int x2] (fun (r : Int32) (u : Unit) => post r ) (fun u : Unit => (mW ad cI cZ m_thrown m_size m_outLong m_lines m_toldLines m_tokens m_places m_p m_pre m_end m_text m_out m_lineAt m_lineLong m_depth m_signed m_led m_told m_place m_begin m_tokenLong m_stemLong m_address m_letters m_stems m_s)) := by
  intro sz
  refine Met.ofW (cc := cX8_depthOf) (maxL := 5) (ret := (some .int)) (by decide) rfl ?_
  intro p e s m args below meth c s₁ B hml hv
  obtain ⟨rfl, hsz, hP, hK, hD0, hI⟩ := hv
  have hx := B.exec
  have hb := B.bytes
  have hr := B.returns
  have hts := atoms_spec (ws := wsX8_depthOf) B.pre
  have hown : s.vm.findClass RX8 = some m.cls := findClass_of_methodNamed B.named
  have hlocks := B.notSynchronized
  subst hsz
  have hD := hD0.self (sz := s.heap.size)
  generalize hAe : va_A (mW ad cI cZ m_thrown m_size m_outLong m_lines m_toldLines m_tokens m_places m_p m_pre m_end m_text m_out m_lineAt m_lineLong m_depth m_signed m_led m_told m_place m_begin m_tokenLong m_stemLong m_address m_letters m_stems m_s) s.heap.size = A at hD hI ⊢
  have hA : ∀ q : Nat, s.heap.size ≤ q → A q := fun q h => by rw [← hAe]; exact Or.inr h
  have hS : va_S A s.heap s.heap [] := va_S.rf
  have Fx : CallFix p m c cX8_depthOf 5 s ([.ref (ad 0), .int x1, .int x2] : List Value).toArray wsX8_depthOf RX8 := ⟨hx, hb, hml, hown, hts⟩
  have hQ : ∀ (r : Int32) (u : Unit) (t : State), (fun (r : Int32) (u : Unit) => post r ) r u → va_P (dC, dI) vwCl ((fun u : Unit => (mW ad cI cZ m_thrown m_size m_outLong m_lines m_toldLines m_tokens m_places m_p m_pre m_end m_text m_out m_lineAt m_lineLong m_depth m_signed m_led m_told m_place m_begin m_tokenLong m_stemLong m_address m_letters m_stems m_s)) u) t.heap → va_K (dC, dI) vwCl [(cI, .int), (cZ, .boolean)] t → va_D A ((fun u : Unit => (mW ad cI cZ m_thrown m_size m_outLong m_lines m_toldLines m_tokens m_places m_p m_pre m_end m_text m_out m_lineAt m_lineLong m_depth m_signed m_led m_told m_place m_begin m_tokenLong m_stemLong m_address m_letters m_stems m_s)) u) → va_F A s t → (va_Qi (fun (r : Int32) (u : Unit) => post r ) (xB (dC, dI) vwCl [(cI, .int), (cZ, .boolean)] A (fun u : Unit => (mW ad cI cZ m_thrown m_size m_outLong m_lines m_toldLines m_tokens m_places m_p m_pre m_end m_text m_out m_lineAt m_lineLong m_depth m_signed m_led m_told m_place m_begin m_tokenLong m_stemLong m_address m_letters m_stems m_s))) A) ([.ref (ad 0), .int x1, .int x2] : List Value).toArray s (.returned (some (.int r))) t := fun r u t h1 h2 h3 h4 h5 => ⟨⟨r, u, rfl, h1, h2, h3, h4⟩, h5⟩
  generalize (va_Qi (fun (r : Int32) (u : Unit) => post r ) (xB (dC, dI) vwCl [(cI, .int), (cZ, .boolean)] A (fun u : Unit => (mW ad cI cZ m_thrown m_size m_outLong m_lines m_toldLines m_tokens m_places m_p m_pre m_end m_text m_out m_lineAt m_lineLong m_depth m_signed m_led m_told m_place m_begin m_tokenLong m_stemLong m_address m_letters m_stems m_s))) A) = Qc at hQ ⊢
  have hl := lv_entry ([.ref (ad 0), .int x1, .int x2]) (n := 5) (Nat.le_of_ble_eq_true rfl)
  rw [lg_entry_eq]
  generalize (lg_sl ([.ref (ad 0), .int x1, .int x2]) ++ List.replicate (5 - (lg_sl ([.ref (ad 0), .int x1, .int x2])).length) Slot.unset).toArray = ls at hl ⊢
  have hl : lv_has ls 5 [(0, .ref (ad 0)), (1, .int x1), (2, .int x2)] := hl
  refine (fun (key : ∀ (H : Heap) (locs : List Loc), va_P (dC, dI) vwCl (mW ad cI cZ m_thrown m_size m_outLong m_lines m_toldLines m_tokens m_places m_p m_pre m_end m_text m_out m_lineAt m_lineLong m_depth m_signed m_led m_told m_place m_begin m_tokenLong m_stemLong m_address m_letters m_stems m_s) H → va_D A (mW ad cI cZ m_thrown m_size m_outLong m_lines m_toldLines m_tokens m_places m_p m_pre m_end m_text m_out m_lineAt m_lineLong m_depth m_signed m_led m_told m_place m_begin m_tokenLong m_stemLong m_address m_letters m_stems m_s) → va_S A s.heap H locs → W p l e (headSpec wsX8_depthOf ({ frames := 0, cells := 0, slots := 0, locals := 0 })).room s m ([.ref (ad 0), .int x1, .int x2] : List Value).toArray below meth c H locs 0 0 (MQ below Qc ([.ref (ad 0), .int x1, .int x2] : List Value).toArray s 0 0 A) (F0 m 0 ls [])) => key _ _ hP hD hS) ?_
  have inX8 : ∀ w ∈ wsX80, w ∈ wsX8_depthOf := (fun _ h9 => List.mem_cons_of_mem _ (List.mem_append_right _ h9))
  have L5 : ∀ (n : Nat) (x3 : Int32) (x4 : Int32) (H : Heap) (locs : List Loc) (ls : Array Slot), lv_has ls 5 [(0, .ref (ad 0)), (2, .int x2), (3, .int x3), (4, .int x4)] → va_P (dC, dI) vwCl (mW ad cI cZ m_thrown m_size m_outLong m_lines m_toldLines m_tokens m_places m_p m_pre m_end m_text m_out m_lineAt m_lineLong m_depth m_signed m_led m_told m_place m_begin m_tokenLong m_stemLong m_address m_letters m_stems m_s) H → va_D A (mW ad cI cZ m_thrown m_size m_outLong m_lines m_toldLines m_tokens m_places m_p m_pre m_end m_text m_out m_lineAt m_lineLong m_depth m_signed m_led m_told m_place m_begin m_tokenLong m_stemLong m_address m_letters m_stems m_s) → va_S A s.heap H locs → wlX8_depthOf_5 post m_text x1 x2 n x3 x4 → W p l e (headSpec wsX8_depthOf ({ frames := 0, cells := 0, slots := 0, locals := 0 })).room s m ([.ref (ad 0), .int x1, .int x2] : List Value).toArray below meth c H locs 0 0 (MQ below Qc ([.ref (ad 0), .int x1, .int x2] : List Value).toArray s 0 0 A) (F0 m 5 ls []) := by
    intro n
    induction n with
    | zero => intro x3 x4 H locs ls _ _ _ _ h; exact absurd h (fun z => z)
    | succ n5 ih5 =>
      intro x3 x4 H locs ls hl hP hD hS h
      have J50 : ∀ (x3 : Int32) (x4 : Int32) (H : Heap) (locs : List Loc) (ls : Array Slot), lv_has ls 5 [(0, .ref (ad 0)), (2, .int x2), (3, .int x3), (4, .int x4)] → va_P (dC, dI) vwCl (mW ad cI cZ m_thrown m_size m_outLong m_lines m_toldLines m_tokens m_places m_p m_pre m_end m_text m_out m_lineAt m_lineLong m_depth m_signed m_led m_told m_place m_begin m_tokenLong m_stemLong m_address m_letters m_stems m_s) H → va_D A (mW ad cI cZ m_thrown m_size m_outLong m_lines m_toldLines m_tokens m_places m_p m_pre m_end m_text m_out m_lineAt m_lineLong m_depth m_signed m_led m_told m_place m_begin m_tokenLong m_stemLong m_address m_letters m_stems m_s) → va_S A s.heap H locs → wjX8_depthOf_50 (fun x3 x4 => wlX8_depthOf_5 post m_text x1 x2 n5 x3 x4) post m_text x1 x2 x3 x4 → W p l e (headSpec wsX8_depthOf ({ frames := 0, cells := 0, slots := 0, locals := 0 })).room s m ([.ref (ad 0), .int x1, .int x2] : List Value).toArray below meth c H locs 0 0 (MQ below Qc ([.ref (ad 0), .int x1, .int x2] : List Value).toArray s 0 0 A) (F0 m 50 ls []) := by
        intro x3 x4 H locs ls hl hP hD hS h
        delta wjX8_depthOf_50 at h
        obtain ⟨x4_1, ex4_1⟩ : ∃ y : Int32, y = x4 + 1 := ⟨_, rfl⟩
        have h := h x4_1 ex4_1
        refine lv_iinc (v := x4_1) (lv' := [(4, .int x4_1), (0, .ref (ad 0)), (2, .int x2), (3, .int x3)]) hx hb dX8_depthOf_50 hl (k := 3) rfl (by rw [ex4_1]; rfl) (by decide) rfl (fun ls hl => ?_)
        refine lv_goto (tgt := 5) hx hb dX8_depthOf_53 (by decide) ?_
        exact ih5 x3 x4_1 H locs ls (lv_sub hl [1, 2, 3, 0] rfl) hP hD hS h
      have J35 : ∀ (x3 : Int32) (x4 : Int32) (H : Heap) (locs : List Loc) (ls : Array Slot), lv_has ls 5 [(0, .ref (ad 0)), (2, .int x2), (3, .int x3), (4, .int x4)] → va_P (dC, dI) vwCl (mW ad cI cZ m_thrown m_size m_outLong m_lines m_toldLines m_tokens m_places m_p m_pre m_end m_text m_out m_lineAt m_lineLong m_depth m_signed m_led m_told m_place m_begin m_tokenLong m_stemLong m_address m_letters m_stems m_s) H → va_D A (mW ad cI cZ m_thrown m_size m_outLong m_lines m_toldLines m_tokens m_places m_p m_pre m_end m_text m_out m_lineAt m_lineLong m_depth m_signed m_led m_told m_place m_begin m_tokenLong m_stemLong m_address m_letters m_stems m_s) → va_S A s.heap H locs → wjX8_depthOf_35 (fun x3 x4 => wlX8_depthOf_5 post m_text x1 x2 n5 x3 x4) post m_text x1 x2 x3 x4 → W p l e (headSpec wsX8_depthOf ({ frames := 0, cells := 0, slots := 0, locals := 0 })).room s m ([.ref (ad 0), .int x1, .int x2] : List Value).toArray below meth c H locs 0 0 (MQ below Qc ([.ref (ad 0), .int x1, .int x2] : List Value).toArray s 0 0 A) (F0 m 35 ls []) := by
        intro x3 x4 H locs ls hl hP hD hS h
        delta wjX8_depthOf_35 at h
        refine lv_aload_n hx hb dX8_depthOf_35 rfl (lv_at hl 0 rfl) ?_
        refine va_get (D := (dC, dI)) (ci := 7) (v := .ref (ad 1)) (C := RX8) (T := TX8) (N := 26) hx hb hts inX8 hown hK hP 0 rfl rfl 1 (by decide) (hts (.fieldLink RX8 7 "MailWordsModel" "text" "[I") (List.mem_of_getElem? (i := 1) rfl)) (fun _ h9 => h9) rfl dX8_depthOf_36 ?_
        refine lv_iload hx hb dX8_depthOf_39 (lv_at hl 3 rfl) ?_
        have hi9 := h.1
        have h := h.2
        refine va_iald hx hb hK hP 1 0 rfl rfl hi9 dX8_depthOf_41 ?_
        refine lv_bipush (v := 62) hx hb dX8_depthOf_42 (by decide) ?_
        refine lv_icmp_ne (tgt := 50) hx hb dX8_depthOf_44 (by decide) (fun c9 => ?_) (fun c9 => ?_)
        · have h := h.1 c9
          exact J50 x3 x4 H locs ls (lv_sub hl [0, 1, 2, 3] rfl) hP hD hS h
        · have h := h.2 c9
          obtain ⟨x3_2, ex3_2⟩ : ∃ y : Int32, y = x3 + 1 := ⟨_, rfl⟩
          have h := h x3_2 ex3_2
          refine lv_iinc (v := x3_2) (lv' := [(3, .int x3_2), (0, .ref (ad 0)), (2, .int x2), (4, .int x4)]) hx hb dX8_depthOf_47 hl (k := 2) rfl (by rw [ex3_2]; rfl) (by decide) rfl (fun ls hl => ?_)
          exact J50 x3_2 x4 H locs ls (lv_sub hl [1, 2, 0, 3] rfl) hP hD hS h
      rw [wlX8_depthOf_5] at h
      refine lv_iload hx hb dX8_depthOf_5 (lv_at hl 3 rfl) ?_
      refine lv_iload_n hx hb dX8_depthOf_7 rfl (lv_at hl 1 rfl) ?_
      refine lv_icmp_ge (tgt := 56) hx hb dX8_depthOf_8 (by decide) (fun c9 => ?_) (fun c9 => ?_)
      · have h := h.1 c9
        refine lv_iload_n hx hb dX8_depthOf_56 rfl (lv_at hl 2 rfl) ?_
        exact W.iret (v := x3) hx hb hr (fun t ht hW => hQ x3 () t h (by rw [ht]; exact hP) (va_K.moved hW.alike hK) hD (hS.F ht)) hS.2.2 dX8_depthOf_57
      · have h := h.2 c9
        refine lv_aload_n hx hb dX8_depthOf_11 rfl (lv_at hl 0 rfl) ?_
        refine va_get (D := (dC, dI)) (ci := 7) (v := .ref (ad 1)) (C := RX8) (T := TX8) (N := 26) hx hb hts inX8 hown hK hP 0 rfl rfl 1 (by decide) (hts (.fieldLink RX8 7 "MailWordsModel" "text" "[I") (List.mem_of_getElem? (i := 1) rfl)) (fun _ h9 => h9) rfl dX8_depthOf_12 ?_
        refine lv_iload hx hb dX8_depthOf_15 (lv_at hl 3 rfl) ?_
        have hi9 := h.1
        have h := h.2
        refine va_iald hx hb hK hP 1 0 rfl rfl hi9 dX8_depthOf_17 ?_
        refine lv_bipush (v := 32) hx hb dX8_depthOf_18 (by decide) ?_
        refine lv_icmp_eq (tgt := 35) hx hb dX8_depthOf_20 (by decide) (fun c9 => ?_) (fun c9 => ?_)
        · have h := h.1 c9
          exact J35 x3 x4 H locs ls (lv_sub hl [0, 1, 2, 3] rfl) hP hD hS h
        · have h := h.2 c9
          refine lv_aload_n hx hb dX8_depthOf_23 rfl (lv_at hl 0 rfl) ?_
          refine va_get (D := (dC, dI)) (ci := 7) (v := .ref (ad 1)) (C := RX8) (T := TX8) (N := 26) hx hb hts inX8 hown hK hP 0 rfl rfl 1 (by decide) (hts (.fieldLink RX8 7 "MailWordsModel" "text" "[I") (List.mem_of_getElem? (i := 1) rfl)) (fun _ h9 => h9) rfl dX8_depthOf_24 ?_
          refine lv_iload hx hb dX8_depthOf_27 (lv_at hl 3 rfl) ?_
          have hi9 := h.1
          have h := h.2
          refine va_iald hx hb hK hP 1 0 rfl rfl hi9 dX8_depthOf_29 ?_
          refine lv_bipush (v := 62) hx hb dX8_depthOf_30 (by decide) ?_
          refine lv_icmp_ne (tgt := 56) hx hb dX8_depthOf_32 (by decide) (fun c9 => ?_) (fun c9 => ?_)
          · have h := h.1 c9
            refine lv_iload_n hx hb dX8_depthOf_56 rfl (lv_at hl 2 rfl) ?_
            exact W.iret (v := x3) hx hb hr (fun t ht hW => hQ x3 () t h (by rw [ht]; exact hP) (va_K.moved hW.alike hK) hD (hS.F ht)) hS.2.2 dX8_depthOf_57
          · have h := h.2 c9
            exact J35 x3 x4 H locs ls (lv_sub hl [0, 1, 2, 3] rfl) hP hD hS h
  intro H locs hP hD hS
  delta wpX8_depthOf at h
  refine lv_iconst (v := 0) hx hb dX8_depthOf_0 (by decide) ?_
  refine lv_istore_n (lv' := [(3, .int 0), (0, .ref (ad 0)), (1, .int x1), (2, .int x2)]) hx hb dX8_depthOf_1 rfl hl (by decide) rfl (fun ls hl => ?_)
  refine lv_iload_n hx hb dX8_depthOf_2 rfl (lv_at hl 2 rfl) ?_
  refine lv_istore (lv' := [(4, .int x1), (3, .int 0), (0, .ref (ad 0)), (1, .int x1), (2, .int x2)]) hx hb dX8_depthOf_3 hl (by decide) rfl (fun ls hl => ?_)
  obtain ⟨n, h⟩ := h
  exact L5  n 0 x1 H locs ls (lv_sub hl [2, 4, 1, 0] rfl) hP hD hS h
set_option maxHeartbeats 4000000 in
set_option maxRecDepth 100000 in
theorem sX8_isMark (l : Launch) (dC : Nat → ClassId) (dI : Nat → Nat → Nat) (ad : Nat → Nat) (cI cZ : ClassId) (sa sv : Nat → Nat) (m_thrown : Int32) (m_size : Int32) (m_outLong : Int32) (m_lines : Int32) (m_toldLines : Int32) (m_tokens : Int32) (m_places : Int32) (m_p : Int32) (m_pre : Int32) (m_end : Int32) (m_text : Nat → Int32) (m_out : Nat → Int32) (m_lineAt : Nat → Int32) (m_lineLong : Nat → Int32) (m_depth : Nat → Int32) (m_signed : Nat → Int32) (m_led : Nat → Int32) (m_told : Nat → Int32) (m_place : Nat → Int32) (m_begin : Nat → Int32) (m_tokenLong : Nat → Int32) (m_stemLong : Nat → Int32) (m_address : Nat → Int32) (m_letters : Nat → Int32) (m_stems : Nat → Int32) (m_s : Nat → Int32) (x1 : Int32) (x2 : Int32) {post : Int32 → Prop} (h : wpX8_isMark post m_text x1 x2) : xMi l (dC, dI) vwCl [(cI, .int), (cZ, .boolean)] (sI sa sv) yX8_isMark wsX8_isMark ({ frames := 0, cells := 0, slots := 0, locals := 0 }) (mW ad cI cZ m_thrown m_size m_outLong m_lines m_toldLines m_tokens m_places m_p m_pre m_end m_text m_out m_lineAt m_lineLong m_depth m_signed m_led m_told m_place m_begin m_tokenLong m_stemLong m_address m_letters m_stems m_s) [.ref (ad 0), .int x1, .int x2] (fun (r : Int32) (u : Unit) => post r ) (fun u : Unit => (mW ad cI cZ m_thrown m_size m_outLong m_lines m_toldLines m_tokens m_places m_p m_pre m_end m_text m_out m_lineAt m_lineLong m_depth m_signed m_led m_told m_place m_begin m_tokenLong m_stemLong m_address m_letters m_stems m_s)) := by
  intro sz
  refine Met.ofW (cc := cX8_isMark) (maxL := 4) (ret := (some .boolean)) (by decide) rfl ?_
  intro p e s m args below meth c s₁ B hml hv
  obtain ⟨rfl, hsz, hP, hK, hD0, hI⟩ := hv
  have hx := B.exec
  have hb := B.bytes
  have hr := B.returns
  have hts := atoms_spec (ws := wsX8_isMark) B.pre
  have hown : s.vm.findClass RX8 = some m.cls := findClass_of_methodNamed B.named
  have hlocks := B.notSynchronized
  subst hsz
  have hD := hD0.self (sz := s.heap.size)
  generalize hAe : va_A (mW ad cI cZ m_thrown m_size m_outLong m_lines m_toldLines m_tokens m_places m_p m_pre m_end m_text m_out m_lineAt m_lineLong m_depth m_signed m_led m_told m_place m_begin m_tokenLong m_stemLong m_address m_letters m_stems m_s) s.heap.size = A at hD hI ⊢
  have hA : ∀ q : Nat, s.heap.size ≤ q → A q := fun q h => by rw [← hAe]; exact Or.inr h
  have hS : va_S A s.heap s.heap [] := va_S.rf
  have Fx : CallFix p m c cX8_isMark 4 s ([.ref (ad 0), .int x1, .int x2] : List Value).toArray wsX8_isMark RX8 := ⟨hx, hb, hml, hown, hts⟩
  have hQ : ∀ (r : Int32) (u : Unit) (t : State), (fun (r : Int32) (u : Unit) => post r ) r u → va_P (dC, dI) vwCl ((fun u : Unit => (mW ad cI cZ m_thrown m_size m_outLong m_lines m_toldLines m_tokens m_places m_p m_pre m_end m_text m_out m_lineAt m_lineLong m_depth m_signed m_led m_told m_place m_begin m_tokenLong m_stemLong m_address m_letters m_stems m_s)) u) t.heap → va_K (dC, dI) vwCl [(cI, .int), (cZ, .boolean)] t → va_D A ((fun u : Unit => (mW ad cI cZ m_thrown m_size m_outLong m_lines m_toldLines m_tokens m_places m_p m_pre m_end m_text m_out m_lineAt m_lineLong m_depth m_signed m_led m_told m_place m_begin m_tokenLong m_stemLong m_address m_letters m_stems m_s)) u) → va_F A s t → (va_Qi (fun (r : Int32) (u : Unit) => post r ) (xB (dC, dI) vwCl [(cI, .int), (cZ, .boolean)] A (fun u : Unit => (mW ad cI cZ m_thrown m_size m_outLong m_lines m_toldLines m_tokens m_places m_p m_pre m_end m_text m_out m_lineAt m_lineLong m_depth m_signed m_led m_told m_place m_begin m_tokenLong m_stemLong m_address m_letters m_stems m_s))) A) ([.ref (ad 0), .int x1, .int x2] : List Value).toArray s (.returned (some (.int r))) t := fun r u t h1 h2 h3 h4 h5 => ⟨⟨r, u, rfl, h1, h2, h3, h4⟩, h5⟩
  generalize (va_Qi (fun (r : Int32) (u : Unit) => post r ) (xB (dC, dI) vwCl [(cI, .int), (cZ, .boolean)] A (fun u : Unit => (mW ad cI cZ m_thrown m_size m_outLong m_lines m_toldLines m_tokens m_places m_p m_pre m_end m_text m_out m_lineAt m_lineLong m_depth m_signed m_led m_told m_place m_begin m_tokenLong m_stemLong m_address m_letters m_stems m_s))) A) = Qc at hQ ⊢
  have hl := lv_entry ([.ref (ad 0), .int x1, .int x2]) (n := 4) (Nat.le_of_ble_eq_true rfl)
  rw [lg_entry_eq]
  generalize (lg_sl ([.ref (ad 0), .int x1, .int x2]) ++ List.replicate (4 - (lg_sl ([.ref (ad 0), .int x1, .int x2])).length) Slot.unset).toArray = ls at hl ⊢
  have hl : lv_has ls 4 [(0, .ref (ad 0)), (1, .int x1), (2, .int x2)] := hl
  refine (fun (key : ∀ (H : Heap) (locs : List Loc), va_P (dC, dI) vwCl (mW ad cI cZ m_thrown m_size m_outLong m_lines m_toldLines m_tokens m_places m_p m_pre m_end m_text m_out m_lineAt m_lineLong m_depth m_signed m_led m_told m_place m_begin m_tokenLong m_stemLong m_address m_letters m_stems m_s) H → va_D A (mW ad cI cZ m_thrown m_size m_outLong m_lines m_toldLines m_tokens m_places m_p m_pre m_end m_text m_out m_lineAt m_lineLong m_depth m_signed m_led m_told m_place m_begin m_tokenLong m_stemLong m_address m_letters m_stems m_s) → va_S A s.heap H locs → W p l e (headSpec wsX8_isMark ({ frames := 0, cells := 0, slots := 0, locals := 0 })).room s m ([.ref (ad 0), .int x1, .int x2] : List Value).toArray below meth c H locs 0 0 (MQ below Qc ([.ref (ad 0), .int x1, .int x2] : List Value).toArray s 0 0 A) (F0 m 0 ls [])) => key _ _ hP hD hS) ?_
  have inX8 : ∀ w ∈ wsX80, w ∈ wsX8_isMark := (fun _ h9 => List.mem_cons_of_mem _ (List.mem_append_right _ h9))
  have J27 : ∀ (H : Heap) (locs : List Loc) (ls : Array Slot), lv_has ls 4 [(0, .ref (ad 0)), (1, .int x1)] → va_P (dC, dI) vwCl (mW ad cI cZ m_thrown m_size m_outLong m_lines m_toldLines m_tokens m_places m_p m_pre m_end m_text m_out m_lineAt m_lineLong m_depth m_signed m_led m_told m_place m_begin m_tokenLong m_stemLong m_address m_letters m_stems m_s) H → va_D A (mW ad cI cZ m_thrown m_size m_outLong m_lines m_toldLines m_tokens m_places m_p m_pre m_end m_text m_out m_lineAt m_lineLong m_depth m_signed m_led m_told m_place m_begin m_tokenLong m_stemLong m_address m_letters m_stems m_s) → va_S A s.heap H locs → wjX8_isMark_27 post m_text x1 x2  → W p l e (headSpec wsX8_isMark ({ frames := 0, cells := 0, slots := 0, locals := 0 })).room s m ([.ref (ad 0), .int x1, .int x2] : List Value).toArray below meth c H locs 0 0 (MQ below Qc ([.ref (ad 0), .int x1, .int x2] : List Value).toArray s 0 0 A) (F0 m 27 ls []) := by
    intro  H locs ls hl hP hD hS h
    delta wjX8_isMark_27 at h
    refine lv_aload_n hx hb dX8_isMark_27 rfl (lv_at hl 0 rfl) ?_
    refine va_get (D := (dC, dI)) (ci := 7) (v := .ref (ad 1)) (C := RX8) (T := TX8) (N := 26) hx hb hts inX8 hown hK hP 0 rfl rfl 1 (by decide) (hts (.fieldLink RX8 7 "MailWordsModel" "text" "[I") (List.mem_of_getElem? (i := 1) rfl)) (fun _ h9 => h9) rfl dX8_isMark_28 ?_
    refine lv_iload_n hx hb dX8_isMark_31 rfl (lv_at hl 1 rfl) ?_
    have hi9 := h.1
    have h := h.2
    refine va_iald hx hb hK hP 1 0 rfl rfl hi9 dX8_isMark_32 ?_
    refine lv_bipush (v := 45) hx hb dX8_isMark_33 (by decide) ?_
    refine lv_icmp_ne (tgt := 55) hx hb dX8_isMark_35 (by decide) (fun c9 => ?_) (fun c9 => ?_)
    · have h := h.1 c9
      refine lv_iconst (v := 0) hx hb dX8_isMark_55 (by decide) ?_
      exact W.zret (v := 0) hx hb hr (bN_nar bN0) (fun t ht hW => hQ 0 () t h (by rw [ht]; exact hP) (va_K.moved hW.alike hK) hD (hS.F ht)) hS.2.2 dX8_isMark_56
    · have h := h.2 c9
      refine lv_aload_n hx hb dX8_isMark_38 rfl (lv_at hl 0 rfl) ?_
      refine va_get (D := (dC, dI)) (ci := 7) (v := .ref (ad 1)) (C := RX8) (T := TX8) (N := 26) hx hb hts inX8 hown hK hP 0 rfl rfl 1 (by decide) (hts (.fieldLink RX8 7 "MailWordsModel" "text" "[I") (List.mem_of_getElem? (i := 1) rfl)) (fun _ h9 => h9) rfl dX8_isMark_39 ?_
      refine lv_iload_n hx hb dX8_isMark_42 rfl (lv_at hl 1 rfl) ?_
      refine lv_iconst (v := 1) hx hb dX8_isMark_43 (by decide) ?_
      refine lv_iadd hx hb dX8_isMark_44 ?_
      have hi9 := h.1
      have h := h.2
      refine va_iald hx hb hK hP 1 0 rfl rfl hi9 dX8_isMark_45 ?_
      refine lv_bipush (v := 45) hx hb dX8_isMark_46 (by decide) ?_
      refine lv_icmp_ne (tgt := 55) hx hb dX8_isMark_48 (by decide) (fun c9 => ?_) (fun c9 => ?_)
      · have h := h.1 c9
        refine lv_iconst (v := 0) hx hb dX8_isMark_55 (by decide) ?_
        exact W.zret (v := 0) hx hb hr (bN_nar bN0) (fun t ht hW => hQ 0 () t h (by rw [ht]; exact hP) (va_K.moved hW.alike hK) hD (hS.F ht)) hS.2.2 dX8_isMark_56
      · have h := h.2 c9
        refine lv_iconst (v := 1) hx hb dX8_isMark_51 (by decide) ?_
        refine lv_goto (tgt := 56) hx hb dX8_isMark_52 (by decide) ?_
        exact W.zret (v := 1) hx hb hr (bN_nar bN1) (fun t ht hW => hQ 1 () t h (by rw [ht]; exact hP) (va_K.moved hW.alike hK) hD (hS.F ht)) hS.2.2 dX8_isMark_56
  intro H locs hP hD hS
  delta wpX8_isMark at h
  refine lv_iload_n hx hb dX8_isMark_0 rfl (lv_at hl 2 rfl) ?_
  refine lv_iload_n hx hb dX8_isMark_1 rfl (lv_at hl 1 rfl) ?_
  refine lv_isub hx hb dX8_isMark_2 ?_
  refine lv_topi (fun x3_1 ex3_1 => ?_)
  have h := h x3_1 ex3_1
  refine lv_istore_n (lv' := [(3, .int x3_1), (0, .ref (ad 0)), (1, .int x1), (2, .int x2)]) hx hb dX8_isMark_3 rfl hl (by decide) rfl (fun ls hl => ?_)
  refine lv_iload_n hx hb dX8_isMark_4 rfl (lv_at hl 0 rfl) ?_
  refine lv_iconst (v := 2) hx hb dX8_isMark_5 (by decide) ?_
  refine lv_icmp_eq (tgt := 27) hx hb dX8_isMark_6 (by decide) (fun c9 => ?_) (fun c9 => ?_)
  · have h := h.1 c9
    exact J27  H locs ls (lv_sub hl [1, 2] rfl) hP hD hS h
  · have h := h.2 c9
    refine lv_iload_n hx hb dX8_isMark_9 rfl (lv_at hl 0 rfl) ?_
    refine lv_iconst (v := 3) hx hb dX8_isMark_10 (by decide) ?_
    refine lv_icmp_ne (tgt := 55) hx hb dX8_isMark_11 (by decide) (fun c9 => ?_) (fun c9 => ?_)
    · have h := h.1 c9
      refine lv_iconst (v := 0) hx hb dX8_isMark_55 (by decide) ?_
      exact W.zret (v := 0) hx hb hr (bN_nar bN0) (fun t ht hW => hQ 0 () t h (by rw [ht]; exact hP) (va_K.moved hW.alike hK) hD (hS.F ht)) hS.2.2 dX8_isMark_56
    · have h := h.2 c9
      refine lv_aload_n hx hb dX8_isMark_14 rfl (lv_at hl 1 rfl) ?_
      refine va_get (D := (dC, dI)) (ci := 7) (v := .ref (ad 1)) (C := RX8) (T := TX8) (N := 26) hx hb hts inX8 hown hK hP 0 rfl rfl 1 (by decide) (hts (.fieldLink RX8 7 "MailWordsModel" "text" "[I") (List.mem_of_getElem? (i := 1) rfl)) (fun _ h9 => h9) rfl dX8_isMark_15 ?_
      refine lv_iload_n hx hb dX8_isMark_18 rfl (lv_at hl 2 rfl) ?_
      refine lv_iconst (v := 2) hx hb dX8_isMark_19 (by decide) ?_
      refine lv_iadd hx hb dX8_isMark_20 ?_
      have hi9 := h.1
      have h := h.2
      refine va_iald hx hb hK hP 1 0 rfl rfl hi9 dX8_isMark_21 ?_
      refine lv_bipush (v := 32) hx hb dX8_isMark_22 (by decide) ?_
      refine lv_icmp_ne (tgt := 55) hx hb dX8_isMark_24 (by decide) (fun c9 => ?_) (fun c9 => ?_)
      · have h := h.1 c9
        refine lv_iconst (v := 0) hx hb dX8_isMark_55 (by decide) ?_
        exact W.zret (v := 0) hx hb hr (bN_nar bN0) (fun t ht hW => hQ 0 () t h (by rw [ht]; exact hP) (va_K.moved hW.alike hK) hD (hS.F ht)) hS.2.2 dX8_isMark_56
      · have h := h.2 c9
        exact J27  H locs ls (lv_sub hl [1, 2] rfl) hP hD hS h
set_option maxHeartbeats 4000000 in
set_option maxRecDepth 100000 in
theorem sX8_hasWord (l : Launch) (dC : Nat → ClassId) (dI : Nat → Nat → Nat) (ad : Nat → Nat) (cI cZ : ClassId) (sa sv : Nat → Nat) (m_thrown : Int32) (m_size : Int32) (m_outLong : Int32) (m_lines : Int32) (m_toldLines : Int32) (m_tokens : Int32) (m_places : Int32) (m_p : Int32) (m_pre : Int32) (m_end : Int32) (m_text : Nat → Int32) (m_out : Nat → Int32) (m_lineAt : Nat → Int32) (m_lineLong : Nat → Int32) (m_depth : Nat → Int32) (m_signed : Nat → Int32) (m_led : Nat → Int32) (m_told : Nat → Int32) (m_place : Nat → Int32) (m_begin : Nat → Int32) (m_tokenLong : Nat → Int32) (m_stemLong : Nat → Int32) (m_address : Nat → Int32) (m_letters : Nat → Int32) (m_stems : Nat → Int32) (m_s : Nat → Int32) (x1 : Int32) (x2 : Int32) (x3 : Int64) {post : Int32 → Prop} (h : wpX8_hasWord post m_size m_text x1 x2 x3) : xMi l (dC, dI) vwCl [(cI, .int), (cZ, .boolean)] (sI sa sv) yX8_hasWord wsX8_hasWord ({ frames := 3, cells := 0, slots := 0, locals := 69 }) (mW ad cI cZ m_thrown m_size m_outLong m_lines m_toldLines m_tokens m_places m_p m_pre m_end m_text m_out m_lineAt m_lineLong m_depth m_signed m_led m_told m_place m_begin m_tokenLong m_stemLong m_address m_letters m_stems m_s) [.ref (ad 0), .int x1, .int x2, .long x3] (fun (r : Int32) (u : Unit) => post r ) (fun u : Unit => (mW ad cI cZ m_thrown m_size m_outLong m_lines m_toldLines m_tokens m_places m_p m_pre m_end m_text m_out m_lineAt m_lineLong m_depth m_signed m_led m_told m_place m_begin m_tokenLong m_stemLong m_address m_letters m_stems m_s)) := by
  intro sz
  refine Met.ofW (cc := cX8_hasWord) (maxL := 8) (ret := (some .boolean)) (by decide) rfl ?_
  intro p e s m args below meth c s₁ B hml hv
  obtain ⟨rfl, hsz, hP, hK, hD0, hI⟩ := hv
  have hx := B.exec
  have hb := B.bytes
  have hr := B.returns
  have hts := atoms_spec (ws := wsX8_hasWord) B.pre
  have hown : s.vm.findClass RX8 = some m.cls := findClass_of_methodNamed B.named
  have hlocks := B.notSynchronized
  subst hsz
  have hD := hD0.self (sz := s.heap.size)
  generalize hAe : va_A (mW ad cI cZ m_thrown m_size m_outLong m_lines m_toldLines m_tokens m_places m_p m_pre m_end m_text m_out m_lineAt m_lineLong m_depth m_signed m_led m_told m_place m_begin m_tokenLong m_stemLong m_address m_letters m_stems m_s) s.heap.size = A at hD hI ⊢
  have hA : ∀ q : Nat, s.heap.size ≤ q → A q := fun q h => by rw [← hAe]; exact Or.inr h
  have hS : va_S A s.heap s.heap [] := va_S.rf
  have Fx : CallFix p m c cX8_hasWord 8 s ([.ref (ad 0), .int x1, .int x2, .long x3] : List Value).toArray wsX8_hasWord RX8 := ⟨hx, hb, hml, hown, hts⟩
  have hQ : ∀ (r : Int32) (u : Unit) (t : State), (fun (r : Int32) (u : Unit) => post r ) r u → va_P (dC, dI) vwCl ((fun u : Unit => (mW ad cI cZ m_thrown m_size m_outLong m_lines m_toldLines m_tokens m_places m_p m_pre m_end m_text m_out m_lineAt m_lineLong m_depth m_signed m_led m_told m_place m_begin m_tokenLong m_stemLong m_address m_letters m_stems m_s)) u) t.heap → va_K (dC, dI) vwCl [(cI, .int), (cZ, .boolean)] t → va_D A ((fun u : Unit => (mW ad cI cZ m_thrown m_size m_outLong m_lines m_toldLines m_tokens m_places m_p m_pre m_end m_text m_out m_lineAt m_lineLong m_depth m_signed m_led m_told m_place m_begin m_tokenLong m_stemLong m_address m_letters m_stems m_s)) u) → va_F A s t → (va_Qi (fun (r : Int32) (u : Unit) => post r ) (xB (dC, dI) vwCl [(cI, .int), (cZ, .boolean)] A (fun u : Unit => (mW ad cI cZ m_thrown m_size m_outLong m_lines m_toldLines m_tokens m_places m_p m_pre m_end m_text m_out m_lineAt m_lineLong m_depth m_signed m_led m_told m_place m_begin m_tokenLong m_stemLong m_address m_letters m_stems m_s))) A) ([.ref (ad 0), .int x1, .int x2, .long x3] : List Value).toArray s (.returned (some (.int r))) t := fun r u t h1 h2 h3 h4 h5 => ⟨⟨r, u, rfl, h1, h2, h3, h4⟩, h5⟩
  generalize (va_Qi (fun (r : Int32) (u : Unit) => post r ) (xB (dC, dI) vwCl [(cI, .int), (cZ, .boolean)] A (fun u : Unit => (mW ad cI cZ m_thrown m_size m_outLong m_lines m_toldLines m_tokens m_places m_p m_pre m_end m_text m_out m_lineAt m_lineLong m_depth m_signed m_led m_told m_place m_begin m_tokenLong m_stemLong m_address m_letters m_stems m_s))) A) = Qc at hQ ⊢
  have hl := lv_entry ([.ref (ad 0), .int x1, .int x2, .long x3]) (n := 8) (Nat.le_of_ble_eq_true rfl)
  rw [lg_entry_eq]
  generalize (lg_sl ([.ref (ad 0), .int x1, .int x2, .long x3]) ++ List.replicate (8 - (lg_sl ([.ref (ad 0), .int x1, .int x2, .long x3])).length) Slot.unset).toArray = ls at hl ⊢
  have hl : lv_has ls 8 [(0, .ref (ad 0)), (1, .int x1), (2, .int x2), (3, .long x3)] := hl
  refine (fun (key : ∀ (H : Heap) (locs : List Loc), va_P (dC, dI) vwCl (mW ad cI cZ m_thrown m_size m_outLong m_lines m_toldLines m_tokens m_places m_p m_pre m_end m_text m_out m_lineAt m_lineLong m_depth m_signed m_led m_told m_place m_begin m_tokenLong m_stemLong m_address m_letters m_stems m_s) H → va_D A (mW ad cI cZ m_thrown m_size m_outLong m_lines m_toldLines m_tokens m_places m_p m_pre m_end m_text m_out m_lineAt m_lineLong m_depth m_signed m_led m_told m_place m_begin m_tokenLong m_stemLong m_address m_letters m_stems m_s) → va_S A s.heap H locs → W p l e (headSpec wsX8_hasWord ({ frames := 3, cells := 0, slots := 0, locals := 69 })).room s m ([.ref (ad 0), .int x1, .int x2, .long x3] : List Value).toArray below meth c H locs 0 0 (MQ below Qc ([.ref (ad 0), .int x1, .int x2, .long x3] : List Value).toArray s 0 0 A) (F0 m 0 ls [])) => key _ _ hP hD hS) ?_
  have inX8 : ∀ w ∈ wsX80, w ∈ wsX8_hasWord := (fun _ h9 => List.mem_cons_of_mem _ (List.mem_append_right _ h9))
  have L9 : ∀ (x5 : Int32) (n : Nat) (x6 : Int32) (H : Heap) (locs : List Loc) (ls : Array Slot), lv_has ls 8 [(0, .ref (ad 0)), (1, .int x1), (2, .int x2), (3, .long x3), (5, .int x5), (6, .int x6)] → va_P (dC, dI) vwCl (mW ad cI cZ m_thrown m_size m_outLong m_lines m_toldLines m_tokens m_places m_p m_pre m_end m_text m_out m_lineAt m_lineLong m_depth m_signed m_led m_told m_place m_begin m_tokenLong m_stemLong m_address m_letters m_stems m_s) H → va_D A (mW ad cI cZ m_thrown m_size m_outLong m_lines m_toldLines m_tokens m_places m_p m_pre m_end m_text m_out m_lineAt m_lineLong m_depth m_signed m_led m_told m_place m_begin m_tokenLong m_stemLong m_address m_letters m_stems m_s) → va_S A s.heap H locs → wlX8_hasWord_9 post m_size m_text x1 x2 x3 x5 n x6 → W p l e (headSpec wsX8_hasWord ({ frames := 3, cells := 0, slots := 0, locals := 69 })).room s m ([.ref (ad 0), .int x1, .int x2, .long x3] : List Value).toArray below meth c H locs 0 0 (MQ below Qc ([.ref (ad 0), .int x1, .int x2, .long x3] : List Value).toArray s 0 0 A) (F0 m 9 ls []) := by
    intro x5
    intro n
    induction n with
    | zero => intro x6 H locs ls _ _ _ _ h; exact absurd h (fun z => z)
    | succ n9 ih9 =>
      intro x6 H locs ls hl hP hD hS h
      have J89 : ∀ (x6 : Int32) (H : Heap) (locs : List Loc) (ls : Array Slot), lv_has ls 8 [(0, .ref (ad 0)), (1, .int x1), (2, .int x2), (3, .long x3), (5, .int x5), (6, .int x6)] → va_P (dC, dI) vwCl (mW ad cI cZ m_thrown m_size m_outLong m_lines m_toldLines m_tokens m_places m_p m_pre m_end m_text m_out m_lineAt m_lineLong m_depth m_signed m_led m_told m_place m_begin m_tokenLong m_stemLong m_address m_letters m_stems m_s) H → va_D A (mW ad cI cZ m_thrown m_size m_outLong m_lines m_toldLines m_tokens m_places m_p m_pre m_end m_text m_out m_lineAt m_lineLong m_depth m_signed m_led m_told m_place m_begin m_tokenLong m_stemLong m_address m_letters m_stems m_s) → va_S A s.heap H locs → wjX8_hasWord_89 (fun x6 => wlX8_hasWord_9 post m_size m_text x1 x2 x3 x5 n9 x6) post m_size m_text x1 x2 x3 x5 x6 → W p l e (headSpec wsX8_hasWord ({ frames := 3, cells := 0, slots := 0, locals := 69 })).room s m ([.ref (ad 0), .int x1, .int x2, .long x3] : List Value).toArray below meth c H locs 0 0 (MQ below Qc ([.ref (ad 0), .int x1, .int x2, .long x3] : List Value).toArray s 0 0 A) (F0 m 89 ls []) := by
        intro x6 H locs ls hl hP hD hS h
        delta wjX8_hasWord_89 at h
        obtain ⟨x6_1, ex6_1⟩ : ∃ y : Int32, y = x6 + 1 := ⟨_, rfl⟩
        have h := h x6_1 ex6_1
        refine lv_iinc (v := x6_1) (lv' := [(6, .int x6_1), (0, .ref (ad 0)), (1, .int x1), (2, .int x2), (3, .long x3), (5, .int x5)]) hx hb dX8_hasWord_89 hl (k := 5) rfl (by rw [ex6_1]; rfl) (by decide) rfl (fun ls hl => ?_)
        refine lv_goto (tgt := 9) hx hb dX8_hasWord_92 (by decide) ?_
        exact ih9 x6_1 H locs ls (lv_sub hl [1, 2, 3, 4, 5, 0] rfl) hP hD hS h
      have J69 : ∀ (x6 : Int32) (s0 : Int32) (H : Heap) (locs : List Loc) (ls : Array Slot), lv_has ls 8 [(0, .ref (ad 0)), (1, .int x1), (2, .int x2), (3, .long x3), (5, .int x5), (6, .int x6)] → va_P (dC, dI) vwCl (mW ad cI cZ m_thrown m_size m_outLong m_lines m_toldLines m_tokens m_places m_p m_pre m_end m_text m_out m_lineAt m_lineLong m_depth m_signed m_led m_told m_place m_begin m_tokenLong m_stemLong m_address m_letters m_stems m_s) H → va_D A (mW ad cI cZ m_thrown m_size m_outLong m_lines m_toldLines m_tokens m_places m_p m_pre m_end m_text m_out m_lineAt m_lineLong m_depth m_signed m_led m_told m_place m_begin m_tokenLong m_stemLong m_address m_letters m_stems m_s) → va_S A s.heap H locs → wjX8_hasWord_69 (fun x6 => wlX8_hasWord_9 post m_size m_text x1 x2 x3 x5 n9 x6) post m_size m_text x1 x2 x3 x5 x6 s0 → W p l e (headSpec wsX8_hasWord ({ frames := 3, cells := 0, slots := 0, locals := 69 })).room s m ([.ref (ad 0), .int x1, .int x2, .long x3] : List Value).toArray below meth c H locs 0 0 (MQ below Qc ([.ref (ad 0), .int x1, .int x2, .long x3] : List Value).toArray s 0 0 A) (F0 m 69 ls [.int s0]) := by
        intro x6 s0 H locs ls hl hP hD hS h
        delta wjX8_hasWord_69 at h
        refine lv_istore (lv' := [(7, .int s0), (0, .ref (ad 0)), (1, .int x1), (2, .int x2), (3, .long x3), (5, .int x5), (6, .int x6)]) hx hb dX8_hasWord_69 hl (by decide) rfl (fun ls hl => ?_)
        refine lv_iload hx hb dX8_hasWord_71 (lv_at hl 0 rfl) ?_
        refine lv_if_eq (tgt := 89) hx hb dX8_hasWord_73 (by decide) (fun c9 => ?_) (fun c9 => ?_)
        · have h := h.1 c9
          exact J89 x6 H locs ls (lv_sub hl [1, 2, 3, 4, 5, 6] rfl) hP hD hS h
        · have h := h.2 c9
          refine lv_aload_n hx hb dX8_hasWord_76 rfl (lv_at hl 1 rfl) ?_
          refine lv_iload hx hb dX8_hasWord_77 (lv_at hl 6 rfl) ?_
          refine lv_lload_n hx hb dX8_hasWord_79 rfl (lv_at hl 4 rfl) ?_
          refine lv_iconst (v := 0) hx hb dX8_hasWord_80 (by decide) ?_
          refine xc_vi (As := [.int x6, .long x3, .int 0]) (rest := []) xG Fx (sX8_stands l dC dI ad cI cZ sa sv m_thrown m_size m_outLong m_lines m_toldLines m_tokens m_places m_p m_pre m_end m_text m_out m_lineAt m_lineLong m_depth m_signed m_led m_told m_place m_begin m_tokenLong m_stemLong m_address m_letters m_stems m_s x6 x3 0 h) (cwV 3 hts gX8_hasWord_X8_stands rfl rfl rfl hdX8_stands ⟨Nat.le_of_ble_eq_true rfl, Nat.le_of_ble_eq_true rfl⟩) (va_recv hK hP (ci := 7) (q0 := 0) rfl rfl) hK hP hD hS hA hI rfl hl.1 rfl (Nat.le_of_ble_eq_true rfl) dX8_hasWord_81 ⟨Nat.zero_le _, Nat.zero_le _⟩ (fun r_2 u H locs h hP hD hS => ?_)
          refine lv_if_eq (tgt := 89) hx hb dX8_hasWord_84 (by decide) (fun c9 => ?_) (fun c9 => ?_)
          · have h := h.1 c9
            exact J89 x6 H locs ls (lv_sub hl [1, 2, 3, 4, 5, 6] rfl) hP hD hS h
          · have h := h.2 c9
            refine lv_iconst (v := 1) hx hb dX8_hasWord_87 (by decide) ?_
            exact W.zret (v := 1) hx hb hr (bN_nar bN1) (fun t ht hW => hQ 1 () t h (by rw [ht]; exact hP) (va_K.moved hW.alike hK) hD (hS.F ht)) hS.2.2 dX8_hasWord_88
      have J68 : ∀ (x6 : Int32) (H : Heap) (locs : List Loc) (ls : Array Slot), lv_has ls 8 [(0, .ref (ad 0)), (1, .int x1), (2, .int x2), (3, .long x3), (5, .int x5), (6, .int x6)] → va_P (dC, dI) vwCl (mW ad cI cZ m_thrown m_size m_outLong m_lines m_toldLines m_tokens m_places m_p m_pre m_end m_text m_out m_lineAt m_lineLong m_depth m_signed m_led m_told m_place m_begin m_tokenLong m_stemLong m_address m_letters m_stems m_s) H → va_D A (mW ad cI cZ m_thrown m_size m_outLong m_lines m_toldLines m_tokens m_places m_p m_pre m_end m_text m_out m_lineAt m_lineLong m_depth m_signed m_led m_told m_place m_begin m_tokenLong m_stemLong m_address m_letters m_stems m_s) → va_S A s.heap H locs → wjX8_hasWord_68 (fun x6 => wlX8_hasWord_9 post m_size m_text x1 x2 x3 x5 n9 x6) post m_size m_text x1 x2 x3 x5 x6 → W p l e (headSpec wsX8_hasWord ({ frames := 3, cells := 0, slots := 0, locals := 69 })).room s m ([.ref (ad 0), .int x1, .int x2, .long x3] : List Value).toArray below meth c H locs 0 0 (MQ below Qc ([.ref (ad 0), .int x1, .int x2, .long x3] : List Value).toArray s 0 0 A) (F0 m 68 ls []) := by
        intro x6 H locs ls hl hP hD hS h
        delta wjX8_hasWord_68 at h
        refine lv_iconst (v := 0) hx hb dX8_hasWord_68 (by decide) ?_
        exact J69 x6 0 H locs ls (lv_sub hl [0, 1, 2, 3, 4, 5] rfl) hP hD hS h
      have J64 : ∀ (x6 : Int32) (H : Heap) (locs : List Loc) (ls : Array Slot), lv_has ls 8 [(0, .ref (ad 0)), (1, .int x1), (2, .int x2), (3, .long x3), (5, .int x5), (6, .int x6)] → va_P (dC, dI) vwCl (mW ad cI cZ m_thrown m_size m_outLong m_lines m_toldLines m_tokens m_places m_p m_pre m_end m_text m_out m_lineAt m_lineLong m_depth m_signed m_led m_told m_place m_begin m_tokenLong m_stemLong m_address m_letters m_stems m_s) H → va_D A (mW ad cI cZ m_thrown m_size m_outLong m_lines m_toldLines m_tokens m_places m_p m_pre m_end m_text m_out m_lineAt m_lineLong m_depth m_signed m_led m_told m_place m_begin m_tokenLong m_stemLong m_address m_letters m_stems m_s) → va_S A s.heap H locs → wjX8_hasWord_64 (fun x6 => wlX8_hasWord_9 post m_size m_text x1 x2 x3 x5 n9 x6) post m_size m_text x1 x2 x3 x5 x6 → W p l e (headSpec wsX8_hasWord ({ frames := 3, cells := 0, slots := 0, locals := 69 })).room s m ([.ref (ad 0), .int x1, .int x2, .long x3] : List Value).toArray below meth c H locs 0 0 (MQ below Qc ([.ref (ad 0), .int x1, .int x2, .long x3] : List Value).toArray s 0 0 A) (F0 m 64 ls []) := by
        intro x6 H locs ls hl hP hD hS h
        delta wjX8_hasWord_64 at h
        refine lv_iconst (v := 1) hx hb dX8_hasWord_64 (by decide) ?_
        refine lv_goto (tgt := 69) hx hb dX8_hasWord_65 (by decide) ?_
        exact J69 x6 1 H locs ls (lv_sub hl [0, 1, 2, 3, 4, 5] rfl) hP hD hS h
      have J39 : ∀ (x6 : Int32) (H : Heap) (locs : List Loc) (ls : Array Slot), lv_has ls 8 [(0, .ref (ad 0)), (1, .int x1), (2, .int x2), (3, .long x3), (5, .int x5), (6, .int x6)] → va_P (dC, dI) vwCl (mW ad cI cZ m_thrown m_size m_outLong m_lines m_toldLines m_tokens m_places m_p m_pre m_end m_text m_out m_lineAt m_lineLong m_depth m_signed m_led m_told m_place m_begin m_tokenLong m_stemLong m_address m_letters m_stems m_s) H → va_D A (mW ad cI cZ m_thrown m_size m_outLong m_lines m_toldLines m_tokens m_places m_p m_pre m_end m_text m_out m_lineAt m_lineLong m_depth m_signed m_led m_told m_place m_begin m_tokenLong m_stemLong m_address m_letters m_stems m_s) → va_S A s.heap H locs → wjX8_hasWord_39 (fun x6 => wlX8_hasWord_9 post m_size m_text x1 x2 x3 x5 n9 x6) post m_size m_text x1 x2 x3 x5 x6 → W p l e (headSpec wsX8_hasWord ({ frames := 3, cells := 0, slots := 0, locals := 69 })).room s m ([.ref (ad 0), .int x1, .int x2, .long x3] : List Value).toArray below meth c H locs 0 0 (MQ below Qc ([.ref (ad 0), .int x1, .int x2, .long x3] : List Value).toArray s 0 0 A) (F0 m 39 ls []) := by
        intro x6 H locs ls hl hP hD hS h
        delta wjX8_hasWord_39 at h
        refine lv_iload hx hb dX8_hasWord_39 (lv_at hl 5 rfl) ?_
        refine lv_iload hx hb dX8_hasWord_41 (lv_at hl 4 rfl) ?_
        refine lv_iadd hx hb dX8_hasWord_43 ?_
        refine lv_iload_n hx hb dX8_hasWord_44 rfl (lv_at hl 2 rfl) ?_
        refine lv_icmp_eq (tgt := 64) hx hb dX8_hasWord_45 (by decide) (fun c9 => ?_) (fun c9 => ?_)
        · have h := h.1 c9
          exact J64 x6 H locs ls (lv_sub hl [0, 1, 2, 3, 4, 5] rfl) hP hD hS h
        · have h := h.2 c9
          refine lv_aload_n hx hb dX8_hasWord_48 rfl (lv_at hl 0 rfl) ?_
          refine va_get (D := (dC, dI)) (ci := 7) (v := .ref (ad 1)) (C := RX8) (T := TX8) (N := 26) hx hb hts inX8 hown hK hP 0 rfl rfl 1 (by decide) (hts (.fieldLink RX8 7 "MailWordsModel" "text" "[I") (List.mem_of_getElem? (i := 1) rfl)) (fun _ h9 => h9) rfl dX8_hasWord_49 ?_
          refine lv_iload hx hb dX8_hasWord_52 (lv_at hl 5 rfl) ?_
          refine lv_iload hx hb dX8_hasWord_54 (lv_at hl 4 rfl) ?_
          refine lv_iadd hx hb dX8_hasWord_56 ?_
          have hi9 := h.1
          have h := h.2
          refine va_iald hx hb hK hP 1 0 rfl rfl hi9 dX8_hasWord_57 ?_
          refine xc_si (As := [.int (m_text ((x6 + x5) : Int32).toNatClampNeg)]) (rest := []) xG Fx (sX8_isWord l dC dI ad cI cZ sa sv m_thrown m_size m_outLong m_lines m_toldLines m_tokens m_places m_p m_pre m_end m_text m_out m_lineAt m_lineLong m_depth m_signed m_led m_told m_place m_begin m_tokenLong m_stemLong m_address m_letters m_stems m_s (m_text ((x6 + x5) : Int32).toNatClampNeg) h) (va_cwS 1 hts gX8_hasWord_X8_isWord rfl rfl rfl hdX8_isWord ⟨Nat.le_of_ble_eq_true rfl, Nat.le_of_ble_eq_true rfl⟩) hK hP hD hS hA hI rfl hl.1 rfl (Nat.le_of_ble_eq_true rfl) dX8_hasWord_58 ⟨Nat.zero_le _, Nat.zero_le _⟩ (fun r_3 u H locs h hP hD hS => ?_)
          refine lv_if_ne (tgt := 68) hx hb dX8_hasWord_61 (by decide) (fun c9 => ?_) (fun c9 => ?_)
          · have h := h.1 c9
            exact J68 x6 H locs ls (lv_sub hl [0, 1, 2, 3, 4, 5] rfl) hP hD hS h
          · have h := h.2 c9
            exact J64 x6 H locs ls (lv_sub hl [0, 1, 2, 3, 4, 5] rfl) hP hD hS h
      rw [wlX8_hasWord_9] at h
      refine lv_iload hx hb dX8_hasWord_9 (lv_at hl 5 rfl) ?_
      refine lv_iload hx hb dX8_hasWord_11 (lv_at hl 4 rfl) ?_
      refine lv_iadd hx hb dX8_hasWord_13 ?_
      refine lv_iload_n hx hb dX8_hasWord_14 rfl (lv_at hl 2 rfl) ?_
      refine lv_icmp_gt (tgt := 95) hx hb dX8_hasWord_15 (by decide) (fun c9 => ?_) (fun c9 => ?_)
      · have h := h.1 c9
        refine lv_iconst (v := 0) hx hb dX8_hasWord_95 (by decide) ?_
        exact W.zret (v := 0) hx hb hr (bN_nar bN0) (fun t ht hW => hQ 0 () t h (by rw [ht]; exact hP) (va_K.moved hW.alike hK) hD (hS.F ht)) hS.2.2 dX8_hasWord_96
      · have h := h.2 c9
        refine lv_iload hx hb dX8_hasWord_18 (lv_at hl 5 rfl) ?_
        refine lv_iload_n hx hb dX8_hasWord_20 rfl (lv_at hl 1 rfl) ?_
        refine lv_icmp_eq (tgt := 39) hx hb dX8_hasWord_21 (by decide) (fun c9 => ?_) (fun c9 => ?_)
        · have h := h.1 c9
          exact J39 x6 H locs ls (lv_sub hl [0, 1, 2, 3, 4, 5] rfl) hP hD hS h
        · have h := h.2 c9
          refine lv_aload_n hx hb dX8_hasWord_24 rfl (lv_at hl 0 rfl) ?_
          refine va_get (D := (dC, dI)) (ci := 7) (v := .ref (ad 1)) (C := RX8) (T := TX8) (N := 26) hx hb hts inX8 hown hK hP 0 rfl rfl 1 (by decide) (hts (.fieldLink RX8 7 "MailWordsModel" "text" "[I") (List.mem_of_getElem? (i := 1) rfl)) (fun _ h9 => h9) rfl dX8_hasWord_25 ?_
          refine lv_iload hx hb dX8_hasWord_28 (lv_at hl 5 rfl) ?_
          refine lv_iconst (v := 1) hx hb dX8_hasWord_30 (by decide) ?_
          refine lv_isub hx hb dX8_hasWord_31 ?_
          have hi9 := h.1
          have h := h.2
          refine va_iald hx hb hK hP 1 0 rfl rfl hi9 dX8_hasWord_32 ?_
          refine xc_si (As := [.int (m_text ((x6 - 1) : Int32).toNatClampNeg)]) (rest := []) xG Fx (sX8_isWord l dC dI ad cI cZ sa sv m_thrown m_size m_outLong m_lines m_toldLines m_tokens m_places m_p m_pre m_end m_text m_out m_lineAt m_lineLong m_depth m_signed m_led m_told m_place m_begin m_tokenLong m_stemLong m_address m_letters m_stems m_s (m_text ((x6 - 1) : Int32).toNatClampNeg) h) (va_cwS 1 hts gX8_hasWord_X8_isWord rfl rfl rfl hdX8_isWord ⟨Nat.le_of_ble_eq_true rfl, Nat.le_of_ble_eq_true rfl⟩) hK hP hD hS hA hI rfl hl.1 rfl (Nat.le_of_ble_eq_true rfl) dX8_hasWord_33 ⟨Nat.zero_le _, Nat.zero_le _⟩ (fun r_4 u H locs h hP hD hS => ?_)
          refine lv_if_ne (tgt := 68) hx hb dX8_hasWord_36 (by decide) (fun c9 => ?_) (fun c9 => ?_)
          · have h := h.1 c9
            exact J68 x6 H locs ls (lv_sub hl [0, 1, 2, 3, 4, 5] rfl) hP hD hS h
          · have h := h.2 c9
            exact J39 x6 H locs ls (lv_sub hl [0, 1, 2, 3, 4, 5] rfl) hP hD hS h
  intro H locs hP hD hS
  delta wpX8_hasWord at h
  refine lv_lload_n hx hb dX8_hasWord_0 rfl (lv_at hl 3 rfl) ?_
  refine xc_si (As := [.long x3]) (rest := []) xG Fx (sX8_lengthOf l dC dI ad cI cZ sa sv m_thrown m_size m_outLong m_lines m_toldLines m_tokens m_places m_p m_pre m_end m_text m_out m_lineAt m_lineLong m_depth m_signed m_led m_told m_place m_begin m_tokenLong m_stemLong m_address m_letters m_stems m_s x3 h) (va_cwS 1 hts gX8_hasWord_X8_lengthOf rfl rfl rfl hdX8_lengthOf ⟨Nat.le_of_ble_eq_true rfl, Nat.le_of_ble_eq_true rfl⟩) hK hP hD hS hA hI rfl hl.1 rfl (Nat.le_of_ble_eq_true rfl) dX8_hasWord_1 ⟨Nat.zero_le _, Nat.zero_le _⟩ (fun r_5 u H locs h hP hD hS => ?_)
  refine lv_istore (lv' := [(5, .int r_5), (0, .ref (ad 0)), (1, .int x1), (2, .int x2), (3, .long x3)]) hx hb dX8_hasWord_4 hl (by decide) rfl (fun ls hl => ?_)
  refine lv_iload_n hx hb dX8_hasWord_6 rfl (lv_at hl 2 rfl) ?_
  refine lv_istore (lv' := [(6, .int x1), (5, .int r_5), (0, .ref (ad 0)), (1, .int x1), (2, .int x2), (3, .long x3)]) hx hb dX8_hasWord_7 hl (by decide) rfl (fun ls hl => ?_)
  obtain ⟨n, h⟩ := h
  exact L9 r_5 n x1 H locs ls (lv_sub hl [2, 3, 4, 5, 1, 0] rfl) hP hD hS h
set_option maxHeartbeats 4000000 in
set_option maxRecDepth 100000 in
theorem sX8_leads (l : Launch) (dC : Nat → ClassId) (dI : Nat → Nat → Nat) (ad : Nat → Nat) (cI cZ : ClassId) (sa sv : Nat → Nat) (m_thrown : Int32) (m_size : Int32) (m_outLong : Int32) (m_lines : Int32) (m_toldLines : Int32) (m_tokens : Int32) (m_places : Int32) (m_p : Int32) (m_pre : Int32) (m_end : Int32) (m_text : Nat → Int32) (m_out : Nat → Int32) (m_lineAt : Nat → Int32) (m_lineLong : Nat → Int32) (m_depth : Nat → Int32) (m_signed : Nat → Int32) (m_led : Nat → Int32) (m_told : Nat → Int32) (m_place : Nat → Int32) (m_begin : Nat → Int32) (m_tokenLong : Nat → Int32) (m_stemLong : Nat → Int32) (m_address : Nat → Int32) (m_letters : Nat → Int32) (m_stems : Nat → Int32) (m_s : Nat → Int32) (x1 : Int32) (x2 : Int32) {post : Int32 → Prop} (h : wpX8_leads post m_size m_text x1 x2) : xMi l (dC, dI) vwCl [(cI, .int), (cZ, .boolean)] (sI sa sv) yX8_leads wsX8_leads ({ frames := 4, cells := 0, slots := 0, locals := 96 }) (mW ad cI cZ m_thrown m_size m_outLong m_lines m_toldLines m_tokens m_places m_p m_pre m_end m_text m_out m_lineAt m_lineLong m_depth m_signed m_led m_told m_place m_begin m_tokenLong m_stemLong m_address m_letters m_stems m_s) [.ref (ad 0), .int x1, .int x2] (fun (r : Int32) (u : Unit) => post r ) (fun u : Unit => (mW ad cI cZ m_thrown m_size m_outLong m_lines m_toldLines m_tokens m_places m_p m_pre m_end m_text m_out m_lineAt m_lineLong m_depth m_signed m_led m_told m_place m_begin m_tokenLong m_stemLong m_address m_letters m_stems m_s)) := by
  intro sz
  refine Met.ofW (cc := cX8_leads) (maxL := 4) (ret := (some .boolean)) (by decide) rfl ?_
  intro p e s m args below meth c s₁ B hml hv
  obtain ⟨rfl, hsz, hP, hK, hD0, hI⟩ := hv
  have hx := B.exec
  have hb := B.bytes
  have hr := B.returns
  have hts := atoms_spec (ws := wsX8_leads) B.pre
  have hown : s.vm.findClass RX8 = some m.cls := findClass_of_methodNamed B.named
  have hlocks := B.notSynchronized
  subst hsz
  have hD := hD0.self (sz := s.heap.size)
  generalize hAe : va_A (mW ad cI cZ m_thrown m_size m_outLong m_lines m_toldLines m_tokens m_places m_p m_pre m_end m_text m_out m_lineAt m_lineLong m_depth m_signed m_led m_told m_place m_begin m_tokenLong m_stemLong m_address m_letters m_stems m_s) s.heap.size = A at hD hI ⊢
  have hA : ∀ q : Nat, s.heap.size ≤ q → A q := fun q h => by rw [← hAe]; exact Or.inr h
  have hS : va_S A s.heap s.heap [] := va_S.rf
  have Fx : CallFix p m c cX8_leads 4 s ([.ref (ad 0), .int x1, .int x2] : List Value).toArray wsX8_leads RX8 := ⟨hx, hb, hml, hown, hts⟩
  have hQ : ∀ (r : Int32) (u : Unit) (t : State), (fun (r : Int32) (u : Unit) => post r ) r u → va_P (dC, dI) vwCl ((fun u : Unit => (mW ad cI cZ m_thrown m_size m_outLong m_lines m_toldLines m_tokens m_places m_p m_pre m_end m_text m_out m_lineAt m_lineLong m_depth m_signed m_led m_told m_place m_begin m_tokenLong m_stemLong m_address m_letters m_stems m_s)) u) t.heap → va_K (dC, dI) vwCl [(cI, .int), (cZ, .boolean)] t → va_D A ((fun u : Unit => (mW ad cI cZ m_thrown m_size m_outLong m_lines m_toldLines m_tokens m_places m_p m_pre m_end m_text m_out m_lineAt m_lineLong m_depth m_signed m_led m_told m_place m_begin m_tokenLong m_stemLong m_address m_letters m_stems m_s)) u) → va_F A s t → (va_Qi (fun (r : Int32) (u : Unit) => post r ) (xB (dC, dI) vwCl [(cI, .int), (cZ, .boolean)] A (fun u : Unit => (mW ad cI cZ m_thrown m_size m_outLong m_lines m_toldLines m_tokens m_places m_p m_pre m_end m_text m_out m_lineAt m_lineLong m_depth m_signed m_led m_told m_place m_begin m_tokenLong m_stemLong m_address m_letters m_stems m_s))) A) ([.ref (ad 0), .int x1, .int x2] : List Value).toArray s (.returned (some (.int r))) t := fun r u t h1 h2 h3 h4 h5 => ⟨⟨r, u, rfl, h1, h2, h3, h4⟩, h5⟩
  generalize (va_Qi (fun (r : Int32) (u : Unit) => post r ) (xB (dC, dI) vwCl [(cI, .int), (cZ, .boolean)] A (fun u : Unit => (mW ad cI cZ m_thrown m_size m_outLong m_lines m_toldLines m_tokens m_places m_p m_pre m_end m_text m_out m_lineAt m_lineLong m_depth m_signed m_led m_told m_place m_begin m_tokenLong m_stemLong m_address m_letters m_stems m_s))) A) = Qc at hQ ⊢
  have hl := lv_entry ([.ref (ad 0), .int x1, .int x2]) (n := 4) (Nat.le_of_ble_eq_true rfl)
  rw [lg_entry_eq]
  generalize (lg_sl ([.ref (ad 0), .int x1, .int x2]) ++ List.replicate (4 - (lg_sl ([.ref (ad 0), .int x1, .int x2])).length) Slot.unset).toArray = ls at hl ⊢
  have hl : lv_has ls 4 [(0, .ref (ad 0)), (1, .int x1), (2, .int x2)] := hl
  refine (fun (key : ∀ (H : Heap) (locs : List Loc), va_P (dC, dI) vwCl (mW ad cI cZ m_thrown m_size m_outLong m_lines m_toldLines m_tokens m_places m_p m_pre m_end m_text m_out m_lineAt m_lineLong m_depth m_signed m_led m_told m_place m_begin m_tokenLong m_stemLong m_address m_letters m_stems m_s) H → va_D A (mW ad cI cZ m_thrown m_size m_outLong m_lines m_toldLines m_tokens m_places m_p m_pre m_end m_text m_out m_lineAt m_lineLong m_depth m_signed m_led m_told m_place m_begin m_tokenLong m_stemLong m_address m_letters m_stems m_s) → va_S A s.heap H locs → W p l e (headSpec wsX8_leads ({ frames := 4, cells := 0, slots := 0, locals := 96 })).room s m ([.ref (ad 0), .int x1, .int x2] : List Value).toArray below meth c H locs 0 0 (MQ below Qc ([.ref (ad 0), .int x1, .int x2] : List Value).toArray s 0 0 A) (F0 m 0 ls [])) => key _ _ hP hD hS) ?_
  have inX8 : ∀ w ∈ wsX80, w ∈ wsX8_leads := (fun _ h9 => List.mem_cons_of_mem _ (List.mem_append_right _ h9))
  have L22 : ∀ (n : Nat) (x3 : Int32) (H : Heap) (locs : List Loc) (ls : Array Slot), lv_has ls 4 [(0, .ref (ad 0)), (1, .int x1), (2, .int x2), (3, .int x3)] → va_P (dC, dI) vwCl (mW ad cI cZ m_thrown m_size m_outLong m_lines m_toldLines m_tokens m_places m_p m_pre m_end m_text m_out m_lineAt m_lineLong m_depth m_signed m_led m_told m_place m_begin m_tokenLong m_stemLong m_address m_letters m_stems m_s) H → va_D A (mW ad cI cZ m_thrown m_size m_outLong m_lines m_toldLines m_tokens m_places m_p m_pre m_end m_text m_out m_lineAt m_lineLong m_depth m_signed m_led m_told m_place m_begin m_tokenLong m_stemLong m_address m_letters m_stems m_s) → va_S A s.heap H locs → wlX8_leads_22 post m_size m_text x1 x2 n x3 → W p l e (headSpec wsX8_leads ({ frames := 4, cells := 0, slots := 0, locals := 96 })).room s m ([.ref (ad 0), .int x1, .int x2] : List Value).toArray below meth c H locs 0 0 (MQ below Qc ([.ref (ad 0), .int x1, .int x2] : List Value).toArray s 0 0 A) (F0 m 22 ls []) := by
    intro n
    induction n with
    | zero => intro x3 H locs ls _ _ _ _ h; exact absurd h (fun z => z)
    | succ n22 ih22 =>
      intro x3 H locs ls hl hP hD hS h
      rw [wlX8_leads_22] at h
      refine lv_iload_n hx hb dX8_leads_22 rfl (lv_at hl 3 rfl) ?_
      refine lv_iload_n hx hb dX8_leads_23 rfl (lv_at hl 2 rfl) ?_
      refine lv_icmp_ge (tgt := 46) hx hb dX8_leads_24 (by decide) (fun c9 => ?_) (fun c9 => ?_)
      · have h := h.1 c9
        refine lv_aload_n hx hb dX8_leads_46 rfl (lv_at hl 0 rfl) ?_
        refine lv_iload_n hx hb dX8_leads_47 rfl (lv_at hl 1 rfl) ?_
        refine lv_iload_n hx hb dX8_leads_48 rfl (lv_at hl 2 rfl) ?_
        refine lv_ldc2 (v := 513021015141) hx hb hown (hts (.constantLong RX8 241 (513021015141)) (List.mem_of_getElem? (i := 2) rfl)) dX8_leads_49 ?_
        refine xc_vi (As := [.int x1, .int x2, .long 513021015141]) (rest := []) xG Fx (sX8_hasWord l dC dI ad cI cZ sa sv m_thrown m_size m_outLong m_lines m_toldLines m_tokens m_places m_p m_pre m_end m_text m_out m_lineAt m_lineLong m_depth m_signed m_led m_told m_place m_begin m_tokenLong m_stemLong m_address m_letters m_stems m_s x1 x2 513021015141 h) (cwV 3 hts gX8_leads_X8_hasWord rfl rfl rfl hdX8_hasWord ⟨Nat.le_of_ble_eq_true rfl, Nat.le_of_ble_eq_true rfl⟩) (va_recv hK hP (ci := 7) (q0 := 0) rfl rfl) hK hP hD hS hA hI rfl hl.1 rfl (Nat.le_of_ble_eq_true rfl) dX8_leads_52 ⟨Nat.zero_le _, Nat.zero_le _⟩ (fun r_1 u H locs h hP hD hS => ?_)
        refine lv_if_ne (tgt := 70) hx hb dX8_leads_55 (by decide) (fun c9 => ?_) (fun c9 => ?_)
        · have h := h.1 c9
          refine lv_iconst (v := 1) hx hb dX8_leads_70 (by decide) ?_
          refine lv_goto (tgt := 75) hx hb dX8_leads_71 (by decide) ?_
          exact W.zret (v := 1) hx hb hr (bN_nar bN1) (fun t ht hW => hQ 1 () t h (by rw [ht]; exact hP) (va_K.moved hW.alike hK) hD (hS.F ht)) hS.2.2 dX8_leads_75
        · have h := h.2 c9
          refine lv_aload_n hx hb dX8_leads_58 rfl (lv_at hl 0 rfl) ?_
          refine lv_iload_n hx hb dX8_leads_59 rfl (lv_at hl 1 rfl) ?_
          refine lv_iload_n hx hb dX8_leads_60 rfl (lv_at hl 2 rfl) ?_
          refine lv_ldc2 (v := 32478922568983906) hx hb hown (hts (.constantLong RX8 247 (32478922568983906)) (List.mem_of_getElem? (i := 3) rfl)) dX8_leads_61 ?_
          refine xc_vi (As := [.int x1, .int x2, .long 32478922568983906]) (rest := []) xG Fx (sX8_hasWord l dC dI ad cI cZ sa sv m_thrown m_size m_outLong m_lines m_toldLines m_tokens m_places m_p m_pre m_end m_text m_out m_lineAt m_lineLong m_depth m_signed m_led m_told m_place m_begin m_tokenLong m_stemLong m_address m_letters m_stems m_s x1 x2 32478922568983906 h) (cwV 3 hts gX8_leads_X8_hasWord rfl rfl rfl hdX8_hasWord ⟨Nat.le_of_ble_eq_true rfl, Nat.le_of_ble_eq_true rfl⟩) (va_recv hK hP (ci := 7) (q0 := 0) rfl rfl) hK hP hD hS hA hI rfl hl.1 rfl (Nat.le_of_ble_eq_true rfl) dX8_leads_64 ⟨Nat.zero_le _, Nat.zero_le _⟩ (fun r_2 u H locs h hP hD hS => ?_)
          refine lv_if_eq (tgt := 74) hx hb dX8_leads_67 (by decide) (fun c9 => ?_) (fun c9 => ?_)
          · have h := h.1 c9
            refine lv_iconst (v := 0) hx hb dX8_leads_74 (by decide) ?_
            exact W.zret (v := 0) hx hb hr (bN_nar bN0) (fun t ht hW => hQ 0 () t h (by rw [ht]; exact hP) (va_K.moved hW.alike hK) hD (hS.F ht)) hS.2.2 dX8_leads_75
          · have h := h.2 c9
            refine lv_iconst (v := 1) hx hb dX8_leads_70 (by decide) ?_
            refine lv_goto (tgt := 75) hx hb dX8_leads_71 (by decide) ?_
            exact W.zret (v := 1) hx hb hr (bN_nar bN1) (fun t ht hW => hQ 1 () t h (by rw [ht]; exact hP) (va_K.moved hW.alike hK) hD (hS.F ht)) hS.2.2 dX8_leads_75
      · have h := h.2 c9
        refine lv_aload_n hx hb dX8_leads_27 rfl (lv_at hl 0 rfl) ?_
        refine va_get (D := (dC, dI)) (ci := 7) (v := .ref (ad 1)) (C := RX8) (T := TX8) (N := 26) hx hb hts inX8 hown hK hP 0 rfl rfl 1 (by decide) (hts (.fieldLink RX8 7 "MailWordsModel" "text" "[I") (List.mem_of_getElem? (i := 1) rfl)) (fun _ h9 => h9) rfl dX8_leads_28 ?_
        refine lv_iload_n hx hb dX8_leads_31 rfl (lv_at hl 3 rfl) ?_
        have hi9 := h.1
        have h := h.2
        refine va_iald hx hb hK hP 1 0 rfl rfl hi9 dX8_leads_32 ?_
        refine lv_bipush (v := 64) hx hb dX8_leads_33 (by decide) ?_
        refine lv_icmp_ne (tgt := 40) hx hb dX8_leads_35 (by decide) (fun c9 => ?_) (fun c9 => ?_)
        · have h := h.1 c9
          obtain ⟨x3_3, ex3_3⟩ : ∃ y : Int32, y = x3 + 1 := ⟨_, rfl⟩
          have h := h x3_3 ex3_3
          refine lv_iinc (v := x3_3) (lv' := [(3, .int x3_3), (0, .ref (ad 0)), (1, .int x1), (2, .int x2)]) hx hb dX8_leads_40 hl (k := 3) rfl (by rw [ex3_3]; rfl) (by decide) rfl (fun ls hl => ?_)
          refine lv_goto (tgt := 22) hx hb dX8_leads_43 (by decide) ?_
          exact ih22 x3_3 H locs ls (lv_sub hl [1, 2, 3, 0] rfl) hP hD hS h
        · have h := h.2 c9
          refine lv_iconst (v := 1) hx hb dX8_leads_38 (by decide) ?_
          exact W.zret (v := 1) hx hb hr (bN_nar bN1) (fun t ht hW => hQ 1 () t h (by rw [ht]; exact hP) (va_K.moved hW.alike hK) hD (hS.F ht)) hS.2.2 dX8_leads_39
  intro H locs hP hD hS
  delta wpX8_leads at h
  refine lv_iload_n hx hb dX8_leads_0 rfl (lv_at hl 2 rfl) ?_
  refine lv_iload_n hx hb dX8_leads_1 rfl (lv_at hl 1 rfl) ?_
  refine lv_icmp_eq (tgt := 18) hx hb dX8_leads_2 (by decide) (fun c9 => ?_) (fun c9 => ?_)
  · have h := h.1 c9
    refine lv_iconst (v := 0) hx hb dX8_leads_18 (by decide) ?_
    exact W.zret (v := 0) hx hb hr (bN_nar bN0) (fun t ht hW => hQ 0 () t h (by rw [ht]; exact hP) (va_K.moved hW.alike hK) hD (hS.F ht)) hS.2.2 dX8_leads_19
  · have h := h.2 c9
    refine lv_aload_n hx hb dX8_leads_5 rfl (lv_at hl 0 rfl) ?_
    refine va_get (D := (dC, dI)) (ci := 7) (v := .ref (ad 1)) (C := RX8) (T := TX8) (N := 26) hx hb hts inX8 hown hK hP 0 rfl rfl 1 (by decide) (hts (.fieldLink RX8 7 "MailWordsModel" "text" "[I") (List.mem_of_getElem? (i := 1) rfl)) (fun _ h9 => h9) rfl dX8_leads_6 ?_
    refine lv_iload_n hx hb dX8_leads_9 rfl (lv_at hl 2 rfl) ?_
    refine lv_iconst (v := 1) hx hb dX8_leads_10 (by decide) ?_
    refine lv_isub hx hb dX8_leads_11 ?_
    have hi9 := h.1
    have h := h.2
    refine va_iald hx hb hK hP 1 0 rfl rfl hi9 dX8_leads_12 ?_
    refine lv_bipush (v := 58) hx hb dX8_leads_13 (by decide) ?_
    refine lv_icmp_eq (tgt := 20) hx hb dX8_leads_15 (by decide) (fun c9 => ?_) (fun c9 => ?_)
    · have h := h.1 c9
      refine lv_iload_n hx hb dX8_leads_20 rfl (lv_at hl 1 rfl) ?_
      refine lv_istore_n (lv' := [(3, .int x1), (0, .ref (ad 0)), (1, .int x1), (2, .int x2)]) hx hb dX8_leads_21 rfl hl (by decide) rfl (fun ls hl => ?_)
      obtain ⟨n, h⟩ := h
      exact L22  n x1 H locs ls (lv_sub hl [1, 2, 3, 0] rfl) hP hD hS h
    · have h := h.2 c9
      refine lv_iconst (v := 0) hx hb dX8_leads_18 (by decide) ?_
      exact W.zret (v := 0) hx hb hr (bN_nar bN0) (fun t ht hW => hQ 0 () t h (by rw [ht]; exact hP) (va_K.moved hW.alike hK) hD (hS.F ht)) hS.2.2 dX8_leads_19
set_option maxHeartbeats 4000000 in
set_option maxRecDepth 100000 in
theorem sX8_lookAtLines (l : Launch) (dC : Nat → ClassId) (dI : Nat → Nat → Nat) (ad : Nat → Nat) (cI cZ : ClassId) (sa sv : Nat → Nat) (m_thrown : Int32) (m_size : Int32) (m_outLong : Int32) (m_lines : Int32) (m_toldLines : Int32) (m_tokens : Int32) (m_places : Int32) (m_p : Int32) (m_pre : Int32) (m_end : Int32) (m_text : Nat → Int32) (m_out : Nat → Int32) (m_lineAt : Nat → Int32) (m_lineLong : Nat → Int32) (m_depth : Nat → Int32) (m_signed : Nat → Int32) (m_led : Nat → Int32) (m_told : Nat → Int32) (m_place : Nat → Int32) (m_begin : Nat → Int32) (m_tokenLong : Nat → Int32) (m_stemLong : Nat → Int32) (m_address : Nat → Int32) (m_letters : Nat → Int32) (m_stems : Nat → Int32) (m_s : Nat → Int32)  {post : Int32 → (Nat → Int32) → (Nat → Int32) → (Nat → Int32) → (Nat → Int32) → (Nat → Int32) → Prop} (h : wpX8_lookAtLines post m_size m_lines m_text m_lineAt m_lineLong m_depth m_signed m_led) : xMv l (dC, dI) vwCl [(cI, .int), (cZ, .boolean)] (sI sa sv) yX8_lookAtLines wsX8_lookAtLines ({ frames := 5, cells := 0, slots := 0, locals := 119 }) (mW ad cI cZ m_thrown m_size m_outLong m_lines m_toldLines m_tokens m_places m_p m_pre m_end m_text m_out m_lineAt m_lineLong m_depth m_signed m_led m_told m_place m_begin m_tokenLong m_stemLong m_address m_letters m_stems m_s) [.ref (ad 0)] (fun u : Int32 × (Nat → Int32) × (Nat → Int32) × (Nat → Int32) × (Nat → Int32) × (Nat → Int32) => post u.1 u.2.1 u.2.2.1 u.2.2.2.1 u.2.2.2.2.1 u.2.2.2.2.2) (fun u : Int32 × (Nat → Int32) × (Nat → Int32) × (Nat → Int32) × (Nat → Int32) × (Nat → Int32) => (mW ad cI cZ m_thrown m_size m_outLong u.1 m_toldLines m_tokens m_places m_p m_pre m_end m_text m_out u.2.1 u.2.2.1 u.2.2.2.1 u.2.2.2.2.1 u.2.2.2.2.2 m_told m_place m_begin m_tokenLong m_stemLong m_address m_letters m_stems m_s)) := by
  intro sz
  refine Met.ofW (cc := cX8_lookAtLines) (maxL := 4) (ret := none) (by decide) rfl ?_
  intro p e s m args below meth c s₁ B hml hv
  obtain ⟨rfl, hsz, hP, hK, hD0, hI⟩ := hv
  have hx := B.exec
  have hb := B.bytes
  have hr := B.returns
  have hts := atoms_spec (ws := wsX8_lookAtLines) B.pre
  have hown : s.vm.findClass RX8 = some m.cls := findClass_of_methodNamed B.named
  have hlocks := B.notSynchronized
  subst hsz
  have hD := hD0.self (sz := s.heap.size)
  generalize hAe : va_A (mW ad cI cZ m_thrown m_size m_outLong m_lines m_toldLines m_tokens m_places m_p m_pre m_end m_text m_out m_lineAt m_lineLong m_depth m_signed m_led m_told m_place m_begin m_tokenLong m_stemLong m_address m_letters m_stems m_s) s.heap.size = A at hD hI ⊢
  have hA : ∀ q : Nat, s.heap.size ≤ q → A q := fun q h => by rw [← hAe]; exact Or.inr h
  have hS : va_S A s.heap s.heap [] := va_S.rf
  have Fx : CallFix p m c cX8_lookAtLines 4 s ([.ref (ad 0)] : List Value).toArray wsX8_lookAtLines RX8 := ⟨hx, hb, hml, hown, hts⟩
  have hQ : ∀ (u : Int32 × (Nat → Int32) × (Nat → Int32) × (Nat → Int32) × (Nat → Int32) × (Nat → Int32)) (t : State), (fun u : Int32 × (Nat → Int32) × (Nat → Int32) × (Nat → Int32) × (Nat → Int32) × (Nat → Int32) => post u.1 u.2.1 u.2.2.1 u.2.2.2.1 u.2.2.2.2.1 u.2.2.2.2.2) u → va_P (dC, dI) vwCl ((fun u : Int32 × (Nat → Int32) × (Nat → Int32) × (Nat → Int32) × (Nat → Int32) × (Nat → Int32) => (mW ad cI cZ m_thrown m_size m_outLong u.1 m_toldLines m_tokens m_places m_p m_pre m_end m_text m_out u.2.1 u.2.2.1 u.2.2.2.1 u.2.2.2.2.1 u.2.2.2.2.2 m_told m_place m_begin m_tokenLong m_stemLong m_address m_letters m_stems m_s)) u) t.heap → va_K (dC, dI) vwCl [(cI, .int), (cZ, .boolean)] t → va_D A ((fun u : Int32 × (Nat → Int32) × (Nat → Int32) × (Nat → Int32) × (Nat → Int32) × (Nat → Int32) => (mW ad cI cZ m_thrown m_size m_outLong u.1 m_toldLines m_tokens m_places m_p m_pre m_end m_text m_out u.2.1 u.2.2.1 u.2.2.2.1 u.2.2.2.2.1 u.2.2.2.2.2 m_told m_place m_begin m_tokenLong m_stemLong m_address m_letters m_stems m_s)) u) → va_F A s t → (va_Qv (fun u : Int32 × (Nat → Int32) × (Nat → Int32) × (Nat → Int32) × (Nat → Int32) × (Nat → Int32) => post u.1 u.2.1 u.2.2.1 u.2.2.2.1 u.2.2.2.2.1 u.2.2.2.2.2) (xB (dC, dI) vwCl [(cI, .int), (cZ, .boolean)] A (fun u : Int32 × (Nat → Int32) × (Nat → Int32) × (Nat → Int32) × (Nat → Int32) × (Nat → Int32) => (mW ad cI cZ m_thrown m_size m_outLong u.1 m_toldLines m_tokens m_places m_p m_pre m_end m_text m_out u.2.1 u.2.2.1 u.2.2.2.1 u.2.2.2.2.1 u.2.2.2.2.2 m_told m_place m_begin m_tokenLong m_stemLong m_address m_letters m_stems m_s))) A) ([.ref (ad 0)] : List Value).toArray s (.returned none) t := fun u t h1 h2 h3 h4 h5 => ⟨⟨u, rfl, h1, h2, h3, h4⟩, h5⟩
  generalize (va_Qv (fun u : Int32 × (Nat → Int32) × (Nat → Int32) × (Nat → Int32) × (Nat → Int32) × (Nat → Int32) => post u.1 u.2.1 u.2.2.1 u.2.2.2.1 u.2.2.2.2.1 u.2.2.2.2.2) (xB (dC, dI) vwCl [(cI, .int), (cZ, .boolean)] A (fun u : Int32 × (Nat → Int32) × (Nat → Int32) × (Nat → Int32) × (Nat → Int32) × (Nat → Int32) => (mW ad cI cZ m_thrown m_size m_outLong u.1 m_toldLines m_tokens m_places m_p m_pre m_end m_text m_out u.2.1 u.2.2.1 u.2.2.2.1 u.2.2.2.2.1 u.2.2.2.2.2 m_told m_place m_begin m_tokenLong m_stemLong m_address m_letters m_stems m_s))) A) = Qc at hQ ⊢
  have hl := lv_entry ([.ref (ad 0)]) (n := 4) (Nat.le_of_ble_eq_true rfl)
  rw [lg_entry_eq]
  generalize (lg_sl ([.ref (ad 0)]) ++ List.replicate (4 - (lg_sl ([.ref (ad 0)])).length) Slot.unset).toArray = ls at hl ⊢
  have hl : lv_has ls 4 [(0, .ref (ad 0))] := hl
  refine (fun (key : ∀ (H : Heap) (locs : List Loc), va_P (dC, dI) vwCl (mW ad cI cZ m_thrown m_size m_outLong m_lines m_toldLines m_tokens m_places m_p m_pre m_end m_text m_out m_lineAt m_lineLong m_depth m_signed m_led m_told m_place m_begin m_tokenLong m_stemLong m_address m_letters m_stems m_s) H → va_D A (mW ad cI cZ m_thrown m_size m_outLong m_lines m_toldLines m_tokens m_places m_p m_pre m_end m_text m_out m_lineAt m_lineLong m_depth m_signed m_led m_told m_place m_begin m_tokenLong m_stemLong m_address m_letters m_stems m_s) → va_S A s.heap H locs → W p l e (headSpec wsX8_lookAtLines ({ frames := 5, cells := 0, slots := 0, locals := 119 })).room s m ([.ref (ad 0)] : List Value).toArray below meth c H locs 0 0 (MQ below Qc ([.ref (ad 0)] : List Value).toArray s 0 0 A) (F0 m 0 ls [])) => key _ _ hP hD hS) ?_
  have inX8 : ∀ w ∈ wsX80, w ∈ wsX8_lookAtLines := (fun _ h9 => List.mem_cons_of_mem _ (List.mem_append_right _ h9))
  have L138 : ∀ (m_lines : Int32) (m_lineAt : Nat → Int32) (m_lineLong : Nat → Int32) (m_depth : Nat → Int32) (m_signed : Nat → Int32) (n : Nat) (m_led : Nat → Int32) (x3 : Int32) (H : Heap) (locs : List Loc) (ls : Array Slot), lv_has ls 4 [(0, .ref (ad 0)), (3, .int x3)] → va_P (dC, dI) vwCl (mW ad cI cZ m_thrown m_size m_outLong m_lines m_toldLines m_tokens m_places m_p m_pre m_end m_text m_out m_lineAt m_lineLong m_depth m_signed m_led m_told m_place m_begin m_tokenLong m_stemLong m_address m_letters m_stems m_s) H → va_D A (mW ad cI cZ m_thrown m_size m_outLong m_lines m_toldLines m_tokens m_places m_p m_pre m_end m_text m_out m_lineAt m_lineLong m_depth m_signed m_led m_told m_place m_begin m_tokenLong m_stemLong m_address m_letters m_stems m_s) → va_S A s.heap H locs → wlX8_lookAtLines_138 post m_size m_text m_lines m_lineAt m_lineLong m_depth m_signed n m_led x3 → W p l e (headSpec wsX8_lookAtLines ({ frames := 5, cells := 0, slots := 0, locals := 119 })).room s m ([.ref (ad 0)] : List Value).toArray below meth c H locs 0 0 (MQ below Qc ([.ref (ad 0)] : List Value).toArray s 0 0 A) (F0 m 138 ls []) := by
    intro m_lines m_lineAt m_lineLong m_depth m_signed
    intro n
    induction n with
    | zero => intro m_led x3 H locs ls _ _ _ _ h; exact absurd h (fun z => z)
    | succ n138 ih138 =>
      intro m_led x3 H locs ls hl hP hD hS h
      have J203 : ∀ (m_led : Nat → Int32) (x3 : Int32) (s0 : Int32) (s1 : Int32) (H : Heap) (locs : List Loc) (ls : Array Slot), lv_has ls 4 [(0, .ref (ad 0)), (3, .int x3)] → va_P (dC, dI) vwCl (mW ad cI cZ m_thrown m_size m_outLong m_lines m_toldLines m_tokens m_places m_p m_pre m_end m_text m_out m_lineAt m_lineLong m_depth m_signed m_led m_told m_place m_begin m_tokenLong m_stemLong m_address m_letters m_stems m_s) H → va_D A (mW ad cI cZ m_thrown m_size m_outLong m_lines m_toldLines m_tokens m_places m_p m_pre m_end m_text m_out m_lineAt m_lineLong m_depth m_signed m_led m_told m_place m_begin m_tokenLong m_stemLong m_address m_letters m_stems m_s) → va_S A s.heap H locs → wjX8_lookAtLines_203 (fun m_led x3 => wlX8_lookAtLines_138 post m_size m_text m_lines m_lineAt m_lineLong m_depth m_signed n138 m_led x3) post m_size m_text m_lines m_lineAt m_lineLong m_depth m_signed m_led x3 s0 s1 → W p l e (headSpec wsX8_lookAtLines ({ frames := 5, cells := 0, slots := 0, locals := 119 })).room s m ([.ref (ad 0)] : List Value).toArray below meth c H locs 0 0 (MQ below Qc ([.ref (ad 0)] : List Value).toArray s 0 0 A) (F0 m 203 ls [.int s0, .int s1, .ref (ad 7)]) := by
        intro m_led x3 s0 s1 H locs ls hl hP hD hS h
        delta wjX8_lookAtLines_203 at h
        have hi9 := h.1
        have h := h.2
        have hb9 := h.1
        have h := h.2
        refine va_zast hx hb hK hP hD hS 7 1 rfl rfl hi9 dX8_lookAtLines_203 (fun H locs hP hD hS => ?_)
        rw [bN_vp hb9] at hP hD
        have hP : va_P (dC, dI) vwCl (mW ad cI cZ m_thrown m_size m_outLong m_lines m_toldLines m_tokens m_places m_p m_pre m_end m_text m_out m_lineAt m_lineLong m_depth m_signed (upd m_led s1.toNatClampNeg s0) m_told m_place m_begin m_tokenLong m_stemLong m_address m_letters m_stems m_s) H := hP
        have hD : va_D A (mW ad cI cZ m_thrown m_size m_outLong m_lines m_toldLines m_tokens m_places m_p m_pre m_end m_text m_out m_lineAt m_lineLong m_depth m_signed (upd m_led s1.toNatClampNeg s0) m_told m_place m_begin m_tokenLong m_stemLong m_address m_letters m_stems m_s) := hD
        obtain ⟨x3_1, ex3_1⟩ : ∃ y : Int32, y = x3 + 1 := ⟨_, rfl⟩
        have h := h x3_1 ex3_1
        refine lv_iinc (v := x3_1) (lv' := [(3, .int x3_1), (0, .ref (ad 0))]) hx hb dX8_lookAtLines_204 hl (k := 1) rfl (by rw [ex3_1]; rfl) (by decide) rfl (fun ls hl => ?_)
        refine lv_goto (tgt := 138) hx hb dX8_lookAtLines_207 (by decide) ?_
        exact ih138 (upd m_led s1.toNatClampNeg s0) x3_1 H locs ls (lv_sub hl [1, 0] rfl) hP hD hS h
      have J202 : ∀ (m_led : Nat → Int32) (x3 : Int32) (s0 : Int32) (H : Heap) (locs : List Loc) (ls : Array Slot), lv_has ls 4 [(0, .ref (ad 0)), (3, .int x3)] → va_P (dC, dI) vwCl (mW ad cI cZ m_thrown m_size m_outLong m_lines m_toldLines m_tokens m_places m_p m_pre m_end m_text m_out m_lineAt m_lineLong m_depth m_signed m_led m_told m_place m_begin m_tokenLong m_stemLong m_address m_letters m_stems m_s) H → va_D A (mW ad cI cZ m_thrown m_size m_outLong m_lines m_toldLines m_tokens m_places m_p m_pre m_end m_text m_out m_lineAt m_lineLong m_depth m_signed m_led m_told m_place m_begin m_tokenLong m_stemLong m_address m_letters m_stems m_s) → va_S A s.heap H locs → wjX8_lookAtLines_202 (fun m_led x3 => wlX8_lookAtLines_138 post m_size m_text m_lines m_lineAt m_lineLong m_depth m_signed n138 m_led x3) post m_size m_text m_lines m_lineAt m_lineLong m_depth m_signed m_led x3 s0 → W p l e (headSpec wsX8_lookAtLines ({ frames := 5, cells := 0, slots := 0, locals := 119 })).room s m ([.ref (ad 0)] : List Value).toArray below meth c H locs 0 0 (MQ below Qc ([.ref (ad 0)] : List Value).toArray s 0 0 A) (F0 m 202 ls [.int s0, .ref (ad 7)]) := by
        intro m_led x3 s0 H locs ls hl hP hD hS h
        delta wjX8_lookAtLines_202 at h
        refine lv_iconst (v := 0) hx hb dX8_lookAtLines_202 (by decide) ?_
        exact J203 m_led x3 0 s0 H locs ls (lv_sub hl [0, 1] rfl) hP hD hS h
      rw [wlX8_lookAtLines_138] at h
      refine lv_iload_n hx hb dX8_lookAtLines_138 rfl (lv_at hl 1 rfl) ?_
      refine lv_aload_n hx hb dX8_lookAtLines_139 rfl (lv_at hl 0 rfl) ?_
      refine va_get (D := (dC, dI)) (ci := 7) (v := .int m_lines) (C := RX8) (T := TX8) (N := 26) hx hb hts inX8 hown hK hP 0 rfl rfl 5 (by decide) (hts (.fieldLink RX8 249 "MailWordsModel" "lines" "I") (List.mem_of_getElem? (i := 1) rfl)) (fun _ h9 => h9) rfl dX8_lookAtLines_140 ?_
      refine lv_icmp_ge (tgt := 210) hx hb dX8_lookAtLines_143 (by decide) (fun c9 => ?_) (fun c9 => ?_)
      · have h := h.1 c9
        exact W.vret hx hb hr (fun t ht hW => hQ (m_lines, m_lineAt, m_lineLong, m_depth, m_signed, m_led) t h (by rw [ht]; exact hP) (va_K.moved hW.alike hK) hD (hS.F ht)) hS.2.2 dX8_lookAtLines_210
      · have h := h.2 c9
        refine lv_aload_n hx hb dX8_lookAtLines_146 rfl (lv_at hl 0 rfl) ?_
        refine va_get (D := (dC, dI)) (ci := 7) (v := .ref (ad 7)) (C := RX8) (T := TX8) (N := 26) hx hb hts inX8 hown hK hP 0 rfl rfl 10 (by decide) (hts (.fieldLink RX8 29 "MailWordsModel" "led" "[Z") (List.mem_of_getElem? (i := 8) rfl)) (fun _ h9 => h9) rfl dX8_lookAtLines_147 ?_
        refine lv_iload_n hx hb dX8_lookAtLines_150 rfl (lv_at hl 1 rfl) ?_
        refine lv_iload_n hx hb dX8_lookAtLines_151 rfl (lv_at hl 1 rfl) ?_
        refine lv_iconst (v := 1) hx hb dX8_lookAtLines_152 (by decide) ?_
        refine lv_iadd hx hb dX8_lookAtLines_153 ?_
        refine lv_aload_n hx hb dX8_lookAtLines_154 rfl (lv_at hl 0 rfl) ?_
        refine va_get (D := (dC, dI)) (ci := 7) (v := .int m_lines) (C := RX8) (T := TX8) (N := 26) hx hb hts inX8 hown hK hP 0 rfl rfl 5 (by decide) (hts (.fieldLink RX8 249 "MailWordsModel" "lines" "I") (List.mem_of_getElem? (i := 1) rfl)) (fun _ h9 => h9) rfl dX8_lookAtLines_155 ?_
        refine lv_icmp_ge (tgt := 202) hx hb dX8_lookAtLines_158 (by decide) (fun c9 => ?_) (fun c9 => ?_)
        · have h := h.1 c9
          exact J202 m_led x3 x3 H locs ls (lv_sub hl [0, 1] rfl) hP hD hS h
        · have h := h.2 c9
          refine lv_aload_n hx hb dX8_lookAtLines_161 rfl (lv_at hl 0 rfl) ?_
          refine va_get (D := (dC, dI)) (ci := 7) (v := .ref (ad 5)) (C := RX8) (T := TX8) (N := 26) hx hb hts inX8 hown hK hP 0 rfl rfl 8 (by decide) (hts (.fieldLink RX8 22 "MailWordsModel" "depth" "[I") (List.mem_of_getElem? (i := 6) rfl)) (fun _ h9 => h9) rfl dX8_lookAtLines_162 ?_
          refine lv_iload_n hx hb dX8_lookAtLines_165 rfl (lv_at hl 1 rfl) ?_
          refine lv_iconst (v := 1) hx hb dX8_lookAtLines_166 (by decide) ?_
          refine lv_iadd hx hb dX8_lookAtLines_167 ?_
          have hi9 := h.1
          have h := h.2
          refine va_iald hx hb hK hP 5 0 rfl rfl hi9 dX8_lookAtLines_168 ?_
          refine lv_if_le (tgt := 202) hx hb dX8_lookAtLines_169 (by decide) (fun c9 => ?_) (fun c9 => ?_)
          · have h := h.1 c9
            exact J202 m_led x3 x3 H locs ls (lv_sub hl [0, 1] rfl) hP hD hS h
          · have h := h.2 c9
            refine lv_aload_n hx hb dX8_lookAtLines_172 rfl (lv_at hl 0 rfl) ?_
            refine lv_aload_n hx hb dX8_lookAtLines_173 rfl (lv_at hl 0 rfl) ?_
            refine va_get (D := (dC, dI)) (ci := 7) (v := .ref (ad 3)) (C := RX8) (T := TX8) (N := 26) hx hb hts inX8 hown hK hP 0 rfl rfl 6 (by decide) (hts (.fieldLink RX8 16 "MailWordsModel" "lineAt" "[I") (List.mem_of_getElem? (i := 4) rfl)) (fun _ h9 => h9) rfl dX8_lookAtLines_174 ?_
            refine lv_iload_n hx hb dX8_lookAtLines_177 rfl (lv_at hl 1 rfl) ?_
            have hi9 := h.1
            have h := h.2
            refine va_iald hx hb hK hP 3 0 rfl rfl hi9 dX8_lookAtLines_178 ?_
            refine lv_aload_n hx hb dX8_lookAtLines_179 rfl (lv_at hl 0 rfl) ?_
            refine va_get (D := (dC, dI)) (ci := 7) (v := .ref (ad 3)) (C := RX8) (T := TX8) (N := 26) hx hb hts inX8 hown hK hP 0 rfl rfl 6 (by decide) (hts (.fieldLink RX8 16 "MailWordsModel" "lineAt" "[I") (List.mem_of_getElem? (i := 4) rfl)) (fun _ h9 => h9) rfl dX8_lookAtLines_180 ?_
            refine lv_iload_n hx hb dX8_lookAtLines_183 rfl (lv_at hl 1 rfl) ?_
            have hi9 := h.1
            have h := h.2
            refine va_iald hx hb hK hP 3 0 rfl rfl hi9 dX8_lookAtLines_184 ?_
            refine lv_aload_n hx hb dX8_lookAtLines_185 rfl (lv_at hl 0 rfl) ?_
            refine va_get (D := (dC, dI)) (ci := 7) (v := .ref (ad 4)) (C := RX8) (T := TX8) (N := 26) hx hb hts inX8 hown hK hP 0 rfl rfl 7 (by decide) (hts (.fieldLink RX8 19 "MailWordsModel" "lineLong" "[I") (List.mem_of_getElem? (i := 5) rfl)) (fun _ h9 => h9) rfl dX8_lookAtLines_186 ?_
            refine lv_iload_n hx hb dX8_lookAtLines_189 rfl (lv_at hl 1 rfl) ?_
            have hi9 := h.1
            have h := h.2
            refine va_iald hx hb hK hP 4 0 rfl rfl hi9 dX8_lookAtLines_190 ?_
            refine lv_iadd hx hb dX8_lookAtLines_191 ?_
            refine xc_vi (As := [.int (m_lineAt x3.toNatClampNeg), .int ((m_lineAt x3.toNatClampNeg) + (m_lineLong x3.toNatClampNeg))]) (rest := [.int x3, .ref (ad 7)]) xG Fx (sX8_leads l dC dI ad cI cZ sa sv m_thrown m_size m_outLong m_lines m_toldLines m_tokens m_places m_p m_pre m_end m_text m_out m_lineAt m_lineLong m_depth m_signed m_led m_told m_place m_begin m_tokenLong m_stemLong m_address m_letters m_stems m_s (m_lineAt x3.toNatClampNeg) ((m_lineAt x3.toNatClampNeg) + (m_lineLong x3.toNatClampNeg)) h) (cwV 2 hts gX8_lookAtLines_X8_leads rfl rfl rfl hdX8_leads ⟨Nat.le_of_ble_eq_true rfl, Nat.le_of_ble_eq_true rfl⟩) (va_recv hK hP (ci := 7) (q0 := 0) rfl rfl) hK hP hD hS hA hI rfl hl.1 rfl (Nat.le_of_ble_eq_true rfl) dX8_lookAtLines_192 ⟨Nat.zero_le _, Nat.zero_le _⟩ (fun r_2 u H locs h hP hD hS => ?_)
            refine lv_if_eq (tgt := 202) hx hb dX8_lookAtLines_195 (by decide) (fun c9 => ?_) (fun c9 => ?_)
            · have h := h.1 c9
              exact J202 m_led x3 x3 H locs ls (lv_sub hl [0, 1] rfl) hP hD hS h
            · have h := h.2 c9
              refine lv_iconst (v := 1) hx hb dX8_lookAtLines_198 (by decide) ?_
              refine lv_goto (tgt := 203) hx hb dX8_lookAtLines_199 (by decide) ?_
              exact J203 m_led x3 1 x3 H locs ls (lv_sub hl [0, 1] rfl) hP hD hS h
  have L9 : ∀ (m_led : Nat → Int32) (n : Nat) (m_lines : Int32) (m_lineAt : Nat → Int32) (m_lineLong : Nat → Int32) (m_depth : Nat → Int32) (m_signed : Nat → Int32) (x1 : Int32) (x2 : Int32) (H : Heap) (locs : List Loc) (ls : Array Slot), lv_has ls 4 [(0, .ref (ad 0)), (1, .int x1), (2, .int x2)] → va_P (dC, dI) vwCl (mW ad cI cZ m_thrown m_size m_outLong m_lines m_toldLines m_tokens m_places m_p m_pre m_end m_text m_out m_lineAt m_lineLong m_depth m_signed m_led m_told m_place m_begin m_tokenLong m_stemLong m_address m_letters m_stems m_s) H → va_D A (mW ad cI cZ m_thrown m_size m_outLong m_lines m_toldLines m_tokens m_places m_p m_pre m_end m_text m_out m_lineAt m_lineLong m_depth m_signed m_led m_told m_place m_begin m_tokenLong m_stemLong m_address m_letters m_stems m_s) → va_S A s.heap H locs → wlX8_lookAtLines_9 post m_size m_text m_led n m_lines m_lineAt m_lineLong m_depth m_signed x1 x2 → W p l e (headSpec wsX8_lookAtLines ({ frames := 5, cells := 0, slots := 0, locals := 119 })).room s m ([.ref (ad 0)] : List Value).toArray below meth c H locs 0 0 (MQ below Qc ([.ref (ad 0)] : List Value).toArray s 0 0 A) (F0 m 9 ls []) := by
    intro m_led
    intro n
    induction n with
    | zero => intro m_lines m_lineAt m_lineLong m_depth m_signed x1 x2 H locs ls _ _ _ _ h; exact absurd h (fun z => z)
    | succ n9 ih9 =>
      intro m_lines m_lineAt m_lineLong m_depth m_signed x1 x2 H locs ls hl hP hD hS h
      have J109 : ∀ (m_lines : Int32) (m_lineAt : Nat → Int32) (m_lineLong : Nat → Int32) (m_depth : Nat → Int32) (m_signed : Nat → Int32) (x2 : Int32) (x3 : Int32) (H : Heap) (locs : List Loc) (ls : Array Slot), lv_has ls 4 [(0, .ref (ad 0)), (2, .int x2), (3, .int x3)] → va_P (dC, dI) vwCl (mW ad cI cZ m_thrown m_size m_outLong m_lines m_toldLines m_tokens m_places m_p m_pre m_end m_text m_out m_lineAt m_lineLong m_depth m_signed m_led m_told m_place m_begin m_tokenLong m_stemLong m_address m_letters m_stems m_s) H → va_D A (mW ad cI cZ m_thrown m_size m_outLong m_lines m_toldLines m_tokens m_places m_p m_pre m_end m_text m_out m_lineAt m_lineLong m_depth m_signed m_led m_told m_place m_begin m_tokenLong m_stemLong m_address m_letters m_stems m_s) → va_S A s.heap H locs → wjX8_lookAtLines_109 (fun m_lines m_lineAt m_lineLong m_depth m_signed x1 x2 => wlX8_lookAtLines_9 post m_size m_text m_led n9 m_lines m_lineAt m_lineLong m_depth m_signed x1 x2) post m_size m_text m_lines m_lineAt m_lineLong m_depth m_signed m_led x2 x3 → W p l e (headSpec wsX8_lookAtLines ({ frames := 5, cells := 0, slots := 0, locals := 119 })).room s m ([.ref (ad 0)] : List Value).toArray below meth c H locs 0 0 (MQ below Qc ([.ref (ad 0)] : List Value).toArray s 0 0 A) (F0 m 109 ls []) := by
        intro m_lines m_lineAt m_lineLong m_depth m_signed x2 x3 H locs ls hl hP hD hS h
        delta wjX8_lookAtLines_109 at h
        refine lv_aload_n hx hb dX8_lookAtLines_109 rfl (lv_at hl 0 rfl) ?_
        refine va_get (D := (dC, dI)) (ci := 7) (v := .ref (ad 6)) (C := RX8) (T := TX8) (N := 26) hx hb hts inX8 hown hK hP 0 rfl rfl 9 (by decide) (hts (.fieldLink RX8 25 "MailWordsModel" "signed" "[Z") (List.mem_of_getElem? (i := 7) rfl)) (fun _ h9 => h9) rfl dX8_lookAtLines_110 ?_
        refine lv_aload_n hx hb dX8_lookAtLines_113 rfl (lv_at hl 0 rfl) ?_
        refine va_get (D := (dC, dI)) (ci := 7) (v := .int m_lines) (C := RX8) (T := TX8) (N := 26) hx hb hts inX8 hown hK hP 0 rfl rfl 5 (by decide) (hts (.fieldLink RX8 249 "MailWordsModel" "lines" "I") (List.mem_of_getElem? (i := 1) rfl)) (fun _ h9 => h9) rfl dX8_lookAtLines_114 ?_
        refine lv_iload_n hx hb dX8_lookAtLines_117 rfl (lv_at hl 1 rfl) ?_
        have hi9 := h.1
        have h := h.2
        have hb9 := h.1
        have h := h.2
        refine va_zast hx hb hK hP hD hS 6 1 rfl rfl hi9 dX8_lookAtLines_118 (fun H locs hP hD hS => ?_)
        rw [bN_vp hb9] at hP hD
        have hP : va_P (dC, dI) vwCl (mW ad cI cZ m_thrown m_size m_outLong m_lines m_toldLines m_tokens m_places m_p m_pre m_end m_text m_out m_lineAt m_lineLong m_depth (upd m_signed m_lines.toNatClampNeg x2) m_led m_told m_place m_begin m_tokenLong m_stemLong m_address m_letters m_stems m_s) H := hP
        have hD : va_D A (mW ad cI cZ m_thrown m_size m_outLong m_lines m_toldLines m_tokens m_places m_p m_pre m_end m_text m_out m_lineAt m_lineLong m_depth (upd m_signed m_lines.toNatClampNeg x2) m_led m_told m_place m_begin m_tokenLong m_stemLong m_address m_letters m_stems m_s) := hD
        refine lv_aload_n hx hb dX8_lookAtLines_119 rfl (lv_at hl 0 rfl) ?_
        refine lv_dup hx hb dX8_lookAtLines_120 rfl ?_
        refine va_get (D := (dC, dI)) (ci := 7) (v := .int m_lines) (C := RX8) (T := TX8) (N := 26) hx hb hts inX8 hown hK hP 0 rfl rfl 5 (by decide) (hts (.fieldLink RX8 249 "MailWordsModel" "lines" "I") (List.mem_of_getElem? (i := 1) rfl)) (fun _ h9 => h9) rfl dX8_lookAtLines_121 ?_
        refine lv_iconst (v := 1) hx hb dX8_lookAtLines_124 (by decide) ?_
        refine lv_iadd hx hb dX8_lookAtLines_125 ?_
        refine lv_topi (fun m_lines_3 em_lines_3 => ?_)
        have h := h m_lines_3 em_lines_3
        refine va_put (D := (dC, dI)) (ci := 7) (v := .int m_lines_3) (ty := .int) (C := RX8) (T := TX8) (N := 26) hx hb hts inX8 tyX8 tyX8_ok nmX8 hown hK hP hD hS 0 rfl rfl 5 (by decide) (hts (.fieldLink RX8 249 "MailWordsModel" "lines" "I") (List.mem_of_getElem? (i := 1) rfl)) (fun _ h9 => h9) rfl (tyX8_ok 5 (by decide)) rfl rfl (Nat.le_of_ble_eq_true rfl) dX8_lookAtLines_126 (fun H locs hP hD hS => ?_)
        have hP : va_P (dC, dI) vwCl (mW ad cI cZ m_thrown m_size m_outLong m_lines_3 m_toldLines m_tokens m_places m_p m_pre m_end m_text m_out m_lineAt m_lineLong m_depth (upd m_signed m_lines.toNatClampNeg x2) m_led m_told m_place m_begin m_tokenLong m_stemLong m_address m_letters m_stems m_s) H := hP
        have hD : va_D A (mW ad cI cZ m_thrown m_size m_outLong m_lines_3 m_toldLines m_tokens m_places m_p m_pre m_end m_text m_out m_lineAt m_lineLong m_depth (upd m_signed m_lines.toNatClampNeg x2) m_led m_told m_place m_begin m_tokenLong m_stemLong m_address m_letters m_stems m_s) := hD
        refine lv_iload_n hx hb dX8_lookAtLines_129 rfl (lv_at hl 2 rfl) ?_
        refine lv_iconst (v := 1) hx hb dX8_lookAtLines_130 (by decide) ?_
        refine lv_iadd hx hb dX8_lookAtLines_131 ?_
        refine lv_topi (fun x1_4 ex1_4 => ?_)
        have h := h x1_4 ex1_4
        refine lv_istore_n (lv' := [(1, .int x1_4), (0, .ref (ad 0)), (2, .int x2), (3, .int x3)]) hx hb dX8_lookAtLines_132 rfl hl (by decide) rfl (fun ls hl => ?_)
        refine lv_goto (tgt := 9) hx hb dX8_lookAtLines_133 (by decide) ?_
        exact ih9 m_lines_3 m_lineAt m_lineLong m_depth (upd m_signed m_lines.toNatClampNeg x2) x1_4 x2 H locs ls (lv_sub hl [1, 0, 2] rfl) hP hD hS h
      have J44 : ∀ (m_lines : Int32) (m_lineAt : Nat → Int32) (m_lineLong : Nat → Int32) (m_depth : Nat → Int32) (m_signed : Nat → Int32) (x1 : Int32) (x2 : Int32) (x3 : Int32) (H : Heap) (locs : List Loc) (ls : Array Slot), lv_has ls 4 [(0, .ref (ad 0)), (1, .int x1), (2, .int x2), (3, .int x3)] → va_P (dC, dI) vwCl (mW ad cI cZ m_thrown m_size m_outLong m_lines m_toldLines m_tokens m_places m_p m_pre m_end m_text m_out m_lineAt m_lineLong m_depth m_signed m_led m_told m_place m_begin m_tokenLong m_stemLong m_address m_letters m_stems m_s) H → va_D A (mW ad cI cZ m_thrown m_size m_outLong m_lines m_toldLines m_tokens m_places m_p m_pre m_end m_text m_out m_lineAt m_lineLong m_depth m_signed m_led m_told m_place m_begin m_tokenLong m_stemLong m_address m_letters m_stems m_s) → va_S A s.heap H locs → wjX8_lookAtLines_44 (fun m_lines m_lineAt m_lineLong m_depth m_signed x1 x2 => wlX8_lookAtLines_9 post m_size m_text m_led n9 m_lines m_lineAt m_lineLong m_depth m_signed x1 x2) post m_size m_text m_lines m_lineAt m_lineLong m_depth m_signed m_led x1 x2 x3 → W p l e (headSpec wsX8_lookAtLines ({ frames := 5, cells := 0, slots := 0, locals := 119 })).room s m ([.ref (ad 0)] : List Value).toArray below meth c H locs 0 0 (MQ below Qc ([.ref (ad 0)] : List Value).toArray s 0 0 A) (F0 m 44 ls []) := by
        intro m_lines m_lineAt m_lineLong m_depth m_signed x1 x2 x3 H locs ls hl hP hD hS h
        delta wjX8_lookAtLines_44 at h
        refine lv_aload_n hx hb dX8_lookAtLines_44 rfl (lv_at hl 0 rfl) ?_
        refine va_get (D := (dC, dI)) (ci := 7) (v := .ref (ad 3)) (C := RX8) (T := TX8) (N := 26) hx hb hts inX8 hown hK hP 0 rfl rfl 6 (by decide) (hts (.fieldLink RX8 16 "MailWordsModel" "lineAt" "[I") (List.mem_of_getElem? (i := 4) rfl)) (fun _ h9 => h9) rfl dX8_lookAtLines_45 ?_
        refine lv_aload_n hx hb dX8_lookAtLines_48 rfl (lv_at hl 0 rfl) ?_
        refine va_get (D := (dC, dI)) (ci := 7) (v := .int m_lines) (C := RX8) (T := TX8) (N := 26) hx hb hts inX8 hown hK hP 0 rfl rfl 5 (by decide) (hts (.fieldLink RX8 249 "MailWordsModel" "lines" "I") (List.mem_of_getElem? (i := 1) rfl)) (fun _ h9 => h9) rfl dX8_lookAtLines_49 ?_
        refine lv_iload_n hx hb dX8_lookAtLines_52 rfl (lv_at hl 1 rfl) ?_
        have hi9 := h.1
        have h := h.2
        refine va_iast hx hb hK hP hD hS 3 0 rfl rfl hi9 dX8_lookAtLines_53 (fun H locs hP hD hS => ?_)
        have hP : va_P (dC, dI) vwCl (mW ad cI cZ m_thrown m_size m_outLong m_lines m_toldLines m_tokens m_places m_p m_pre m_end m_text m_out (upd m_lineAt m_lines.toNatClampNeg x1) m_lineLong m_depth m_signed m_led m_told m_place m_begin m_tokenLong m_stemLong m_address m_letters m_stems m_s) H := hP
        have hD : va_D A (mW ad cI cZ m_thrown m_size m_outLong m_lines m_toldLines m_tokens m_places m_p m_pre m_end m_text m_out (upd m_lineAt m_lines.toNatClampNeg x1) m_lineLong m_depth m_signed m_led m_told m_place m_begin m_tokenLong m_stemLong m_address m_letters m_stems m_s) := hD
        refine lv_aload_n hx hb dX8_lookAtLines_54 rfl (lv_at hl 0 rfl) ?_
        refine va_get (D := (dC, dI)) (ci := 7) (v := .ref (ad 4)) (C := RX8) (T := TX8) (N := 26) hx hb hts inX8 hown hK hP 0 rfl rfl 7 (by decide) (hts (.fieldLink RX8 19 "MailWordsModel" "lineLong" "[I") (List.mem_of_getElem? (i := 5) rfl)) (fun _ h9 => h9) rfl dX8_lookAtLines_55 ?_
        refine lv_aload_n hx hb dX8_lookAtLines_58 rfl (lv_at hl 0 rfl) ?_
        refine va_get (D := (dC, dI)) (ci := 7) (v := .int m_lines) (C := RX8) (T := TX8) (N := 26) hx hb hts inX8 hown hK hP 0 rfl rfl 5 (by decide) (hts (.fieldLink RX8 249 "MailWordsModel" "lines" "I") (List.mem_of_getElem? (i := 1) rfl)) (fun _ h9 => h9) rfl dX8_lookAtLines_59 ?_
        refine lv_iload_n hx hb dX8_lookAtLines_62 rfl (lv_at hl 3 rfl) ?_
        refine lv_iload_n hx hb dX8_lookAtLines_63 rfl (lv_at hl 1 rfl) ?_
        refine lv_isub hx hb dX8_lookAtLines_64 ?_
        have hi9 := h.1
        have h := h.2
        refine va_iast hx hb hK hP hD hS 4 0 rfl rfl hi9 dX8_lookAtLines_65 (fun H locs hP hD hS => ?_)
        have hP : va_P (dC, dI) vwCl (mW ad cI cZ m_thrown m_size m_outLong m_lines m_toldLines m_tokens m_places m_p m_pre m_end m_text m_out (upd m_lineAt m_lines.toNatClampNeg x1) (upd m_lineLong m_lines.toNatClampNeg (x3 - x1)) m_depth m_signed m_led m_told m_place m_begin m_tokenLong m_stemLong m_address m_letters m_stems m_s) H := hP
        have hD : va_D A (mW ad cI cZ m_thrown m_size m_outLong m_lines m_toldLines m_tokens m_places m_p m_pre m_end m_text m_out (upd m_lineAt m_lines.toNatClampNeg x1) (upd m_lineLong m_lines.toNatClampNeg (x3 - x1)) m_depth m_signed m_led m_told m_place m_begin m_tokenLong m_stemLong m_address m_letters m_stems m_s) := hD
        refine lv_aload_n hx hb dX8_lookAtLines_66 rfl (lv_at hl 0 rfl) ?_
        refine va_get (D := (dC, dI)) (ci := 7) (v := .ref (ad 5)) (C := RX8) (T := TX8) (N := 26) hx hb hts inX8 hown hK hP 0 rfl rfl 8 (by decide) (hts (.fieldLink RX8 22 "MailWordsModel" "depth" "[I") (List.mem_of_getElem? (i := 6) rfl)) (fun _ h9 => h9) rfl dX8_lookAtLines_67 ?_
        refine lv_aload_n hx hb dX8_lookAtLines_70 rfl (lv_at hl 0 rfl) ?_
        refine va_get (D := (dC, dI)) (ci := 7) (v := .int m_lines) (C := RX8) (T := TX8) (N := 26) hx hb hts inX8 hown hK hP 0 rfl rfl 5 (by decide) (hts (.fieldLink RX8 249 "MailWordsModel" "lines" "I") (List.mem_of_getElem? (i := 1) rfl)) (fun _ h9 => h9) rfl dX8_lookAtLines_71 ?_
        refine lv_aload_n hx hb dX8_lookAtLines_74 rfl (lv_at hl 0 rfl) ?_
        refine lv_iload_n hx hb dX8_lookAtLines_75 rfl (lv_at hl 1 rfl) ?_
        refine lv_iload_n hx hb dX8_lookAtLines_76 rfl (lv_at hl 3 rfl) ?_
        refine xc_vi (As := [.int x1, .int x3]) (rest := [.int m_lines, .ref (ad 5)]) xG Fx (sX8_depthOf l dC dI ad cI cZ sa sv m_thrown m_size m_outLong m_lines m_toldLines m_tokens m_places m_p m_pre m_end m_text m_out (upd m_lineAt m_lines.toNatClampNeg x1) (upd m_lineLong m_lines.toNatClampNeg (x3 - x1)) m_depth m_signed m_led m_told m_place m_begin m_tokenLong m_stemLong m_address m_letters m_stems m_s x1 x3 h) (cwV 2 hts gX8_lookAtLines_X8_depthOf rfl rfl rfl hdX8_depthOf ⟨Nat.le_of_ble_eq_true rfl, Nat.le_of_ble_eq_true rfl⟩) (va_recv hK hP (ci := 7) (q0 := 0) rfl rfl) hK hP hD hS hA hI rfl hl.1 rfl (Nat.le_of_ble_eq_true rfl) dX8_lookAtLines_77 ⟨Nat.zero_le _, Nat.zero_le _⟩ (fun r_5 u H locs h hP hD hS => ?_)
        have hi9 := h.1
        have h := h.2
        refine va_iast hx hb hK hP hD hS 5 0 rfl rfl hi9 dX8_lookAtLines_80 (fun H locs hP hD hS => ?_)
        have hP : va_P (dC, dI) vwCl (mW ad cI cZ m_thrown m_size m_outLong m_lines m_toldLines m_tokens m_places m_p m_pre m_end m_text m_out (upd m_lineAt m_lines.toNatClampNeg x1) (upd m_lineLong m_lines.toNatClampNeg (x3 - x1)) (upd m_depth m_lines.toNatClampNeg r_5) m_signed m_led m_told m_place m_begin m_tokenLong m_stemLong m_address m_letters m_stems m_s) H := hP
        have hD : va_D A (mW ad cI cZ m_thrown m_size m_outLong m_lines m_toldLines m_tokens m_places m_p m_pre m_end m_text m_out (upd m_lineAt m_lines.toNatClampNeg x1) (upd m_lineLong m_lines.toNatClampNeg (x3 - x1)) (upd m_depth m_lines.toNatClampNeg r_5) m_signed m_led m_told m_place m_begin m_tokenLong m_stemLong m_address m_letters m_stems m_s) := hD
        refine lv_aload_n hx hb dX8_lookAtLines_81 rfl (lv_at hl 0 rfl) ?_
        refine va_get (D := (dC, dI)) (ci := 7) (v := .ref (ad 5)) (C := RX8) (T := TX8) (N := 26) hx hb hts inX8 hown hK hP 0 rfl rfl 8 (by decide) (hts (.fieldLink RX8 22 "MailWordsModel" "depth" "[I") (List.mem_of_getElem? (i := 6) rfl)) (fun _ h9 => h9) rfl dX8_lookAtLines_82 ?_
        refine lv_aload_n hx hb dX8_lookAtLines_85 rfl (lv_at hl 0 rfl) ?_
        refine va_get (D := (dC, dI)) (ci := 7) (v := .int m_lines) (C := RX8) (T := TX8) (N := 26) hx hb hts inX8 hown hK hP 0 rfl rfl 5 (by decide) (hts (.fieldLink RX8 249 "MailWordsModel" "lines" "I") (List.mem_of_getElem? (i := 1) rfl)) (fun _ h9 => h9) rfl dX8_lookAtLines_86 ?_
        have hi9 := h.1
        have h := h.2
        refine va_iald hx hb hK hP 5 0 rfl rfl hi9 dX8_lookAtLines_89 ?_
        refine lv_if_le (tgt := 98) hx hb dX8_lookAtLines_90 (by decide) (fun c9 => ?_) (fun c9 => ?_)
        · have h := h.1 c9
          refine lv_aload_n hx hb dX8_lookAtLines_98 rfl (lv_at hl 0 rfl) ?_
          refine lv_iload_n hx hb dX8_lookAtLines_99 rfl (lv_at hl 1 rfl) ?_
          refine lv_iload_n hx hb dX8_lookAtLines_100 rfl (lv_at hl 3 rfl) ?_
          refine xc_vi (As := [.int x1, .int x3]) (rest := []) xG Fx (sX8_isMark l dC dI ad cI cZ sa sv m_thrown m_size m_outLong m_lines m_toldLines m_tokens m_places m_p m_pre m_end m_text m_out (upd m_lineAt m_lines.toNatClampNeg x1) (upd m_lineLong m_lines.toNatClampNeg (x3 - x1)) (upd m_depth m_lines.toNatClampNeg r_5) m_signed m_led m_told m_place m_begin m_tokenLong m_stemLong m_address m_letters m_stems m_s x1 x3 h) (cwV 2 hts gX8_lookAtLines_X8_isMark rfl rfl rfl hdX8_isMark ⟨Nat.le_of_ble_eq_true rfl, Nat.le_of_ble_eq_true rfl⟩) (va_recv hK hP (ci := 7) (q0 := 0) rfl rfl) hK hP hD hS hA hI rfl hl.1 rfl (Nat.le_of_ble_eq_true rfl) dX8_lookAtLines_101 ⟨Nat.zero_le _, Nat.zero_le _⟩ (fun r_6 u H locs h hP hD hS => ?_)
          refine lv_if_eq (tgt := 109) hx hb dX8_lookAtLines_104 (by decide) (fun c9 => ?_) (fun c9 => ?_)
          · have h := h.1 c9
            exact J109 m_lines (upd m_lineAt m_lines.toNatClampNeg x1) (upd m_lineLong m_lines.toNatClampNeg (x3 - x1)) (upd m_depth m_lines.toNatClampNeg r_5) m_signed x2 x3 H locs ls (lv_sub hl [0, 2, 3] rfl) hP hD hS h
          · have h := h.2 c9
            refine lv_iconst (v := 1) hx hb dX8_lookAtLines_107 (by decide) ?_
            refine lv_istore_n (lv' := [(2, .int 1), (0, .ref (ad 0)), (1, .int x1), (3, .int x3)]) hx hb dX8_lookAtLines_108 rfl hl (by decide) rfl (fun ls hl => ?_)
            exact J109 m_lines (upd m_lineAt m_lines.toNatClampNeg x1) (upd m_lineLong m_lines.toNatClampNeg (x3 - x1)) (upd m_depth m_lines.toNatClampNeg r_5) m_signed 1 x3 H locs ls (lv_sub hl [1, 0, 3] rfl) hP hD hS h
        · have h := h.2 c9
          refine lv_iconst (v := 0) hx hb dX8_lookAtLines_93 (by decide) ?_
          refine lv_istore_n (lv' := [(2, .int 0), (0, .ref (ad 0)), (1, .int x1), (3, .int x3)]) hx hb dX8_lookAtLines_94 rfl hl (by decide) rfl (fun ls hl => ?_)
          refine lv_goto (tgt := 109) hx hb dX8_lookAtLines_95 (by decide) ?_
          exact J109 m_lines (upd m_lineAt m_lines.toNatClampNeg x1) (upd m_lineLong m_lines.toNatClampNeg (x3 - x1)) (upd m_depth m_lines.toNatClampNeg r_5) m_signed 0 x3 H locs ls (lv_sub hl [1, 0, 3] rfl) hP hD hS h
      have L19 : ∀ (m_lines : Int32) (m_lineAt : Nat → Int32) (m_lineLong : Nat → Int32) (m_depth : Nat → Int32) (m_signed : Nat → Int32) (x1 : Int32) (x2 : Int32) (n : Nat) (x3 : Int32) (H : Heap) (locs : List Loc) (ls : Array Slot), lv_has ls 4 [(0, .ref (ad 0)), (1, .int x1), (2, .int x2), (3, .int x3)] → va_P (dC, dI) vwCl (mW ad cI cZ m_thrown m_size m_outLong m_lines m_toldLines m_tokens m_places m_p m_pre m_end m_text m_out m_lineAt m_lineLong m_depth m_signed m_led m_told m_place m_begin m_tokenLong m_stemLong m_address m_letters m_stems m_s) H → va_D A (mW ad cI cZ m_thrown m_size m_outLong m_lines m_toldLines m_tokens m_places m_p m_pre m_end m_text m_out m_lineAt m_lineLong m_depth m_signed m_led m_told m_place m_begin m_tokenLong m_stemLong m_address m_letters m_stems m_s) → va_S A s.heap H locs → wlX8_lookAtLines_19 (fun m_lines m_lineAt m_lineLong m_depth m_signed x1 x2 => wlX8_lookAtLines_9 post m_size m_text m_led n9 m_lines m_lineAt m_lineLong m_depth m_signed x1 x2) post m_size m_text m_lines m_lineAt m_lineLong m_depth m_signed m_led x1 x2 n x3 → W p l e (headSpec wsX8_lookAtLines ({ frames := 5, cells := 0, slots := 0, locals := 119 })).room s m ([.ref (ad 0)] : List Value).toArray below meth c H locs 0 0 (MQ below Qc ([.ref (ad 0)] : List Value).toArray s 0 0 A) (F0 m 19 ls []) := by
        intro m_lines m_lineAt m_lineLong m_depth m_signed x1 x2
        intro n
        induction n with
        | zero => intro x3 H locs ls _ _ _ _ h; exact absurd h (fun z => z)
        | succ n19 ih19 =>
          intro x3 H locs ls hl hP hD hS h
          rw [wlX8_lookAtLines_19] at h
          refine lv_iload_n hx hb dX8_lookAtLines_19 rfl (lv_at hl 3 rfl) ?_
          refine lv_aload_n hx hb dX8_lookAtLines_20 rfl (lv_at hl 0 rfl) ?_
          refine va_get (D := (dC, dI)) (ci := 7) (v := .int m_size) (C := RX8) (T := TX8) (N := 26) hx hb hts inX8 hown hK hP 0 rfl rfl 2 (by decide) (hts (.fieldLink RX8 64 "MailWordsModel" "size" "I") (List.mem_of_getElem? (i := 2) rfl)) (fun _ h9 => h9) rfl dX8_lookAtLines_21 ?_
          refine lv_icmp_ge (tgt := 44) hx hb dX8_lookAtLines_24 (by decide) (fun c9 => ?_) (fun c9 => ?_)
          · have h := h.1 c9
            exact J44 m_lines m_lineAt m_lineLong m_depth m_signed x1 x2 x3 H locs ls (lv_sub hl [0, 1, 2, 3] rfl) hP hD hS h
          · have h := h.2 c9
            refine lv_aload_n hx hb dX8_lookAtLines_27 rfl (lv_at hl 0 rfl) ?_
            refine va_get (D := (dC, dI)) (ci := 7) (v := .ref (ad 1)) (C := RX8) (T := TX8) (N := 26) hx hb hts inX8 hown hK hP 0 rfl rfl 1 (by decide) (hts (.fieldLink RX8 7 "MailWordsModel" "text" "[I") (List.mem_of_getElem? (i := 3) rfl)) (fun _ h9 => h9) rfl dX8_lookAtLines_28 ?_
            refine lv_iload_n hx hb dX8_lookAtLines_31 rfl (lv_at hl 3 rfl) ?_
            have hi9 := h.1
            have h := h.2
            refine va_iald hx hb hK hP 1 0 rfl rfl hi9 dX8_lookAtLines_32 ?_
            refine lv_bipush (v := 10) hx hb dX8_lookAtLines_33 (by decide) ?_
            refine lv_icmp_eq (tgt := 44) hx hb dX8_lookAtLines_35 (by decide) (fun c9 => ?_) (fun c9 => ?_)
            · have h := h.1 c9
              exact J44 m_lines m_lineAt m_lineLong m_depth m_signed x1 x2 x3 H locs ls (lv_sub hl [0, 1, 2, 3] rfl) hP hD hS h
            · have h := h.2 c9
              obtain ⟨x3_7, ex3_7⟩ : ∃ y : Int32, y = x3 + 1 := ⟨_, rfl⟩
              have h := h x3_7 ex3_7
              refine lv_iinc (v := x3_7) (lv' := [(3, .int x3_7), (0, .ref (ad 0)), (1, .int x1), (2, .int x2)]) hx hb dX8_lookAtLines_38 hl (k := 3) rfl (by rw [ex3_7]; rfl) (by decide) rfl (fun ls hl => ?_)
              refine lv_goto (tgt := 19) hx hb dX8_lookAtLines_41 (by decide) ?_
              exact ih19 x3_7 H locs ls (lv_sub hl [1, 2, 3, 0] rfl) hP hD hS h
      rw [wlX8_lookAtLines_9] at h
      refine lv_iload_n hx hb dX8_lookAtLines_9 rfl (lv_at hl 1 rfl) ?_
      refine lv_aload_n hx hb dX8_lookAtLines_10 rfl (lv_at hl 0 rfl) ?_
      refine va_get (D := (dC, dI)) (ci := 7) (v := .int m_size) (C := RX8) (T := TX8) (N := 26) hx hb hts inX8 hown hK hP 0 rfl rfl 2 (by decide) (hts (.fieldLink RX8 64 "MailWordsModel" "size" "I") (List.mem_of_getElem? (i := 2) rfl)) (fun _ h9 => h9) rfl dX8_lookAtLines_11 ?_
      refine lv_icmp_ge (tgt := 136) hx hb dX8_lookAtLines_14 (by decide) (fun c9 => ?_) (fun c9 => ?_)
      · have h := h.1 c9
        refine lv_iconst (v := 0) hx hb dX8_lookAtLines_136 (by decide) ?_
        refine lv_istore_n (lv' := [(3, .int 0), (0, .ref (ad 0)), (1, .int x1), (2, .int x2)]) hx hb dX8_lookAtLines_137 rfl hl (by decide) rfl (fun ls hl => ?_)
        obtain ⟨n, h⟩ := h
        exact L138 m_lines m_lineAt m_lineLong m_depth m_signed n m_led 0 H locs ls (lv_sub hl [1, 0] rfl) hP hD hS h
      · have h := h.2 c9
        refine lv_iload_n hx hb dX8_lookAtLines_17 rfl (lv_at hl 1 rfl) ?_
        refine lv_istore_n (lv' := [(3, .int x1), (0, .ref (ad 0)), (1, .int x1), (2, .int x2)]) hx hb dX8_lookAtLines_18 rfl hl (by decide) rfl (fun ls hl => ?_)
        obtain ⟨n, h⟩ := h
        exact L19 m_lines m_lineAt m_lineLong m_depth m_signed x1 x2 n x1 H locs ls (lv_sub hl [1, 2, 3, 0] rfl) hP hD hS h
  intro H locs hP hD hS
  delta wpX8_lookAtLines at h
  refine lv_aload_n hx hb dX8_lookAtLines_0 rfl (lv_at hl 0 rfl) ?_
  refine lv_iconst (v := 0) hx hb dX8_lookAtLines_1 (by decide) ?_
  refine va_put (D := (dC, dI)) (ci := 7) (v := .int 0) (ty := .int) (C := RX8) (T := TX8) (N := 26) hx hb hts inX8 tyX8 tyX8_ok nmX8 hown hK hP hD hS 0 rfl rfl 5 (by decide) (hts (.fieldLink RX8 249 "MailWordsModel" "lines" "I") (List.mem_of_getElem? (i := 1) rfl)) (fun _ h9 => h9) rfl (tyX8_ok 5 (by decide)) rfl rfl (Nat.le_of_ble_eq_true rfl) dX8_lookAtLines_2 (fun H locs hP hD hS => ?_)
  have hP : va_P (dC, dI) vwCl (mW ad cI cZ m_thrown m_size m_outLong 0 m_toldLines m_tokens m_places m_p m_pre m_end m_text m_out m_lineAt m_lineLong m_depth m_signed m_led m_told m_place m_begin m_tokenLong m_stemLong m_address m_letters m_stems m_s) H := hP
  have hD : va_D A (mW ad cI cZ m_thrown m_size m_outLong 0 m_toldLines m_tokens m_places m_p m_pre m_end m_text m_out m_lineAt m_lineLong m_depth m_signed m_led m_told m_place m_begin m_tokenLong m_stemLong m_address m_letters m_stems m_s) := hD
  refine lv_iconst (v := 0) hx hb dX8_lookAtLines_5 (by decide) ?_
  refine lv_istore_n (lv' := [(1, .int 0), (0, .ref (ad 0))]) hx hb dX8_lookAtLines_6 rfl hl (by decide) rfl (fun ls hl => ?_)
  refine lv_iconst (v := 0) hx hb dX8_lookAtLines_7 (by decide) ?_
  refine lv_istore_n (lv' := [(2, .int 0), (1, .int 0), (0, .ref (ad 0))]) hx hb dX8_lookAtLines_8 rfl hl (by decide) rfl (fun ls hl => ?_)
  obtain ⟨n, h⟩ := h
  exact L9 m_led n 0 m_lineAt m_lineLong m_depth m_signed 0 0 H locs ls (lv_sub hl [2, 1, 0] rfl) hP hD hS h
