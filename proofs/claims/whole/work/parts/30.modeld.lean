set_option maxHeartbeats 4000000 in
set_option maxRecDepth 100000 in
theorem sX8_lines (l : Launch) (dC : Nat → ClassId) (dI : Nat → Nat → Nat) (ad : Nat → Nat) (cI cZ : ClassId) (sa sv : Nat → Nat) (m_thrown : Int32) (m_size : Int32) (m_outLong : Int32) (m_lines : Int32) (m_toldLines : Int32) (m_tokens : Int32) (m_places : Int32) (m_p : Int32) (m_pre : Int32) (m_end : Int32) (m_text : Nat → Int32) (m_out : Nat → Int32) (m_lineAt : Nat → Int32) (m_lineLong : Nat → Int32) (m_depth : Nat → Int32) (m_signed : Nat → Int32) (m_led : Nat → Int32) (m_told : Nat → Int32) (m_place : Nat → Int32) (m_begin : Nat → Int32) (m_tokenLong : Nat → Int32) (m_stemLong : Nat → Int32) (m_address : Nat → Int32) (m_letters : Nat → Int32) (m_stems : Nat → Int32) (m_s : Nat → Int32)  {post : Int32 → Int32 → Int32 → Int32 → (Nat → Int32) → (Nat → Int32) → (Nat → Int32) → (Nat → Int32) → (Nat → Int32) → (Nat → Int32) → Prop} (h : wpX8_lines post m_thrown m_size m_lines m_toldLines m_text m_lineAt m_lineLong m_depth m_signed m_led m_told) : xMi l (dC, dI) vwCl [(cI, .int), (cZ, .boolean)] (sI sa sv) yX8_lines wsX8_lines ({ frames := 6, cells := 0, slots := 0, locals := 142 }) (mW ad cI cZ m_thrown m_size m_outLong m_lines m_toldLines m_tokens m_places m_p m_pre m_end m_text m_out m_lineAt m_lineLong m_depth m_signed m_led m_told m_place m_begin m_tokenLong m_stemLong m_address m_letters m_stems m_s) [.ref (ad 0)] (fun (r : Int32) (u : Int32 × Int32 × Int32 × (Nat → Int32) × (Nat → Int32) × (Nat → Int32) × (Nat → Int32) × (Nat → Int32) × (Nat → Int32)) => post r u.1 u.2.1 u.2.2.1 u.2.2.2.1 u.2.2.2.2.1 u.2.2.2.2.2.1 u.2.2.2.2.2.2.1 u.2.2.2.2.2.2.2.1 u.2.2.2.2.2.2.2.2) (fun u : Int32 × Int32 × Int32 × (Nat → Int32) × (Nat → Int32) × (Nat → Int32) × (Nat → Int32) × (Nat → Int32) × (Nat → Int32) => (mW ad cI cZ u.1 m_size m_outLong u.2.1 u.2.2.1 m_tokens m_places m_p m_pre m_end m_text m_out u.2.2.2.1 u.2.2.2.2.1 u.2.2.2.2.2.1 u.2.2.2.2.2.2.1 u.2.2.2.2.2.2.2.1 u.2.2.2.2.2.2.2.2 m_place m_begin m_tokenLong m_stemLong m_address m_letters m_stems m_s)) := by
  intro sz
  refine Met.ofW (cc := cX8_lines) (maxL := 2) (ret := (some .int)) (by decide) rfl ?_
  intro p e s m args below meth c s₁ B hml hv
  obtain ⟨rfl, hsz, hP, hK, hD0, hI⟩ := hv
  have hx := B.exec
  have hb := B.bytes
  have hr := B.returns
  have hts := atoms_spec (ws := wsX8_lines) B.pre
  have hown : s.vm.findClass RX8 = some m.cls := findClass_of_methodNamed B.named
  have hlocks := B.notSynchronized
  subst hsz
  have hD := hD0.self (sz := s.heap.size)
  generalize hAe : va_A (mW ad cI cZ m_thrown m_size m_outLong m_lines m_toldLines m_tokens m_places m_p m_pre m_end m_text m_out m_lineAt m_lineLong m_depth m_signed m_led m_told m_place m_begin m_tokenLong m_stemLong m_address m_letters m_stems m_s) s.heap.size = A at hD hI ⊢
  have hA : ∀ q : Nat, s.heap.size ≤ q → A q := fun q h => by rw [← hAe]; exact Or.inr h
  have hS : va_S A s.heap s.heap [] := va_S.rf
  have Fx : CallFix p m c cX8_lines 2 s ([.ref (ad 0)] : List Value).toArray wsX8_lines RX8 := ⟨hx, hb, hml, hown, hts⟩
  have hQ : ∀ (r : Int32) (u : Int32 × Int32 × Int32 × (Nat → Int32) × (Nat → Int32) × (Nat → Int32) × (Nat → Int32) × (Nat → Int32) × (Nat → Int32)) (t : State), (fun (r : Int32) (u : Int32 × Int32 × Int32 × (Nat → Int32) × (Nat → Int32) × (Nat → Int32) × (Nat → Int32) × (Nat → Int32) × (Nat → Int32)) => post r u.1 u.2.1 u.2.2.1 u.2.2.2.1 u.2.2.2.2.1 u.2.2.2.2.2.1 u.2.2.2.2.2.2.1 u.2.2.2.2.2.2.2.1 u.2.2.2.2.2.2.2.2) r u → va_P (dC, dI) vwCl ((fun u : Int32 × Int32 × Int32 × (Nat → Int32) × (Nat → Int32) × (Nat → Int32) × (Nat → Int32) × (Nat → Int32) × (Nat → Int32) => (mW ad cI cZ u.1 m_size m_outLong u.2.1 u.2.2.1 m_tokens m_places m_p m_pre m_end m_text m_out u.2.2.2.1 u.2.2.2.2.1 u.2.2.2.2.2.1 u.2.2.2.2.2.2.1 u.2.2.2.2.2.2.2.1 u.2.2.2.2.2.2.2.2 m_place m_begin m_tokenLong m_stemLong m_address m_letters m_stems m_s)) u) t.heap → va_K (dC, dI) vwCl [(cI, .int), (cZ, .boolean)] t → va_D A ((fun u : Int32 × Int32 × Int32 × (Nat → Int32) × (Nat → Int32) × (Nat → Int32) × (Nat → Int32) × (Nat → Int32) × (Nat → Int32) => (mW ad cI cZ u.1 m_size m_outLong u.2.1 u.2.2.1 m_tokens m_places m_p m_pre m_end m_text m_out u.2.2.2.1 u.2.2.2.2.1 u.2.2.2.2.2.1 u.2.2.2.2.2.2.1 u.2.2.2.2.2.2.2.1 u.2.2.2.2.2.2.2.2 m_place m_begin m_tokenLong m_stemLong m_address m_letters m_stems m_s)) u) → va_F A s t → (va_Qi (fun (r : Int32) (u : Int32 × Int32 × Int32 × (Nat → Int32) × (Nat → Int32) × (Nat → Int32) × (Nat → Int32) × (Nat → Int32) × (Nat → Int32)) => post r u.1 u.2.1 u.2.2.1 u.2.2.2.1 u.2.2.2.2.1 u.2.2.2.2.2.1 u.2.2.2.2.2.2.1 u.2.2.2.2.2.2.2.1 u.2.2.2.2.2.2.2.2) (xB (dC, dI) vwCl [(cI, .int), (cZ, .boolean)] A (fun u : Int32 × Int32 × Int32 × (Nat → Int32) × (Nat → Int32) × (Nat → Int32) × (Nat → Int32) × (Nat → Int32) × (Nat → Int32) => (mW ad cI cZ u.1 m_size m_outLong u.2.1 u.2.2.1 m_tokens m_places m_p m_pre m_end m_text m_out u.2.2.2.1 u.2.2.2.2.1 u.2.2.2.2.2.1 u.2.2.2.2.2.2.1 u.2.2.2.2.2.2.2.1 u.2.2.2.2.2.2.2.2 m_place m_begin m_tokenLong m_stemLong m_address m_letters m_stems m_s))) A) ([.ref (ad 0)] : List Value).toArray s (.returned (some (.int r))) t := fun r u t h1 h2 h3 h4 h5 => ⟨⟨r, u, rfl, h1, h2, h3, h4⟩, h5⟩
  generalize (va_Qi (fun (r : Int32) (u : Int32 × Int32 × Int32 × (Nat → Int32) × (Nat → Int32) × (Nat → Int32) × (Nat → Int32) × (Nat → Int32) × (Nat → Int32)) => post r u.1 u.2.1 u.2.2.1 u.2.2.2.1 u.2.2.2.2.1 u.2.2.2.2.2.1 u.2.2.2.2.2.2.1 u.2.2.2.2.2.2.2.1 u.2.2.2.2.2.2.2.2) (xB (dC, dI) vwCl [(cI, .int), (cZ, .boolean)] A (fun u : Int32 × Int32 × Int32 × (Nat → Int32) × (Nat → Int32) × (Nat → Int32) × (Nat → Int32) × (Nat → Int32) × (Nat → Int32) => (mW ad cI cZ u.1 m_size m_outLong u.2.1 u.2.2.1 m_tokens m_places m_p m_pre m_end m_text m_out u.2.2.2.1 u.2.2.2.2.1 u.2.2.2.2.2.1 u.2.2.2.2.2.2.1 u.2.2.2.2.2.2.2.1 u.2.2.2.2.2.2.2.2 m_place m_begin m_tokenLong m_stemLong m_address m_letters m_stems m_s))) A) = Qc at hQ ⊢
  have hl := lv_entry ([.ref (ad 0)]) (n := 2) (Nat.le_of_ble_eq_true rfl)
  rw [lg_entry_eq]
  generalize (lg_sl ([.ref (ad 0)]) ++ List.replicate (2 - (lg_sl ([.ref (ad 0)])).length) Slot.unset).toArray = ls at hl ⊢
  have hl : lv_has ls 2 [(0, .ref (ad 0))] := hl
  refine (fun (key : ∀ (H : Heap) (locs : List Loc), va_P (dC, dI) vwCl (mW ad cI cZ m_thrown m_size m_outLong m_lines m_toldLines m_tokens m_places m_p m_pre m_end m_text m_out m_lineAt m_lineLong m_depth m_signed m_led m_told m_place m_begin m_tokenLong m_stemLong m_address m_letters m_stems m_s) H → va_D A (mW ad cI cZ m_thrown m_size m_outLong m_lines m_toldLines m_tokens m_places m_p m_pre m_end m_text m_out m_lineAt m_lineLong m_depth m_signed m_led m_told m_place m_begin m_tokenLong m_stemLong m_address m_letters m_stems m_s) → va_S A s.heap H locs → W p l e (headSpec wsX8_lines ({ frames := 6, cells := 0, slots := 0, locals := 142 })).room s m ([.ref (ad 0)] : List Value).toArray below meth c H locs 0 0 (MQ below Qc ([.ref (ad 0)] : List Value).toArray s 0 0 A) (F0 m 0 ls [])) => key _ _ hP hD hS) ?_
  have inX8 : ∀ w ∈ wsX80, w ∈ wsX8_lines := (fun _ h9 => List.mem_cons_of_mem _ (List.mem_append_right _ h9))
  have L11 : ∀ (m_thrown : Int32) (m_lines : Int32) (m_toldLines : Int32) (m_lineAt : Nat → Int32) (m_lineLong : Nat → Int32) (m_depth : Nat → Int32) (m_signed : Nat → Int32) (m_led : Nat → Int32) (n : Nat) (m_told : Nat → Int32) (x1 : Int32) (H : Heap) (locs : List Loc) (ls : Array Slot), lv_has ls 2 [(0, .ref (ad 0)), (1, .int x1)] → va_P (dC, dI) vwCl (mW ad cI cZ m_thrown m_size m_outLong m_lines m_toldLines m_tokens m_places m_p m_pre m_end m_text m_out m_lineAt m_lineLong m_depth m_signed m_led m_told m_place m_begin m_tokenLong m_stemLong m_address m_letters m_stems m_s) H → va_D A (mW ad cI cZ m_thrown m_size m_outLong m_lines m_toldLines m_tokens m_places m_p m_pre m_end m_text m_out m_lineAt m_lineLong m_depth m_signed m_led m_told m_place m_begin m_tokenLong m_stemLong m_address m_letters m_stems m_s) → va_S A s.heap H locs → wlX8_lines_11 post m_size m_text m_thrown m_lines m_toldLines m_lineAt m_lineLong m_depth m_signed m_led n m_told x1 → W p l e (headSpec wsX8_lines ({ frames := 6, cells := 0, slots := 0, locals := 142 })).room s m ([.ref (ad 0)] : List Value).toArray below meth c H locs 0 0 (MQ below Qc ([.ref (ad 0)] : List Value).toArray s 0 0 A) (F0 m 11 ls []) := by
    intro m_thrown m_lines m_toldLines m_lineAt m_lineLong m_depth m_signed m_led
    intro n
    induction n with
    | zero => intro m_told x1 H locs ls _ _ _ _ h; exact absurd h (fun z => z)
    | succ n11 ih11 =>
      intro m_told x1 H locs ls hl hP hD hS h
      have J80 : ∀ (m_told : Nat → Int32) (x1 : Int32) (s0 : Int32) (s1 : Int32) (H : Heap) (locs : List Loc) (ls : Array Slot), lv_has ls 2 [(0, .ref (ad 0)), (1, .int x1)] → va_P (dC, dI) vwCl (mW ad cI cZ m_thrown m_size m_outLong m_lines m_toldLines m_tokens m_places m_p m_pre m_end m_text m_out m_lineAt m_lineLong m_depth m_signed m_led m_told m_place m_begin m_tokenLong m_stemLong m_address m_letters m_stems m_s) H → va_D A (mW ad cI cZ m_thrown m_size m_outLong m_lines m_toldLines m_tokens m_places m_p m_pre m_end m_text m_out m_lineAt m_lineLong m_depth m_signed m_led m_told m_place m_begin m_tokenLong m_stemLong m_address m_letters m_stems m_s) → va_S A s.heap H locs → wjX8_lines_80 (fun m_told x1 => wlX8_lines_11 post m_size m_text m_thrown m_lines m_toldLines m_lineAt m_lineLong m_depth m_signed m_led n11 m_told x1) post m_size m_text m_thrown m_lines m_toldLines m_lineAt m_lineLong m_depth m_signed m_led m_told x1 s0 s1 → W p l e (headSpec wsX8_lines ({ frames := 6, cells := 0, slots := 0, locals := 142 })).room s m ([.ref (ad 0)] : List Value).toArray below meth c H locs 0 0 (MQ below Qc ([.ref (ad 0)] : List Value).toArray s 0 0 A) (F0 m 80 ls [.int s0, .int s1, .ref (ad 8)]) := by
        intro m_told x1 s0 s1 H locs ls hl hP hD hS h
        delta wjX8_lines_80 at h
        have hi9 := h.1
        have h := h.2
        refine va_iast hx hb hK hP hD hS 8 0 rfl rfl hi9 dX8_lines_80 (fun H locs hP hD hS => ?_)
        have hP : va_P (dC, dI) vwCl (mW ad cI cZ m_thrown m_size m_outLong m_lines m_toldLines m_tokens m_places m_p m_pre m_end m_text m_out m_lineAt m_lineLong m_depth m_signed m_led (upd m_told s1.toNatClampNeg s0) m_place m_begin m_tokenLong m_stemLong m_address m_letters m_stems m_s) H := hP
        have hD : va_D A (mW ad cI cZ m_thrown m_size m_outLong m_lines m_toldLines m_tokens m_places m_p m_pre m_end m_text m_out m_lineAt m_lineLong m_depth m_signed m_led (upd m_told s1.toNatClampNeg s0) m_place m_begin m_tokenLong m_stemLong m_address m_letters m_stems m_s) := hD
        refine lv_aload_n hx hb dX8_lines_81 rfl (lv_at hl 0 rfl) ?_
        refine va_get (D := (dC, dI)) (ci := 7) (v := .ref (ad 8)) (C := RX8) (T := TX8) (N := 26) hx hb hts inX8 hown hK hP 0 rfl rfl 12 (by decide) (hts (.fieldLink RX8 32 "MailWordsModel" "told" "[I") (List.mem_of_getElem? (i := 3) rfl)) (fun _ h9 => h9) rfl dX8_lines_82 ?_
        refine lv_iconst (v := 5) hx hb dX8_lines_85 (by decide) ?_
        refine lv_iload_n hx hb dX8_lines_86 rfl (lv_at hl 1 rfl) ?_
        refine lv_imul hx hb dX8_lines_87 ?_
        refine lv_iconst (v := 3) hx hb dX8_lines_88 (by decide) ?_
        refine lv_iadd hx hb dX8_lines_89 ?_
        refine lv_aload_n hx hb dX8_lines_90 rfl (lv_at hl 0 rfl) ?_
        refine va_get (D := (dC, dI)) (ci := 7) (v := .ref (ad 3)) (C := RX8) (T := TX8) (N := 26) hx hb hts inX8 hown hK hP 0 rfl rfl 6 (by decide) (hts (.fieldLink RX8 16 "MailWordsModel" "lineAt" "[I") (List.mem_of_getElem? (i := 7) rfl)) (fun _ h9 => h9) rfl dX8_lines_91 ?_
        refine lv_iload_n hx hb dX8_lines_94 rfl (lv_at hl 1 rfl) ?_
        have hi9 := h.1
        have h := h.2
        refine va_iald hx hb hK hP 3 0 rfl rfl hi9 dX8_lines_95 ?_
        have hi9 := h.1
        have h := h.2
        refine va_iast hx hb hK hP hD hS 8 0 rfl rfl hi9 dX8_lines_96 (fun H locs hP hD hS => ?_)
        have hP : va_P (dC, dI) vwCl (mW ad cI cZ m_thrown m_size m_outLong m_lines m_toldLines m_tokens m_places m_p m_pre m_end m_text m_out m_lineAt m_lineLong m_depth m_signed m_led (upd (upd m_told s1.toNatClampNeg s0) (((5 * x1) + 3) : Int32).toNatClampNeg (m_lineAt x1.toNatClampNeg)) m_place m_begin m_tokenLong m_stemLong m_address m_letters m_stems m_s) H := hP
        have hD : va_D A (mW ad cI cZ m_thrown m_size m_outLong m_lines m_toldLines m_tokens m_places m_p m_pre m_end m_text m_out m_lineAt m_lineLong m_depth m_signed m_led (upd (upd m_told s1.toNatClampNeg s0) (((5 * x1) + 3) : Int32).toNatClampNeg (m_lineAt x1.toNatClampNeg)) m_place m_begin m_tokenLong m_stemLong m_address m_letters m_stems m_s) := hD
        refine lv_aload_n hx hb dX8_lines_97 rfl (lv_at hl 0 rfl) ?_
        refine va_get (D := (dC, dI)) (ci := 7) (v := .ref (ad 8)) (C := RX8) (T := TX8) (N := 26) hx hb hts inX8 hown hK hP 0 rfl rfl 12 (by decide) (hts (.fieldLink RX8 32 "MailWordsModel" "told" "[I") (List.mem_of_getElem? (i := 3) rfl)) (fun _ h9 => h9) rfl dX8_lines_98 ?_
        refine lv_iconst (v := 5) hx hb dX8_lines_101 (by decide) ?_
        refine lv_iload_n hx hb dX8_lines_102 rfl (lv_at hl 1 rfl) ?_
        refine lv_imul hx hb dX8_lines_103 ?_
        refine lv_iconst (v := 4) hx hb dX8_lines_104 (by decide) ?_
        refine lv_iadd hx hb dX8_lines_105 ?_
        refine lv_aload_n hx hb dX8_lines_106 rfl (lv_at hl 0 rfl) ?_
        refine va_get (D := (dC, dI)) (ci := 7) (v := .ref (ad 4)) (C := RX8) (T := TX8) (N := 26) hx hb hts inX8 hown hK hP 0 rfl rfl 7 (by decide) (hts (.fieldLink RX8 19 "MailWordsModel" "lineLong" "[I") (List.mem_of_getElem? (i := 8) rfl)) (fun _ h9 => h9) rfl dX8_lines_107 ?_
        refine lv_iload_n hx hb dX8_lines_110 rfl (lv_at hl 1 rfl) ?_
        have hi9 := h.1
        have h := h.2
        refine va_iald hx hb hK hP 4 0 rfl rfl hi9 dX8_lines_111 ?_
        have hi9 := h.1
        have h := h.2
        refine va_iast hx hb hK hP hD hS 8 0 rfl rfl hi9 dX8_lines_112 (fun H locs hP hD hS => ?_)
        have hP : va_P (dC, dI) vwCl (mW ad cI cZ m_thrown m_size m_outLong m_lines m_toldLines m_tokens m_places m_p m_pre m_end m_text m_out m_lineAt m_lineLong m_depth m_signed m_led (upd (upd (upd m_told s1.toNatClampNeg s0) (((5 * x1) + 3) : Int32).toNatClampNeg (m_lineAt x1.toNatClampNeg)) (((5 * x1) + 4) : Int32).toNatClampNeg (m_lineLong x1.toNatClampNeg)) m_place m_begin m_tokenLong m_stemLong m_address m_letters m_stems m_s) H := hP
        have hD : va_D A (mW ad cI cZ m_thrown m_size m_outLong m_lines m_toldLines m_tokens m_places m_p m_pre m_end m_text m_out m_lineAt m_lineLong m_depth m_signed m_led (upd (upd (upd m_told s1.toNatClampNeg s0) (((5 * x1) + 3) : Int32).toNatClampNeg (m_lineAt x1.toNatClampNeg)) (((5 * x1) + 4) : Int32).toNatClampNeg (m_lineLong x1.toNatClampNeg)) m_place m_begin m_tokenLong m_stemLong m_address m_letters m_stems m_s) := hD
        obtain ⟨x1_1, ex1_1⟩ : ∃ y : Int32, y = x1 + 1 := ⟨_, rfl⟩
        have h := h x1_1 ex1_1
        refine lv_iinc (v := x1_1) (lv' := [(1, .int x1_1), (0, .ref (ad 0))]) hx hb dX8_lines_113 hl (k := 1) rfl (by rw [ex1_1]; rfl) (by decide) rfl (fun ls hl => ?_)
        refine lv_goto (tgt := 11) hx hb dX8_lines_116 (by decide) ?_
        exact ih11 (upd (upd (upd m_told s1.toNatClampNeg s0) (((5 * x1) + 3) : Int32).toNatClampNeg (m_lineAt x1.toNatClampNeg)) (((5 * x1) + 4) : Int32).toNatClampNeg (m_lineLong x1.toNatClampNeg)) x1_1 H locs ls (lv_sub hl [1, 0] rfl) hP hD hS h
      have J56 : ∀ (m_told : Nat → Int32) (x1 : Int32) (s0 : Int32) (s1 : Int32) (H : Heap) (locs : List Loc) (ls : Array Slot), lv_has ls 2 [(0, .ref (ad 0)), (1, .int x1)] → va_P (dC, dI) vwCl (mW ad cI cZ m_thrown m_size m_outLong m_lines m_toldLines m_tokens m_places m_p m_pre m_end m_text m_out m_lineAt m_lineLong m_depth m_signed m_led m_told m_place m_begin m_tokenLong m_stemLong m_address m_letters m_stems m_s) H → va_D A (mW ad cI cZ m_thrown m_size m_outLong m_lines m_toldLines m_tokens m_places m_p m_pre m_end m_text m_out m_lineAt m_lineLong m_depth m_signed m_led m_told m_place m_begin m_tokenLong m_stemLong m_address m_letters m_stems m_s) → va_S A s.heap H locs → wjX8_lines_56 (fun m_told x1 => wlX8_lines_11 post m_size m_text m_thrown m_lines m_toldLines m_lineAt m_lineLong m_depth m_signed m_led n11 m_told x1) post m_size m_text m_thrown m_lines m_toldLines m_lineAt m_lineLong m_depth m_signed m_led m_told x1 s0 s1 → W p l e (headSpec wsX8_lines ({ frames := 6, cells := 0, slots := 0, locals := 142 })).room s m ([.ref (ad 0)] : List Value).toArray below meth c H locs 0 0 (MQ below Qc ([.ref (ad 0)] : List Value).toArray s 0 0 A) (F0 m 56 ls [.int s0, .int s1, .ref (ad 8)]) := by
        intro m_told x1 s0 s1 H locs ls hl hP hD hS h
        delta wjX8_lines_56 at h
        have hi9 := h.1
        have h := h.2
        refine va_iast hx hb hK hP hD hS 8 0 rfl rfl hi9 dX8_lines_56 (fun H locs hP hD hS => ?_)
        have hP : va_P (dC, dI) vwCl (mW ad cI cZ m_thrown m_size m_outLong m_lines m_toldLines m_tokens m_places m_p m_pre m_end m_text m_out m_lineAt m_lineLong m_depth m_signed m_led (upd m_told s1.toNatClampNeg s0) m_place m_begin m_tokenLong m_stemLong m_address m_letters m_stems m_s) H := hP
        have hD : va_D A (mW ad cI cZ m_thrown m_size m_outLong m_lines m_toldLines m_tokens m_places m_p m_pre m_end m_text m_out m_lineAt m_lineLong m_depth m_signed m_led (upd m_told s1.toNatClampNeg s0) m_place m_begin m_tokenLong m_stemLong m_address m_letters m_stems m_s) := hD
        refine lv_aload_n hx hb dX8_lines_57 rfl (lv_at hl 0 rfl) ?_
        refine va_get (D := (dC, dI)) (ci := 7) (v := .ref (ad 8)) (C := RX8) (T := TX8) (N := 26) hx hb hts inX8 hown hK hP 0 rfl rfl 12 (by decide) (hts (.fieldLink RX8 32 "MailWordsModel" "told" "[I") (List.mem_of_getElem? (i := 3) rfl)) (fun _ h9 => h9) rfl dX8_lines_58 ?_
        refine lv_iconst (v := 5) hx hb dX8_lines_61 (by decide) ?_
        refine lv_iload_n hx hb dX8_lines_62 rfl (lv_at hl 1 rfl) ?_
        refine lv_imul hx hb dX8_lines_63 ?_
        refine lv_iconst (v := 2) hx hb dX8_lines_64 (by decide) ?_
        refine lv_iadd hx hb dX8_lines_65 ?_
        refine lv_aload_n hx hb dX8_lines_66 rfl (lv_at hl 0 rfl) ?_
        refine va_get (D := (dC, dI)) (ci := 7) (v := .ref (ad 7)) (C := RX8) (T := TX8) (N := 26) hx hb hts inX8 hown hK hP 0 rfl rfl 10 (by decide) (hts (.fieldLink RX8 29 "MailWordsModel" "led" "[Z") (List.mem_of_getElem? (i := 6) rfl)) (fun _ h9 => h9) rfl dX8_lines_67 ?_
        refine lv_iload_n hx hb dX8_lines_70 rfl (lv_at hl 1 rfl) ?_
        have hi9 := h.1
        have h := h.2
        refine va_zald hx hb hK hP 7 1 rfl rfl hi9 dX8_lines_71 ?_
        refine lv_if_eq (tgt := 79) hx hb dX8_lines_72 (by decide) (fun c9 => ?_) (fun c9 => ?_)
        · have h := h.1 c9
          refine lv_iconst (v := 0) hx hb dX8_lines_79 (by decide) ?_
          exact J80 (upd m_told s1.toNatClampNeg s0) x1 0 ((5 * x1) + 2) H locs ls (lv_sub hl [0, 1] rfl) hP hD hS h
        · have h := h.2 c9
          refine lv_iconst (v := 1) hx hb dX8_lines_75 (by decide) ?_
          refine lv_goto (tgt := 80) hx hb dX8_lines_76 (by decide) ?_
          exact J80 (upd m_told s1.toNatClampNeg s0) x1 1 ((5 * x1) + 2) H locs ls (lv_sub hl [0, 1] rfl) hP hD hS h
      rw [wlX8_lines_11] at h
      refine lv_iload_n hx hb dX8_lines_11 rfl (lv_at hl 1 rfl) ?_
      refine lv_aload_n hx hb dX8_lines_12 rfl (lv_at hl 0 rfl) ?_
      refine va_get (D := (dC, dI)) (ci := 7) (v := .int m_lines) (C := RX8) (T := TX8) (N := 26) hx hb hts inX8 hown hK hP 0 rfl rfl 5 (by decide) (hts (.fieldLink RX8 249 "MailWordsModel" "lines" "I") (List.mem_of_getElem? (i := 2) rfl)) (fun _ h9 => h9) rfl dX8_lines_13 ?_
      refine lv_icmp_ge (tgt := 119) hx hb dX8_lines_16 (by decide) (fun c9 => ?_) (fun c9 => ?_)
      · have h := h.1 c9
        refine lv_aload_n hx hb dX8_lines_119 rfl (lv_at hl 0 rfl) ?_
        refine lv_aload_n hx hb dX8_lines_120 rfl (lv_at hl 0 rfl) ?_
        refine va_get (D := (dC, dI)) (ci := 7) (v := .int m_lines) (C := RX8) (T := TX8) (N := 26) hx hb hts inX8 hown hK hP 0 rfl rfl 5 (by decide) (hts (.fieldLink RX8 249 "MailWordsModel" "lines" "I") (List.mem_of_getElem? (i := 2) rfl)) (fun _ h9 => h9) rfl dX8_lines_121 ?_
        refine va_put (D := (dC, dI)) (ci := 7) (v := .int m_lines) (ty := .int) (C := RX8) (T := TX8) (N := 26) hx hb hts inX8 tyX8 tyX8_ok nmX8 hown hK hP hD hS 0 rfl rfl 11 (by decide) (hts (.fieldLink RX8 265 "MailWordsModel" "toldLines" "I") (List.mem_of_getElem? (i := 9) rfl)) (fun _ h9 => h9) rfl (tyX8_ok 11 (by decide)) rfl rfl (Nat.le_of_ble_eq_true rfl) dX8_lines_124 (fun H locs hP hD hS => ?_)
        have hP : va_P (dC, dI) vwCl (mW ad cI cZ m_thrown m_size m_outLong m_lines m_lines m_tokens m_places m_p m_pre m_end m_text m_out m_lineAt m_lineLong m_depth m_signed m_led m_told m_place m_begin m_tokenLong m_stemLong m_address m_letters m_stems m_s) H := hP
        have hD : va_D A (mW ad cI cZ m_thrown m_size m_outLong m_lines m_lines m_tokens m_places m_p m_pre m_end m_text m_out m_lineAt m_lineLong m_depth m_signed m_led m_told m_place m_begin m_tokenLong m_stemLong m_address m_letters m_stems m_s) := hD
        refine lv_aload_n hx hb dX8_lines_127 rfl (lv_at hl 0 rfl) ?_
        refine va_get (D := (dC, dI)) (ci := 7) (v := .int m_lines) (C := RX8) (T := TX8) (N := 26) hx hb hts inX8 hown hK hP 0 rfl rfl 5 (by decide) (hts (.fieldLink RX8 249 "MailWordsModel" "lines" "I") (List.mem_of_getElem? (i := 2) rfl)) (fun _ h9 => h9) rfl dX8_lines_128 ?_
        exact W.iret (v := m_lines) hx hb hr (fun t ht hW => hQ m_lines (m_thrown, m_lines, m_lines, m_lineAt, m_lineLong, m_depth, m_signed, m_led, m_told) t h (by rw [ht]; exact hP) (va_K.moved hW.alike hK) hD (hS.F ht)) hS.2.2 dX8_lines_131
      · have h := h.2 c9
        refine lv_aload_n hx hb dX8_lines_19 rfl (lv_at hl 0 rfl) ?_
        refine va_get (D := (dC, dI)) (ci := 7) (v := .ref (ad 8)) (C := RX8) (T := TX8) (N := 26) hx hb hts inX8 hown hK hP 0 rfl rfl 12 (by decide) (hts (.fieldLink RX8 32 "MailWordsModel" "told" "[I") (List.mem_of_getElem? (i := 3) rfl)) (fun _ h9 => h9) rfl dX8_lines_20 ?_
        refine lv_iconst (v := 5) hx hb dX8_lines_23 (by decide) ?_
        refine lv_iload_n hx hb dX8_lines_24 rfl (lv_at hl 1 rfl) ?_
        refine lv_imul hx hb dX8_lines_25 ?_
        refine lv_aload_n hx hb dX8_lines_26 rfl (lv_at hl 0 rfl) ?_
        refine va_get (D := (dC, dI)) (ci := 7) (v := .ref (ad 5)) (C := RX8) (T := TX8) (N := 26) hx hb hts inX8 hown hK hP 0 rfl rfl 8 (by decide) (hts (.fieldLink RX8 22 "MailWordsModel" "depth" "[I") (List.mem_of_getElem? (i := 4) rfl)) (fun _ h9 => h9) rfl dX8_lines_27 ?_
        refine lv_iload_n hx hb dX8_lines_30 rfl (lv_at hl 1 rfl) ?_
        have hi9 := h.1
        have h := h.2
        refine va_iald hx hb hK hP 5 0 rfl rfl hi9 dX8_lines_31 ?_
        have hi9 := h.1
        have h := h.2
        refine va_iast hx hb hK hP hD hS 8 0 rfl rfl hi9 dX8_lines_32 (fun H locs hP hD hS => ?_)
        have hP : va_P (dC, dI) vwCl (mW ad cI cZ m_thrown m_size m_outLong m_lines m_toldLines m_tokens m_places m_p m_pre m_end m_text m_out m_lineAt m_lineLong m_depth m_signed m_led (upd m_told ((5 * x1) : Int32).toNatClampNeg (m_depth x1.toNatClampNeg)) m_place m_begin m_tokenLong m_stemLong m_address m_letters m_stems m_s) H := hP
        have hD : va_D A (mW ad cI cZ m_thrown m_size m_outLong m_lines m_toldLines m_tokens m_places m_p m_pre m_end m_text m_out m_lineAt m_lineLong m_depth m_signed m_led (upd m_told ((5 * x1) : Int32).toNatClampNeg (m_depth x1.toNatClampNeg)) m_place m_begin m_tokenLong m_stemLong m_address m_letters m_stems m_s) := hD
        refine lv_aload_n hx hb dX8_lines_33 rfl (lv_at hl 0 rfl) ?_
        refine va_get (D := (dC, dI)) (ci := 7) (v := .ref (ad 8)) (C := RX8) (T := TX8) (N := 26) hx hb hts inX8 hown hK hP 0 rfl rfl 12 (by decide) (hts (.fieldLink RX8 32 "MailWordsModel" "told" "[I") (List.mem_of_getElem? (i := 3) rfl)) (fun _ h9 => h9) rfl dX8_lines_34 ?_
        refine lv_iconst (v := 5) hx hb dX8_lines_37 (by decide) ?_
        refine lv_iload_n hx hb dX8_lines_38 rfl (lv_at hl 1 rfl) ?_
        refine lv_imul hx hb dX8_lines_39 ?_
        refine lv_iconst (v := 1) hx hb dX8_lines_40 (by decide) ?_
        refine lv_iadd hx hb dX8_lines_41 ?_
        refine lv_aload_n hx hb dX8_lines_42 rfl (lv_at hl 0 rfl) ?_
        refine va_get (D := (dC, dI)) (ci := 7) (v := .ref (ad 6)) (C := RX8) (T := TX8) (N := 26) hx hb hts inX8 hown hK hP 0 rfl rfl 9 (by decide) (hts (.fieldLink RX8 25 "MailWordsModel" "signed" "[Z") (List.mem_of_getElem? (i := 5) rfl)) (fun _ h9 => h9) rfl dX8_lines_43 ?_
        refine lv_iload_n hx hb dX8_lines_46 rfl (lv_at hl 1 rfl) ?_
        have hi9 := h.1
        have h := h.2
        refine va_zald hx hb hK hP 6 1 rfl rfl hi9 dX8_lines_47 ?_
        refine lv_if_eq (tgt := 55) hx hb dX8_lines_48 (by decide) (fun c9 => ?_) (fun c9 => ?_)
        · have h := h.1 c9
          refine lv_iconst (v := 0) hx hb dX8_lines_55 (by decide) ?_
          exact J56 (upd m_told ((5 * x1) : Int32).toNatClampNeg (m_depth x1.toNatClampNeg)) x1 0 ((5 * x1) + 1) H locs ls (lv_sub hl [0, 1] rfl) hP hD hS h
        · have h := h.2 c9
          refine lv_iconst (v := 1) hx hb dX8_lines_51 (by decide) ?_
          refine lv_goto (tgt := 56) hx hb dX8_lines_52 (by decide) ?_
          exact J56 (upd m_told ((5 * x1) : Int32).toNatClampNeg (m_depth x1.toNatClampNeg)) x1 1 ((5 * x1) + 1) H locs ls (lv_sub hl [0, 1] rfl) hP hD hS h
  intro H locs hP hD hS
  delta wpX8_lines at h
  refine lv_aload_n hx hb dX8_lines_0 rfl (lv_at hl 0 rfl) ?_
  refine lv_iconst (v := 0) hx hb dX8_lines_1 (by decide) ?_
  refine va_put (D := (dC, dI)) (ci := 7) (v := .int 0) (ty := .int) (C := RX8) (T := TX8) (N := 26) hx hb hts inX8 tyX8 tyX8_ok nmX8 hown hK hP hD hS 0 rfl rfl 0 (by decide) (hts (.fieldLink RX8 60 "MailWordsModel" "thrown" "I") (List.mem_of_getElem? (i := 1) rfl)) (fun _ h9 => h9) rfl (tyX8_ok 0 (by decide)) rfl rfl (Nat.le_of_ble_eq_true rfl) dX8_lines_2 (fun H locs hP hD hS => ?_)
  have hP : va_P (dC, dI) vwCl (mW ad cI cZ 0 m_size m_outLong m_lines m_toldLines m_tokens m_places m_p m_pre m_end m_text m_out m_lineAt m_lineLong m_depth m_signed m_led m_told m_place m_begin m_tokenLong m_stemLong m_address m_letters m_stems m_s) H := hP
  have hD : va_D A (mW ad cI cZ 0 m_size m_outLong m_lines m_toldLines m_tokens m_places m_p m_pre m_end m_text m_out m_lineAt m_lineLong m_depth m_signed m_led m_told m_place m_begin m_tokenLong m_stemLong m_address m_letters m_stems m_s) := hD
  refine lv_aload_n hx hb dX8_lines_5 rfl (lv_at hl 0 rfl) ?_
  refine xc_vv (As := []) (rest := []) xG Fx (sX8_lookAtLines l dC dI ad cI cZ sa sv 0 m_size m_outLong m_lines m_toldLines m_tokens m_places m_p m_pre m_end m_text m_out m_lineAt m_lineLong m_depth m_signed m_led m_told m_place m_begin m_tokenLong m_stemLong m_address m_letters m_stems m_s h) (cwV 0 hts gX8_lines_X8_lookAtLines rfl rfl rfl hdX8_lookAtLines ⟨Nat.le_of_ble_eq_true rfl, Nat.le_of_ble_eq_true rfl⟩) (va_recv hK hP (ci := 7) (q0 := 0) rfl rfl) hK hP hD hS hA hI rfl hl.1 rfl (Nat.le_of_ble_eq_true rfl) dX8_lines_6 ⟨Nat.zero_le _, Nat.zero_le _⟩ (fun u H locs h hP hD hS => ?_)
  obtain ⟨m_lines_3, m_lineAt_4, m_lineLong_5, m_depth_6, m_signed_7, m_led_8⟩ := u
  have hP : va_P (dC, dI) vwCl (mW ad cI cZ 0 m_size m_outLong m_lines_3 m_toldLines m_tokens m_places m_p m_pre m_end m_text m_out m_lineAt_4 m_lineLong_5 m_depth_6 m_signed_7 m_led_8 m_told m_place m_begin m_tokenLong m_stemLong m_address m_letters m_stems m_s) H := hP
  have hD : va_D A (mW ad cI cZ 0 m_size m_outLong m_lines_3 m_toldLines m_tokens m_places m_p m_pre m_end m_text m_out m_lineAt_4 m_lineLong_5 m_depth_6 m_signed_7 m_led_8 m_told m_place m_begin m_tokenLong m_stemLong m_address m_letters m_stems m_s) := hD
  refine lv_iconst (v := 0) hx hb dX8_lines_9 (by decide) ?_
  refine lv_istore_n (lv' := [(1, .int 0), (0, .ref (ad 0))]) hx hb dX8_lines_10 rfl hl (by decide) rfl (fun ls hl => ?_)
  obtain ⟨n, h⟩ := h
  exact L11 0 m_lines_3 m_toldLines m_lineAt_4 m_lineLong_5 m_depth_6 m_signed_7 m_led_8 n m_told 0 H locs ls (lv_sub hl [1, 0] rfl) hP hD hS h
set_option maxHeartbeats 4000000 in
set_option maxRecDepth 100000 in
theorem sX8_line (l : Launch) (dC : Nat → ClassId) (dI : Nat → Nat → Nat) (ad : Nat → Nat) (cI cZ : ClassId) (sa sv : Nat → Nat) (m_thrown : Int32) (m_size : Int32) (m_outLong : Int32) (m_lines : Int32) (m_toldLines : Int32) (m_tokens : Int32) (m_places : Int32) (m_p : Int32) (m_pre : Int32) (m_end : Int32) (m_text : Nat → Int32) (m_out : Nat → Int32) (m_lineAt : Nat → Int32) (m_lineLong : Nat → Int32) (m_depth : Nat → Int32) (m_signed : Nat → Int32) (m_led : Nat → Int32) (m_told : Nat → Int32) (m_place : Nat → Int32) (m_begin : Nat → Int32) (m_tokenLong : Nat → Int32) (m_stemLong : Nat → Int32) (m_address : Nat → Int32) (m_letters : Nat → Int32) (m_stems : Nat → Int32) (m_s : Nat → Int32) (x1 : Int32) (x2 : Int32) {post : Int32 → Int32 → Prop} (h : wpX8_line post m_thrown m_toldLines m_told x1 x2) : xMi l (dC, dI) vwCl [(cI, .int), (cZ, .boolean)] (sI sa sv) yX8_line wsX8_line ({ frames := 0, cells := 0, slots := 0, locals := 0 }) (mW ad cI cZ m_thrown m_size m_outLong m_lines m_toldLines m_tokens m_places m_p m_pre m_end m_text m_out m_lineAt m_lineLong m_depth m_signed m_led m_told m_place m_begin m_tokenLong m_stemLong m_address m_letters m_stems m_s) [.ref (ad 0), .int x1, .int x2] (fun (r : Int32) (u : Int32) => post r u) (fun u : Int32 => (mW ad cI cZ u m_size m_outLong m_lines m_toldLines m_tokens m_places m_p m_pre m_end m_text m_out m_lineAt m_lineLong m_depth m_signed m_led m_told m_place m_begin m_tokenLong m_stemLong m_address m_letters m_stems m_s)) := by
  intro sz
  refine Met.ofW (cc := cX8_line) (maxL := 3) (ret := (some .int)) (by decide) rfl ?_
  intro p e s m args below meth c s₁ B hml hv
  obtain ⟨rfl, hsz, hP, hK, hD0, hI⟩ := hv
  have hx := B.exec
  have hb := B.bytes
  have hr := B.returns
  have hts := atoms_spec (ws := wsX8_line) B.pre
  have hown : s.vm.findClass RX8 = some m.cls := findClass_of_methodNamed B.named
  have hlocks := B.notSynchronized
  subst hsz
  have hD := hD0.self (sz := s.heap.size)
  generalize hAe : va_A (mW ad cI cZ m_thrown m_size m_outLong m_lines m_toldLines m_tokens m_places m_p m_pre m_end m_text m_out m_lineAt m_lineLong m_depth m_signed m_led m_told m_place m_begin m_tokenLong m_stemLong m_address m_letters m_stems m_s) s.heap.size = A at hD hI ⊢
  have hA : ∀ q : Nat, s.heap.size ≤ q → A q := fun q h => by rw [← hAe]; exact Or.inr h
  have hS : va_S A s.heap s.heap [] := va_S.rf
  have Fx : CallFix p m c cX8_line 3 s ([.ref (ad 0), .int x1, .int x2] : List Value).toArray wsX8_line RX8 := ⟨hx, hb, hml, hown, hts⟩
  have hQ : ∀ (r : Int32) (u : Int32) (t : State), (fun (r : Int32) (u : Int32) => post r u) r u → va_P (dC, dI) vwCl ((fun u : Int32 => (mW ad cI cZ u m_size m_outLong m_lines m_toldLines m_tokens m_places m_p m_pre m_end m_text m_out m_lineAt m_lineLong m_depth m_signed m_led m_told m_place m_begin m_tokenLong m_stemLong m_address m_letters m_stems m_s)) u) t.heap → va_K (dC, dI) vwCl [(cI, .int), (cZ, .boolean)] t → va_D A ((fun u : Int32 => (mW ad cI cZ u m_size m_outLong m_lines m_toldLines m_tokens m_places m_p m_pre m_end m_text m_out m_lineAt m_lineLong m_depth m_signed m_led m_told m_place m_begin m_tokenLong m_stemLong m_address m_letters m_stems m_s)) u) → va_F A s t → (va_Qi (fun (r : Int32) (u : Int32) => post r u) (xB (dC, dI) vwCl [(cI, .int), (cZ, .boolean)] A (fun u : Int32 => (mW ad cI cZ u m_size m_outLong m_lines m_toldLines m_tokens m_places m_p m_pre m_end m_text m_out m_lineAt m_lineLong m_depth m_signed m_led m_told m_place m_begin m_tokenLong m_stemLong m_address m_letters m_stems m_s))) A) ([.ref (ad 0), .int x1, .int x2] : List Value).toArray s (.returned (some (.int r))) t := fun r u t h1 h2 h3 h4 h5 => ⟨⟨r, u, rfl, h1, h2, h3, h4⟩, h5⟩
  generalize (va_Qi (fun (r : Int32) (u : Int32) => post r u) (xB (dC, dI) vwCl [(cI, .int), (cZ, .boolean)] A (fun u : Int32 => (mW ad cI cZ u m_size m_outLong m_lines m_toldLines m_tokens m_places m_p m_pre m_end m_text m_out m_lineAt m_lineLong m_depth m_signed m_led m_told m_place m_begin m_tokenLong m_stemLong m_address m_letters m_stems m_s))) A) = Qc at hQ ⊢
  have hl := lv_entry ([.ref (ad 0), .int x1, .int x2]) (n := 3) (Nat.le_of_ble_eq_true rfl)
  rw [lg_entry_eq]
  generalize (lg_sl ([.ref (ad 0), .int x1, .int x2]) ++ List.replicate (3 - (lg_sl ([.ref (ad 0), .int x1, .int x2])).length) Slot.unset).toArray = ls at hl ⊢
  have hl : lv_has ls 3 [(0, .ref (ad 0)), (1, .int x1), (2, .int x2)] := hl
  refine (fun (key : ∀ (H : Heap) (locs : List Loc), va_P (dC, dI) vwCl (mW ad cI cZ m_thrown m_size m_outLong m_lines m_toldLines m_tokens m_places m_p m_pre m_end m_text m_out m_lineAt m_lineLong m_depth m_signed m_led m_told m_place m_begin m_tokenLong m_stemLong m_address m_letters m_stems m_s) H → va_D A (mW ad cI cZ m_thrown m_size m_outLong m_lines m_toldLines m_tokens m_places m_p m_pre m_end m_text m_out m_lineAt m_lineLong m_depth m_signed m_led m_told m_place m_begin m_tokenLong m_stemLong m_address m_letters m_stems m_s) → va_S A s.heap H locs → W p l e (headSpec wsX8_line ({ frames := 0, cells := 0, slots := 0, locals := 0 })).room s m ([.ref (ad 0), .int x1, .int x2] : List Value).toArray below meth c H locs 0 0 (MQ below Qc ([.ref (ad 0), .int x1, .int x2] : List Value).toArray s 0 0 A) (F0 m 0 ls [])) => key _ _ hP hD hS) ?_
  have inX8 : ∀ w ∈ wsX80, w ∈ wsX8_line := (fun _ h9 => List.mem_cons_of_mem _ (List.mem_append_right _ h9))
  intro H locs hP hD hS
  delta wpX8_line at h
  refine lv_aload_n hx hb dX8_line_0 rfl (lv_at hl 0 rfl) ?_
  refine lv_iconst (v := 0) hx hb dX8_line_1 (by decide) ?_
  refine va_put (D := (dC, dI)) (ci := 7) (v := .int 0) (ty := .int) (C := RX8) (T := TX8) (N := 26) hx hb hts inX8 tyX8 tyX8_ok nmX8 hown hK hP hD hS 0 rfl rfl 0 (by decide) (hts (.fieldLink RX8 60 "MailWordsModel" "thrown" "I") (List.mem_of_getElem? (i := 1) rfl)) (fun _ h9 => h9) rfl (tyX8_ok 0 (by decide)) rfl rfl (Nat.le_of_ble_eq_true rfl) dX8_line_2 (fun H locs hP hD hS => ?_)
  have hP : va_P (dC, dI) vwCl (mW ad cI cZ 0 m_size m_outLong m_lines m_toldLines m_tokens m_places m_p m_pre m_end m_text m_out m_lineAt m_lineLong m_depth m_signed m_led m_told m_place m_begin m_tokenLong m_stemLong m_address m_letters m_stems m_s) H := hP
  have hD : va_D A (mW ad cI cZ 0 m_size m_outLong m_lines m_toldLines m_tokens m_places m_p m_pre m_end m_text m_out m_lineAt m_lineLong m_depth m_signed m_led m_told m_place m_begin m_tokenLong m_stemLong m_address m_letters m_stems m_s) := hD
  refine lv_iload_n hx hb dX8_line_5 rfl (lv_at hl 1 rfl) ?_
  refine lv_if_lt (tgt := 26) hx hb dX8_line_6 (by decide) (fun c9 => ?_) (fun c9 => ?_)
  · have h := h.1 c9
    refine lv_iconst (v := (-1)) hx hb dX8_line_26 (by decide) ?_
    refine lv_goto (tgt := 40) hx hb dX8_line_27 (by decide) ?_
    exact W.iret (v := (-1)) hx hb hr (fun t ht hW => hQ (-1) 0 t h (by rw [ht]; exact hP) (va_K.moved hW.alike hK) hD (hS.F ht)) hS.2.2 dX8_line_40
  · have h := h.2 c9
    refine lv_iload_n hx hb dX8_line_9 rfl (lv_at hl 1 rfl) ?_
    refine lv_aload_n hx hb dX8_line_10 rfl (lv_at hl 0 rfl) ?_
    refine va_get (D := (dC, dI)) (ci := 7) (v := .int m_toldLines) (C := RX8) (T := TX8) (N := 26) hx hb hts inX8 hown hK hP 0 rfl rfl 11 (by decide) (hts (.fieldLink RX8 265 "MailWordsModel" "toldLines" "I") (List.mem_of_getElem? (i := 2) rfl)) (fun _ h9 => h9) rfl dX8_line_11 ?_
    refine lv_icmp_ge (tgt := 26) hx hb dX8_line_14 (by decide) (fun c9 => ?_) (fun c9 => ?_)
    · have h := h.1 c9
      refine lv_iconst (v := (-1)) hx hb dX8_line_26 (by decide) ?_
      refine lv_goto (tgt := 40) hx hb dX8_line_27 (by decide) ?_
      exact W.iret (v := (-1)) hx hb hr (fun t ht hW => hQ (-1) 0 t h (by rw [ht]; exact hP) (va_K.moved hW.alike hK) hD (hS.F ht)) hS.2.2 dX8_line_40
    · have h := h.2 c9
      refine lv_iload_n hx hb dX8_line_17 rfl (lv_at hl 2 rfl) ?_
      refine lv_if_lt (tgt := 26) hx hb dX8_line_18 (by decide) (fun c9 => ?_) (fun c9 => ?_)
      · have h := h.1 c9
        refine lv_iconst (v := (-1)) hx hb dX8_line_26 (by decide) ?_
        refine lv_goto (tgt := 40) hx hb dX8_line_27 (by decide) ?_
        exact W.iret (v := (-1)) hx hb hr (fun t ht hW => hQ (-1) 0 t h (by rw [ht]; exact hP) (va_K.moved hW.alike hK) hD (hS.F ht)) hS.2.2 dX8_line_40
      · have h := h.2 c9
        refine lv_iload_n hx hb dX8_line_21 rfl (lv_at hl 2 rfl) ?_
        refine lv_iconst (v := 4) hx hb dX8_line_22 (by decide) ?_
        refine lv_icmp_le (tgt := 30) hx hb dX8_line_23 (by decide) (fun c9 => ?_) (fun c9 => ?_)
        · have h := h.1 c9
          refine lv_aload_n hx hb dX8_line_30 rfl (lv_at hl 0 rfl) ?_
          refine va_get (D := (dC, dI)) (ci := 7) (v := .ref (ad 8)) (C := RX8) (T := TX8) (N := 26) hx hb hts inX8 hown hK hP 0 rfl rfl 12 (by decide) (hts (.fieldLink RX8 32 "MailWordsModel" "told" "[I") (List.mem_of_getElem? (i := 3) rfl)) (fun _ h9 => h9) rfl dX8_line_31 ?_
          refine lv_iconst (v := 5) hx hb dX8_line_34 (by decide) ?_
          refine lv_iload_n hx hb dX8_line_35 rfl (lv_at hl 1 rfl) ?_
          refine lv_imul hx hb dX8_line_36 ?_
          refine lv_iload_n hx hb dX8_line_37 rfl (lv_at hl 2 rfl) ?_
          refine lv_iadd hx hb dX8_line_38 ?_
          have hi9 := h.1
          have h := h.2
          refine va_iald hx hb hK hP 8 0 rfl rfl hi9 dX8_line_39 ?_
          exact W.iret (v := (m_told (((5 * x1) + x2) : Int32).toNatClampNeg)) hx hb hr (fun t ht hW => hQ (m_told (((5 * x1) + x2) : Int32).toNatClampNeg) 0 t h (by rw [ht]; exact hP) (va_K.moved hW.alike hK) hD (hS.F ht)) hS.2.2 dX8_line_40
        · have h := h.2 c9
          refine lv_iconst (v := (-1)) hx hb dX8_line_26 (by decide) ?_
          refine lv_goto (tgt := 40) hx hb dX8_line_27 (by decide) ?_
          exact W.iret (v := (-1)) hx hb hr (fun t ht hW => hQ (-1) 0 t h (by rw [ht]; exact hP) (va_K.moved hW.alike hK) hD (hS.F ht)) hS.2.2 dX8_line_40
set_option maxHeartbeats 4000000 in
set_option maxRecDepth 100000 in
theorem sX8_isSign (l : Launch) (dC : Nat → ClassId) (dI : Nat → Nat → Nat) (ad : Nat → Nat) (cI cZ : ClassId) (sa sv : Nat → Nat) (m_thrown : Int32) (m_size : Int32) (m_outLong : Int32) (m_lines : Int32) (m_toldLines : Int32) (m_tokens : Int32) (m_places : Int32) (m_p : Int32) (m_pre : Int32) (m_end : Int32) (m_text : Nat → Int32) (m_out : Nat → Int32) (m_lineAt : Nat → Int32) (m_lineLong : Nat → Int32) (m_depth : Nat → Int32) (m_signed : Nat → Int32) (m_led : Nat → Int32) (m_told : Nat → Int32) (m_place : Nat → Int32) (m_begin : Nat → Int32) (m_tokenLong : Nat → Int32) (m_stemLong : Nat → Int32) (m_address : Nat → Int32) (m_letters : Nat → Int32) (m_stems : Nat → Int32) (m_s : Nat → Int32) (x0 : Int32) {post : Int32 → Prop} (h : wpX8_isSign post x0) : xMi l (dC, dI) vwCl [(cI, .int), (cZ, .boolean)] (sI sa sv) yX8_isSign wsX8_isSign ({ frames := 0, cells := 0, slots := 0, locals := 0 }) (mW ad cI cZ m_thrown m_size m_outLong m_lines m_toldLines m_tokens m_places m_p m_pre m_end m_text m_out m_lineAt m_lineLong m_depth m_signed m_led m_told m_place m_begin m_tokenLong m_stemLong m_address m_letters m_stems m_s) [.int x0] (fun (r : Int32) (u : Unit) => post r ) (fun u : Unit => (mW ad cI cZ m_thrown m_size m_outLong m_lines m_toldLines m_tokens m_places m_p m_pre m_end m_text m_out m_lineAt m_lineLong m_depth m_signed m_led m_told m_place m_begin m_tokenLong m_stemLong m_address m_letters m_stems m_s)) := by
  intro sz
  refine Met.ofW (cc := cX8_isSign) (maxL := 1) (ret := (some .boolean)) (by decide) rfl ?_
  intro p e s m args below meth c s₁ B hml hv
  obtain ⟨rfl, hsz, hP, hK, hD0, hI⟩ := hv
  have hx := B.exec
  have hb := B.bytes
  have hr := B.returns
  have hts := atoms_spec (ws := wsX8_isSign) B.pre
  have hown : s.vm.findClass RX8 = some m.cls := findClass_of_methodNamed B.named
  have hlocks := B.notSynchronized
  subst hsz
  have hD := hD0.self (sz := s.heap.size)
  generalize hAe : va_A (mW ad cI cZ m_thrown m_size m_outLong m_lines m_toldLines m_tokens m_places m_p m_pre m_end m_text m_out m_lineAt m_lineLong m_depth m_signed m_led m_told m_place m_begin m_tokenLong m_stemLong m_address m_letters m_stems m_s) s.heap.size = A at hD hI ⊢
  have hA : ∀ q : Nat, s.heap.size ≤ q → A q := fun q h => by rw [← hAe]; exact Or.inr h
  have hS : va_S A s.heap s.heap [] := va_S.rf
  have Fx : CallFix p m c cX8_isSign 1 s ([.int x0] : List Value).toArray wsX8_isSign RX8 := ⟨hx, hb, hml, hown, hts⟩
  have hQ : ∀ (r : Int32) (u : Unit) (t : State), (fun (r : Int32) (u : Unit) => post r ) r u → va_P (dC, dI) vwCl ((fun u : Unit => (mW ad cI cZ m_thrown m_size m_outLong m_lines m_toldLines m_tokens m_places m_p m_pre m_end m_text m_out m_lineAt m_lineLong m_depth m_signed m_led m_told m_place m_begin m_tokenLong m_stemLong m_address m_letters m_stems m_s)) u) t.heap → va_K (dC, dI) vwCl [(cI, .int), (cZ, .boolean)] t → va_D A ((fun u : Unit => (mW ad cI cZ m_thrown m_size m_outLong m_lines m_toldLines m_tokens m_places m_p m_pre m_end m_text m_out m_lineAt m_lineLong m_depth m_signed m_led m_told m_place m_begin m_tokenLong m_stemLong m_address m_letters m_stems m_s)) u) → va_F A s t → (va_Qi (fun (r : Int32) (u : Unit) => post r ) (xB (dC, dI) vwCl [(cI, .int), (cZ, .boolean)] A (fun u : Unit => (mW ad cI cZ m_thrown m_size m_outLong m_lines m_toldLines m_tokens m_places m_p m_pre m_end m_text m_out m_lineAt m_lineLong m_depth m_signed m_led m_told m_place m_begin m_tokenLong m_stemLong m_address m_letters m_stems m_s))) A) ([.int x0] : List Value).toArray s (.returned (some (.int r))) t := fun r u t h1 h2 h3 h4 h5 => ⟨⟨r, u, rfl, h1, h2, h3, h4⟩, h5⟩
  generalize (va_Qi (fun (r : Int32) (u : Unit) => post r ) (xB (dC, dI) vwCl [(cI, .int), (cZ, .boolean)] A (fun u : Unit => (mW ad cI cZ m_thrown m_size m_outLong m_lines m_toldLines m_tokens m_places m_p m_pre m_end m_text m_out m_lineAt m_lineLong m_depth m_signed m_led m_told m_place m_begin m_tokenLong m_stemLong m_address m_letters m_stems m_s))) A) = Qc at hQ ⊢
  have hl := lv_entry ([.int x0]) (n := 1) (Nat.le_of_ble_eq_true rfl)
  rw [lg_entry_eq]
  generalize (lg_sl ([.int x0]) ++ List.replicate (1 - (lg_sl ([.int x0])).length) Slot.unset).toArray = ls at hl ⊢
  have hl : lv_has ls 1 [(0, .int x0)] := hl
  refine (fun (key : ∀ (H : Heap) (locs : List Loc), va_P (dC, dI) vwCl (mW ad cI cZ m_thrown m_size m_outLong m_lines m_toldLines m_tokens m_places m_p m_pre m_end m_text m_out m_lineAt m_lineLong m_depth m_signed m_led m_told m_place m_begin m_tokenLong m_stemLong m_address m_letters m_stems m_s) H → va_D A (mW ad cI cZ m_thrown m_size m_outLong m_lines m_toldLines m_tokens m_places m_p m_pre m_end m_text m_out m_lineAt m_lineLong m_depth m_signed m_led m_told m_place m_begin m_tokenLong m_stemLong m_address m_letters m_stems m_s) → va_S A s.heap H locs → W p l e (headSpec wsX8_isSign ({ frames := 0, cells := 0, slots := 0, locals := 0 })).room s m ([.int x0] : List Value).toArray below meth c H locs 0 0 (MQ below Qc ([.int x0] : List Value).toArray s 0 0 A) (F0 m 0 ls [])) => key _ _ hP hD hS) ?_
  intro H locs hP hD hS
  delta wpX8_isSign at h
  refine lv_iload_n hx hb dX8_isSign_0 rfl (lv_at hl 0 rfl) ?_
  refine lv_bipush (v := 39) hx hb dX8_isSign_1 (by decide) ?_
  refine lv_icmp_eq (tgt := 30) hx hb dX8_isSign_3 (by decide) (fun c9 => ?_) (fun c9 => ?_)
  · have h := h.1 c9
    refine lv_iconst (v := 1) hx hb dX8_isSign_30 (by decide) ?_
    refine lv_goto (tgt := 35) hx hb dX8_isSign_31 (by decide) ?_
    exact W.zret (v := 1) hx hb hr (bN_nar bN1) (fun t ht hW => hQ 1 () t h (by rw [ht]; exact hP) (va_K.moved hW.alike hK) hD (hS.F ht)) hS.2.2 dX8_isSign_35
  · have h := h.2 c9
    refine lv_iload_n hx hb dX8_isSign_6 rfl (lv_at hl 0 rfl) ?_
    refine lv_bipush (v := 46) hx hb dX8_isSign_7 (by decide) ?_
    refine lv_icmp_eq (tgt := 30) hx hb dX8_isSign_9 (by decide) (fun c9 => ?_) (fun c9 => ?_)
    · have h := h.1 c9
      refine lv_iconst (v := 1) hx hb dX8_isSign_30 (by decide) ?_
      refine lv_goto (tgt := 35) hx hb dX8_isSign_31 (by decide) ?_
      exact W.zret (v := 1) hx hb hr (bN_nar bN1) (fun t ht hW => hQ 1 () t h (by rw [ht]; exact hP) (va_K.moved hW.alike hK) hD (hS.F ht)) hS.2.2 dX8_isSign_35
    · have h := h.2 c9
      refine lv_iload_n hx hb dX8_isSign_12 rfl (lv_at hl 0 rfl) ?_
      refine lv_bipush (v := 95) hx hb dX8_isSign_13 (by decide) ?_
      refine lv_icmp_eq (tgt := 30) hx hb dX8_isSign_15 (by decide) (fun c9 => ?_) (fun c9 => ?_)
      · have h := h.1 c9
        refine lv_iconst (v := 1) hx hb dX8_isSign_30 (by decide) ?_
        refine lv_goto (tgt := 35) hx hb dX8_isSign_31 (by decide) ?_
        exact W.zret (v := 1) hx hb hr (bN_nar bN1) (fun t ht hW => hQ 1 () t h (by rw [ht]; exact hP) (va_K.moved hW.alike hK) hD (hS.F ht)) hS.2.2 dX8_isSign_35
      · have h := h.2 c9
        refine lv_iload_n hx hb dX8_isSign_18 rfl (lv_at hl 0 rfl) ?_
        refine lv_bipush (v := 45) hx hb dX8_isSign_19 (by decide) ?_
        refine lv_icmp_eq (tgt := 30) hx hb dX8_isSign_21 (by decide) (fun c9 => ?_) (fun c9 => ?_)
        · have h := h.1 c9
          refine lv_iconst (v := 1) hx hb dX8_isSign_30 (by decide) ?_
          refine lv_goto (tgt := 35) hx hb dX8_isSign_31 (by decide) ?_
          exact W.zret (v := 1) hx hb hr (bN_nar bN1) (fun t ht hW => hQ 1 () t h (by rw [ht]; exact hP) (va_K.moved hW.alike hK) hD (hS.F ht)) hS.2.2 dX8_isSign_35
        · have h := h.2 c9
          refine lv_iload_n hx hb dX8_isSign_24 rfl (lv_at hl 0 rfl) ?_
          refine lv_bipush (v := 64) hx hb dX8_isSign_25 (by decide) ?_
          refine lv_icmp_ne (tgt := 34) hx hb dX8_isSign_27 (by decide) (fun c9 => ?_) (fun c9 => ?_)
          · have h := h.1 c9
            refine lv_iconst (v := 0) hx hb dX8_isSign_34 (by decide) ?_
            exact W.zret (v := 0) hx hb hr (bN_nar bN0) (fun t ht hW => hQ 0 () t h (by rw [ht]; exact hP) (va_K.moved hW.alike hK) hD (hS.F ht)) hS.2.2 dX8_isSign_35
          · have h := h.2 c9
            refine lv_iconst (v := 1) hx hb dX8_isSign_30 (by decide) ?_
            refine lv_goto (tgt := 35) hx hb dX8_isSign_31 (by decide) ?_
            exact W.zret (v := 1) hx hb hr (bN_nar bN1) (fun t ht hW => hQ 1 () t h (by rw [ht]; exact hP) (va_K.moved hW.alike hK) hD (hS.F ht)) hS.2.2 dX8_isSign_35
set_option maxHeartbeats 4000000 in
set_option maxRecDepth 100000 in
theorem sX8_has (l : Launch) (dC : Nat → ClassId) (dI : Nat → Nat → Nat) (ad : Nat → Nat) (cI cZ : ClassId) (sa sv : Nat → Nat) (m_thrown : Int32) (m_size : Int32) (m_outLong : Int32) (m_lines : Int32) (m_toldLines : Int32) (m_tokens : Int32) (m_places : Int32) (m_p : Int32) (m_pre : Int32) (m_end : Int32) (m_text : Nat → Int32) (m_out : Nat → Int32) (m_lineAt : Nat → Int32) (m_lineLong : Nat → Int32) (m_depth : Nat → Int32) (m_signed : Nat → Int32) (m_led : Nat → Int32) (m_told : Nat → Int32) (m_place : Nat → Int32) (m_begin : Nat → Int32) (m_tokenLong : Nat → Int32) (m_stemLong : Nat → Int32) (m_address : Nat → Int32) (m_letters : Nat → Int32) (m_stems : Nat → Int32) (m_s : Nat → Int32) (x1 : Int64) {post : Int32 → Prop} (h : wpX8_has post m_end m_s x1) : xMi l (dC, dI) vwCl [(cI, .int), (cZ, .boolean)] (sI sa sv) yX8_has wsX8_has ({ frames := 1, cells := 0, slots := 0, locals := 22 }) (mW ad cI cZ m_thrown m_size m_outLong m_lines m_toldLines m_tokens m_places m_p m_pre m_end m_text m_out m_lineAt m_lineLong m_depth m_signed m_led m_told m_place m_begin m_tokenLong m_stemLong m_address m_letters m_stems m_s) [.ref (ad 0), .long x1] (fun (r : Int32) (u : Unit) => post r ) (fun u : Unit => (mW ad cI cZ m_thrown m_size m_outLong m_lines m_toldLines m_tokens m_places m_p m_pre m_end m_text m_out m_lineAt m_lineLong m_depth m_signed m_led m_told m_place m_begin m_tokenLong m_stemLong m_address m_letters m_stems m_s)) := by
  intro sz
  refine Met.ofW (cc := cX8_has) (maxL := 5) (ret := (some .boolean)) (by decide) rfl ?_
  intro p e s m args below meth c s₁ B hml hv
  obtain ⟨rfl, hsz, hP, hK, hD0, hI⟩ := hv
  have hx := B.exec
  have hb := B.bytes
  have hr := B.returns
  have hts := atoms_spec (ws := wsX8_has) B.pre
  have hown : s.vm.findClass RX8 = some m.cls := findClass_of_methodNamed B.named
  have hlocks := B.notSynchronized
  subst hsz
  have hD := hD0.self (sz := s.heap.size)
  generalize hAe : va_A (mW ad cI cZ m_thrown m_size m_outLong m_lines m_toldLines m_tokens m_places m_p m_pre m_end m_text m_out m_lineAt m_lineLong m_depth m_signed m_led m_told m_place m_begin m_tokenLong m_stemLong m_address m_letters m_stems m_s) s.heap.size = A at hD hI ⊢
  have hA : ∀ q : Nat, s.heap.size ≤ q → A q := fun q h => by rw [← hAe]; exact Or.inr h
  have hS : va_S A s.heap s.heap [] := va_S.rf
  have Fx : CallFix p m c cX8_has 5 s ([.ref (ad 0), .long x1] : List Value).toArray wsX8_has RX8 := ⟨hx, hb, hml, hown, hts⟩
  have hQ : ∀ (r : Int32) (u : Unit) (t : State), (fun (r : Int32) (u : Unit) => post r ) r u → va_P (dC, dI) vwCl ((fun u : Unit => (mW ad cI cZ m_thrown m_size m_outLong m_lines m_toldLines m_tokens m_places m_p m_pre m_end m_text m_out m_lineAt m_lineLong m_depth m_signed m_led m_told m_place m_begin m_tokenLong m_stemLong m_address m_letters m_stems m_s)) u) t.heap → va_K (dC, dI) vwCl [(cI, .int), (cZ, .boolean)] t → va_D A ((fun u : Unit => (mW ad cI cZ m_thrown m_size m_outLong m_lines m_toldLines m_tokens m_places m_p m_pre m_end m_text m_out m_lineAt m_lineLong m_depth m_signed m_led m_told m_place m_begin m_tokenLong m_stemLong m_address m_letters m_stems m_s)) u) → va_F A s t → (va_Qi (fun (r : Int32) (u : Unit) => post r ) (xB (dC, dI) vwCl [(cI, .int), (cZ, .boolean)] A (fun u : Unit => (mW ad cI cZ m_thrown m_size m_outLong m_lines m_toldLines m_tokens m_places m_p m_pre m_end m_text m_out m_lineAt m_lineLong m_depth m_signed m_led m_told m_place m_begin m_tokenLong m_stemLong m_address m_letters m_stems m_s))) A) ([.ref (ad 0), .long x1] : List Value).toArray s (.returned (some (.int r))) t := fun r u t h1 h2 h3 h4 h5 => ⟨⟨r, u, rfl, h1, h2, h3, h4⟩, h5⟩
  generalize (va_Qi (fun (r : Int32) (u : Unit) => post r ) (xB (dC, dI) vwCl [(cI, .int), (cZ, .boolean)] A (fun u : Unit => (mW ad cI cZ m_thrown m_size m_outLong m_lines m_toldLines m_tokens m_places m_p m_pre m_end m_text m_out m_lineAt m_lineLong m_depth m_signed m_led m_told m_place m_begin m_tokenLong m_stemLong m_address m_letters m_stems m_s))) A) = Qc at hQ ⊢
  have hl := lv_entry ([.ref (ad 0), .long x1]) (n := 5) (Nat.le_of_ble_eq_true rfl)
  rw [lg_entry_eq]
  generalize (lg_sl ([.ref (ad 0), .long x1]) ++ List.replicate (5 - (lg_sl ([.ref (ad 0), .long x1])).length) Slot.unset).toArray = ls at hl ⊢
  have hl : lv_has ls 5 [(0, .ref (ad 0)), (1, .long x1)] := hl
  refine (fun (key : ∀ (H : Heap) (locs : List Loc), va_P (dC, dI) vwCl (mW ad cI cZ m_thrown m_size m_outLong m_lines m_toldLines m_tokens m_places m_p m_pre m_end m_text m_out m_lineAt m_lineLong m_depth m_signed m_led m_told m_place m_begin m_tokenLong m_stemLong m_address m_letters m_stems m_s) H → va_D A (mW ad cI cZ m_thrown m_size m_outLong m_lines m_toldLines m_tokens m_places m_p m_pre m_end m_text m_out m_lineAt m_lineLong m_depth m_signed m_led m_told m_place m_begin m_tokenLong m_stemLong m_address m_letters m_stems m_s) → va_S A s.heap H locs → W p l e (headSpec wsX8_has ({ frames := 1, cells := 0, slots := 0, locals := 22 })).room s m ([.ref (ad 0), .long x1] : List Value).toArray below meth c H locs 0 0 (MQ below Qc ([.ref (ad 0), .long x1] : List Value).toArray s 0 0 A) (F0 m 0 ls [])) => key _ _ hP hD hS) ?_
  have inX8 : ∀ w ∈ wsX80, w ∈ wsX8_has := (fun _ h9 => List.mem_cons_of_mem _ (List.mem_append_right _ h9))
  have L18 : ∀ (x3 : Int32) (n : Nat) (x4 : Int32) (H : Heap) (locs : List Loc) (ls : Array Slot), lv_has ls 5 [(0, .ref (ad 0)), (1, .long x1), (3, .int x3), (4, .int x4)] → va_P (dC, dI) vwCl (mW ad cI cZ m_thrown m_size m_outLong m_lines m_toldLines m_tokens m_places m_p m_pre m_end m_text m_out m_lineAt m_lineLong m_depth m_signed m_led m_told m_place m_begin m_tokenLong m_stemLong m_address m_letters m_stems m_s) H → va_D A (mW ad cI cZ m_thrown m_size m_outLong m_lines m_toldLines m_tokens m_places m_p m_pre m_end m_text m_out m_lineAt m_lineLong m_depth m_signed m_led m_told m_place m_begin m_tokenLong m_stemLong m_address m_letters m_stems m_s) → va_S A s.heap H locs → wlX8_has_18 post m_end m_s x1 x3 n x4 → W p l e (headSpec wsX8_has ({ frames := 1, cells := 0, slots := 0, locals := 22 })).room s m ([.ref (ad 0), .long x1] : List Value).toArray below meth c H locs 0 0 (MQ below Qc ([.ref (ad 0), .long x1] : List Value).toArray s 0 0 A) (F0 m 18 ls []) := by
    intro x3
    intro n
    induction n with
    | zero => intro x4 H locs ls _ _ _ _ h; exact absurd h (fun z => z)
    | succ n18 ih18 =>
      intro x4 H locs ls hl hP hD hS h
      rw [wlX8_has_18] at h
      refine lv_iload hx hb dX8_has_18 (lv_at hl 3 rfl) ?_
      refine lv_iload_n hx hb dX8_has_20 rfl (lv_at hl 2 rfl) ?_
      refine lv_icmp_ge (tgt := 65) hx hb dX8_has_21 (by decide) (fun c9 => ?_) (fun c9 => ?_)
      · have h := h.1 c9
        refine lv_iconst (v := 1) hx hb dX8_has_65 (by decide) ?_
        exact W.zret (v := 1) hx hb hr (bN_nar bN1) (fun t ht hW => hQ 1 () t h (by rw [ht]; exact hP) (va_K.moved hW.alike hK) hD (hS.F ht)) hS.2.2 dX8_has_66
      · have h := h.2 c9
        refine lv_aload_n hx hb dX8_has_24 rfl (lv_at hl 0 rfl) ?_
        refine va_get (D := (dC, dI)) (ci := 7) (v := .ref (ad 16)) (C := RX8) (T := TX8) (N := 26) hx hb hts inX8 hown hK hP 0 rfl rfl 24 (by decide) (hts (.fieldLink RX8 57 "MailWordsModel" "s" "[I") (List.mem_of_getElem? (i := 2) rfl)) (fun _ h9 => h9) rfl dX8_has_25 ?_
        refine lv_aload_n hx hb dX8_has_28 rfl (lv_at hl 0 rfl) ?_
        refine va_get (D := (dC, dI)) (ci := 7) (v := .int m_end) (C := RX8) (T := TX8) (N := 26) hx hb hts inX8 hown hK hP 0 rfl rfl 25 (by decide) (hts (.fieldLink RX8 312 "MailWordsModel" "end" "I") (List.mem_of_getElem? (i := 1) rfl)) (fun _ h9 => h9) rfl dX8_has_29 ?_
        refine lv_iload_n hx hb dX8_has_32 rfl (lv_at hl 2 rfl) ?_
        refine lv_isub hx hb dX8_has_33 ?_
        refine lv_iload hx hb dX8_has_34 (lv_at hl 3 rfl) ?_
        refine lv_iadd hx hb dX8_has_36 ?_
        have hi9 := h.1
        have h := h.2
        refine va_iald hx hb hK hP 16 0 rfl rfl hi9 dX8_has_37 ?_
        refine lv_lload_n hx hb dX8_has_38 rfl (lv_at hl 1 rfl) ?_
        refine lv_bipush (v := 8) hx hb dX8_has_39 (by decide) ?_
        refine lv_iload_n hx hb dX8_has_41 rfl (lv_at hl 2 rfl) ?_
        refine lv_iconst (v := 1) hx hb dX8_has_42 (by decide) ?_
        refine lv_isub hx hb dX8_has_43 ?_
        refine lv_iload hx hb dX8_has_44 (lv_at hl 3 rfl) ?_
        refine lv_isub hx hb dX8_has_46 ?_
        refine lv_imul hx hb dX8_has_47 ?_
        refine lv_lushr hx hb dX8_has_48 rfl ?_
        refine lv_ldc2 (v := 255) hx hb hown (hts (.constantLong RX8 113 (255)) (List.mem_of_getElem? (i := 3) rfl)) dX8_has_49 ?_
        refine lv_land hx hb dX8_has_52 ?_
        refine lv_l2i hx hb dX8_has_53 rfl ?_
        refine lv_icmp_eq (tgt := 59) hx hb dX8_has_54 (by decide) (fun c9 => ?_) (fun c9 => ?_)
        · have h := h.1 c9
          obtain ⟨x4_1, ex4_1⟩ : ∃ y : Int32, y = x4 + 1 := ⟨_, rfl⟩
          have h := h x4_1 ex4_1
          refine lv_iinc (v := x4_1) (lv' := [(4, .int x4_1), (0, .ref (ad 0)), (1, .long x1), (3, .int x3)]) hx hb dX8_has_59 hl (k := 3) rfl (by rw [ex4_1]; rfl) (by decide) rfl (fun ls hl => ?_)
          refine lv_goto (tgt := 18) hx hb dX8_has_62 (by decide) ?_
          exact ih18 x4_1 H locs ls (lv_sub hl [1, 2, 3, 0] rfl) hP hD hS h
        · have h := h.2 c9
          refine lv_iconst (v := 0) hx hb dX8_has_57 (by decide) ?_
          exact W.zret (v := 0) hx hb hr (bN_nar bN0) (fun t ht hW => hQ 0 () t h (by rw [ht]; exact hP) (va_K.moved hW.alike hK) hD (hS.F ht)) hS.2.2 dX8_has_58
  intro H locs hP hD hS
  delta wpX8_has at h
  refine lv_lload_n hx hb dX8_has_0 rfl (lv_at hl 1 rfl) ?_
  refine xc_si (As := [.long x1]) (rest := []) xG Fx (sX8_lengthOf l dC dI ad cI cZ sa sv m_thrown m_size m_outLong m_lines m_toldLines m_tokens m_places m_p m_pre m_end m_text m_out m_lineAt m_lineLong m_depth m_signed m_led m_told m_place m_begin m_tokenLong m_stemLong m_address m_letters m_stems m_s x1 h) (va_cwS 1 hts gX8_has_X8_lengthOf rfl rfl rfl hdX8_lengthOf ⟨Nat.le_of_ble_eq_true rfl, Nat.le_of_ble_eq_true rfl⟩) hK hP hD hS hA hI rfl hl.1 rfl (Nat.le_of_ble_eq_true rfl) dX8_has_1 ⟨Nat.zero_le _, Nat.zero_le _⟩ (fun r_2 u H locs h hP hD hS => ?_)
  refine lv_istore_n (lv' := [(3, .int r_2), (0, .ref (ad 0)), (1, .long x1)]) hx hb dX8_has_4 rfl hl (by decide) rfl (fun ls hl => ?_)
  refine lv_iload_n hx hb dX8_has_5 rfl (lv_at hl 0 rfl) ?_
  refine lv_aload_n hx hb dX8_has_6 rfl (lv_at hl 1 rfl) ?_
  refine va_get (D := (dC, dI)) (ci := 7) (v := .int m_end) (C := RX8) (T := TX8) (N := 26) hx hb hts inX8 hown hK hP 0 rfl rfl 25 (by decide) (hts (.fieldLink RX8 312 "MailWordsModel" "end" "I") (List.mem_of_getElem? (i := 1) rfl)) (fun _ h9 => h9) rfl dX8_has_7 ?_
  refine lv_icmp_le (tgt := 15) hx hb dX8_has_10 (by decide) (fun c9 => ?_) (fun c9 => ?_)
  · have h := h.1 c9
    refine lv_iconst (v := 0) hx hb dX8_has_15 (by decide) ?_
    refine lv_istore (lv' := [(4, .int 0), (3, .int r_2), (0, .ref (ad 0)), (1, .long x1)]) hx hb dX8_has_16 hl (by decide) rfl (fun ls hl => ?_)
    obtain ⟨n, h⟩ := h
    exact L18 r_2 n 0 H locs ls (lv_sub hl [2, 3, 1, 0] rfl) hP hD hS h
  · have h := h.2 c9
    refine lv_iconst (v := 0) hx hb dX8_has_13 (by decide) ?_
    exact W.zret (v := 0) hx hb hr (bN_nar bN0) (fun t ht hW => hQ 0 () t h (by rw [ht]; exact hP) (va_K.moved hW.alike hK) hD (hS.F ht)) hS.2.2 dX8_has_14
set_option maxHeartbeats 4000000 in
set_option maxRecDepth 100000 in
theorem sX8_isVowelAhead (l : Launch) (dC : Nat → ClassId) (dI : Nat → Nat → Nat) (ad : Nat → Nat) (cI cZ : ClassId) (sa sv : Nat → Nat) (m_thrown : Int32) (m_size : Int32) (m_outLong : Int32) (m_lines : Int32) (m_toldLines : Int32) (m_tokens : Int32) (m_places : Int32) (m_p : Int32) (m_pre : Int32) (m_end : Int32) (m_text : Nat → Int32) (m_out : Nat → Int32) (m_lineAt : Nat → Int32) (m_lineLong : Nat → Int32) (m_depth : Nat → Int32) (m_signed : Nat → Int32) (m_led : Nat → Int32) (m_told : Nat → Int32) (m_place : Nat → Int32) (m_begin : Nat → Int32) (m_tokenLong : Nat → Int32) (m_stemLong : Nat → Int32) (m_address : Nat → Int32) (m_letters : Nat → Int32) (m_stems : Nat → Int32) (m_s : Nat → Int32) (x1 : Int32) {post : Int32 → Prop} (h : wpX8_isVowelAhead post m_s x1) : xMi l (dC, dI) vwCl [(cI, .int), (cZ, .boolean)] (sI sa sv) yX8_isVowelAhead wsX8_isVowelAhead ({ frames := 0, cells := 0, slots := 0, locals := 0 }) (mW ad cI cZ m_thrown m_size m_outLong m_lines m_toldLines m_tokens m_places m_p m_pre m_end m_text m_out m_lineAt m_lineLong m_depth m_signed m_led m_told m_place m_begin m_tokenLong m_stemLong m_address m_letters m_stems m_s) [.ref (ad 0), .int x1] (fun (r : Int32) (u : Unit) => post r ) (fun u : Unit => (mW ad cI cZ m_thrown m_size m_outLong m_lines m_toldLines m_tokens m_places m_p m_pre m_end m_text m_out m_lineAt m_lineLong m_depth m_signed m_led m_told m_place m_begin m_tokenLong m_stemLong m_address m_letters m_stems m_s)) := by
  intro sz
  refine Met.ofW (cc := cX8_isVowelAhead) (maxL := 5) (ret := (some .boolean)) (by decide) rfl ?_
  intro p e s m args below meth c s₁ B hml hv
  obtain ⟨rfl, hsz, hP, hK, hD0, hI⟩ := hv
  have hx := B.exec
  have hb := B.bytes
  have hr := B.returns
  have hts := atoms_spec (ws := wsX8_isVowelAhead) B.pre
  have hown : s.vm.findClass RX8 = some m.cls := findClass_of_methodNamed B.named
  have hlocks := B.notSynchronized
  subst hsz
  have hD := hD0.self (sz := s.heap.size)
  generalize hAe : va_A (mW ad cI cZ m_thrown m_size m_outLong m_lines m_toldLines m_tokens m_places m_p m_pre m_end m_text m_out m_lineAt m_lineLong m_depth m_signed m_led m_told m_place m_begin m_tokenLong m_stemLong m_address m_letters m_stems m_s) s.heap.size = A at hD hI ⊢
  have hA : ∀ q : Nat, s.heap.size ≤ q → A q := fun q h => by rw [← hAe]; exact Or.inr h
  have hS : va_S A s.heap s.heap [] := va_S.rf
  have Fx : CallFix p m c cX8_isVowelAhead 5 s ([.ref (ad 0), .int x1] : List Value).toArray wsX8_isVowelAhead RX8 := ⟨hx, hb, hml, hown, hts⟩
  have hQ : ∀ (r : Int32) (u : Unit) (t : State), (fun (r : Int32) (u : Unit) => post r ) r u → va_P (dC, dI) vwCl ((fun u : Unit => (mW ad cI cZ m_thrown m_size m_outLong m_lines m_toldLines m_tokens m_places m_p m_pre m_end m_text m_out m_lineAt m_lineLong m_depth m_signed m_led m_told m_place m_begin m_tokenLong m_stemLong m_address m_letters m_stems m_s)) u) t.heap → va_K (dC, dI) vwCl [(cI, .int), (cZ, .boolean)] t → va_D A ((fun u : Unit => (mW ad cI cZ m_thrown m_size m_outLong m_lines m_toldLines m_tokens m_places m_p m_pre m_end m_text m_out m_lineAt m_lineLong m_depth m_signed m_led m_told m_place m_begin m_tokenLong m_stemLong m_address m_letters m_stems m_s)) u) → va_F A s t → (va_Qi (fun (r : Int32) (u : Unit) => post r ) (xB (dC, dI) vwCl [(cI, .int), (cZ, .boolean)] A (fun u : Unit => (mW ad cI cZ m_thrown m_size m_outLong m_lines m_toldLines m_tokens m_places m_p m_pre m_end m_text m_out m_lineAt m_lineLong m_depth m_signed m_led m_told m_place m_begin m_tokenLong m_stemLong m_address m_letters m_stems m_s))) A) ([.ref (ad 0), .int x1] : List Value).toArray s (.returned (some (.int r))) t := fun r u t h1 h2 h3 h4 h5 => ⟨⟨r, u, rfl, h1, h2, h3, h4⟩, h5⟩
  generalize (va_Qi (fun (r : Int32) (u : Unit) => post r ) (xB (dC, dI) vwCl [(cI, .int), (cZ, .boolean)] A (fun u : Unit => (mW ad cI cZ m_thrown m_size m_outLong m_lines m_toldLines m_tokens m_places m_p m_pre m_end m_text m_out m_lineAt m_lineLong m_depth m_signed m_led m_told m_place m_begin m_tokenLong m_stemLong m_address m_letters m_stems m_s))) A) = Qc at hQ ⊢
  have hl := lv_entry ([.ref (ad 0), .int x1]) (n := 5) (Nat.le_of_ble_eq_true rfl)
  rw [lg_entry_eq]
  generalize (lg_sl ([.ref (ad 0), .int x1]) ++ List.replicate (5 - (lg_sl ([.ref (ad 0), .int x1])).length) Slot.unset).toArray = ls at hl ⊢
  have hl : lv_has ls 5 [(0, .ref (ad 0)), (1, .int x1)] := hl
  refine (fun (key : ∀ (H : Heap) (locs : List Loc), va_P (dC, dI) vwCl (mW ad cI cZ m_thrown m_size m_outLong m_lines m_toldLines m_tokens m_places m_p m_pre m_end m_text m_out m_lineAt m_lineLong m_depth m_signed m_led m_told m_place m_begin m_tokenLong m_stemLong m_address m_letters m_stems m_s) H → va_D A (mW ad cI cZ m_thrown m_size m_outLong m_lines m_toldLines m_tokens m_places m_p m_pre m_end m_text m_out m_lineAt m_lineLong m_depth m_signed m_led m_told m_place m_begin m_tokenLong m_stemLong m_address m_letters m_stems m_s) → va_S A s.heap H locs → W p l e (headSpec wsX8_isVowelAhead ({ frames := 0, cells := 0, slots := 0, locals := 0 })).room s m ([.ref (ad 0), .int x1] : List Value).toArray below meth c H locs 0 0 (MQ below Qc ([.ref (ad 0), .int x1] : List Value).toArray s 0 0 A) (F0 m 0 ls [])) => key _ _ hP hD hS) ?_
  have inX8 : ∀ w ∈ wsX80, w ∈ wsX8_isVowelAhead := (fun _ h9 => List.mem_cons_of_mem _ (List.mem_append_right _ h9))
  have L101 : ∀ (n : Nat) (x3 : Int32) (x4 : Int32) (H : Heap) (locs : List Loc) (ls : Array Slot), lv_has ls 5 [(1, .int x1), (3, .int x3), (4, .int x4)] → va_P (dC, dI) vwCl (mW ad cI cZ m_thrown m_size m_outLong m_lines m_toldLines m_tokens m_places m_p m_pre m_end m_text m_out m_lineAt m_lineLong m_depth m_signed m_led m_told m_place m_begin m_tokenLong m_stemLong m_address m_letters m_stems m_s) H → va_D A (mW ad cI cZ m_thrown m_size m_outLong m_lines m_toldLines m_tokens m_places m_p m_pre m_end m_text m_out m_lineAt m_lineLong m_depth m_signed m_led m_told m_place m_begin m_tokenLong m_stemLong m_address m_letters m_stems m_s) → va_S A s.heap H locs → wlX8_isVowelAhead_101 post m_s x1 n x3 x4 → W p l e (headSpec wsX8_isVowelAhead ({ frames := 0, cells := 0, slots := 0, locals := 0 })).room s m ([.ref (ad 0), .int x1] : List Value).toArray below meth c H locs 0 0 (MQ below Qc ([.ref (ad 0), .int x1] : List Value).toArray s 0 0 A) (F0 m 101 ls []) := by
    intro n
    induction n with
    | zero => intro x3 x4 H locs ls _ _ _ _ h; exact absurd h (fun z => z)
    | succ n101 ih101 =>
      intro x3 x4 H locs ls hl hP hD hS h
      have J116 : ∀ (x4 : Int32) (s0 : Int32) (H : Heap) (locs : List Loc) (ls : Array Slot), lv_has ls 5 [(1, .int x1), (4, .int x4)] → va_P (dC, dI) vwCl (mW ad cI cZ m_thrown m_size m_outLong m_lines m_toldLines m_tokens m_places m_p m_pre m_end m_text m_out m_lineAt m_lineLong m_depth m_signed m_led m_told m_place m_begin m_tokenLong m_stemLong m_address m_letters m_stems m_s) H → va_D A (mW ad cI cZ m_thrown m_size m_outLong m_lines m_toldLines m_tokens m_places m_p m_pre m_end m_text m_out m_lineAt m_lineLong m_depth m_signed m_led m_told m_place m_begin m_tokenLong m_stemLong m_address m_letters m_stems m_s) → va_S A s.heap H locs → wjX8_isVowelAhead_116 (fun x3 x4 => wlX8_isVowelAhead_101 post m_s x1 n101 x3 x4) post m_s x1 x4 s0 → W p l e (headSpec wsX8_isVowelAhead ({ frames := 0, cells := 0, slots := 0, locals := 0 })).room s m ([.ref (ad 0), .int x1] : List Value).toArray below meth c H locs 0 0 (MQ below Qc ([.ref (ad 0), .int x1] : List Value).toArray s 0 0 A) (F0 m 116 ls [.int s0]) := by
        intro x4 s0 H locs ls hl hP hD hS h
        delta wjX8_isVowelAhead_116 at h
        refine lv_istore_n (lv' := [(3, .int s0), (1, .int x1), (4, .int x4)]) hx hb dX8_isVowelAhead_116 rfl hl (by decide) rfl (fun ls hl => ?_)
        obtain ⟨x4_1, ex4_1⟩ : ∃ y : Int32, y = x4 + 1 := ⟨_, rfl⟩
        have h := h x4_1 ex4_1
        refine lv_iinc (v := x4_1) (lv' := [(4, .int x4_1), (3, .int s0), (1, .int x1)]) hx hb dX8_isVowelAhead_117 hl (k := 2) rfl (by rw [ex4_1]; rfl) (by decide) rfl (fun ls hl => ?_)
        refine lv_goto (tgt := 101) hx hb dX8_isVowelAhead_120 (by decide) ?_
        exact ih101 s0 x4_1 H locs ls (lv_sub hl [2, 1, 0] rfl) hP hD hS h
      rw [wlX8_isVowelAhead_101] at h
      refine lv_iload hx hb dX8_isVowelAhead_101 (lv_at hl 2 rfl) ?_
      refine lv_iload_n hx hb dX8_isVowelAhead_103 rfl (lv_at hl 0 rfl) ?_
      refine lv_icmp_gt (tgt := 123) hx hb dX8_isVowelAhead_104 (by decide) (fun c9 => ?_) (fun c9 => ?_)
      · have h := h.1 c9
        refine lv_iload_n hx hb dX8_isVowelAhead_123 rfl (lv_at hl 1 rfl) ?_
        have hb9 := h.1
        have h := h.2
        exact W.zret (v := x3) hx hb hr (bN_nar hb9) (fun t ht hW => hQ x3 () t h (by rw [ht]; exact hP) (va_K.moved hW.alike hK) hD (hS.F ht)) hS.2.2 dX8_isVowelAhead_124
      · have h := h.2 c9
        refine lv_iload_n hx hb dX8_isVowelAhead_107 rfl (lv_at hl 1 rfl) ?_
        refine lv_if_ne (tgt := 115) hx hb dX8_isVowelAhead_108 (by decide) (fun c9 => ?_) (fun c9 => ?_)
        · have h := h.1 c9
          refine lv_iconst (v := 0) hx hb dX8_isVowelAhead_115 (by decide) ?_
          exact J116 x4 0 H locs ls (lv_sub hl [0, 2] rfl) hP hD hS h
        · have h := h.2 c9
          refine lv_iconst (v := 1) hx hb dX8_isVowelAhead_111 (by decide) ?_
          refine lv_goto (tgt := 116) hx hb dX8_isVowelAhead_112 (by decide) ?_
          exact J116 x4 1 H locs ls (lv_sub hl [0, 2] rfl) hP hD hS h
  have J96 : ∀ (x2 : Int32) (x3 : Int32) (H : Heap) (locs : List Loc) (ls : Array Slot), lv_has ls 5 [(1, .int x1), (2, .int x2), (3, .int x3)] → va_P (dC, dI) vwCl (mW ad cI cZ m_thrown m_size m_outLong m_lines m_toldLines m_tokens m_places m_p m_pre m_end m_text m_out m_lineAt m_lineLong m_depth m_signed m_led m_told m_place m_begin m_tokenLong m_stemLong m_address m_letters m_stems m_s) H → va_D A (mW ad cI cZ m_thrown m_size m_outLong m_lines m_toldLines m_tokens m_places m_p m_pre m_end m_text m_out m_lineAt m_lineLong m_depth m_signed m_led m_told m_place m_begin m_tokenLong m_stemLong m_address m_letters m_stems m_s) → va_S A s.heap H locs → wjX8_isVowelAhead_96 post m_s x1 x2 x3 → W p l e (headSpec wsX8_isVowelAhead ({ frames := 0, cells := 0, slots := 0, locals := 0 })).room s m ([.ref (ad 0), .int x1] : List Value).toArray below meth c H locs 0 0 (MQ below Qc ([.ref (ad 0), .int x1] : List Value).toArray s 0 0 A) (F0 m 96 ls []) := by
    intro x2 x3 H locs ls hl hP hD hS h
    delta wjX8_isVowelAhead_96 at h
    refine lv_iload_n hx hb dX8_isVowelAhead_96 rfl (lv_at hl 1 rfl) ?_
    refine lv_iconst (v := 1) hx hb dX8_isVowelAhead_97 (by decide) ?_
    refine lv_iadd hx hb dX8_isVowelAhead_98 ?_
    refine lv_topi (fun x4_2 ex4_2 => ?_)
    have h := h x4_2 ex4_2
    refine lv_istore (lv' := [(4, .int x4_2), (1, .int x1), (2, .int x2), (3, .int x3)]) hx hb dX8_isVowelAhead_99 hl (by decide) rfl (fun ls hl => ?_)
    obtain ⟨n, h⟩ := h
    exact L101  n x3 x4_2 H locs ls (lv_sub hl [1, 3, 0] rfl) hP hD hS h
  have J87 : ∀ (x2 : Int32) (s0 : Int32) (H : Heap) (locs : List Loc) (ls : Array Slot), lv_has ls 5 [(1, .int x1), (2, .int x2)] → va_P (dC, dI) vwCl (mW ad cI cZ m_thrown m_size m_outLong m_lines m_toldLines m_tokens m_places m_p m_pre m_end m_text m_out m_lineAt m_lineLong m_depth m_signed m_led m_told m_place m_begin m_tokenLong m_stemLong m_address m_letters m_stems m_s) H → va_D A (mW ad cI cZ m_thrown m_size m_outLong m_lines m_toldLines m_tokens m_places m_p m_pre m_end m_text m_out m_lineAt m_lineLong m_depth m_signed m_led m_told m_place m_begin m_tokenLong m_stemLong m_address m_letters m_stems m_s) → va_S A s.heap H locs → wjX8_isVowelAhead_87 post m_s x1 x2 s0 → W p l e (headSpec wsX8_isVowelAhead ({ frames := 0, cells := 0, slots := 0, locals := 0 })).room s m ([.ref (ad 0), .int x1] : List Value).toArray below meth c H locs 0 0 (MQ below Qc ([.ref (ad 0), .int x1] : List Value).toArray s 0 0 A) (F0 m 87 ls [.int s0]) := by
    intro x2 s0 H locs ls hl hP hD hS h
    delta wjX8_isVowelAhead_87 at h
    refine lv_istore_n (lv' := [(3, .int s0), (1, .int x1), (2, .int x2)]) hx hb dX8_isVowelAhead_87 rfl hl (by decide) rfl (fun ls hl => ?_)
    refine lv_iload_n hx hb dX8_isVowelAhead_88 rfl (lv_at hl 2 rfl) ?_
    refine lv_if_ge (tgt := 96) hx hb dX8_isVowelAhead_89 (by decide) (fun c9 => ?_) (fun c9 => ?_)
    · have h := h.1 c9
      exact J96 x2 s0 H locs ls (lv_sub hl [1, 2, 0] rfl) hP hD hS h
    · have h := h.2 c9
      refine lv_iconst (v := 0) hx hb dX8_isVowelAhead_92 (by decide) ?_
      refine lv_istore_n (lv' := [(3, .int 0), (1, .int x1), (2, .int x2)]) hx hb dX8_isVowelAhead_93 rfl hl (by decide) rfl (fun ls hl => ?_)
      refine lv_iconst (v := 0) hx hb dX8_isVowelAhead_94 (by decide) ?_
      refine lv_istore_n (lv' := [(2, .int 0), (3, .int 0), (1, .int x1)]) hx hb dX8_isVowelAhead_95 rfl hl (by decide) rfl (fun ls hl => ?_)
      exact J96 0 0 H locs ls (lv_sub hl [2, 0, 1] rfl) hP hD hS h
  have J86 : ∀ (x2 : Int32) (H : Heap) (locs : List Loc) (ls : Array Slot), lv_has ls 5 [(1, .int x1), (2, .int x2)] → va_P (dC, dI) vwCl (mW ad cI cZ m_thrown m_size m_outLong m_lines m_toldLines m_tokens m_places m_p m_pre m_end m_text m_out m_lineAt m_lineLong m_depth m_signed m_led m_told m_place m_begin m_tokenLong m_stemLong m_address m_letters m_stems m_s) H → va_D A (mW ad cI cZ m_thrown m_size m_outLong m_lines m_toldLines m_tokens m_places m_p m_pre m_end m_text m_out m_lineAt m_lineLong m_depth m_signed m_led m_told m_place m_begin m_tokenLong m_stemLong m_address m_letters m_stems m_s) → va_S A s.heap H locs → wjX8_isVowelAhead_86 post m_s x1 x2 → W p l e (headSpec wsX8_isVowelAhead ({ frames := 0, cells := 0, slots := 0, locals := 0 })).room s m ([.ref (ad 0), .int x1] : List Value).toArray below meth c H locs 0 0 (MQ below Qc ([.ref (ad 0), .int x1] : List Value).toArray s 0 0 A) (F0 m 86 ls []) := by
    intro x2 H locs ls hl hP hD hS h
    delta wjX8_isVowelAhead_86 at h
    refine lv_iconst (v := 0) hx hb dX8_isVowelAhead_86 (by decide) ?_
    exact J87 x2 0 H locs ls (lv_sub hl [0, 1] rfl) hP hD hS h
  have J82 : ∀ (x2 : Int32) (H : Heap) (locs : List Loc) (ls : Array Slot), lv_has ls 5 [(1, .int x1), (2, .int x2)] → va_P (dC, dI) vwCl (mW ad cI cZ m_thrown m_size m_outLong m_lines m_toldLines m_tokens m_places m_p m_pre m_end m_text m_out m_lineAt m_lineLong m_depth m_signed m_led m_told m_place m_begin m_tokenLong m_stemLong m_address m_letters m_stems m_s) H → va_D A (mW ad cI cZ m_thrown m_size m_outLong m_lines m_toldLines m_tokens m_places m_p m_pre m_end m_text m_out m_lineAt m_lineLong m_depth m_signed m_led m_told m_place m_begin m_tokenLong m_stemLong m_address m_letters m_stems m_s) → va_S A s.heap H locs → wjX8_isVowelAhead_82 post m_s x1 x2 → W p l e (headSpec wsX8_isVowelAhead ({ frames := 0, cells := 0, slots := 0, locals := 0 })).room s m ([.ref (ad 0), .int x1] : List Value).toArray below meth c H locs 0 0 (MQ below Qc ([.ref (ad 0), .int x1] : List Value).toArray s 0 0 A) (F0 m 82 ls []) := by
    intro x2 H locs ls hl hP hD hS h
    delta wjX8_isVowelAhead_82 at h
    refine lv_iconst (v := 1) hx hb dX8_isVowelAhead_82 (by decide) ?_
    refine lv_goto (tgt := 87) hx hb dX8_isVowelAhead_83 (by decide) ?_
    exact J87 x2 1 H locs ls (lv_sub hl [0, 1] rfl) hP hD hS h
  have J23 : ∀ (x2 : Int32) (H : Heap) (locs : List Loc) (ls : Array Slot), lv_has ls 5 [(0, .ref (ad 0)), (1, .int x1), (2, .int x2)] → va_P (dC, dI) vwCl (mW ad cI cZ m_thrown m_size m_outLong m_lines m_toldLines m_tokens m_places m_p m_pre m_end m_text m_out m_lineAt m_lineLong m_depth m_signed m_led m_told m_place m_begin m_tokenLong m_stemLong m_address m_letters m_stems m_s) H → va_D A (mW ad cI cZ m_thrown m_size m_outLong m_lines m_toldLines m_tokens m_places m_p m_pre m_end m_text m_out m_lineAt m_lineLong m_depth m_signed m_led m_told m_place m_begin m_tokenLong m_stemLong m_address m_letters m_stems m_s) → va_S A s.heap H locs → wjX8_isVowelAhead_23 post m_s x1 x2 → W p l e (headSpec wsX8_isVowelAhead ({ frames := 0, cells := 0, slots := 0, locals := 0 })).room s m ([.ref (ad 0), .int x1] : List Value).toArray below meth c H locs 0 0 (MQ below Qc ([.ref (ad 0), .int x1] : List Value).toArray s 0 0 A) (F0 m 23 ls []) := by
    intro x2 H locs ls hl hP hD hS h
    delta wjX8_isVowelAhead_23 at h
    refine lv_iload_n hx hb dX8_isVowelAhead_23 rfl (lv_at hl 2 rfl) ?_
    refine lv_if_lt (tgt := 86) hx hb dX8_isVowelAhead_24 (by decide) (fun c9 => ?_) (fun c9 => ?_)
    · have h := h.1 c9
      exact J86 x2 H locs ls (lv_sub hl [1, 2] rfl) hP hD hS h
    · have h := h.2 c9
      refine lv_aload_n hx hb dX8_isVowelAhead_27 rfl (lv_at hl 0 rfl) ?_
      refine va_get (D := (dC, dI)) (ci := 7) (v := .ref (ad 16)) (C := RX8) (T := TX8) (N := 26) hx hb hts inX8 hown hK hP 0 rfl rfl 24 (by decide) (hts (.fieldLink RX8 57 "MailWordsModel" "s" "[I") (List.mem_of_getElem? (i := 1) rfl)) (fun _ h9 => h9) rfl dX8_isVowelAhead_28 ?_
      refine lv_iload_n hx hb dX8_isVowelAhead_31 rfl (lv_at hl 2 rfl) ?_
      have hi9 := h.1
      have h := h.2
      refine va_iald hx hb hK hP 16 0 rfl rfl hi9 dX8_isVowelAhead_32 ?_
      refine lv_bipush (v := 97) hx hb dX8_isVowelAhead_33 (by decide) ?_
      refine lv_icmp_eq (tgt := 82) hx hb dX8_isVowelAhead_35 (by decide) (fun c9 => ?_) (fun c9 => ?_)
      · have h := h.1 c9
        exact J82 x2 H locs ls (lv_sub hl [1, 2] rfl) hP hD hS h
      · have h := h.2 c9
        refine lv_aload_n hx hb dX8_isVowelAhead_38 rfl (lv_at hl 0 rfl) ?_
        refine va_get (D := (dC, dI)) (ci := 7) (v := .ref (ad 16)) (C := RX8) (T := TX8) (N := 26) hx hb hts inX8 hown hK hP 0 rfl rfl 24 (by decide) (hts (.fieldLink RX8 57 "MailWordsModel" "s" "[I") (List.mem_of_getElem? (i := 1) rfl)) (fun _ h9 => h9) rfl dX8_isVowelAhead_39 ?_
        refine lv_iload_n hx hb dX8_isVowelAhead_42 rfl (lv_at hl 2 rfl) ?_
        have hi9 := h.1
        have h := h.2
        refine va_iald hx hb hK hP 16 0 rfl rfl hi9 dX8_isVowelAhead_43 ?_
        refine lv_bipush (v := 101) hx hb dX8_isVowelAhead_44 (by decide) ?_
        refine lv_icmp_eq (tgt := 82) hx hb dX8_isVowelAhead_46 (by decide) (fun c9 => ?_) (fun c9 => ?_)
        · have h := h.1 c9
          exact J82 x2 H locs ls (lv_sub hl [1, 2] rfl) hP hD hS h
        · have h := h.2 c9
          refine lv_aload_n hx hb dX8_isVowelAhead_49 rfl (lv_at hl 0 rfl) ?_
          refine va_get (D := (dC, dI)) (ci := 7) (v := .ref (ad 16)) (C := RX8) (T := TX8) (N := 26) hx hb hts inX8 hown hK hP 0 rfl rfl 24 (by decide) (hts (.fieldLink RX8 57 "MailWordsModel" "s" "[I") (List.mem_of_getElem? (i := 1) rfl)) (fun _ h9 => h9) rfl dX8_isVowelAhead_50 ?_
          refine lv_iload_n hx hb dX8_isVowelAhead_53 rfl (lv_at hl 2 rfl) ?_
          have hi9 := h.1
          have h := h.2
          refine va_iald hx hb hK hP 16 0 rfl rfl hi9 dX8_isVowelAhead_54 ?_
          refine lv_bipush (v := 105) hx hb dX8_isVowelAhead_55 (by decide) ?_
          refine lv_icmp_eq (tgt := 82) hx hb dX8_isVowelAhead_57 (by decide) (fun c9 => ?_) (fun c9 => ?_)
          · have h := h.1 c9
            exact J82 x2 H locs ls (lv_sub hl [1, 2] rfl) hP hD hS h
          · have h := h.2 c9
            refine lv_aload_n hx hb dX8_isVowelAhead_60 rfl (lv_at hl 0 rfl) ?_
            refine va_get (D := (dC, dI)) (ci := 7) (v := .ref (ad 16)) (C := RX8) (T := TX8) (N := 26) hx hb hts inX8 hown hK hP 0 rfl rfl 24 (by decide) (hts (.fieldLink RX8 57 "MailWordsModel" "s" "[I") (List.mem_of_getElem? (i := 1) rfl)) (fun _ h9 => h9) rfl dX8_isVowelAhead_61 ?_
            refine lv_iload_n hx hb dX8_isVowelAhead_64 rfl (lv_at hl 2 rfl) ?_
            have hi9 := h.1
            have h := h.2
            refine va_iald hx hb hK hP 16 0 rfl rfl hi9 dX8_isVowelAhead_65 ?_
            refine lv_bipush (v := 111) hx hb dX8_isVowelAhead_66 (by decide) ?_
            refine lv_icmp_eq (tgt := 82) hx hb dX8_isVowelAhead_68 (by decide) (fun c9 => ?_) (fun c9 => ?_)
            · have h := h.1 c9
              exact J82 x2 H locs ls (lv_sub hl [1, 2] rfl) hP hD hS h
            · have h := h.2 c9
              refine lv_aload_n hx hb dX8_isVowelAhead_71 rfl (lv_at hl 0 rfl) ?_
              refine va_get (D := (dC, dI)) (ci := 7) (v := .ref (ad 16)) (C := RX8) (T := TX8) (N := 26) hx hb hts inX8 hown hK hP 0 rfl rfl 24 (by decide) (hts (.fieldLink RX8 57 "MailWordsModel" "s" "[I") (List.mem_of_getElem? (i := 1) rfl)) (fun _ h9 => h9) rfl dX8_isVowelAhead_72 ?_
              refine lv_iload_n hx hb dX8_isVowelAhead_75 rfl (lv_at hl 2 rfl) ?_
              have hi9 := h.1
              have h := h.2
              refine va_iald hx hb hK hP 16 0 rfl rfl hi9 dX8_isVowelAhead_76 ?_
              refine lv_bipush (v := 117) hx hb dX8_isVowelAhead_77 (by decide) ?_
              refine lv_icmp_ne (tgt := 86) hx hb dX8_isVowelAhead_79 (by decide) (fun c9 => ?_) (fun c9 => ?_)
              · have h := h.1 c9
                exact J86 x2 H locs ls (lv_sub hl [1, 2] rfl) hP hD hS h
              · have h := h.2 c9
                exact J82 x2 H locs ls (lv_sub hl [1, 2] rfl) hP hD hS h
  have L2 : ∀ (n : Nat) (x2 : Int32) (H : Heap) (locs : List Loc) (ls : Array Slot), lv_has ls 5 [(0, .ref (ad 0)), (1, .int x1), (2, .int x2)] → va_P (dC, dI) vwCl (mW ad cI cZ m_thrown m_size m_outLong m_lines m_toldLines m_tokens m_places m_p m_pre m_end m_text m_out m_lineAt m_lineLong m_depth m_signed m_led m_told m_place m_begin m_tokenLong m_stemLong m_address m_letters m_stems m_s) H → va_D A (mW ad cI cZ m_thrown m_size m_outLong m_lines m_toldLines m_tokens m_places m_p m_pre m_end m_text m_out m_lineAt m_lineLong m_depth m_signed m_led m_told m_place m_begin m_tokenLong m_stemLong m_address m_letters m_stems m_s) → va_S A s.heap H locs → wlX8_isVowelAhead_2 post m_s x1 n x2 → W p l e (headSpec wsX8_isVowelAhead ({ frames := 0, cells := 0, slots := 0, locals := 0 })).room s m ([.ref (ad 0), .int x1] : List Value).toArray below meth c H locs 0 0 (MQ below Qc ([.ref (ad 0), .int x1] : List Value).toArray s 0 0 A) (F0 m 2 ls []) := by
    intro n
    induction n with
    | zero => intro x2 H locs ls _ _ _ _ h; exact absurd h (fun z => z)
    | succ n2 ih2 =>
      intro x2 H locs ls hl hP hD hS h
      rw [wlX8_isVowelAhead_2] at h
      refine lv_iload_n hx hb dX8_isVowelAhead_2 rfl (lv_at hl 2 rfl) ?_
      refine lv_if_lt (tgt := 23) hx hb dX8_isVowelAhead_3 (by decide) (fun c9 => ?_) (fun c9 => ?_)
      · have h := h.1 c9
        exact J23 x2 H locs ls (lv_sub hl [0, 1, 2] rfl) hP hD hS h
      · have h := h.2 c9
        refine lv_aload_n hx hb dX8_isVowelAhead_6 rfl (lv_at hl 0 rfl) ?_
        refine va_get (D := (dC, dI)) (ci := 7) (v := .ref (ad 16)) (C := RX8) (T := TX8) (N := 26) hx hb hts inX8 hown hK hP 0 rfl rfl 24 (by decide) (hts (.fieldLink RX8 57 "MailWordsModel" "s" "[I") (List.mem_of_getElem? (i := 1) rfl)) (fun _ h9 => h9) rfl dX8_isVowelAhead_7 ?_
        refine lv_iload_n hx hb dX8_isVowelAhead_10 rfl (lv_at hl 2 rfl) ?_
        have hi9 := h.1
        have h := h.2
        refine va_iald hx hb hK hP 16 0 rfl rfl hi9 dX8_isVowelAhead_11 ?_
        refine lv_bipush (v := 121) hx hb dX8_isVowelAhead_12 (by decide) ?_
        refine lv_icmp_ne (tgt := 23) hx hb dX8_isVowelAhead_14 (by decide) (fun c9 => ?_) (fun c9 => ?_)
        · have h := h.1 c9
          exact J23 x2 H locs ls (lv_sub hl [0, 1, 2] rfl) hP hD hS h
        · have h := h.2 c9
          obtain ⟨x2_3, ex2_3⟩ : ∃ y : Int32, y = x2 + (-1) := ⟨_, rfl⟩
          have h := h x2_3 ex2_3
          refine lv_iinc (v := x2_3) (lv' := [(2, .int x2_3), (0, .ref (ad 0)), (1, .int x1)]) hx hb dX8_isVowelAhead_17 hl (k := 2) rfl (by rw [ex2_3]; rfl) (by decide) rfl (fun ls hl => ?_)
          refine lv_goto (tgt := 2) hx hb dX8_isVowelAhead_20 (by decide) ?_
          exact ih2 x2_3 H locs ls (lv_sub hl [1, 2, 0] rfl) hP hD hS h
  intro H locs hP hD hS
  delta wpX8_isVowelAhead at h
  refine lv_iload_n hx hb dX8_isVowelAhead_0 rfl (lv_at hl 1 rfl) ?_
  refine lv_istore_n (lv' := [(2, .int x1), (0, .ref (ad 0)), (1, .int x1)]) hx hb dX8_isVowelAhead_1 rfl hl (by decide) rfl (fun ls hl => ?_)
  obtain ⟨n, h⟩ := h
  exact L2  n x1 H locs ls (lv_sub hl [1, 2, 0] rfl) hP hD hS h
set_option maxHeartbeats 4000000 in
set_option maxRecDepth 100000 in
theorem sX8_isVowel (l : Launch) (dC : Nat → ClassId) (dI : Nat → Nat → Nat) (ad : Nat → Nat) (cI cZ : ClassId) (sa sv : Nat → Nat) (m_thrown : Int32) (m_size : Int32) (m_outLong : Int32) (m_lines : Int32) (m_toldLines : Int32) (m_tokens : Int32) (m_places : Int32) (m_p : Int32) (m_pre : Int32) (m_end : Int32) (m_text : Nat → Int32) (m_out : Nat → Int32) (m_lineAt : Nat → Int32) (m_lineLong : Nat → Int32) (m_depth : Nat → Int32) (m_signed : Nat → Int32) (m_led : Nat → Int32) (m_told : Nat → Int32) (m_place : Nat → Int32) (m_begin : Nat → Int32) (m_tokenLong : Nat → Int32) (m_stemLong : Nat → Int32) (m_address : Nat → Int32) (m_letters : Nat → Int32) (m_stems : Nat → Int32) (m_s : Nat → Int32) (x1 : Int32) {post : Int32 → Prop} (h : wpX8_isVowel post m_s x1) : xMi l (dC, dI) vwCl [(cI, .int), (cZ, .boolean)] (sI sa sv) yX8_isVowel wsX8_isVowel ({ frames := 1, cells := 0, slots := 0, locals := 24 }) (mW ad cI cZ m_thrown m_size m_outLong m_lines m_toldLines m_tokens m_places m_p m_pre m_end m_text m_out m_lineAt m_lineLong m_depth m_signed m_led m_told m_place m_begin m_tokenLong m_stemLong m_address m_letters m_stems m_s) [.ref (ad 0), .int x1] (fun (r : Int32) (u : Unit) => post r ) (fun u : Unit => (mW ad cI cZ m_thrown m_size m_outLong m_lines m_toldLines m_tokens m_places m_p m_pre m_end m_text m_out m_lineAt m_lineLong m_depth m_signed m_led m_told m_place m_begin m_tokenLong m_stemLong m_address m_letters m_stems m_s)) := by
  intro sz
  refine Met.ofW (cc := cX8_isVowel) (maxL := 3) (ret := (some .boolean)) (by decide) rfl ?_
  intro p e s m args below meth c s₁ B hml hv
  obtain ⟨rfl, hsz, hP, hK, hD0, hI⟩ := hv
  have hx := B.exec
  have hb := B.bytes
  have hr := B.returns
  have hts := atoms_spec (ws := wsX8_isVowel) B.pre
  have hown : s.vm.findClass RX8 = some m.cls := findClass_of_methodNamed B.named
  have hlocks := B.notSynchronized
  subst hsz
  have hD := hD0.self (sz := s.heap.size)
  generalize hAe : va_A (mW ad cI cZ m_thrown m_size m_outLong m_lines m_toldLines m_tokens m_places m_p m_pre m_end m_text m_out m_lineAt m_lineLong m_depth m_signed m_led m_told m_place m_begin m_tokenLong m_stemLong m_address m_letters m_stems m_s) s.heap.size = A at hD hI ⊢
  have hA : ∀ q : Nat, s.heap.size ≤ q → A q := fun q h => by rw [← hAe]; exact Or.inr h
  have hS : va_S A s.heap s.heap [] := va_S.rf
  have Fx : CallFix p m c cX8_isVowel 3 s ([.ref (ad 0), .int x1] : List Value).toArray wsX8_isVowel RX8 := ⟨hx, hb, hml, hown, hts⟩
  have hQ : ∀ (r : Int32) (u : Unit) (t : State), (fun (r : Int32) (u : Unit) => post r ) r u → va_P (dC, dI) vwCl ((fun u : Unit => (mW ad cI cZ m_thrown m_size m_outLong m_lines m_toldLines m_tokens m_places m_p m_pre m_end m_text m_out m_lineAt m_lineLong m_depth m_signed m_led m_told m_place m_begin m_tokenLong m_stemLong m_address m_letters m_stems m_s)) u) t.heap → va_K (dC, dI) vwCl [(cI, .int), (cZ, .boolean)] t → va_D A ((fun u : Unit => (mW ad cI cZ m_thrown m_size m_outLong m_lines m_toldLines m_tokens m_places m_p m_pre m_end m_text m_out m_lineAt m_lineLong m_depth m_signed m_led m_told m_place m_begin m_tokenLong m_stemLong m_address m_letters m_stems m_s)) u) → va_F A s t → (va_Qi (fun (r : Int32) (u : Unit) => post r ) (xB (dC, dI) vwCl [(cI, .int), (cZ, .boolean)] A (fun u : Unit => (mW ad cI cZ m_thrown m_size m_outLong m_lines m_toldLines m_tokens m_places m_p m_pre m_end m_text m_out m_lineAt m_lineLong m_depth m_signed m_led m_told m_place m_begin m_tokenLong m_stemLong m_address m_letters m_stems m_s))) A) ([.ref (ad 0), .int x1] : List Value).toArray s (.returned (some (.int r))) t := fun r u t h1 h2 h3 h4 h5 => ⟨⟨r, u, rfl, h1, h2, h3, h4⟩, h5⟩
  generalize (va_Qi (fun (r : Int32) (u : Unit) => post r ) (xB (dC, dI) vwCl [(cI, .int), (cZ, .boolean)] A (fun u : Unit => (mW ad cI cZ m_thrown m_size m_outLong m_lines m_toldLines m_tokens m_places m_p m_pre m_end m_text m_out m_lineAt m_lineLong m_depth m_signed m_led m_told m_place m_begin m_tokenLong m_stemLong m_address m_letters m_stems m_s))) A) = Qc at hQ ⊢
  have hl := lv_entry ([.ref (ad 0), .int x1]) (n := 3) (Nat.le_of_ble_eq_true rfl)
  rw [lg_entry_eq]
  generalize (lg_sl ([.ref (ad 0), .int x1]) ++ List.replicate (3 - (lg_sl ([.ref (ad 0), .int x1])).length) Slot.unset).toArray = ls at hl ⊢
  have hl : lv_has ls 3 [(0, .ref (ad 0)), (1, .int x1)] := hl
  refine (fun (key : ∀ (H : Heap) (locs : List Loc), va_P (dC, dI) vwCl (mW ad cI cZ m_thrown m_size m_outLong m_lines m_toldLines m_tokens m_places m_p m_pre m_end m_text m_out m_lineAt m_lineLong m_depth m_signed m_led m_told m_place m_begin m_tokenLong m_stemLong m_address m_letters m_stems m_s) H → va_D A (mW ad cI cZ m_thrown m_size m_outLong m_lines m_toldLines m_tokens m_places m_p m_pre m_end m_text m_out m_lineAt m_lineLong m_depth m_signed m_led m_told m_place m_begin m_tokenLong m_stemLong m_address m_letters m_stems m_s) → va_S A s.heap H locs → W p l e (headSpec wsX8_isVowel ({ frames := 1, cells := 0, slots := 0, locals := 24 })).room s m ([.ref (ad 0), .int x1] : List Value).toArray below meth c H locs 0 0 (MQ below Qc ([.ref (ad 0), .int x1] : List Value).toArray s 0 0 A) (F0 m 0 ls [])) => key _ _ hP hD hS) ?_
  have inX8 : ∀ w ∈ wsX80, w ∈ wsX8_isVowel := (fun _ h9 => List.mem_cons_of_mem _ (List.mem_append_right _ h9))
  intro H locs hP hD hS
  delta wpX8_isVowel at h
  refine lv_aload_n hx hb dX8_isVowel_0 rfl (lv_at hl 0 rfl) ?_
  refine va_get (D := (dC, dI)) (ci := 7) (v := .ref (ad 16)) (C := RX8) (T := TX8) (N := 26) hx hb hts inX8 hown hK hP 0 rfl rfl 24 (by decide) (hts (.fieldLink RX8 57 "MailWordsModel" "s" "[I") (List.mem_of_getElem? (i := 1) rfl)) (fun _ h9 => h9) rfl dX8_isVowel_1 ?_
  refine lv_iload_n hx hb dX8_isVowel_4 rfl (lv_at hl 1 rfl) ?_
  have hi9 := h.1
  have h := h.2
  refine va_iald hx hb hK hP 16 0 rfl rfl hi9 dX8_isVowel_5 ?_
  refine lv_topi (fun x2_1 ex2_1 => ?_)
  have h := h x2_1 ex2_1
  refine lv_istore_n (lv' := [(2, .int x2_1), (0, .ref (ad 0)), (1, .int x1)]) hx hb dX8_isVowel_6 rfl hl (by decide) rfl (fun ls hl => ?_)
  refine lv_iload_n hx hb dX8_isVowel_7 rfl (lv_at hl 0 rfl) ?_
  refine lv_bipush (v := 121) hx hb dX8_isVowel_8 (by decide) ?_
  refine lv_icmp_ne (tgt := 33) hx hb dX8_isVowel_10 (by decide) (fun c9 => ?_) (fun c9 => ?_)
  · have h := h.1 c9
    refine lv_iload_n hx hb dX8_isVowel_33 rfl (lv_at hl 0 rfl) ?_
    refine lv_bipush (v := 97) hx hb dX8_isVowel_34 (by decide) ?_
    refine lv_icmp_eq (tgt := 63) hx hb dX8_isVowel_36 (by decide) (fun c9 => ?_) (fun c9 => ?_)
    · have h := h.1 c9
      refine lv_iconst (v := 1) hx hb dX8_isVowel_63 (by decide) ?_
      refine lv_goto (tgt := 68) hx hb dX8_isVowel_64 (by decide) ?_
      exact W.zret (v := 1) hx hb hr (bN_nar bN1) (fun t ht hW => hQ 1 () t h (by rw [ht]; exact hP) (va_K.moved hW.alike hK) hD (hS.F ht)) hS.2.2 dX8_isVowel_68
    · have h := h.2 c9
      refine lv_iload_n hx hb dX8_isVowel_39 rfl (lv_at hl 0 rfl) ?_
      refine lv_bipush (v := 101) hx hb dX8_isVowel_40 (by decide) ?_
      refine lv_icmp_eq (tgt := 63) hx hb dX8_isVowel_42 (by decide) (fun c9 => ?_) (fun c9 => ?_)
      · have h := h.1 c9
        refine lv_iconst (v := 1) hx hb dX8_isVowel_63 (by decide) ?_
        refine lv_goto (tgt := 68) hx hb dX8_isVowel_64 (by decide) ?_
        exact W.zret (v := 1) hx hb hr (bN_nar bN1) (fun t ht hW => hQ 1 () t h (by rw [ht]; exact hP) (va_K.moved hW.alike hK) hD (hS.F ht)) hS.2.2 dX8_isVowel_68
      · have h := h.2 c9
        refine lv_iload_n hx hb dX8_isVowel_45 rfl (lv_at hl 0 rfl) ?_
        refine lv_bipush (v := 105) hx hb dX8_isVowel_46 (by decide) ?_
        refine lv_icmp_eq (tgt := 63) hx hb dX8_isVowel_48 (by decide) (fun c9 => ?_) (fun c9 => ?_)
        · have h := h.1 c9
          refine lv_iconst (v := 1) hx hb dX8_isVowel_63 (by decide) ?_
          refine lv_goto (tgt := 68) hx hb dX8_isVowel_64 (by decide) ?_
          exact W.zret (v := 1) hx hb hr (bN_nar bN1) (fun t ht hW => hQ 1 () t h (by rw [ht]; exact hP) (va_K.moved hW.alike hK) hD (hS.F ht)) hS.2.2 dX8_isVowel_68
        · have h := h.2 c9
          refine lv_iload_n hx hb dX8_isVowel_51 rfl (lv_at hl 0 rfl) ?_
          refine lv_bipush (v := 111) hx hb dX8_isVowel_52 (by decide) ?_
          refine lv_icmp_eq (tgt := 63) hx hb dX8_isVowel_54 (by decide) (fun c9 => ?_) (fun c9 => ?_)
          · have h := h.1 c9
            refine lv_iconst (v := 1) hx hb dX8_isVowel_63 (by decide) ?_
            refine lv_goto (tgt := 68) hx hb dX8_isVowel_64 (by decide) ?_
            exact W.zret (v := 1) hx hb hr (bN_nar bN1) (fun t ht hW => hQ 1 () t h (by rw [ht]; exact hP) (va_K.moved hW.alike hK) hD (hS.F ht)) hS.2.2 dX8_isVowel_68
          · have h := h.2 c9
            refine lv_iload_n hx hb dX8_isVowel_57 rfl (lv_at hl 0 rfl) ?_
            refine lv_bipush (v := 117) hx hb dX8_isVowel_58 (by decide) ?_
            refine lv_icmp_ne (tgt := 67) hx hb dX8_isVowel_60 (by decide) (fun c9 => ?_) (fun c9 => ?_)
            · have h := h.1 c9
              refine lv_iconst (v := 0) hx hb dX8_isVowel_67 (by decide) ?_
              exact W.zret (v := 0) hx hb hr (bN_nar bN0) (fun t ht hW => hQ 0 () t h (by rw [ht]; exact hP) (va_K.moved hW.alike hK) hD (hS.F ht)) hS.2.2 dX8_isVowel_68
            · have h := h.2 c9
              refine lv_iconst (v := 1) hx hb dX8_isVowel_63 (by decide) ?_
              refine lv_goto (tgt := 68) hx hb dX8_isVowel_64 (by decide) ?_
              exact W.zret (v := 1) hx hb hr (bN_nar bN1) (fun t ht hW => hQ 1 () t h (by rw [ht]; exact hP) (va_K.moved hW.alike hK) hD (hS.F ht)) hS.2.2 dX8_isVowel_68
  · have h := h.2 c9
    refine lv_iload_n hx hb dX8_isVowel_13 rfl (lv_at hl 2 rfl) ?_
    refine lv_if_le (tgt := 31) hx hb dX8_isVowel_14 (by decide) (fun c9 => ?_) (fun c9 => ?_)
    · have h := h.1 c9
      refine lv_iconst (v := 0) hx hb dX8_isVowel_31 (by decide) ?_
      exact W.zret (v := 0) hx hb hr (bN_nar bN0) (fun t ht hW => hQ 0 () t h (by rw [ht]; exact hP) (va_K.moved hW.alike hK) hD (hS.F ht)) hS.2.2 dX8_isVowel_32
    · have h := h.2 c9
      refine lv_aload_n hx hb dX8_isVowel_17 rfl (lv_at hl 1 rfl) ?_
      refine lv_iload_n hx hb dX8_isVowel_18 rfl (lv_at hl 2 rfl) ?_
      refine lv_iconst (v := 1) hx hb dX8_isVowel_19 (by decide) ?_
      refine lv_isub hx hb dX8_isVowel_20 ?_
      refine xc_vi (As := [.int (x1 - 1)]) (rest := []) xG Fx (sX8_isVowelAhead l dC dI ad cI cZ sa sv m_thrown m_size m_outLong m_lines m_toldLines m_tokens m_places m_p m_pre m_end m_text m_out m_lineAt m_lineLong m_depth m_signed m_led m_told m_place m_begin m_tokenLong m_stemLong m_address m_letters m_stems m_s (x1 - 1) h) (cwV 1 hts gX8_isVowel_X8_isVowelAhead rfl rfl rfl hdX8_isVowelAhead ⟨Nat.le_of_ble_eq_true rfl, Nat.le_of_ble_eq_true rfl⟩) (va_recv hK hP (ci := 7) (q0 := 0) rfl rfl) hK hP hD hS hA hI rfl hl.1 rfl (Nat.le_of_ble_eq_true rfl) dX8_isVowel_21 ⟨Nat.zero_le _, Nat.zero_le _⟩ (fun r_2 u H locs h hP hD hS => ?_)
      refine lv_if_ne (tgt := 31) hx hb dX8_isVowel_24 (by decide) (fun c9 => ?_) (fun c9 => ?_)
      · have h := h.1 c9
        refine lv_iconst (v := 0) hx hb dX8_isVowel_31 (by decide) ?_
        exact W.zret (v := 0) hx hb hr (bN_nar bN0) (fun t ht hW => hQ 0 () t h (by rw [ht]; exact hP) (va_K.moved hW.alike hK) hD (hS.F ht)) hS.2.2 dX8_isVowel_32
      · have h := h.2 c9
        refine lv_iconst (v := 1) hx hb dX8_isVowel_27 (by decide) ?_
        refine lv_goto (tgt := 32) hx hb dX8_isVowel_28 (by decide) ?_
        exact W.zret (v := 1) hx hb hr (bN_nar bN1) (fun t ht hW => hQ 1 () t h (by rw [ht]; exact hP) (va_K.moved hW.alike hK) hD (hS.F ht)) hS.2.2 dX8_isVowel_32
set_option maxHeartbeats 4000000 in
set_option maxRecDepth 100000 in
theorem sX8_measure (l : Launch) (dC : Nat → ClassId) (dI : Nat → Nat → Nat) (ad : Nat → Nat) (cI cZ : ClassId) (sa sv : Nat → Nat) (m_thrown : Int32) (m_size : Int32) (m_outLong : Int32) (m_lines : Int32) (m_toldLines : Int32) (m_tokens : Int32) (m_places : Int32) (m_p : Int32) (m_pre : Int32) (m_end : Int32) (m_text : Nat → Int32) (m_out : Nat → Int32) (m_lineAt : Nat → Int32) (m_lineLong : Nat → Int32) (m_depth : Nat → Int32) (m_signed : Nat → Int32) (m_led : Nat → Int32) (m_told : Nat → Int32) (m_place : Nat → Int32) (m_begin : Nat → Int32) (m_tokenLong : Nat → Int32) (m_stemLong : Nat → Int32) (m_address : Nat → Int32) (m_letters : Nat → Int32) (m_stems : Nat → Int32) (m_s : Nat → Int32) (x1 : Int32) {post : Int32 → Prop} (h : wpX8_measure post m_s x1) : xMi l (dC, dI) vwCl [(cI, .int), (cZ, .boolean)] (sI sa sv) yX8_measure wsX8_measure ({ frames := 2, cells := 0, slots := 0, locals := 46 }) (mW ad cI cZ m_thrown m_size m_outLong m_lines m_toldLines m_tokens m_places m_p m_pre m_end m_text m_out m_lineAt m_lineLong m_depth m_signed m_led m_told m_place m_begin m_tokenLong m_stemLong m_address m_letters m_stems m_s) [.ref (ad 0), .int x1] (fun (r : Int32) (u : Unit) => post r ) (fun u : Unit => (mW ad cI cZ m_thrown m_size m_outLong m_lines m_toldLines m_tokens m_places m_p m_pre m_end m_text m_out m_lineAt m_lineLong m_depth m_signed m_led m_told m_place m_begin m_tokenLong m_stemLong m_address m_letters m_stems m_s)) := by
  intro sz
  refine Met.ofW (cc := cX8_measure) (maxL := 4) (ret := (some .int)) (by decide) rfl ?_
  intro p e s m args below meth c s₁ B hml hv
  obtain ⟨rfl, hsz, hP, hK, hD0, hI⟩ := hv
  have hx := B.exec
  have hb := B.bytes
  have hr := B.returns
  have hts := atoms_spec (ws := wsX8_measure) B.pre
  have hown : s.vm.findClass RX8 = some m.cls := findClass_of_methodNamed B.named
  have hlocks := B.notSynchronized
  subst hsz
  have hD := hD0.self (sz := s.heap.size)
  generalize hAe : va_A (mW ad cI cZ m_thrown m_size m_outLong m_lines m_toldLines m_tokens m_places m_p m_pre m_end m_text m_out m_lineAt m_lineLong m_depth m_signed m_led m_told m_place m_begin m_tokenLong m_stemLong m_address m_letters m_stems m_s) s.heap.size = A at hD hI ⊢
  have hA : ∀ q : Nat, s.heap.size ≤ q → A q := fun q h => by rw [← hAe]; exact Or.inr h
  have hS : va_S A s.heap s.heap [] := va_S.rf
  have Fx : CallFix p m c cX8_measure 4 s ([.ref (ad 0), .int x1] : List Value).toArray wsX8_measure RX8 := ⟨hx, hb, hml, hown, hts⟩
  have hQ : ∀ (r : Int32) (u : Unit) (t : State), (fun (r : Int32) (u : Unit) => post r ) r u → va_P (dC, dI) vwCl ((fun u : Unit => (mW ad cI cZ m_thrown m_size m_outLong m_lines m_toldLines m_tokens m_places m_p m_pre m_end m_text m_out m_lineAt m_lineLong m_depth m_signed m_led m_told m_place m_begin m_tokenLong m_stemLong m_address m_letters m_stems m_s)) u) t.heap → va_K (dC, dI) vwCl [(cI, .int), (cZ, .boolean)] t → va_D A ((fun u : Unit => (mW ad cI cZ m_thrown m_size m_outLong m_lines m_toldLines m_tokens m_places m_p m_pre m_end m_text m_out m_lineAt m_lineLong m_depth m_signed m_led m_told m_place m_begin m_tokenLong m_stemLong m_address m_letters m_stems m_s)) u) → va_F A s t → (va_Qi (fun (r : Int32) (u : Unit) => post r ) (xB (dC, dI) vwCl [(cI, .int), (cZ, .boolean)] A (fun u : Unit => (mW ad cI cZ m_thrown m_size m_outLong m_lines m_toldLines m_tokens m_places m_p m_pre m_end m_text m_out m_lineAt m_lineLong m_depth m_signed m_led m_told m_place m_begin m_tokenLong m_stemLong m_address m_letters m_stems m_s))) A) ([.ref (ad 0), .int x1] : List Value).toArray s (.returned (some (.int r))) t := fun r u t h1 h2 h3 h4 h5 => ⟨⟨r, u, rfl, h1, h2, h3, h4⟩, h5⟩
  generalize (va_Qi (fun (r : Int32) (u : Unit) => post r ) (xB (dC, dI) vwCl [(cI, .int), (cZ, .boolean)] A (fun u : Unit => (mW ad cI cZ m_thrown m_size m_outLong m_lines m_toldLines m_tokens m_places m_p m_pre m_end m_text m_out m_lineAt m_lineLong m_depth m_signed m_led m_told m_place m_begin m_tokenLong m_stemLong m_address m_letters m_stems m_s))) A) = Qc at hQ ⊢
  have hl := lv_entry ([.ref (ad 0), .int x1]) (n := 4) (Nat.le_of_ble_eq_true rfl)
  rw [lg_entry_eq]
  generalize (lg_sl ([.ref (ad 0), .int x1]) ++ List.replicate (4 - (lg_sl ([.ref (ad 0), .int x1])).length) Slot.unset).toArray = ls at hl ⊢
  have hl : lv_has ls 4 [(0, .ref (ad 0)), (1, .int x1)] := hl
  refine (fun (key : ∀ (H : Heap) (locs : List Loc), va_P (dC, dI) vwCl (mW ad cI cZ m_thrown m_size m_outLong m_lines m_toldLines m_tokens m_places m_p m_pre m_end m_text m_out m_lineAt m_lineLong m_depth m_signed m_led m_told m_place m_begin m_tokenLong m_stemLong m_address m_letters m_stems m_s) H → va_D A (mW ad cI cZ m_thrown m_size m_outLong m_lines m_toldLines m_tokens m_places m_p m_pre m_end m_text m_out m_lineAt m_lineLong m_depth m_signed m_led m_told m_place m_begin m_tokenLong m_stemLong m_address m_letters m_stems m_s) → va_S A s.heap H locs → W p l e (headSpec wsX8_measure ({ frames := 2, cells := 0, slots := 0, locals := 46 })).room s m ([.ref (ad 0), .int x1] : List Value).toArray below meth c H locs 0 0 (MQ below Qc ([.ref (ad 0), .int x1] : List Value).toArray s 0 0 A) (F0 m 0 ls [])) => key _ _ hP hD hS) ?_
  have L4 : ∀ (n : Nat) (x2 : Int32) (x3 : Int32) (H : Heap) (locs : List Loc) (ls : Array Slot), lv_has ls 4 [(0, .ref (ad 0)), (1, .int x1), (2, .int x2), (3, .int x3)] → va_P (dC, dI) vwCl (mW ad cI cZ m_thrown m_size m_outLong m_lines m_toldLines m_tokens m_places m_p m_pre m_end m_text m_out m_lineAt m_lineLong m_depth m_signed m_led m_told m_place m_begin m_tokenLong m_stemLong m_address m_letters m_stems m_s) H → va_D A (mW ad cI cZ m_thrown m_size m_outLong m_lines m_toldLines m_tokens m_places m_p m_pre m_end m_text m_out m_lineAt m_lineLong m_depth m_signed m_led m_told m_place m_begin m_tokenLong m_stemLong m_address m_letters m_stems m_s) → va_S A s.heap H locs → wlX8_measure_4 post m_s x1 n x2 x3 → W p l e (headSpec wsX8_measure ({ frames := 2, cells := 0, slots := 0, locals := 46 })).room s m ([.ref (ad 0), .int x1] : List Value).toArray below meth c H locs 0 0 (MQ below Qc ([.ref (ad 0), .int x1] : List Value).toArray s 0 0 A) (F0 m 4 ls []) := by
    intro n
    induction n with
    | zero => intro x2 x3 H locs ls _ _ _ _ h; exact absurd h (fun z => z)
    | succ n4 ih4 =>
      intro x2 x3 H locs ls hl hP hD hS h
      have J30 : ∀ (x2 : Int32) (x3 : Int32) (H : Heap) (locs : List Loc) (ls : Array Slot), lv_has ls 4 [(0, .ref (ad 0)), (1, .int x1), (2, .int x2), (3, .int x3)] → va_P (dC, dI) vwCl (mW ad cI cZ m_thrown m_size m_outLong m_lines m_toldLines m_tokens m_places m_p m_pre m_end m_text m_out m_lineAt m_lineLong m_depth m_signed m_led m_told m_place m_begin m_tokenLong m_stemLong m_address m_letters m_stems m_s) H → va_D A (mW ad cI cZ m_thrown m_size m_outLong m_lines m_toldLines m_tokens m_places m_p m_pre m_end m_text m_out m_lineAt m_lineLong m_depth m_signed m_led m_told m_place m_begin m_tokenLong m_stemLong m_address m_letters m_stems m_s) → va_S A s.heap H locs → wjX8_measure_30 (fun x2 x3 => wlX8_measure_4 post m_s x1 n4 x2 x3) post m_s x1 x2 x3 → W p l e (headSpec wsX8_measure ({ frames := 2, cells := 0, slots := 0, locals := 46 })).room s m ([.ref (ad 0), .int x1] : List Value).toArray below meth c H locs 0 0 (MQ below Qc ([.ref (ad 0), .int x1] : List Value).toArray s 0 0 A) (F0 m 30 ls []) := by
        intro x2 x3 H locs ls hl hP hD hS h
        delta wjX8_measure_30 at h
        obtain ⟨x3_1, ex3_1⟩ : ∃ y : Int32, y = x3 + 1 := ⟨_, rfl⟩
        have h := h x3_1 ex3_1
        refine lv_iinc (v := x3_1) (lv' := [(3, .int x3_1), (0, .ref (ad 0)), (1, .int x1), (2, .int x2)]) hx hb dX8_measure_30 hl (k := 3) rfl (by rw [ex3_1]; rfl) (by decide) rfl (fun ls hl => ?_)
        refine lv_goto (tgt := 4) hx hb dX8_measure_33 (by decide) ?_
        exact ih4 x2 x3_1 H locs ls (lv_sub hl [1, 2, 3, 0] rfl) hP hD hS h
      rw [wlX8_measure_4] at h
      refine lv_iload_n hx hb dX8_measure_4 rfl (lv_at hl 3 rfl) ?_
      refine lv_iload_n hx hb dX8_measure_5 rfl (lv_at hl 1 rfl) ?_
      refine lv_icmp_ge (tgt := 36) hx hb dX8_measure_6 (by decide) (fun c9 => ?_) (fun c9 => ?_)
      · have h := h.1 c9
        refine lv_iload_n hx hb dX8_measure_36 rfl (lv_at hl 2 rfl) ?_
        exact W.iret (v := x2) hx hb hr (fun t ht hW => hQ x2 () t h (by rw [ht]; exact hP) (va_K.moved hW.alike hK) hD (hS.F ht)) hS.2.2 dX8_measure_37
      · have h := h.2 c9
        refine lv_aload_n hx hb dX8_measure_9 rfl (lv_at hl 0 rfl) ?_
        refine lv_iload_n hx hb dX8_measure_10 rfl (lv_at hl 3 rfl) ?_
        refine lv_iconst (v := 1) hx hb dX8_measure_11 (by decide) ?_
        refine lv_isub hx hb dX8_measure_12 ?_
        refine xc_vi (As := [.int (x3 - 1)]) (rest := []) xG Fx (sX8_isVowel l dC dI ad cI cZ sa sv m_thrown m_size m_outLong m_lines m_toldLines m_tokens m_places m_p m_pre m_end m_text m_out m_lineAt m_lineLong m_depth m_signed m_led m_told m_place m_begin m_tokenLong m_stemLong m_address m_letters m_stems m_s (x3 - 1) h) (cwV 1 hts gX8_measure_X8_isVowel rfl rfl rfl hdX8_isVowel ⟨Nat.le_of_ble_eq_true rfl, Nat.le_of_ble_eq_true rfl⟩) (va_recv hK hP (ci := 7) (q0 := 0) rfl rfl) hK hP hD hS hA hI rfl hl.1 rfl (Nat.le_of_ble_eq_true rfl) dX8_measure_13 ⟨Nat.zero_le _, Nat.zero_le _⟩ (fun r_2 u H locs h hP hD hS => ?_)
        refine lv_if_eq (tgt := 30) hx hb dX8_measure_16 (by decide) (fun c9 => ?_) (fun c9 => ?_)
        · have h := h.1 c9
          exact J30 x2 x3 H locs ls (lv_sub hl [0, 1, 2, 3] rfl) hP hD hS h
        · have h := h.2 c9
          refine lv_aload_n hx hb dX8_measure_19 rfl (lv_at hl 0 rfl) ?_
          refine lv_iload_n hx hb dX8_measure_20 rfl (lv_at hl 3 rfl) ?_
          refine xc_vi (As := [.int x3]) (rest := []) xG Fx (sX8_isVowel l dC dI ad cI cZ sa sv m_thrown m_size m_outLong m_lines m_toldLines m_tokens m_places m_p m_pre m_end m_text m_out m_lineAt m_lineLong m_depth m_signed m_led m_told m_place m_begin m_tokenLong m_stemLong m_address m_letters m_stems m_s x3 h) (cwV 1 hts gX8_measure_X8_isVowel rfl rfl rfl hdX8_isVowel ⟨Nat.le_of_ble_eq_true rfl, Nat.le_of_ble_eq_true rfl⟩) (va_recv hK hP (ci := 7) (q0 := 0) rfl rfl) hK hP hD hS hA hI rfl hl.1 rfl (Nat.le_of_ble_eq_true rfl) dX8_measure_21 ⟨Nat.zero_le _, Nat.zero_le _⟩ (fun r_3 u H locs h hP hD hS => ?_)
          refine lv_if_ne (tgt := 30) hx hb dX8_measure_24 (by decide) (fun c9 => ?_) (fun c9 => ?_)
          · have h := h.1 c9
            exact J30 x2 x3 H locs ls (lv_sub hl [0, 1, 2, 3] rfl) hP hD hS h
          · have h := h.2 c9
            obtain ⟨x2_4, ex2_4⟩ : ∃ y : Int32, y = x2 + 1 := ⟨_, rfl⟩
            have h := h x2_4 ex2_4
            refine lv_iinc (v := x2_4) (lv' := [(2, .int x2_4), (0, .ref (ad 0)), (1, .int x1), (3, .int x3)]) hx hb dX8_measure_27 hl (k := 2) rfl (by rw [ex2_4]; rfl) (by decide) rfl (fun ls hl => ?_)
            exact J30 x2_4 x3 H locs ls (lv_sub hl [1, 2, 0, 3] rfl) hP hD hS h
  intro H locs hP hD hS
  delta wpX8_measure at h
  refine lv_iconst (v := 0) hx hb dX8_measure_0 (by decide) ?_
  refine lv_istore_n (lv' := [(2, .int 0), (0, .ref (ad 0)), (1, .int x1)]) hx hb dX8_measure_1 rfl hl (by decide) rfl (fun ls hl => ?_)
  refine lv_iconst (v := 1) hx hb dX8_measure_2 (by decide) ?_
  refine lv_istore_n (lv' := [(3, .int 1), (2, .int 0), (0, .ref (ad 0)), (1, .int x1)]) hx hb dX8_measure_3 rfl hl (by decide) rfl (fun ls hl => ?_)
  obtain ⟨n, h⟩ := h
  exact L4  n 0 1 H locs ls (lv_sub hl [2, 3, 1, 0] rfl) hP hD hS h
set_option maxHeartbeats 4000000 in
set_option maxRecDepth 100000 in
theorem sX8_hasVowel (l : Launch) (dC : Nat → ClassId) (dI : Nat → Nat → Nat) (ad : Nat → Nat) (cI cZ : ClassId) (sa sv : Nat → Nat) (m_thrown : Int32) (m_size : Int32) (m_outLong : Int32) (m_lines : Int32) (m_toldLines : Int32) (m_tokens : Int32) (m_places : Int32) (m_p : Int32) (m_pre : Int32) (m_end : Int32) (m_text : Nat → Int32) (m_out : Nat → Int32) (m_lineAt : Nat → Int32) (m_lineLong : Nat → Int32) (m_depth : Nat → Int32) (m_signed : Nat → Int32) (m_led : Nat → Int32) (m_told : Nat → Int32) (m_place : Nat → Int32) (m_begin : Nat → Int32) (m_tokenLong : Nat → Int32) (m_stemLong : Nat → Int32) (m_address : Nat → Int32) (m_letters : Nat → Int32) (m_stems : Nat → Int32) (m_s : Nat → Int32) (x1 : Int32) {post : Int32 → Prop} (h : wpX8_hasVowel post m_s x1) : xMi l (dC, dI) vwCl [(cI, .int), (cZ, .boolean)] (sI sa sv) yX8_hasVowel wsX8_hasVowel ({ frames := 2, cells := 0, slots := 0, locals := 46 }) (mW ad cI cZ m_thrown m_size m_outLong m_lines m_toldLines m_tokens m_places m_p m_pre m_end m_text m_out m_lineAt m_lineLong m_depth m_signed m_led m_told m_place m_begin m_tokenLong m_stemLong m_address m_letters m_stems m_s) [.ref (ad 0), .int x1] (fun (r : Int32) (u : Unit) => post r ) (fun u : Unit => (mW ad cI cZ m_thrown m_size m_outLong m_lines m_toldLines m_tokens m_places m_p m_pre m_end m_text m_out m_lineAt m_lineLong m_depth m_signed m_led m_told m_place m_begin m_tokenLong m_stemLong m_address m_letters m_stems m_s)) := by
  intro sz
  refine Met.ofW (cc := cX8_hasVowel) (maxL := 3) (ret := (some .boolean)) (by decide) rfl ?_
  intro p e s m args below meth c s₁ B hml hv
  obtain ⟨rfl, hsz, hP, hK, hD0, hI⟩ := hv
  have hx := B.exec
  have hb := B.bytes
  have hr := B.returns
  have hts := atoms_spec (ws := wsX8_hasVowel) B.pre
  have hown : s.vm.findClass RX8 = some m.cls := findClass_of_methodNamed B.named
  have hlocks := B.notSynchronized
  subst hsz
  have hD := hD0.self (sz := s.heap.size)
  generalize hAe : va_A (mW ad cI cZ m_thrown m_size m_outLong m_lines m_toldLines m_tokens m_places m_p m_pre m_end m_text m_out m_lineAt m_lineLong m_depth m_signed m_led m_told m_place m_begin m_tokenLong m_stemLong m_address m_letters m_stems m_s) s.heap.size = A at hD hI ⊢
  have hA : ∀ q : Nat, s.heap.size ≤ q → A q := fun q h => by rw [← hAe]; exact Or.inr h
  have hS : va_S A s.heap s.heap [] := va_S.rf
  have Fx : CallFix p m c cX8_hasVowel 3 s ([.ref (ad 0), .int x1] : List Value).toArray wsX8_hasVowel RX8 := ⟨hx, hb, hml, hown, hts⟩
  have hQ : ∀ (r : Int32) (u : Unit) (t : State), (fun (r : Int32) (u : Unit) => post r ) r u → va_P (dC, dI) vwCl ((fun u : Unit => (mW ad cI cZ m_thrown m_size m_outLong m_lines m_toldLines m_tokens m_places m_p m_pre m_end m_text m_out m_lineAt m_lineLong m_depth m_signed m_led m_told m_place m_begin m_tokenLong m_stemLong m_address m_letters m_stems m_s)) u) t.heap → va_K (dC, dI) vwCl [(cI, .int), (cZ, .boolean)] t → va_D A ((fun u : Unit => (mW ad cI cZ m_thrown m_size m_outLong m_lines m_toldLines m_tokens m_places m_p m_pre m_end m_text m_out m_lineAt m_lineLong m_depth m_signed m_led m_told m_place m_begin m_tokenLong m_stemLong m_address m_letters m_stems m_s)) u) → va_F A s t → (va_Qi (fun (r : Int32) (u : Unit) => post r ) (xB (dC, dI) vwCl [(cI, .int), (cZ, .boolean)] A (fun u : Unit => (mW ad cI cZ m_thrown m_size m_outLong m_lines m_toldLines m_tokens m_places m_p m_pre m_end m_text m_out m_lineAt m_lineLong m_depth m_signed m_led m_told m_place m_begin m_tokenLong m_stemLong m_address m_letters m_stems m_s))) A) ([.ref (ad 0), .int x1] : List Value).toArray s (.returned (some (.int r))) t := fun r u t h1 h2 h3 h4 h5 => ⟨⟨r, u, rfl, h1, h2, h3, h4⟩, h5⟩
  generalize (va_Qi (fun (r : Int32) (u : Unit) => post r ) (xB (dC, dI) vwCl [(cI, .int), (cZ, .boolean)] A (fun u : Unit => (mW ad cI cZ m_thrown m_size m_outLong m_lines m_toldLines m_tokens m_places m_p m_pre m_end m_text m_out m_lineAt m_lineLong m_depth m_signed m_led m_told m_place m_begin m_tokenLong m_stemLong m_address m_letters m_stems m_s))) A) = Qc at hQ ⊢
  have hl := lv_entry ([.ref (ad 0), .int x1]) (n := 3) (Nat.le_of_ble_eq_true rfl)
  rw [lg_entry_eq]
  generalize (lg_sl ([.ref (ad 0), .int x1]) ++ List.replicate (3 - (lg_sl ([.ref (ad 0), .int x1])).length) Slot.unset).toArray = ls at hl ⊢
  have hl : lv_has ls 3 [(0, .ref (ad 0)), (1, .int x1)] := hl
  refine (fun (key : ∀ (H : Heap) (locs : List Loc), va_P (dC, dI) vwCl (mW ad cI cZ m_thrown m_size m_outLong m_lines m_toldLines m_tokens m_places m_p m_pre m_end m_text m_out m_lineAt m_lineLong m_depth m_signed m_led m_told m_place m_begin m_tokenLong m_stemLong m_address m_letters m_stems m_s) H → va_D A (mW ad cI cZ m_thrown m_size m_outLong m_lines m_toldLines m_tokens m_places m_p m_pre m_end m_text m_out m_lineAt m_lineLong m_depth m_signed m_led m_told m_place m_begin m_tokenLong m_stemLong m_address m_letters m_stems m_s) → va_S A s.heap H locs → W p l e (headSpec wsX8_hasVowel ({ frames := 2, cells := 0, slots := 0, locals := 46 })).room s m ([.ref (ad 0), .int x1] : List Value).toArray below meth c H locs 0 0 (MQ below Qc ([.ref (ad 0), .int x1] : List Value).toArray s 0 0 A) (F0 m 0 ls [])) => key _ _ hP hD hS) ?_
  have L2 : ∀ (n : Nat) (x2 : Int32) (H : Heap) (locs : List Loc) (ls : Array Slot), lv_has ls 3 [(0, .ref (ad 0)), (1, .int x1), (2, .int x2)] → va_P (dC, dI) vwCl (mW ad cI cZ m_thrown m_size m_outLong m_lines m_toldLines m_tokens m_places m_p m_pre m_end m_text m_out m_lineAt m_lineLong m_depth m_signed m_led m_told m_place m_begin m_tokenLong m_stemLong m_address m_letters m_stems m_s) H → va_D A (mW ad cI cZ m_thrown m_size m_outLong m_lines m_toldLines m_tokens m_places m_p m_pre m_end m_text m_out m_lineAt m_lineLong m_depth m_signed m_led m_told m_place m_begin m_tokenLong m_stemLong m_address m_letters m_stems m_s) → va_S A s.heap H locs → wlX8_hasVowel_2 post m_s x1 n x2 → W p l e (headSpec wsX8_hasVowel ({ frames := 2, cells := 0, slots := 0, locals := 46 })).room s m ([.ref (ad 0), .int x1] : List Value).toArray below meth c H locs 0 0 (MQ below Qc ([.ref (ad 0), .int x1] : List Value).toArray s 0 0 A) (F0 m 2 ls []) := by
    intro n
    induction n with
    | zero => intro x2 H locs ls _ _ _ _ h; exact absurd h (fun z => z)
    | succ n2 ih2 =>
      intro x2 H locs ls hl hP hD hS h
      rw [wlX8_hasVowel_2] at h
      refine lv_iload_n hx hb dX8_hasVowel_2 rfl (lv_at hl 2 rfl) ?_
      refine lv_iload_n hx hb dX8_hasVowel_3 rfl (lv_at hl 1 rfl) ?_
      refine lv_icmp_ge (tgt := 23) hx hb dX8_hasVowel_4 (by decide) (fun c9 => ?_) (fun c9 => ?_)
      · have h := h.1 c9
        refine lv_iconst (v := 0) hx hb dX8_hasVowel_23 (by decide) ?_
        exact W.zret (v := 0) hx hb hr (bN_nar bN0) (fun t ht hW => hQ 0 () t h (by rw [ht]; exact hP) (va_K.moved hW.alike hK) hD (hS.F ht)) hS.2.2 dX8_hasVowel_24
      · have h := h.2 c9
        refine lv_aload_n hx hb dX8_hasVowel_7 rfl (lv_at hl 0 rfl) ?_
        refine lv_iload_n hx hb dX8_hasVowel_8 rfl (lv_at hl 2 rfl) ?_
        refine xc_vi (As := [.int x2]) (rest := []) xG Fx (sX8_isVowel l dC dI ad cI cZ sa sv m_thrown m_size m_outLong m_lines m_toldLines m_tokens m_places m_p m_pre m_end m_text m_out m_lineAt m_lineLong m_depth m_signed m_led m_told m_place m_begin m_tokenLong m_stemLong m_address m_letters m_stems m_s x2 h) (cwV 1 hts gX8_hasVowel_X8_isVowel rfl rfl rfl hdX8_isVowel ⟨Nat.le_of_ble_eq_true rfl, Nat.le_of_ble_eq_true rfl⟩) (va_recv hK hP (ci := 7) (q0 := 0) rfl rfl) hK hP hD hS hA hI rfl hl.1 rfl (Nat.le_of_ble_eq_true rfl) dX8_hasVowel_9 ⟨Nat.zero_le _, Nat.zero_le _⟩ (fun r_1 u H locs h hP hD hS => ?_)
        refine lv_if_eq (tgt := 17) hx hb dX8_hasVowel_12 (by decide) (fun c9 => ?_) (fun c9 => ?_)
        · have h := h.1 c9
          obtain ⟨x2_2, ex2_2⟩ : ∃ y : Int32, y = x2 + 1 := ⟨_, rfl⟩
          have h := h x2_2 ex2_2
          refine lv_iinc (v := x2_2) (lv' := [(2, .int x2_2), (0, .ref (ad 0)), (1, .int x1)]) hx hb dX8_hasVowel_17 hl (k := 2) rfl (by rw [ex2_2]; rfl) (by decide) rfl (fun ls hl => ?_)
          refine lv_goto (tgt := 2) hx hb dX8_hasVowel_20 (by decide) ?_
          exact ih2 x2_2 H locs ls (lv_sub hl [1, 2, 0] rfl) hP hD hS h
        · have h := h.2 c9
          refine lv_iconst (v := 1) hx hb dX8_hasVowel_15 (by decide) ?_
          exact W.zret (v := 1) hx hb hr (bN_nar bN1) (fun t ht hW => hQ 1 () t h (by rw [ht]; exact hP) (va_K.moved hW.alike hK) hD (hS.F ht)) hS.2.2 dX8_hasVowel_16
  intro H locs hP hD hS
  delta wpX8_hasVowel at h
  refine lv_iconst (v := 0) hx hb dX8_hasVowel_0 (by decide) ?_
  refine lv_istore_n (lv' := [(2, .int 0), (0, .ref (ad 0)), (1, .int x1)]) hx hb dX8_hasVowel_1 rfl hl (by decide) rfl (fun ls hl => ?_)
  obtain ⟨n, h⟩ := h
  exact L2  n 0 H locs ls (lv_sub hl [1, 2, 0] rfl) hP hD hS h
set_option maxHeartbeats 4000000 in
set_option maxRecDepth 100000 in
theorem sX8_append (l : Launch) (dC : Nat → ClassId) (dI : Nat → Nat → Nat) (ad : Nat → Nat) (cI cZ : ClassId) (sa sv : Nat → Nat) (m_thrown : Int32) (m_size : Int32) (m_outLong : Int32) (m_lines : Int32) (m_toldLines : Int32) (m_tokens : Int32) (m_places : Int32) (m_p : Int32) (m_pre : Int32) (m_end : Int32) (m_text : Nat → Int32) (m_out : Nat → Int32) (m_lineAt : Nat → Int32) (m_lineLong : Nat → Int32) (m_depth : Nat → Int32) (m_signed : Nat → Int32) (m_led : Nat → Int32) (m_told : Nat → Int32) (m_place : Nat → Int32) (m_begin : Nat → Int32) (m_tokenLong : Nat → Int32) (m_stemLong : Nat → Int32) (m_address : Nat → Int32) (m_letters : Nat → Int32) (m_stems : Nat → Int32) (m_s : Nat → Int32) (x1 : Int64) {post : Int32 → (Nat → Int32) → Prop} (h : wpX8_append post m_end m_s x1) : xMv l (dC, dI) vwCl [(cI, .int), (cZ, .boolean)] (sI sa sv) yX8_append wsX8_append ({ frames := 1, cells := 0, slots := 0, locals := 22 }) (mW ad cI cZ m_thrown m_size m_outLong m_lines m_toldLines m_tokens m_places m_p m_pre m_end m_text m_out m_lineAt m_lineLong m_depth m_signed m_led m_told m_place m_begin m_tokenLong m_stemLong m_address m_letters m_stems m_s) [.ref (ad 0), .long x1] (fun u : Int32 × (Nat → Int32) => post u.1 u.2) (fun u : Int32 × (Nat → Int32) => (mW ad cI cZ m_thrown m_size m_outLong m_lines m_toldLines m_tokens m_places m_p m_pre u.1 m_text m_out m_lineAt m_lineLong m_depth m_signed m_led m_told m_place m_begin m_tokenLong m_stemLong m_address m_letters m_stems u.2)) := by
  intro sz
  refine Met.ofW (cc := cX8_append) (maxL := 5) (ret := none) (by decide) rfl ?_
  intro p e s m args below meth c s₁ B hml hv
  obtain ⟨rfl, hsz, hP, hK, hD0, hI⟩ := hv
  have hx := B.exec
  have hb := B.bytes
  have hr := B.returns
  have hts := atoms_spec (ws := wsX8_append) B.pre
  have hown : s.vm.findClass RX8 = some m.cls := findClass_of_methodNamed B.named
  have hlocks := B.notSynchronized
  subst hsz
  have hD := hD0.self (sz := s.heap.size)
  generalize hAe : va_A (mW ad cI cZ m_thrown m_size m_outLong m_lines m_toldLines m_tokens m_places m_p m_pre m_end m_text m_out m_lineAt m_lineLong m_depth m_signed m_led m_told m_place m_begin m_tokenLong m_stemLong m_address m_letters m_stems m_s) s.heap.size = A at hD hI ⊢
  have hA : ∀ q : Nat, s.heap.size ≤ q → A q := fun q h => by rw [← hAe]; exact Or.inr h
  have hS : va_S A s.heap s.heap [] := va_S.rf
  have Fx : CallFix p m c cX8_append 5 s ([.ref (ad 0), .long x1] : List Value).toArray wsX8_append RX8 := ⟨hx, hb, hml, hown, hts⟩
  have hQ : ∀ (u : Int32 × (Nat → Int32)) (t : State), (fun u : Int32 × (Nat → Int32) => post u.1 u.2) u → va_P (dC, dI) vwCl ((fun u : Int32 × (Nat → Int32) => (mW ad cI cZ m_thrown m_size m_outLong m_lines m_toldLines m_tokens m_places m_p m_pre u.1 m_text m_out m_lineAt m_lineLong m_depth m_signed m_led m_told m_place m_begin m_tokenLong m_stemLong m_address m_letters m_stems u.2)) u) t.heap → va_K (dC, dI) vwCl [(cI, .int), (cZ, .boolean)] t → va_D A ((fun u : Int32 × (Nat → Int32) => (mW ad cI cZ m_thrown m_size m_outLong m_lines m_toldLines m_tokens m_places m_p m_pre u.1 m_text m_out m_lineAt m_lineLong m_depth m_signed m_led m_told m_place m_begin m_tokenLong m_stemLong m_address m_letters m_stems u.2)) u) → va_F A s t → (va_Qv (fun u : Int32 × (Nat → Int32) => post u.1 u.2) (xB (dC, dI) vwCl [(cI, .int), (cZ, .boolean)] A (fun u : Int32 × (Nat → Int32) => (mW ad cI cZ m_thrown m_size m_outLong m_lines m_toldLines m_tokens m_places m_p m_pre u.1 m_text m_out m_lineAt m_lineLong m_depth m_signed m_led m_told m_place m_begin m_tokenLong m_stemLong m_address m_letters m_stems u.2))) A) ([.ref (ad 0), .long x1] : List Value).toArray s (.returned none) t := fun u t h1 h2 h3 h4 h5 => ⟨⟨u, rfl, h1, h2, h3, h4⟩, h5⟩
  generalize (va_Qv (fun u : Int32 × (Nat → Int32) => post u.1 u.2) (xB (dC, dI) vwCl [(cI, .int), (cZ, .boolean)] A (fun u : Int32 × (Nat → Int32) => (mW ad cI cZ m_thrown m_size m_outLong m_lines m_toldLines m_tokens m_places m_p m_pre u.1 m_text m_out m_lineAt m_lineLong m_depth m_signed m_led m_told m_place m_begin m_tokenLong m_stemLong m_address m_letters m_stems u.2))) A) = Qc at hQ ⊢
  have hl := lv_entry ([.ref (ad 0), .long x1]) (n := 5) (Nat.le_of_ble_eq_true rfl)
  rw [lg_entry_eq]
  generalize (lg_sl ([.ref (ad 0), .long x1]) ++ List.replicate (5 - (lg_sl ([.ref (ad 0), .long x1])).length) Slot.unset).toArray = ls at hl ⊢
  have hl : lv_has ls 5 [(0, .ref (ad 0)), (1, .long x1)] := hl
  refine (fun (key : ∀ (H : Heap) (locs : List Loc), va_P (dC, dI) vwCl (mW ad cI cZ m_thrown m_size m_outLong m_lines m_toldLines m_tokens m_places m_p m_pre m_end m_text m_out m_lineAt m_lineLong m_depth m_signed m_led m_told m_place m_begin m_tokenLong m_stemLong m_address m_letters m_stems m_s) H → va_D A (mW ad cI cZ m_thrown m_size m_outLong m_lines m_toldLines m_tokens m_places m_p m_pre m_end m_text m_out m_lineAt m_lineLong m_depth m_signed m_led m_told m_place m_begin m_tokenLong m_stemLong m_address m_letters m_stems m_s) → va_S A s.heap H locs → W p l e (headSpec wsX8_append ({ frames := 1, cells := 0, slots := 0, locals := 22 })).room s m ([.ref (ad 0), .long x1] : List Value).toArray below meth c H locs 0 0 (MQ below Qc ([.ref (ad 0), .long x1] : List Value).toArray s 0 0 A) (F0 m 0 ls [])) => key _ _ hP hD hS) ?_
  have inX8 : ∀ w ∈ wsX80, w ∈ wsX8_append := (fun _ h9 => List.mem_cons_of_mem _ (List.mem_append_right _ h9))
  have L8 : ∀ (x3 : Int32) (n : Nat) (m_end : Int32) (m_s : Nat → Int32) (x4 : Int32) (H : Heap) (locs : List Loc) (ls : Array Slot), lv_has ls 5 [(0, .ref (ad 0)), (1, .long x1), (3, .int x3), (4, .int x4)] → va_P (dC, dI) vwCl (mW ad cI cZ m_thrown m_size m_outLong m_lines m_toldLines m_tokens m_places m_p m_pre m_end m_text m_out m_lineAt m_lineLong m_depth m_signed m_led m_told m_place m_begin m_tokenLong m_stemLong m_address m_letters m_stems m_s) H → va_D A (mW ad cI cZ m_thrown m_size m_outLong m_lines m_toldLines m_tokens m_places m_p m_pre m_end m_text m_out m_lineAt m_lineLong m_depth m_signed m_led m_told m_place m_begin m_tokenLong m_stemLong m_address m_letters m_stems m_s) → va_S A s.heap H locs → wlX8_append_8 post x1 x3 n m_end m_s x4 → W p l e (headSpec wsX8_append ({ frames := 1, cells := 0, slots := 0, locals := 22 })).room s m ([.ref (ad 0), .long x1] : List Value).toArray below meth c H locs 0 0 (MQ below Qc ([.ref (ad 0), .long x1] : List Value).toArray s 0 0 A) (F0 m 8 ls []) := by
    intro x3
    intro n
    induction n with
    | zero => intro m_end m_s x4 H locs ls _ _ _ _ h; exact absurd h (fun z => z)
    | succ n8 ih8 =>
      intro m_end m_s x4 H locs ls hl hP hD hS h
      rw [wlX8_append_8] at h
      refine lv_iload hx hb dX8_append_8 (lv_at hl 3 rfl) ?_
      refine lv_iload_n hx hb dX8_append_10 rfl (lv_at hl 2 rfl) ?_
      refine lv_icmp_ge (tgt := 55) hx hb dX8_append_11 (by decide) (fun c9 => ?_) (fun c9 => ?_)
      · have h := h.1 c9
        exact W.vret hx hb hr (fun t ht hW => hQ (m_end, m_s) t h (by rw [ht]; exact hP) (va_K.moved hW.alike hK) hD (hS.F ht)) hS.2.2 dX8_append_55
      · have h := h.2 c9
        refine lv_aload_n hx hb dX8_append_14 rfl (lv_at hl 0 rfl) ?_
        refine va_get (D := (dC, dI)) (ci := 7) (v := .ref (ad 16)) (C := RX8) (T := TX8) (N := 26) hx hb hts inX8 hown hK hP 0 rfl rfl 24 (by decide) (hts (.fieldLink RX8 57 "MailWordsModel" "s" "[I") (List.mem_of_getElem? (i := 1) rfl)) (fun _ h9 => h9) rfl dX8_append_15 ?_
        refine lv_aload_n hx hb dX8_append_18 rfl (lv_at hl 0 rfl) ?_
        refine va_get (D := (dC, dI)) (ci := 7) (v := .int m_end) (C := RX8) (T := TX8) (N := 26) hx hb hts inX8 hown hK hP 0 rfl rfl 25 (by decide) (hts (.fieldLink RX8 312 "MailWordsModel" "end" "I") (List.mem_of_getElem? (i := 2) rfl)) (fun _ h9 => h9) rfl dX8_append_19 ?_
        refine lv_lload_n hx hb dX8_append_22 rfl (lv_at hl 1 rfl) ?_
        refine lv_bipush (v := 8) hx hb dX8_append_23 (by decide) ?_
        refine lv_iload_n hx hb dX8_append_25 rfl (lv_at hl 2 rfl) ?_
        refine lv_iconst (v := 1) hx hb dX8_append_26 (by decide) ?_
        refine lv_isub hx hb dX8_append_27 ?_
        refine lv_iload hx hb dX8_append_28 (lv_at hl 3 rfl) ?_
        refine lv_isub hx hb dX8_append_30 ?_
        refine lv_imul hx hb dX8_append_31 ?_
        refine lv_lushr hx hb dX8_append_32 rfl ?_
        refine lv_ldc2 (v := 255) hx hb hown (hts (.constantLong RX8 113 (255)) (List.mem_of_getElem? (i := 3) rfl)) dX8_append_33 ?_
        refine lv_land hx hb dX8_append_36 ?_
        refine lv_l2i hx hb dX8_append_37 rfl ?_
        have hi9 := h.1
        have h := h.2
        refine va_iast hx hb hK hP hD hS 16 0 rfl rfl hi9 dX8_append_38 (fun H locs hP hD hS => ?_)
        have hP : va_P (dC, dI) vwCl (mW ad cI cZ m_thrown m_size m_outLong m_lines m_toldLines m_tokens m_places m_p m_pre m_end m_text m_out m_lineAt m_lineLong m_depth m_signed m_led m_told m_place m_begin m_tokenLong m_stemLong m_address m_letters m_stems (upd m_s m_end.toNatClampNeg (Int64.toInt32 ((((Int64.toUInt64 x1) >>> ((Int32.toInt64 (8 * ((x3 - 1) - x4))).toUInt64 &&& Int64.toUInt64 63)).toInt64) &&& 255)))) H := hP
        have hD : va_D A (mW ad cI cZ m_thrown m_size m_outLong m_lines m_toldLines m_tokens m_places m_p m_pre m_end m_text m_out m_lineAt m_lineLong m_depth m_signed m_led m_told m_place m_begin m_tokenLong m_stemLong m_address m_letters m_stems (upd m_s m_end.toNatClampNeg (Int64.toInt32 ((((Int64.toUInt64 x1) >>> ((Int32.toInt64 (8 * ((x3 - 1) - x4))).toUInt64 &&& Int64.toUInt64 63)).toInt64) &&& 255)))) := hD
        refine lv_aload_n hx hb dX8_append_39 rfl (lv_at hl 0 rfl) ?_
        refine lv_dup hx hb dX8_append_40 rfl ?_
        refine va_get (D := (dC, dI)) (ci := 7) (v := .int m_end) (C := RX8) (T := TX8) (N := 26) hx hb hts inX8 hown hK hP 0 rfl rfl 25 (by decide) (hts (.fieldLink RX8 312 "MailWordsModel" "end" "I") (List.mem_of_getElem? (i := 2) rfl)) (fun _ h9 => h9) rfl dX8_append_41 ?_
        refine lv_iconst (v := 1) hx hb dX8_append_44 (by decide) ?_
        refine lv_iadd hx hb dX8_append_45 ?_
        refine lv_topi (fun m_end_1 em_end_1 => ?_)
        have h := h m_end_1 em_end_1
        refine va_put (D := (dC, dI)) (ci := 7) (v := .int m_end_1) (ty := .int) (C := RX8) (T := TX8) (N := 26) hx hb hts inX8 tyX8 tyX8_ok nmX8 hown hK hP hD hS 0 rfl rfl 25 (by decide) (hts (.fieldLink RX8 312 "MailWordsModel" "end" "I") (List.mem_of_getElem? (i := 2) rfl)) (fun _ h9 => h9) rfl (tyX8_ok 25 (by decide)) rfl rfl (Nat.le_of_ble_eq_true rfl) dX8_append_46 (fun H locs hP hD hS => ?_)
        have hP : va_P (dC, dI) vwCl (mW ad cI cZ m_thrown m_size m_outLong m_lines m_toldLines m_tokens m_places m_p m_pre m_end_1 m_text m_out m_lineAt m_lineLong m_depth m_signed m_led m_told m_place m_begin m_tokenLong m_stemLong m_address m_letters m_stems (upd m_s m_end.toNatClampNeg (Int64.toInt32 ((((Int64.toUInt64 x1) >>> ((Int32.toInt64 (8 * ((x3 - 1) - x4))).toUInt64 &&& Int64.toUInt64 63)).toInt64) &&& 255)))) H := hP
        have hD : va_D A (mW ad cI cZ m_thrown m_size m_outLong m_lines m_toldLines m_tokens m_places m_p m_pre m_end_1 m_text m_out m_lineAt m_lineLong m_depth m_signed m_led m_told m_place m_begin m_tokenLong m_stemLong m_address m_letters m_stems (upd m_s m_end.toNatClampNeg (Int64.toInt32 ((((Int64.toUInt64 x1) >>> ((Int32.toInt64 (8 * ((x3 - 1) - x4))).toUInt64 &&& Int64.toUInt64 63)).toInt64) &&& 255)))) := hD
        obtain ⟨x4_2, ex4_2⟩ : ∃ y : Int32, y = x4 + 1 := ⟨_, rfl⟩
        have h := h x4_2 ex4_2
        refine lv_iinc (v := x4_2) (lv' := [(4, .int x4_2), (0, .ref (ad 0)), (1, .long x1), (3, .int x3)]) hx hb dX8_append_49 hl (k := 3) rfl (by rw [ex4_2]; rfl) (by decide) rfl (fun ls hl => ?_)
        refine lv_goto (tgt := 8) hx hb dX8_append_52 (by decide) ?_
        exact ih8 m_end_1 (upd m_s m_end.toNatClampNeg (Int64.toInt32 ((((Int64.toUInt64 x1) >>> ((Int32.toInt64 (8 * ((x3 - 1) - x4))).toUInt64 &&& Int64.toUInt64 63)).toInt64) &&& 255))) x4_2 H locs ls (lv_sub hl [1, 2, 3, 0] rfl) hP hD hS h
  intro H locs hP hD hS
  delta wpX8_append at h
  refine lv_lload_n hx hb dX8_append_0 rfl (lv_at hl 1 rfl) ?_
  refine xc_si (As := [.long x1]) (rest := []) xG Fx (sX8_lengthOf l dC dI ad cI cZ sa sv m_thrown m_size m_outLong m_lines m_toldLines m_tokens m_places m_p m_pre m_end m_text m_out m_lineAt m_lineLong m_depth m_signed m_led m_told m_place m_begin m_tokenLong m_stemLong m_address m_letters m_stems m_s x1 h) (va_cwS 1 hts gX8_append_X8_lengthOf rfl rfl rfl hdX8_lengthOf ⟨Nat.le_of_ble_eq_true rfl, Nat.le_of_ble_eq_true rfl⟩) hK hP hD hS hA hI rfl hl.1 rfl (Nat.le_of_ble_eq_true rfl) dX8_append_1 ⟨Nat.zero_le _, Nat.zero_le _⟩ (fun r_3 u H locs h hP hD hS => ?_)
  refine lv_istore_n (lv' := [(3, .int r_3), (0, .ref (ad 0)), (1, .long x1)]) hx hb dX8_append_4 rfl hl (by decide) rfl (fun ls hl => ?_)
  refine lv_iconst (v := 0) hx hb dX8_append_5 (by decide) ?_
  refine lv_istore (lv' := [(4, .int 0), (3, .int r_3), (0, .ref (ad 0)), (1, .long x1)]) hx hb dX8_append_6 hl (by decide) rfl (fun ls hl => ?_)
  obtain ⟨n, h⟩ := h
  exact L8 r_3 n m_end m_s 0 H locs ls (lv_sub hl [2, 3, 1, 0] rfl) hP hD hS h
set_option maxHeartbeats 4000000 in
set_option maxRecDepth 100000 in
theorem sX8_cvc (l : Launch) (dC : Nat → ClassId) (dI : Nat → Nat → Nat) (ad : Nat → Nat) (cI cZ : ClassId) (sa sv : Nat → Nat) (m_thrown : Int32) (m_size : Int32) (m_outLong : Int32) (m_lines : Int32) (m_toldLines : Int32) (m_tokens : Int32) (m_places : Int32) (m_p : Int32) (m_pre : Int32) (m_end : Int32) (m_text : Nat → Int32) (m_out : Nat → Int32) (m_lineAt : Nat → Int32) (m_lineLong : Nat → Int32) (m_depth : Nat → Int32) (m_signed : Nat → Int32) (m_led : Nat → Int32) (m_told : Nat → Int32) (m_place : Nat → Int32) (m_begin : Nat → Int32) (m_tokenLong : Nat → Int32) (m_stemLong : Nat → Int32) (m_address : Nat → Int32) (m_letters : Nat → Int32) (m_stems : Nat → Int32) (m_s : Nat → Int32) (x1 : Int32) {post : Int32 → Prop} (h : wpX8_cvc post m_s x1) : xMi l (dC, dI) vwCl [(cI, .int), (cZ, .boolean)] (sI sa sv) yX8_cvc wsX8_cvc ({ frames := 2, cells := 0, slots := 0, locals := 46 }) (mW ad cI cZ m_thrown m_size m_outLong m_lines m_toldLines m_tokens m_places m_p m_pre m_end m_text m_out m_lineAt m_lineLong m_depth m_signed m_led m_told m_place m_begin m_tokenLong m_stemLong m_address m_letters m_stems m_s) [.ref (ad 0), .int x1] (fun (r : Int32) (u : Unit) => post r ) (fun u : Unit => (mW ad cI cZ m_thrown m_size m_outLong m_lines m_toldLines m_tokens m_places m_p m_pre m_end m_text m_out m_lineAt m_lineLong m_depth m_signed m_led m_told m_place m_begin m_tokenLong m_stemLong m_address m_letters m_stems m_s)) := by
  intro sz
  refine Met.ofW (cc := cX8_cvc) (maxL := 2) (ret := (some .boolean)) (by decide) rfl ?_
  intro p e s m args below meth c s₁ B hml hv
  obtain ⟨rfl, hsz, hP, hK, hD0, hI⟩ := hv
  have hx := B.exec
  have hb := B.bytes
  have hr := B.returns
  have hts := atoms_spec (ws := wsX8_cvc) B.pre
  have hown : s.vm.findClass RX8 = some m.cls := findClass_of_methodNamed B.named
  have hlocks := B.notSynchronized
  subst hsz
  have hD := hD0.self (sz := s.heap.size)
  generalize hAe : va_A (mW ad cI cZ m_thrown m_size m_outLong m_lines m_toldLines m_tokens m_places m_p m_pre m_end m_text m_out m_lineAt m_lineLong m_depth m_signed m_led m_told m_place m_begin m_tokenLong m_stemLong m_address m_letters m_stems m_s) s.heap.size = A at hD hI ⊢
  have hA : ∀ q : Nat, s.heap.size ≤ q → A q := fun q h => by rw [← hAe]; exact Or.inr h
  have hS : va_S A s.heap s.heap [] := va_S.rf
  have Fx : CallFix p m c cX8_cvc 2 s ([.ref (ad 0), .int x1] : List Value).toArray wsX8_cvc RX8 := ⟨hx, hb, hml, hown, hts⟩
  have hQ : ∀ (r : Int32) (u : Unit) (t : State), (fun (r : Int32) (u : Unit) => post r ) r u → va_P (dC, dI) vwCl ((fun u : Unit => (mW ad cI cZ m_thrown m_size m_outLong m_lines m_toldLines m_tokens m_places m_p m_pre m_end m_text m_out m_lineAt m_lineLong m_depth m_signed m_led m_told m_place m_begin m_tokenLong m_stemLong m_address m_letters m_stems m_s)) u) t.heap → va_K (dC, dI) vwCl [(cI, .int), (cZ, .boolean)] t → va_D A ((fun u : Unit => (mW ad cI cZ m_thrown m_size m_outLong m_lines m_toldLines m_tokens m_places m_p m_pre m_end m_text m_out m_lineAt m_lineLong m_depth m_signed m_led m_told m_place m_begin m_tokenLong m_stemLong m_address m_letters m_stems m_s)) u) → va_F A s t → (va_Qi (fun (r : Int32) (u : Unit) => post r ) (xB (dC, dI) vwCl [(cI, .int), (cZ, .boolean)] A (fun u : Unit => (mW ad cI cZ m_thrown m_size m_outLong m_lines m_toldLines m_tokens m_places m_p m_pre m_end m_text m_out m_lineAt m_lineLong m_depth m_signed m_led m_told m_place m_begin m_tokenLong m_stemLong m_address m_letters m_stems m_s))) A) ([.ref (ad 0), .int x1] : List Value).toArray s (.returned (some (.int r))) t := fun r u t h1 h2 h3 h4 h5 => ⟨⟨r, u, rfl, h1, h2, h3, h4⟩, h5⟩
  generalize (va_Qi (fun (r : Int32) (u : Unit) => post r ) (xB (dC, dI) vwCl [(cI, .int), (cZ, .boolean)] A (fun u : Unit => (mW ad cI cZ m_thrown m_size m_outLong m_lines m_toldLines m_tokens m_places m_p m_pre m_end m_text m_out m_lineAt m_lineLong m_depth m_signed m_led m_told m_place m_begin m_tokenLong m_stemLong m_address m_letters m_stems m_s))) A) = Qc at hQ ⊢
  have hl := lv_entry ([.ref (ad 0), .int x1]) (n := 2) (Nat.le_of_ble_eq_true rfl)
  rw [lg_entry_eq]
  generalize (lg_sl ([.ref (ad 0), .int x1]) ++ List.replicate (2 - (lg_sl ([.ref (ad 0), .int x1])).length) Slot.unset).toArray = ls at hl ⊢
  have hl : lv_has ls 2 [(0, .ref (ad 0)), (1, .int x1)] := hl
  refine (fun (key : ∀ (H : Heap) (locs : List Loc), va_P (dC, dI) vwCl (mW ad cI cZ m_thrown m_size m_outLong m_lines m_toldLines m_tokens m_places m_p m_pre m_end m_text m_out m_lineAt m_lineLong m_depth m_signed m_led m_told m_place m_begin m_tokenLong m_stemLong m_address m_letters m_stems m_s) H → va_D A (mW ad cI cZ m_thrown m_size m_outLong m_lines m_toldLines m_tokens m_places m_p m_pre m_end m_text m_out m_lineAt m_lineLong m_depth m_signed m_led m_told m_place m_begin m_tokenLong m_stemLong m_address m_letters m_stems m_s) → va_S A s.heap H locs → W p l e (headSpec wsX8_cvc ({ frames := 2, cells := 0, slots := 0, locals := 46 })).room s m ([.ref (ad 0), .int x1] : List Value).toArray below meth c H locs 0 0 (MQ below Qc ([.ref (ad 0), .int x1] : List Value).toArray s 0 0 A) (F0 m 0 ls [])) => key _ _ hP hD hS) ?_
  have inX8 : ∀ w ∈ wsX80, w ∈ wsX8_cvc := (fun _ h9 => List.mem_cons_of_mem _ (List.mem_append_right _ h9))
  intro H locs hP hD hS
  delta wpX8_cvc at h
  refine lv_iload_n hx hb dX8_cvc_0 rfl (lv_at hl 1 rfl) ?_
  refine lv_iconst (v := 3) hx hb dX8_cvc_1 (by decide) ?_
  refine lv_icmp_lt (tgt := 35) hx hb dX8_cvc_2 (by decide) (fun c9 => ?_) (fun c9 => ?_)
  · have h := h.1 c9
    refine lv_iconst (v := 0) hx hb dX8_cvc_35 (by decide) ?_
    exact W.zret (v := 0) hx hb hr (bN_nar bN0) (fun t ht hW => hQ 0 () t h (by rw [ht]; exact hP) (va_K.moved hW.alike hK) hD (hS.F ht)) hS.2.2 dX8_cvc_36
  · have h := h.2 c9
    refine lv_aload_n hx hb dX8_cvc_5 rfl (lv_at hl 0 rfl) ?_
    refine lv_iload_n hx hb dX8_cvc_6 rfl (lv_at hl 1 rfl) ?_
    refine lv_iconst (v := 3) hx hb dX8_cvc_7 (by decide) ?_
    refine lv_isub hx hb dX8_cvc_8 ?_
    refine xc_vi (As := [.int (x1 - 3)]) (rest := []) xG Fx (sX8_isVowel l dC dI ad cI cZ sa sv m_thrown m_size m_outLong m_lines m_toldLines m_tokens m_places m_p m_pre m_end m_text m_out m_lineAt m_lineLong m_depth m_signed m_led m_told m_place m_begin m_tokenLong m_stemLong m_address m_letters m_stems m_s (x1 - 3) h) (cwV 1 hts gX8_cvc_X8_isVowel rfl rfl rfl hdX8_isVowel ⟨Nat.le_of_ble_eq_true rfl, Nat.le_of_ble_eq_true rfl⟩) (va_recv hK hP (ci := 7) (q0 := 0) rfl rfl) hK hP hD hS hA hI rfl hl.1 rfl (Nat.le_of_ble_eq_true rfl) dX8_cvc_9 ⟨Nat.zero_le _, Nat.zero_le _⟩ (fun r_1 u H locs h hP hD hS => ?_)
    refine lv_if_ne (tgt := 35) hx hb dX8_cvc_12 (by decide) (fun c9 => ?_) (fun c9 => ?_)
    · have h := h.1 c9
      refine lv_iconst (v := 0) hx hb dX8_cvc_35 (by decide) ?_
      exact W.zret (v := 0) hx hb hr (bN_nar bN0) (fun t ht hW => hQ 0 () t h (by rw [ht]; exact hP) (va_K.moved hW.alike hK) hD (hS.F ht)) hS.2.2 dX8_cvc_36
    · have h := h.2 c9
      refine lv_aload_n hx hb dX8_cvc_15 rfl (lv_at hl 0 rfl) ?_
      refine lv_iload_n hx hb dX8_cvc_16 rfl (lv_at hl 1 rfl) ?_
      refine lv_iconst (v := 2) hx hb dX8_cvc_17 (by decide) ?_
      refine lv_isub hx hb dX8_cvc_18 ?_
      refine xc_vi (As := [.int (x1 - 2)]) (rest := []) xG Fx (sX8_isVowel l dC dI ad cI cZ sa sv m_thrown m_size m_outLong m_lines m_toldLines m_tokens m_places m_p m_pre m_end m_text m_out m_lineAt m_lineLong m_depth m_signed m_led m_told m_place m_begin m_tokenLong m_stemLong m_address m_letters m_stems m_s (x1 - 2) h) (cwV 1 hts gX8_cvc_X8_isVowel rfl rfl rfl hdX8_isVowel ⟨Nat.le_of_ble_eq_true rfl, Nat.le_of_ble_eq_true rfl⟩) (va_recv hK hP (ci := 7) (q0 := 0) rfl rfl) hK hP hD hS hA hI rfl hl.1 rfl (Nat.le_of_ble_eq_true rfl) dX8_cvc_19 ⟨Nat.zero_le _, Nat.zero_le _⟩ (fun r_2 u H locs h hP hD hS => ?_)
      refine lv_if_eq (tgt := 35) hx hb dX8_cvc_22 (by decide) (fun c9 => ?_) (fun c9 => ?_)
      · have h := h.1 c9
        refine lv_iconst (v := 0) hx hb dX8_cvc_35 (by decide) ?_
        exact W.zret (v := 0) hx hb hr (bN_nar bN0) (fun t ht hW => hQ 0 () t h (by rw [ht]; exact hP) (va_K.moved hW.alike hK) hD (hS.F ht)) hS.2.2 dX8_cvc_36
      · have h := h.2 c9
        refine lv_aload_n hx hb dX8_cvc_25 rfl (lv_at hl 0 rfl) ?_
        refine lv_iload_n hx hb dX8_cvc_26 rfl (lv_at hl 1 rfl) ?_
        refine lv_iconst (v := 1) hx hb dX8_cvc_27 (by decide) ?_
        refine lv_isub hx hb dX8_cvc_28 ?_
        refine xc_vi (As := [.int (x1 - 1)]) (rest := []) xG Fx (sX8_isVowel l dC dI ad cI cZ sa sv m_thrown m_size m_outLong m_lines m_toldLines m_tokens m_places m_p m_pre m_end m_text m_out m_lineAt m_lineLong m_depth m_signed m_led m_told m_place m_begin m_tokenLong m_stemLong m_address m_letters m_stems m_s (x1 - 1) h) (cwV 1 hts gX8_cvc_X8_isVowel rfl rfl rfl hdX8_isVowel ⟨Nat.le_of_ble_eq_true rfl, Nat.le_of_ble_eq_true rfl⟩) (va_recv hK hP (ci := 7) (q0 := 0) rfl rfl) hK hP hD hS hA hI rfl hl.1 rfl (Nat.le_of_ble_eq_true rfl) dX8_cvc_29 ⟨Nat.zero_le _, Nat.zero_le _⟩ (fun r_3 u H locs h hP hD hS => ?_)
        refine lv_if_eq (tgt := 37) hx hb dX8_cvc_32 (by decide) (fun c9 => ?_) (fun c9 => ?_)
        · have h := h.1 c9
          refine lv_aload_n hx hb dX8_cvc_37 rfl (lv_at hl 0 rfl) ?_
          refine va_get (D := (dC, dI)) (ci := 7) (v := .ref (ad 16)) (C := RX8) (T := TX8) (N := 26) hx hb hts inX8 hown hK hP 0 rfl rfl 24 (by decide) (hts (.fieldLink RX8 57 "MailWordsModel" "s" "[I") (List.mem_of_getElem? (i := 1) rfl)) (fun _ h9 => h9) rfl dX8_cvc_38 ?_
          refine lv_iload_n hx hb dX8_cvc_41 rfl (lv_at hl 1 rfl) ?_
          refine lv_iconst (v := 1) hx hb dX8_cvc_42 (by decide) ?_
          refine lv_isub hx hb dX8_cvc_43 ?_
          have hi9 := h.1
          have h := h.2
          refine va_iald hx hb hK hP 16 0 rfl rfl hi9 dX8_cvc_44 ?_
          refine lv_bipush (v := 119) hx hb dX8_cvc_45 (by decide) ?_
          refine lv_icmp_eq (tgt := 80) hx hb dX8_cvc_47 (by decide) (fun c9 => ?_) (fun c9 => ?_)
          · have h := h.1 c9
            refine lv_iconst (v := 0) hx hb dX8_cvc_80 (by decide) ?_
            exact W.zret (v := 0) hx hb hr (bN_nar bN0) (fun t ht hW => hQ 0 () t h (by rw [ht]; exact hP) (va_K.moved hW.alike hK) hD (hS.F ht)) hS.2.2 dX8_cvc_81
          · have h := h.2 c9
            refine lv_aload_n hx hb dX8_cvc_50 rfl (lv_at hl 0 rfl) ?_
            refine va_get (D := (dC, dI)) (ci := 7) (v := .ref (ad 16)) (C := RX8) (T := TX8) (N := 26) hx hb hts inX8 hown hK hP 0 rfl rfl 24 (by decide) (hts (.fieldLink RX8 57 "MailWordsModel" "s" "[I") (List.mem_of_getElem? (i := 1) rfl)) (fun _ h9 => h9) rfl dX8_cvc_51 ?_
            refine lv_iload_n hx hb dX8_cvc_54 rfl (lv_at hl 1 rfl) ?_
            refine lv_iconst (v := 1) hx hb dX8_cvc_55 (by decide) ?_
            refine lv_isub hx hb dX8_cvc_56 ?_
            have hi9 := h.1
            have h := h.2
            refine va_iald hx hb hK hP 16 0 rfl rfl hi9 dX8_cvc_57 ?_
            refine lv_bipush (v := 120) hx hb dX8_cvc_58 (by decide) ?_
            refine lv_icmp_eq (tgt := 80) hx hb dX8_cvc_60 (by decide) (fun c9 => ?_) (fun c9 => ?_)
            · have h := h.1 c9
              refine lv_iconst (v := 0) hx hb dX8_cvc_80 (by decide) ?_
              exact W.zret (v := 0) hx hb hr (bN_nar bN0) (fun t ht hW => hQ 0 () t h (by rw [ht]; exact hP) (va_K.moved hW.alike hK) hD (hS.F ht)) hS.2.2 dX8_cvc_81
            · have h := h.2 c9
              refine lv_aload_n hx hb dX8_cvc_63 rfl (lv_at hl 0 rfl) ?_
              refine va_get (D := (dC, dI)) (ci := 7) (v := .ref (ad 16)) (C := RX8) (T := TX8) (N := 26) hx hb hts inX8 hown hK hP 0 rfl rfl 24 (by decide) (hts (.fieldLink RX8 57 "MailWordsModel" "s" "[I") (List.mem_of_getElem? (i := 1) rfl)) (fun _ h9 => h9) rfl dX8_cvc_64 ?_
              refine lv_iload_n hx hb dX8_cvc_67 rfl (lv_at hl 1 rfl) ?_
              refine lv_iconst (v := 1) hx hb dX8_cvc_68 (by decide) ?_
              refine lv_isub hx hb dX8_cvc_69 ?_
              have hi9 := h.1
              have h := h.2
              refine va_iald hx hb hK hP 16 0 rfl rfl hi9 dX8_cvc_70 ?_
              refine lv_bipush (v := 121) hx hb dX8_cvc_71 (by decide) ?_
              refine lv_icmp_eq (tgt := 80) hx hb dX8_cvc_73 (by decide) (fun c9 => ?_) (fun c9 => ?_)
              · have h := h.1 c9
                refine lv_iconst (v := 0) hx hb dX8_cvc_80 (by decide) ?_
                exact W.zret (v := 0) hx hb hr (bN_nar bN0) (fun t ht hW => hQ 0 () t h (by rw [ht]; exact hP) (va_K.moved hW.alike hK) hD (hS.F ht)) hS.2.2 dX8_cvc_81
              · have h := h.2 c9
                refine lv_iconst (v := 1) hx hb dX8_cvc_76 (by decide) ?_
                refine lv_goto (tgt := 81) hx hb dX8_cvc_77 (by decide) ?_
                exact W.zret (v := 1) hx hb hr (bN_nar bN1) (fun t ht hW => hQ 1 () t h (by rw [ht]; exact hP) (va_K.moved hW.alike hK) hD (hS.F ht)) hS.2.2 dX8_cvc_81
        · have h := h.2 c9
          refine lv_iconst (v := 0) hx hb dX8_cvc_35 (by decide) ?_
          exact W.zret (v := 0) hx hb hr (bN_nar bN0) (fun t ht hW => hQ 0 () t h (by rw [ht]; exact hP) (va_K.moved hW.alike hK) hD (hS.F ht)) hS.2.2 dX8_cvc_36
set_option maxHeartbeats 4000000 in
set_option maxRecDepth 100000 in
theorem sX8_mend (l : Launch) (dC : Nat → ClassId) (dI : Nat → Nat → Nat) (ad : Nat → Nat) (cI cZ : ClassId) (sa sv : Nat → Nat) (m_thrown : Int32) (m_size : Int32) (m_outLong : Int32) (m_lines : Int32) (m_toldLines : Int32) (m_tokens : Int32) (m_places : Int32) (m_p : Int32) (m_pre : Int32) (m_end : Int32) (m_text : Nat → Int32) (m_out : Nat → Int32) (m_lineAt : Nat → Int32) (m_lineLong : Nat → Int32) (m_depth : Nat → Int32) (m_signed : Nat → Int32) (m_led : Nat → Int32) (m_told : Nat → Int32) (m_place : Nat → Int32) (m_begin : Nat → Int32) (m_tokenLong : Nat → Int32) (m_stemLong : Nat → Int32) (m_address : Nat → Int32) (m_letters : Nat → Int32) (m_stems : Nat → Int32) (m_s : Nat → Int32)  {post : Int32 → (Nat → Int32) → Prop} (h : wpX8_mend post m_end m_s) : xMv l (dC, dI) vwCl [(cI, .int), (cZ, .boolean)] (sI sa sv) yX8_mend wsX8_mend ({ frames := 3, cells := 0, slots := 0, locals := 69 }) (mW ad cI cZ m_thrown m_size m_outLong m_lines m_toldLines m_tokens m_places m_p m_pre m_end m_text m_out m_lineAt m_lineLong m_depth m_signed m_led m_told m_place m_begin m_tokenLong m_stemLong m_address m_letters m_stems m_s) [.ref (ad 0)] (fun u : Int32 × (Nat → Int32) => post u.1 u.2) (fun u : Int32 × (Nat → Int32) => (mW ad cI cZ m_thrown m_size m_outLong m_lines m_toldLines m_tokens m_places m_p m_pre u.1 m_text m_out m_lineAt m_lineLong m_depth m_signed m_led m_told m_place m_begin m_tokenLong m_stemLong m_address m_letters m_stems u.2)) := by
  intro sz
  refine Met.ofW (cc := cX8_mend) (maxL := 2) (ret := none) (by decide) rfl ?_
  intro p e s m args below meth c s₁ B hml hv
  obtain ⟨rfl, hsz, hP, hK, hD0, hI⟩ := hv
  have hx := B.exec
  have hb := B.bytes
  have hr := B.returns
  have hts := atoms_spec (ws := wsX8_mend) B.pre
  have hown : s.vm.findClass RX8 = some m.cls := findClass_of_methodNamed B.named
  have hlocks := B.notSynchronized
  subst hsz
  have hD := hD0.self (sz := s.heap.size)
  generalize hAe : va_A (mW ad cI cZ m_thrown m_size m_outLong m_lines m_toldLines m_tokens m_places m_p m_pre m_end m_text m_out m_lineAt m_lineLong m_depth m_signed m_led m_told m_place m_begin m_tokenLong m_stemLong m_address m_letters m_stems m_s) s.heap.size = A at hD hI ⊢
  have hA : ∀ q : Nat, s.heap.size ≤ q → A q := fun q h => by rw [← hAe]; exact Or.inr h
  have hS : va_S A s.heap s.heap [] := va_S.rf
  have Fx : CallFix p m c cX8_mend 2 s ([.ref (ad 0)] : List Value).toArray wsX8_mend RX8 := ⟨hx, hb, hml, hown, hts⟩
  have hQ : ∀ (u : Int32 × (Nat → Int32)) (t : State), (fun u : Int32 × (Nat → Int32) => post u.1 u.2) u → va_P (dC, dI) vwCl ((fun u : Int32 × (Nat → Int32) => (mW ad cI cZ m_thrown m_size m_outLong m_lines m_toldLines m_tokens m_places m_p m_pre u.1 m_text m_out m_lineAt m_lineLong m_depth m_signed m_led m_told m_place m_begin m_tokenLong m_stemLong m_address m_letters m_stems u.2)) u) t.heap → va_K (dC, dI) vwCl [(cI, .int), (cZ, .boolean)] t → va_D A ((fun u : Int32 × (Nat → Int32) => (mW ad cI cZ m_thrown m_size m_outLong m_lines m_toldLines m_tokens m_places m_p m_pre u.1 m_text m_out m_lineAt m_lineLong m_depth m_signed m_led m_told m_place m_begin m_tokenLong m_stemLong m_address m_letters m_stems u.2)) u) → va_F A s t → (va_Qv (fun u : Int32 × (Nat → Int32) => post u.1 u.2) (xB (dC, dI) vwCl [(cI, .int), (cZ, .boolean)] A (fun u : Int32 × (Nat → Int32) => (mW ad cI cZ m_thrown m_size m_outLong m_lines m_toldLines m_tokens m_places m_p m_pre u.1 m_text m_out m_lineAt m_lineLong m_depth m_signed m_led m_told m_place m_begin m_tokenLong m_stemLong m_address m_letters m_stems u.2))) A) ([.ref (ad 0)] : List Value).toArray s (.returned none) t := fun u t h1 h2 h3 h4 h5 => ⟨⟨u, rfl, h1, h2, h3, h4⟩, h5⟩
  generalize (va_Qv (fun u : Int32 × (Nat → Int32) => post u.1 u.2) (xB (dC, dI) vwCl [(cI, .int), (cZ, .boolean)] A (fun u : Int32 × (Nat → Int32) => (mW ad cI cZ m_thrown m_size m_outLong m_lines m_toldLines m_tokens m_places m_p m_pre u.1 m_text m_out m_lineAt m_lineLong m_depth m_signed m_led m_told m_place m_begin m_tokenLong m_stemLong m_address m_letters m_stems u.2))) A) = Qc at hQ ⊢
  have hl := lv_entry ([.ref (ad 0)]) (n := 2) (Nat.le_of_ble_eq_true rfl)
  rw [lg_entry_eq]
  generalize (lg_sl ([.ref (ad 0)]) ++ List.replicate (2 - (lg_sl ([.ref (ad 0)])).length) Slot.unset).toArray = ls at hl ⊢
  have hl : lv_has ls 2 [(0, .ref (ad 0))] := hl
  refine (fun (key : ∀ (H : Heap) (locs : List Loc), va_P (dC, dI) vwCl (mW ad cI cZ m_thrown m_size m_outLong m_lines m_toldLines m_tokens m_places m_p m_pre m_end m_text m_out m_lineAt m_lineLong m_depth m_signed m_led m_told m_place m_begin m_tokenLong m_stemLong m_address m_letters m_stems m_s) H → va_D A (mW ad cI cZ m_thrown m_size m_outLong m_lines m_toldLines m_tokens m_places m_p m_pre m_end m_text m_out m_lineAt m_lineLong m_depth m_signed m_led m_told m_place m_begin m_tokenLong m_stemLong m_address m_letters m_stems m_s) → va_S A s.heap H locs → W p l e (headSpec wsX8_mend ({ frames := 3, cells := 0, slots := 0, locals := 69 })).room s m ([.ref (ad 0)] : List Value).toArray below meth c H locs 0 0 (MQ below Qc ([.ref (ad 0)] : List Value).toArray s 0 0 A) (F0 m 0 ls [])) => key _ _ hP hD hS) ?_
  have inX8 : ∀ w ∈ wsX80, w ∈ wsX8_mend := (fun _ h9 => List.mem_cons_of_mem _ (List.mem_append_right _ h9))
  have J119 : ∀ (m_end : Int32) (m_s : Nat → Int32) (H : Heap) (locs : List Loc) (ls : Array Slot), lv_has ls 2 [(0, .ref (ad 0))] → va_P (dC, dI) vwCl (mW ad cI cZ m_thrown m_size m_outLong m_lines m_toldLines m_tokens m_places m_p m_pre m_end m_text m_out m_lineAt m_lineLong m_depth m_signed m_led m_told m_place m_begin m_tokenLong m_stemLong m_address m_letters m_stems m_s) H → va_D A (mW ad cI cZ m_thrown m_size m_outLong m_lines m_toldLines m_tokens m_places m_p m_pre m_end m_text m_out m_lineAt m_lineLong m_depth m_signed m_led m_told m_place m_begin m_tokenLong m_stemLong m_address m_letters m_stems m_s) → va_S A s.heap H locs → wjX8_mend_119 post m_end m_s → W p l e (headSpec wsX8_mend ({ frames := 3, cells := 0, slots := 0, locals := 69 })).room s m ([.ref (ad 0)] : List Value).toArray below meth c H locs 0 0 (MQ below Qc ([.ref (ad 0)] : List Value).toArray s 0 0 A) (F0 m 119 ls []) := by
    intro m_end m_s H locs ls hl hP hD hS h
    delta wjX8_mend_119 at h
    refine lv_aload_n hx hb dX8_mend_119 rfl (lv_at hl 0 rfl) ?_
    refine lv_aload_n hx hb dX8_mend_120 rfl (lv_at hl 0 rfl) ?_
    refine va_get (D := (dC, dI)) (ci := 7) (v := .int m_end) (C := RX8) (T := TX8) (N := 26) hx hb hts inX8 hown hK hP 0 rfl rfl 25 (by decide) (hts (.fieldLink RX8 312 "MailWordsModel" "end" "I") (List.mem_of_getElem? (i := 2) rfl)) (fun _ h9 => h9) rfl dX8_mend_121 ?_
    refine xc_vi (As := [.int m_end]) (rest := []) xG Fx (sX8_measure l dC dI ad cI cZ sa sv m_thrown m_size m_outLong m_lines m_toldLines m_tokens m_places m_p m_pre m_end m_text m_out m_lineAt m_lineLong m_depth m_signed m_led m_told m_place m_begin m_tokenLong m_stemLong m_address m_letters m_stems m_s m_end h) (cwV 1 hts gX8_mend_X8_measure rfl rfl rfl hdX8_measure ⟨Nat.le_of_ble_eq_true rfl, Nat.le_of_ble_eq_true rfl⟩) (va_recv hK hP (ci := 7) (q0 := 0) rfl rfl) hK hP hD hS hA hI rfl hl.1 rfl (Nat.le_of_ble_eq_true rfl) dX8_mend_124 ⟨Nat.zero_le _, Nat.zero_le _⟩ (fun r_1 u H locs h hP hD hS => ?_)
    refine lv_iconst (v := 1) hx hb dX8_mend_127 (by decide) ?_
    refine lv_icmp_ne (tgt := 149) hx hb dX8_mend_128 (by decide) (fun c9 => ?_) (fun c9 => ?_)
    · have h := h.1 c9
      exact W.vret hx hb hr (fun t ht hW => hQ (m_end, m_s) t h (by rw [ht]; exact hP) (va_K.moved hW.alike hK) hD (hS.F ht)) hS.2.2 dX8_mend_149
    · have h := h.2 c9
      refine lv_aload_n hx hb dX8_mend_131 rfl (lv_at hl 0 rfl) ?_
      refine lv_aload_n hx hb dX8_mend_132 rfl (lv_at hl 0 rfl) ?_
      refine va_get (D := (dC, dI)) (ci := 7) (v := .int m_end) (C := RX8) (T := TX8) (N := 26) hx hb hts inX8 hown hK hP 0 rfl rfl 25 (by decide) (hts (.fieldLink RX8 312 "MailWordsModel" "end" "I") (List.mem_of_getElem? (i := 2) rfl)) (fun _ h9 => h9) rfl dX8_mend_133 ?_
      refine xc_vi (As := [.int m_end]) (rest := []) xG Fx (sX8_cvc l dC dI ad cI cZ sa sv m_thrown m_size m_outLong m_lines m_toldLines m_tokens m_places m_p m_pre m_end m_text m_out m_lineAt m_lineLong m_depth m_signed m_led m_told m_place m_begin m_tokenLong m_stemLong m_address m_letters m_stems m_s m_end h) (cwV 1 hts gX8_mend_X8_cvc rfl rfl rfl hdX8_cvc ⟨Nat.le_of_ble_eq_true rfl, Nat.le_of_ble_eq_true rfl⟩) (va_recv hK hP (ci := 7) (q0 := 0) rfl rfl) hK hP hD hS hA hI rfl hl.1 rfl (Nat.le_of_ble_eq_true rfl) dX8_mend_136 ⟨Nat.zero_le _, Nat.zero_le _⟩ (fun r_2 u H locs h hP hD hS => ?_)
      refine lv_if_eq (tgt := 149) hx hb dX8_mend_139 (by decide) (fun c9 => ?_) (fun c9 => ?_)
      · have h := h.1 c9
        exact W.vret hx hb hr (fun t ht hW => hQ (m_end, m_s) t h (by rw [ht]; exact hP) (va_K.moved hW.alike hK) hD (hS.F ht)) hS.2.2 dX8_mend_149
      · have h := h.2 c9
        refine lv_aload_n hx hb dX8_mend_142 rfl (lv_at hl 0 rfl) ?_
        refine lv_ldc2 (v := 101) hx hb hown (hts (.constantLong RX8 352 (101)) (List.mem_of_getElem? (i := 6) rfl)) dX8_mend_143 ?_
        refine xc_vv (As := [.long 101]) (rest := []) xG Fx (sX8_append l dC dI ad cI cZ sa sv m_thrown m_size m_outLong m_lines m_toldLines m_tokens m_places m_p m_pre m_end m_text m_out m_lineAt m_lineLong m_depth m_signed m_led m_told m_place m_begin m_tokenLong m_stemLong m_address m_letters m_stems m_s 101 h) (cwV 1 hts gX8_mend_X8_append rfl rfl rfl hdX8_append ⟨Nat.le_of_ble_eq_true rfl, Nat.le_of_ble_eq_true rfl⟩) (va_recv hK hP (ci := 7) (q0 := 0) rfl rfl) hK hP hD hS hA hI rfl hl.1 rfl (Nat.le_of_ble_eq_true rfl) dX8_mend_146 ⟨Nat.zero_le _, Nat.zero_le _⟩ (fun u H locs h hP hD hS => ?_)
        obtain ⟨m_end_4, m_s_5⟩ := u
        have hP : va_P (dC, dI) vwCl (mW ad cI cZ m_thrown m_size m_outLong m_lines m_toldLines m_tokens m_places m_p m_pre m_end_4 m_text m_out m_lineAt m_lineLong m_depth m_signed m_led m_told m_place m_begin m_tokenLong m_stemLong m_address m_letters m_stems m_s_5) H := hP
        have hD : va_D A (mW ad cI cZ m_thrown m_size m_outLong m_lines m_toldLines m_tokens m_places m_p m_pre m_end_4 m_text m_out m_lineAt m_lineLong m_depth m_signed m_led m_told m_place m_begin m_tokenLong m_stemLong m_address m_letters m_stems m_s_5) := hD
        exact W.vret hx hb hr (fun t ht hW => hQ (m_end_4, m_s_5) t h (by rw [ht]; exact hP) (va_K.moved hW.alike hK) hD (hS.F ht)) hS.2.2 dX8_mend_149
  have J42 : ∀ (m_end : Int32) (m_s : Nat → Int32) (H : Heap) (locs : List Loc) (ls : Array Slot), lv_has ls 2 [(0, .ref (ad 0))] → va_P (dC, dI) vwCl (mW ad cI cZ m_thrown m_size m_outLong m_lines m_toldLines m_tokens m_places m_p m_pre m_end m_text m_out m_lineAt m_lineLong m_depth m_signed m_led m_told m_place m_begin m_tokenLong m_stemLong m_address m_letters m_stems m_s) H → va_D A (mW ad cI cZ m_thrown m_size m_outLong m_lines m_toldLines m_tokens m_places m_p m_pre m_end m_text m_out m_lineAt m_lineLong m_depth m_signed m_led m_told m_place m_begin m_tokenLong m_stemLong m_address m_letters m_stems m_s) → va_S A s.heap H locs → wjX8_mend_42 post m_end m_s → W p l e (headSpec wsX8_mend ({ frames := 3, cells := 0, slots := 0, locals := 69 })).room s m ([.ref (ad 0)] : List Value).toArray below meth c H locs 0 0 (MQ below Qc ([.ref (ad 0)] : List Value).toArray s 0 0 A) (F0 m 42 ls []) := by
    intro m_end m_s H locs ls hl hP hD hS h
    delta wjX8_mend_42 at h
    refine lv_aload_n hx hb dX8_mend_42 rfl (lv_at hl 0 rfl) ?_
    refine lv_ldc2 (v := 101) hx hb hown (hts (.constantLong RX8 352 (101)) (List.mem_of_getElem? (i := 6) rfl)) dX8_mend_43 ?_
    refine xc_vv (As := [.long 101]) (rest := []) xG Fx (sX8_append l dC dI ad cI cZ sa sv m_thrown m_size m_outLong m_lines m_toldLines m_tokens m_places m_p m_pre m_end m_text m_out m_lineAt m_lineLong m_depth m_signed m_led m_told m_place m_begin m_tokenLong m_stemLong m_address m_letters m_stems m_s 101 h) (cwV 1 hts gX8_mend_X8_append rfl rfl rfl hdX8_append ⟨Nat.le_of_ble_eq_true rfl, Nat.le_of_ble_eq_true rfl⟩) (va_recv hK hP (ci := 7) (q0 := 0) rfl rfl) hK hP hD hS hA hI rfl hl.1 rfl (Nat.le_of_ble_eq_true rfl) dX8_mend_46 ⟨Nat.zero_le _, Nat.zero_le _⟩ (fun u H locs h hP hD hS => ?_)
    obtain ⟨m_end_7, m_s_8⟩ := u
    have hP : va_P (dC, dI) vwCl (mW ad cI cZ m_thrown m_size m_outLong m_lines m_toldLines m_tokens m_places m_p m_pre m_end_7 m_text m_out m_lineAt m_lineLong m_depth m_signed m_led m_told m_place m_begin m_tokenLong m_stemLong m_address m_letters m_stems m_s_8) H := hP
    have hD : va_D A (mW ad cI cZ m_thrown m_size m_outLong m_lines m_toldLines m_tokens m_places m_p m_pre m_end_7 m_text m_out m_lineAt m_lineLong m_depth m_signed m_led m_told m_place m_begin m_tokenLong m_stemLong m_address m_letters m_stems m_s_8) := hD
    refine lv_goto (tgt := 149) hx hb dX8_mend_49 (by decide) ?_
    exact W.vret hx hb hr (fun t ht hW => hQ (m_end_7, m_s_8) t h (by rw [ht]; exact hP) (va_K.moved hW.alike hK) hD (hS.F ht)) hS.2.2 dX8_mend_149
  intro H locs hP hD hS
  delta wpX8_mend at h
  refine lv_aload_n hx hb dX8_mend_0 rfl (lv_at hl 0 rfl) ?_
  refine va_get (D := (dC, dI)) (ci := 7) (v := .ref (ad 16)) (C := RX8) (T := TX8) (N := 26) hx hb hts inX8 hown hK hP 0 rfl rfl 24 (by decide) (hts (.fieldLink RX8 57 "MailWordsModel" "s" "[I") (List.mem_of_getElem? (i := 1) rfl)) (fun _ h9 => h9) rfl dX8_mend_1 ?_
  refine lv_aload_n hx hb dX8_mend_4 rfl (lv_at hl 0 rfl) ?_
  refine va_get (D := (dC, dI)) (ci := 7) (v := .int m_end) (C := RX8) (T := TX8) (N := 26) hx hb hts inX8 hown hK hP 0 rfl rfl 25 (by decide) (hts (.fieldLink RX8 312 "MailWordsModel" "end" "I") (List.mem_of_getElem? (i := 2) rfl)) (fun _ h9 => h9) rfl dX8_mend_5 ?_
  refine lv_iconst (v := 1) hx hb dX8_mend_8 (by decide) ?_
  refine lv_isub hx hb dX8_mend_9 ?_
  have hi9 := h.1
  have h := h.2
  refine va_iald hx hb hK hP 16 0 rfl rfl hi9 dX8_mend_10 ?_
  refine lv_topi (fun x1_9 ex1_9 => ?_)
  have h := h x1_9 ex1_9
  refine lv_istore_n (lv' := [(1, .int x1_9), (0, .ref (ad 0))]) hx hb dX8_mend_11 rfl hl (by decide) rfl (fun ls hl => ?_)
  refine lv_aload_n hx hb dX8_mend_12 rfl (lv_at hl 1 rfl) ?_
  refine lv_ldc2 (v := 24948) hx hb hown (hts (.constantLong RX8 346 (24948)) (List.mem_of_getElem? (i := 3) rfl)) dX8_mend_13 ?_
  refine xc_vi (As := [.long 24948]) (rest := []) xG Fx (sX8_has l dC dI ad cI cZ sa sv m_thrown m_size m_outLong m_lines m_toldLines m_tokens m_places m_p m_pre m_end m_text m_out m_lineAt m_lineLong m_depth m_signed m_led m_told m_place m_begin m_tokenLong m_stemLong m_address m_letters m_stems m_s 24948 h) (cwV 1 hts gX8_mend_X8_has rfl rfl rfl hdX8_has ⟨Nat.le_of_ble_eq_true rfl, Nat.le_of_ble_eq_true rfl⟩) (va_recv hK hP (ci := 7) (q0 := 0) rfl rfl) hK hP hD hS hA hI rfl hl.1 rfl (Nat.le_of_ble_eq_true rfl) dX8_mend_16 ⟨Nat.zero_le _, Nat.zero_le _⟩ (fun r_10 u H locs h hP hD hS => ?_)
  refine lv_if_ne (tgt := 42) hx hb dX8_mend_19 (by decide) (fun c9 => ?_) (fun c9 => ?_)
  · have h := h.1 c9
    exact J42 m_end m_s H locs ls (lv_sub hl [1] rfl) hP hD hS h
  · have h := h.2 c9
    refine lv_aload_n hx hb dX8_mend_22 rfl (lv_at hl 1 rfl) ?_
    refine lv_ldc2 (v := 25196) hx hb hown (hts (.constantLong RX8 348 (25196)) (List.mem_of_getElem? (i := 4) rfl)) dX8_mend_23 ?_
    refine xc_vi (As := [.long 25196]) (rest := []) xG Fx (sX8_has l dC dI ad cI cZ sa sv m_thrown m_size m_outLong m_lines m_toldLines m_tokens m_places m_p m_pre m_end m_text m_out m_lineAt m_lineLong m_depth m_signed m_led m_told m_place m_begin m_tokenLong m_stemLong m_address m_letters m_stems m_s 25196 h) (cwV 1 hts gX8_mend_X8_has rfl rfl rfl hdX8_has ⟨Nat.le_of_ble_eq_true rfl, Nat.le_of_ble_eq_true rfl⟩) (va_recv hK hP (ci := 7) (q0 := 0) rfl rfl) hK hP hD hS hA hI rfl hl.1 rfl (Nat.le_of_ble_eq_true rfl) dX8_mend_26 ⟨Nat.zero_le _, Nat.zero_le _⟩ (fun r_11 u H locs h hP hD hS => ?_)
    refine lv_if_ne (tgt := 42) hx hb dX8_mend_29 (by decide) (fun c9 => ?_) (fun c9 => ?_)
    · have h := h.1 c9
      exact J42 m_end m_s H locs ls (lv_sub hl [1] rfl) hP hD hS h
    · have h := h.2 c9
      refine lv_aload_n hx hb dX8_mend_32 rfl (lv_at hl 1 rfl) ?_
      refine lv_ldc2 (v := 27002) hx hb hown (hts (.constantLong RX8 350 (27002)) (List.mem_of_getElem? (i := 5) rfl)) dX8_mend_33 ?_
      refine xc_vi (As := [.long 27002]) (rest := []) xG Fx (sX8_has l dC dI ad cI cZ sa sv m_thrown m_size m_outLong m_lines m_toldLines m_tokens m_places m_p m_pre m_end m_text m_out m_lineAt m_lineLong m_depth m_signed m_led m_told m_place m_begin m_tokenLong m_stemLong m_address m_letters m_stems m_s 27002 h) (cwV 1 hts gX8_mend_X8_has rfl rfl rfl hdX8_has ⟨Nat.le_of_ble_eq_true rfl, Nat.le_of_ble_eq_true rfl⟩) (va_recv hK hP (ci := 7) (q0 := 0) rfl rfl) hK hP hD hS hA hI rfl hl.1 rfl (Nat.le_of_ble_eq_true rfl) dX8_mend_36 ⟨Nat.zero_le _, Nat.zero_le _⟩ (fun r_12 u H locs h hP hD hS => ?_)
      refine lv_if_eq (tgt := 52) hx hb dX8_mend_39 (by decide) (fun c9 => ?_) (fun c9 => ?_)
      · have h := h.1 c9
        refine lv_aload_n hx hb dX8_mend_52 rfl (lv_at hl 1 rfl) ?_
        refine va_get (D := (dC, dI)) (ci := 7) (v := .int m_end) (C := RX8) (T := TX8) (N := 26) hx hb hts inX8 hown hK hP 0 rfl rfl 25 (by decide) (hts (.fieldLink RX8 312 "MailWordsModel" "end" "I") (List.mem_of_getElem? (i := 2) rfl)) (fun _ h9 => h9) rfl dX8_mend_53 ?_
        refine lv_iconst (v := 1) hx hb dX8_mend_56 (by decide) ?_
        refine lv_icmp_le (tgt := 119) hx hb dX8_mend_57 (by decide) (fun c9 => ?_) (fun c9 => ?_)
        · have h := h.1 c9
          exact J119 m_end m_s H locs ls (lv_sub hl [1] rfl) hP hD hS h
        · have h := h.2 c9
          refine lv_iload_n hx hb dX8_mend_60 rfl (lv_at hl 0 rfl) ?_
          refine lv_aload_n hx hb dX8_mend_61 rfl (lv_at hl 1 rfl) ?_
          refine va_get (D := (dC, dI)) (ci := 7) (v := .ref (ad 16)) (C := RX8) (T := TX8) (N := 26) hx hb hts inX8 hown hK hP 0 rfl rfl 24 (by decide) (hts (.fieldLink RX8 57 "MailWordsModel" "s" "[I") (List.mem_of_getElem? (i := 1) rfl)) (fun _ h9 => h9) rfl dX8_mend_62 ?_
          refine lv_aload_n hx hb dX8_mend_65 rfl (lv_at hl 1 rfl) ?_
          refine va_get (D := (dC, dI)) (ci := 7) (v := .int m_end) (C := RX8) (T := TX8) (N := 26) hx hb hts inX8 hown hK hP 0 rfl rfl 25 (by decide) (hts (.fieldLink RX8 312 "MailWordsModel" "end" "I") (List.mem_of_getElem? (i := 2) rfl)) (fun _ h9 => h9) rfl dX8_mend_66 ?_
          refine lv_iconst (v := 2) hx hb dX8_mend_69 (by decide) ?_
          refine lv_isub hx hb dX8_mend_70 ?_
          have hi9 := h.1
          have h := h.2
          refine va_iald hx hb hK hP 16 0 rfl rfl hi9 dX8_mend_71 ?_
          refine lv_icmp_ne (tgt := 119) hx hb dX8_mend_72 (by decide) (fun c9 => ?_) (fun c9 => ?_)
          · have h := h.1 c9
            exact J119 m_end m_s H locs ls (lv_sub hl [1] rfl) hP hD hS h
          · have h := h.2 c9
            refine lv_aload_n hx hb dX8_mend_75 rfl (lv_at hl 1 rfl) ?_
            refine lv_aload_n hx hb dX8_mend_76 rfl (lv_at hl 1 rfl) ?_
            refine va_get (D := (dC, dI)) (ci := 7) (v := .int m_end) (C := RX8) (T := TX8) (N := 26) hx hb hts inX8 hown hK hP 0 rfl rfl 25 (by decide) (hts (.fieldLink RX8 312 "MailWordsModel" "end" "I") (List.mem_of_getElem? (i := 2) rfl)) (fun _ h9 => h9) rfl dX8_mend_77 ?_
            refine lv_iconst (v := 1) hx hb dX8_mend_80 (by decide) ?_
            refine lv_isub hx hb dX8_mend_81 ?_
            refine xc_vi (As := [.int (m_end - 1)]) (rest := []) xG Fx (sX8_isVowel l dC dI ad cI cZ sa sv m_thrown m_size m_outLong m_lines m_toldLines m_tokens m_places m_p m_pre m_end m_text m_out m_lineAt m_lineLong m_depth m_signed m_led m_told m_place m_begin m_tokenLong m_stemLong m_address m_letters m_stems m_s (m_end - 1) h) (cwV 1 hts gX8_mend_X8_isVowel rfl rfl rfl hdX8_isVowel ⟨Nat.le_of_ble_eq_true rfl, Nat.le_of_ble_eq_true rfl⟩) (va_recv hK hP (ci := 7) (q0 := 0) rfl rfl) hK hP hD hS hA hI rfl hl.1 rfl (Nat.le_of_ble_eq_true rfl) dX8_mend_82 ⟨Nat.zero_le _, Nat.zero_le _⟩ (fun r_13 u H locs h hP hD hS => ?_)
            refine lv_if_ne (tgt := 119) hx hb dX8_mend_85 (by decide) (fun c9 => ?_) (fun c9 => ?_)
            · have h := h.1 c9
              exact J119 m_end m_s H locs ls (lv_sub hl [1] rfl) hP hD hS h
            · have h := h.2 c9
              refine lv_iload_n hx hb dX8_mend_88 rfl (lv_at hl 0 rfl) ?_
              refine lv_bipush (v := 108) hx hb dX8_mend_89 (by decide) ?_
              refine lv_icmp_eq (tgt := 149) hx hb dX8_mend_91 (by decide) (fun c9 => ?_) (fun c9 => ?_)
              · have h := h.1 c9
                exact W.vret hx hb hr (fun t ht hW => hQ (m_end, m_s) t h (by rw [ht]; exact hP) (va_K.moved hW.alike hK) hD (hS.F ht)) hS.2.2 dX8_mend_149
              · have h := h.2 c9
                refine lv_iload_n hx hb dX8_mend_94 rfl (lv_at hl 0 rfl) ?_
                refine lv_bipush (v := 115) hx hb dX8_mend_95 (by decide) ?_
                refine lv_icmp_eq (tgt := 149) hx hb dX8_mend_97 (by decide) (fun c9 => ?_) (fun c9 => ?_)
                · have h := h.1 c9
                  exact W.vret hx hb hr (fun t ht hW => hQ (m_end, m_s) t h (by rw [ht]; exact hP) (va_K.moved hW.alike hK) hD (hS.F ht)) hS.2.2 dX8_mend_149
                · have h := h.2 c9
                  refine lv_iload_n hx hb dX8_mend_100 rfl (lv_at hl 0 rfl) ?_
                  refine lv_bipush (v := 122) hx hb dX8_mend_101 (by decide) ?_
                  refine lv_icmp_eq (tgt := 149) hx hb dX8_mend_103 (by decide) (fun c9 => ?_) (fun c9 => ?_)
                  · have h := h.1 c9
                    exact W.vret hx hb hr (fun t ht hW => hQ (m_end, m_s) t h (by rw [ht]; exact hP) (va_K.moved hW.alike hK) hD (hS.F ht)) hS.2.2 dX8_mend_149
                  · have h := h.2 c9
                    refine lv_aload_n hx hb dX8_mend_106 rfl (lv_at hl 1 rfl) ?_
                    refine lv_dup hx hb dX8_mend_107 rfl ?_
                    refine va_get (D := (dC, dI)) (ci := 7) (v := .int m_end) (C := RX8) (T := TX8) (N := 26) hx hb hts inX8 hown hK hP 0 rfl rfl 25 (by decide) (hts (.fieldLink RX8 312 "MailWordsModel" "end" "I") (List.mem_of_getElem? (i := 2) rfl)) (fun _ h9 => h9) rfl dX8_mend_108 ?_
                    refine lv_iconst (v := 1) hx hb dX8_mend_111 (by decide) ?_
                    refine lv_isub hx hb dX8_mend_112 ?_
                    refine lv_topi (fun m_end_14 em_end_14 => ?_)
                    have h := h m_end_14 em_end_14
                    refine va_put (D := (dC, dI)) (ci := 7) (v := .int m_end_14) (ty := .int) (C := RX8) (T := TX8) (N := 26) hx hb hts inX8 tyX8 tyX8_ok nmX8 hown hK hP hD hS 0 rfl rfl 25 (by decide) (hts (.fieldLink RX8 312 "MailWordsModel" "end" "I") (List.mem_of_getElem? (i := 2) rfl)) (fun _ h9 => h9) rfl (tyX8_ok 25 (by decide)) rfl rfl (Nat.le_of_ble_eq_true rfl) dX8_mend_113 (fun H locs hP hD hS => ?_)
                    have hP : va_P (dC, dI) vwCl (mW ad cI cZ m_thrown m_size m_outLong m_lines m_toldLines m_tokens m_places m_p m_pre m_end_14 m_text m_out m_lineAt m_lineLong m_depth m_signed m_led m_told m_place m_begin m_tokenLong m_stemLong m_address m_letters m_stems m_s) H := hP
                    have hD : va_D A (mW ad cI cZ m_thrown m_size m_outLong m_lines m_toldLines m_tokens m_places m_p m_pre m_end_14 m_text m_out m_lineAt m_lineLong m_depth m_signed m_led m_told m_place m_begin m_tokenLong m_stemLong m_address m_letters m_stems m_s) := hD
                    refine lv_goto (tgt := 149) hx hb dX8_mend_116 (by decide) ?_
                    exact W.vret hx hb hr (fun t ht hW => hQ (m_end_14, m_s) t h (by rw [ht]; exact hP) (va_K.moved hW.alike hK) hD (hS.F ht)) hS.2.2 dX8_mend_149
      · have h := h.2 c9
        exact J42 m_end m_s H locs ls (lv_sub hl [1] rfl) hP hD hS h
set_option maxHeartbeats 4000000 in
set_option maxRecDepth 100000 in
theorem sX8_first (l : Launch) (dC : Nat → ClassId) (dI : Nat → Nat → Nat) (ad : Nat → Nat) (cI cZ : ClassId) (sa sv : Nat → Nat) (m_thrown : Int32) (m_size : Int32) (m_outLong : Int32) (m_lines : Int32) (m_toldLines : Int32) (m_tokens : Int32) (m_places : Int32) (m_p : Int32) (m_pre : Int32) (m_end : Int32) (m_text : Nat → Int32) (m_out : Nat → Int32) (m_lineAt : Nat → Int32) (m_lineLong : Nat → Int32) (m_depth : Nat → Int32) (m_signed : Nat → Int32) (m_led : Nat → Int32) (m_told : Nat → Int32) (m_place : Nat → Int32) (m_begin : Nat → Int32) (m_tokenLong : Nat → Int32) (m_stemLong : Nat → Int32) (m_address : Nat → Int32) (m_letters : Nat → Int32) (m_stems : Nat → Int32) (m_s : Nat → Int32)  {post : Int32 → (Nat → Int32) → Prop} (h : wpX8_first post m_end m_s) : xMv l (dC, dI) vwCl [(cI, .int), (cZ, .boolean)] (sI sa sv) yX8_first wsX8_first ({ frames := 4, cells := 0, slots := 0, locals := 90 }) (mW ad cI cZ m_thrown m_size m_outLong m_lines m_toldLines m_tokens m_places m_p m_pre m_end m_text m_out m_lineAt m_lineLong m_depth m_signed m_led m_told m_place m_begin m_tokenLong m_stemLong m_address m_letters m_stems m_s) [.ref (ad 0)] (fun u : Int32 × (Nat → Int32) => post u.1 u.2) (fun u : Int32 × (Nat → Int32) => (mW ad cI cZ m_thrown m_size m_outLong m_lines m_toldLines m_tokens m_places m_p m_pre u.1 m_text m_out m_lineAt m_lineLong m_depth m_signed m_led m_told m_place m_begin m_tokenLong m_stemLong m_address m_letters m_stems u.2)) := by
  intro sz
  refine Met.ofW (cc := cX8_first) (maxL := 1) (ret := none) (by decide) rfl ?_
  intro p e s m args below meth c s₁ B hml hv
  obtain ⟨rfl, hsz, hP, hK, hD0, hI⟩ := hv
  have hx := B.exec
  have hb := B.bytes
  have hr := B.returns
  have hts := atoms_spec (ws := wsX8_first) B.pre
  have hown : s.vm.findClass RX8 = some m.cls := findClass_of_methodNamed B.named
  have hlocks := B.notSynchronized
  subst hsz
  have hD := hD0.self (sz := s.heap.size)
  generalize hAe : va_A (mW ad cI cZ m_thrown m_size m_outLong m_lines m_toldLines m_tokens m_places m_p m_pre m_end m_text m_out m_lineAt m_lineLong m_depth m_signed m_led m_told m_place m_begin m_tokenLong m_stemLong m_address m_letters m_stems m_s) s.heap.size = A at hD hI ⊢
  have hA : ∀ q : Nat, s.heap.size ≤ q → A q := fun q h => by rw [← hAe]; exact Or.inr h
  have hS : va_S A s.heap s.heap [] := va_S.rf
  have Fx : CallFix p m c cX8_first 1 s ([.ref (ad 0)] : List Value).toArray wsX8_first RX8 := ⟨hx, hb, hml, hown, hts⟩
  have hQ : ∀ (u : Int32 × (Nat → Int32)) (t : State), (fun u : Int32 × (Nat → Int32) => post u.1 u.2) u → va_P (dC, dI) vwCl ((fun u : Int32 × (Nat → Int32) => (mW ad cI cZ m_thrown m_size m_outLong m_lines m_toldLines m_tokens m_places m_p m_pre u.1 m_text m_out m_lineAt m_lineLong m_depth m_signed m_led m_told m_place m_begin m_tokenLong m_stemLong m_address m_letters m_stems u.2)) u) t.heap → va_K (dC, dI) vwCl [(cI, .int), (cZ, .boolean)] t → va_D A ((fun u : Int32 × (Nat → Int32) => (mW ad cI cZ m_thrown m_size m_outLong m_lines m_toldLines m_tokens m_places m_p m_pre u.1 m_text m_out m_lineAt m_lineLong m_depth m_signed m_led m_told m_place m_begin m_tokenLong m_stemLong m_address m_letters m_stems u.2)) u) → va_F A s t → (va_Qv (fun u : Int32 × (Nat → Int32) => post u.1 u.2) (xB (dC, dI) vwCl [(cI, .int), (cZ, .boolean)] A (fun u : Int32 × (Nat → Int32) => (mW ad cI cZ m_thrown m_size m_outLong m_lines m_toldLines m_tokens m_places m_p m_pre u.1 m_text m_out m_lineAt m_lineLong m_depth m_signed m_led m_told m_place m_begin m_tokenLong m_stemLong m_address m_letters m_stems u.2))) A) ([.ref (ad 0)] : List Value).toArray s (.returned none) t := fun u t h1 h2 h3 h4 h5 => ⟨⟨u, rfl, h1, h2, h3, h4⟩, h5⟩
  generalize (va_Qv (fun u : Int32 × (Nat → Int32) => post u.1 u.2) (xB (dC, dI) vwCl [(cI, .int), (cZ, .boolean)] A (fun u : Int32 × (Nat → Int32) => (mW ad cI cZ m_thrown m_size m_outLong m_lines m_toldLines m_tokens m_places m_p m_pre u.1 m_text m_out m_lineAt m_lineLong m_depth m_signed m_led m_told m_place m_begin m_tokenLong m_stemLong m_address m_letters m_stems u.2))) A) = Qc at hQ ⊢
  have hl := lv_entry ([.ref (ad 0)]) (n := 1) (Nat.le_of_ble_eq_true rfl)
  rw [lg_entry_eq]
  generalize (lg_sl ([.ref (ad 0)]) ++ List.replicate (1 - (lg_sl ([.ref (ad 0)])).length) Slot.unset).toArray = ls at hl ⊢
  have hl : lv_has ls 1 [(0, .ref (ad 0))] := hl
  refine (fun (key : ∀ (H : Heap) (locs : List Loc), va_P (dC, dI) vwCl (mW ad cI cZ m_thrown m_size m_outLong m_lines m_toldLines m_tokens m_places m_p m_pre m_end m_text m_out m_lineAt m_lineLong m_depth m_signed m_led m_told m_place m_begin m_tokenLong m_stemLong m_address m_letters m_stems m_s) H → va_D A (mW ad cI cZ m_thrown m_size m_outLong m_lines m_toldLines m_tokens m_places m_p m_pre m_end m_text m_out m_lineAt m_lineLong m_depth m_signed m_led m_told m_place m_begin m_tokenLong m_stemLong m_address m_letters m_stems m_s) → va_S A s.heap H locs → W p l e (headSpec wsX8_first ({ frames := 4, cells := 0, slots := 0, locals := 90 })).room s m ([.ref (ad 0)] : List Value).toArray below meth c H locs 0 0 (MQ below Qc ([.ref (ad 0)] : List Value).toArray s 0 0 A) (F0 m 0 ls [])) => key _ _ hP hD hS) ?_
  have inX8 : ∀ w ∈ wsX80, w ∈ wsX8_first := (fun _ h9 => List.mem_cons_of_mem _ (List.mem_append_right _ h9))
  have J176 : ∀ (m_end : Int32) (m_s : Nat → Int32) (H : Heap) (locs : List Loc) (ls : Array Slot), lv_has ls 1 [(0, .ref (ad 0))] → va_P (dC, dI) vwCl (mW ad cI cZ m_thrown m_size m_outLong m_lines m_toldLines m_tokens m_places m_p m_pre m_end m_text m_out m_lineAt m_lineLong m_depth m_signed m_led m_told m_place m_begin m_tokenLong m_stemLong m_address m_letters m_stems m_s) H → va_D A (mW ad cI cZ m_thrown m_size m_outLong m_lines m_toldLines m_tokens m_places m_p m_pre m_end m_text m_out m_lineAt m_lineLong m_depth m_signed m_led m_told m_place m_begin m_tokenLong m_stemLong m_address m_letters m_stems m_s) → va_S A s.heap H locs → wjX8_first_176 post m_end m_s → W p l e (headSpec wsX8_first ({ frames := 4, cells := 0, slots := 0, locals := 90 })).room s m ([.ref (ad 0)] : List Value).toArray below meth c H locs 0 0 (MQ below Qc ([.ref (ad 0)] : List Value).toArray s 0 0 A) (F0 m 176 ls []) := by
    intro m_end m_s H locs ls hl hP hD hS h
    delta wjX8_first_176 at h
    refine lv_aload_n hx hb dX8_first_176 rfl (lv_at hl 0 rfl) ?_
    refine lv_ldc2 (v := 121) hx hb hown (hts (.constantLong RX8 344 (121)) (List.mem_of_getElem? (i := 9) rfl)) dX8_first_177 ?_
    refine xc_vi (As := [.long 121]) (rest := []) xG Fx (sX8_has l dC dI ad cI cZ sa sv m_thrown m_size m_outLong m_lines m_toldLines m_tokens m_places m_p m_pre m_end m_text m_out m_lineAt m_lineLong m_depth m_signed m_led m_told m_place m_begin m_tokenLong m_stemLong m_address m_letters m_stems m_s 121 h) (cwV 1 hts gX8_first_X8_has rfl rfl rfl hdX8_has ⟨Nat.le_of_ble_eq_true rfl, Nat.le_of_ble_eq_true rfl⟩) (va_recv hK hP (ci := 7) (q0 := 0) rfl rfl) hK hP hD hS hA hI rfl hl.1 rfl (Nat.le_of_ble_eq_true rfl) dX8_first_180 ⟨Nat.zero_le _, Nat.zero_le _⟩ (fun r_1 u H locs h hP hD hS => ?_)
    refine lv_if_eq (tgt := 212) hx hb dX8_first_183 (by decide) (fun c9 => ?_) (fun c9 => ?_)
    · have h := h.1 c9
      exact W.vret hx hb hr (fun t ht hW => hQ (m_end, m_s) t h (by rw [ht]; exact hP) (va_K.moved hW.alike hK) hD (hS.F ht)) hS.2.2 dX8_first_212
    · have h := h.2 c9
      refine lv_aload_n hx hb dX8_first_186 rfl (lv_at hl 0 rfl) ?_
      refine lv_aload_n hx hb dX8_first_187 rfl (lv_at hl 0 rfl) ?_
      refine va_get (D := (dC, dI)) (ci := 7) (v := .int m_end) (C := RX8) (T := TX8) (N := 26) hx hb hts inX8 hown hK hP 0 rfl rfl 25 (by decide) (hts (.fieldLink RX8 312 "MailWordsModel" "end" "I") (List.mem_of_getElem? (i := 3) rfl)) (fun _ h9 => h9) rfl dX8_first_188 ?_
      refine lv_iconst (v := 1) hx hb dX8_first_191 (by decide) ?_
      refine lv_isub hx hb dX8_first_192 ?_
      refine xc_vi (As := [.int (m_end - 1)]) (rest := []) xG Fx (sX8_hasVowel l dC dI ad cI cZ sa sv m_thrown m_size m_outLong m_lines m_toldLines m_tokens m_places m_p m_pre m_end m_text m_out m_lineAt m_lineLong m_depth m_signed m_led m_told m_place m_begin m_tokenLong m_stemLong m_address m_letters m_stems m_s (m_end - 1) h) (cwV 1 hts gX8_first_X8_hasVowel rfl rfl rfl hdX8_hasVowel ⟨Nat.le_of_ble_eq_true rfl, Nat.le_of_ble_eq_true rfl⟩) (va_recv hK hP (ci := 7) (q0 := 0) rfl rfl) hK hP hD hS hA hI rfl hl.1 rfl (Nat.le_of_ble_eq_true rfl) dX8_first_193 ⟨Nat.zero_le _, Nat.zero_le _⟩ (fun r_2 u H locs h hP hD hS => ?_)
      refine lv_if_eq (tgt := 212) hx hb dX8_first_196 (by decide) (fun c9 => ?_) (fun c9 => ?_)
      · have h := h.1 c9
        exact W.vret hx hb hr (fun t ht hW => hQ (m_end, m_s) t h (by rw [ht]; exact hP) (va_K.moved hW.alike hK) hD (hS.F ht)) hS.2.2 dX8_first_212
      · have h := h.2 c9
        refine lv_aload_n hx hb dX8_first_199 rfl (lv_at hl 0 rfl) ?_
        refine va_get (D := (dC, dI)) (ci := 7) (v := .ref (ad 16)) (C := RX8) (T := TX8) (N := 26) hx hb hts inX8 hown hK hP 0 rfl rfl 24 (by decide) (hts (.fieldLink RX8 57 "MailWordsModel" "s" "[I") (List.mem_of_getElem? (i := 10) rfl)) (fun _ h9 => h9) rfl dX8_first_200 ?_
        refine lv_aload_n hx hb dX8_first_203 rfl (lv_at hl 0 rfl) ?_
        refine va_get (D := (dC, dI)) (ci := 7) (v := .int m_end) (C := RX8) (T := TX8) (N := 26) hx hb hts inX8 hown hK hP 0 rfl rfl 25 (by decide) (hts (.fieldLink RX8 312 "MailWordsModel" "end" "I") (List.mem_of_getElem? (i := 3) rfl)) (fun _ h9 => h9) rfl dX8_first_204 ?_
        refine lv_iconst (v := 1) hx hb dX8_first_207 (by decide) ?_
        refine lv_isub hx hb dX8_first_208 ?_
        refine lv_bipush (v := 105) hx hb dX8_first_209 (by decide) ?_
        have hi9 := h.1
        have h := h.2
        refine va_iast hx hb hK hP hD hS 16 0 rfl rfl hi9 dX8_first_211 (fun H locs hP hD hS => ?_)
        have hP : va_P (dC, dI) vwCl (mW ad cI cZ m_thrown m_size m_outLong m_lines m_toldLines m_tokens m_places m_p m_pre m_end m_text m_out m_lineAt m_lineLong m_depth m_signed m_led m_told m_place m_begin m_tokenLong m_stemLong m_address m_letters m_stems (upd m_s ((m_end - 1) : Int32).toNatClampNeg 105)) H := hP
        have hD : va_D A (mW ad cI cZ m_thrown m_size m_outLong m_lines m_toldLines m_tokens m_places m_p m_pre m_end m_text m_out m_lineAt m_lineLong m_depth m_signed m_led m_told m_place m_begin m_tokenLong m_stemLong m_address m_letters m_stems (upd m_s ((m_end - 1) : Int32).toNatClampNeg 105)) := hD
        exact W.vret hx hb hr (fun t ht hW => hQ (m_end, (upd m_s ((m_end - 1) : Int32).toNatClampNeg 105)) t h (by rw [ht]; exact hP) (va_K.moved hW.alike hK) hD (hS.F ht)) hS.2.2 dX8_first_212
  have J139 : ∀ (m_end : Int32) (m_s : Nat → Int32) (H : Heap) (locs : List Loc) (ls : Array Slot), lv_has ls 1 [(0, .ref (ad 0))] → va_P (dC, dI) vwCl (mW ad cI cZ m_thrown m_size m_outLong m_lines m_toldLines m_tokens m_places m_p m_pre m_end m_text m_out m_lineAt m_lineLong m_depth m_signed m_led m_told m_place m_begin m_tokenLong m_stemLong m_address m_letters m_stems m_s) H → va_D A (mW ad cI cZ m_thrown m_size m_outLong m_lines m_toldLines m_tokens m_places m_p m_pre m_end m_text m_out m_lineAt m_lineLong m_depth m_signed m_led m_told m_place m_begin m_tokenLong m_stemLong m_address m_letters m_stems m_s) → va_S A s.heap H locs → wjX8_first_139 post m_end m_s → W p l e (headSpec wsX8_first ({ frames := 4, cells := 0, slots := 0, locals := 90 })).room s m ([.ref (ad 0)] : List Value).toArray below meth c H locs 0 0 (MQ below Qc ([.ref (ad 0)] : List Value).toArray s 0 0 A) (F0 m 139 ls []) := by
    intro m_end m_s H locs ls hl hP hD hS h
    delta wjX8_first_139 at h
    refine lv_aload_n hx hb dX8_first_139 rfl (lv_at hl 0 rfl) ?_
    refine lv_ldc2 (v := 6909543) hx hb hown (hts (.constantLong RX8 342 (6909543)) (List.mem_of_getElem? (i := 8) rfl)) dX8_first_140 ?_
    refine xc_vi (As := [.long 6909543]) (rest := []) xG Fx (sX8_has l dC dI ad cI cZ sa sv m_thrown m_size m_outLong m_lines m_toldLines m_tokens m_places m_p m_pre m_end m_text m_out m_lineAt m_lineLong m_depth m_signed m_led m_told m_place m_begin m_tokenLong m_stemLong m_address m_letters m_stems m_s 6909543 h) (cwV 1 hts gX8_first_X8_has rfl rfl rfl hdX8_has ⟨Nat.le_of_ble_eq_true rfl, Nat.le_of_ble_eq_true rfl⟩) (va_recv hK hP (ci := 7) (q0 := 0) rfl rfl) hK hP hD hS hA hI rfl hl.1 rfl (Nat.le_of_ble_eq_true rfl) dX8_first_143 ⟨Nat.zero_le _, Nat.zero_le _⟩ (fun r_3 u H locs h hP hD hS => ?_)
    refine lv_if_eq (tgt := 176) hx hb dX8_first_146 (by decide) (fun c9 => ?_) (fun c9 => ?_)
    · have h := h.1 c9
      exact J176 m_end m_s H locs ls (lv_sub hl [0] rfl) hP hD hS h
    · have h := h.2 c9
      refine lv_aload_n hx hb dX8_first_149 rfl (lv_at hl 0 rfl) ?_
      refine lv_aload_n hx hb dX8_first_150 rfl (lv_at hl 0 rfl) ?_
      refine va_get (D := (dC, dI)) (ci := 7) (v := .int m_end) (C := RX8) (T := TX8) (N := 26) hx hb hts inX8 hown hK hP 0 rfl rfl 25 (by decide) (hts (.fieldLink RX8 312 "MailWordsModel" "end" "I") (List.mem_of_getElem? (i := 3) rfl)) (fun _ h9 => h9) rfl dX8_first_151 ?_
      refine lv_iconst (v := 3) hx hb dX8_first_154 (by decide) ?_
      refine lv_isub hx hb dX8_first_155 ?_
      refine xc_vi (As := [.int (m_end - 3)]) (rest := []) xG Fx (sX8_hasVowel l dC dI ad cI cZ sa sv m_thrown m_size m_outLong m_lines m_toldLines m_tokens m_places m_p m_pre m_end m_text m_out m_lineAt m_lineLong m_depth m_signed m_led m_told m_place m_begin m_tokenLong m_stemLong m_address m_letters m_stems m_s (m_end - 3) h) (cwV 1 hts gX8_first_X8_hasVowel rfl rfl rfl hdX8_hasVowel ⟨Nat.le_of_ble_eq_true rfl, Nat.le_of_ble_eq_true rfl⟩) (va_recv hK hP (ci := 7) (q0 := 0) rfl rfl) hK hP hD hS hA hI rfl hl.1 rfl (Nat.le_of_ble_eq_true rfl) dX8_first_156 ⟨Nat.zero_le _, Nat.zero_le _⟩ (fun r_4 u H locs h hP hD hS => ?_)
      refine lv_if_eq (tgt := 176) hx hb dX8_first_159 (by decide) (fun c9 => ?_) (fun c9 => ?_)
      · have h := h.1 c9
        exact J176 m_end m_s H locs ls (lv_sub hl [0] rfl) hP hD hS h
      · have h := h.2 c9
        refine lv_aload_n hx hb dX8_first_162 rfl (lv_at hl 0 rfl) ?_
        refine lv_dup hx hb dX8_first_163 rfl ?_
        refine va_get (D := (dC, dI)) (ci := 7) (v := .int m_end) (C := RX8) (T := TX8) (N := 26) hx hb hts inX8 hown hK hP 0 rfl rfl 25 (by decide) (hts (.fieldLink RX8 312 "MailWordsModel" "end" "I") (List.mem_of_getElem? (i := 3) rfl)) (fun _ h9 => h9) rfl dX8_first_164 ?_
        refine lv_iconst (v := 3) hx hb dX8_first_167 (by decide) ?_
        refine lv_isub hx hb dX8_first_168 ?_
        refine lv_topi (fun m_end_5 em_end_5 => ?_)
        have h := h m_end_5 em_end_5
        refine va_put (D := (dC, dI)) (ci := 7) (v := .int m_end_5) (ty := .int) (C := RX8) (T := TX8) (N := 26) hx hb hts inX8 tyX8 tyX8_ok nmX8 hown hK hP hD hS 0 rfl rfl 25 (by decide) (hts (.fieldLink RX8 312 "MailWordsModel" "end" "I") (List.mem_of_getElem? (i := 3) rfl)) (fun _ h9 => h9) rfl (tyX8_ok 25 (by decide)) rfl rfl (Nat.le_of_ble_eq_true rfl) dX8_first_169 (fun H locs hP hD hS => ?_)
        have hP : va_P (dC, dI) vwCl (mW ad cI cZ m_thrown m_size m_outLong m_lines m_toldLines m_tokens m_places m_p m_pre m_end_5 m_text m_out m_lineAt m_lineLong m_depth m_signed m_led m_told m_place m_begin m_tokenLong m_stemLong m_address m_letters m_stems m_s) H := hP
        have hD : va_D A (mW ad cI cZ m_thrown m_size m_outLong m_lines m_toldLines m_tokens m_places m_p m_pre m_end_5 m_text m_out m_lineAt m_lineLong m_depth m_signed m_led m_told m_place m_begin m_tokenLong m_stemLong m_address m_letters m_stems m_s) := hD
        refine lv_aload_n hx hb dX8_first_172 rfl (lv_at hl 0 rfl) ?_
        refine xc_vv (As := []) (rest := []) xG Fx (sX8_mend l dC dI ad cI cZ sa sv m_thrown m_size m_outLong m_lines m_toldLines m_tokens m_places m_p m_pre m_end_5 m_text m_out m_lineAt m_lineLong m_depth m_signed m_led m_told m_place m_begin m_tokenLong m_stemLong m_address m_letters m_stems m_s h) (cwV 0 hts gX8_first_X8_mend rfl rfl rfl hdX8_mend ⟨Nat.le_of_ble_eq_true rfl, Nat.le_of_ble_eq_true rfl⟩) (va_recv hK hP (ci := 7) (q0 := 0) rfl rfl) hK hP hD hS hA hI rfl hl.1 rfl (Nat.le_of_ble_eq_true rfl) dX8_first_173 ⟨Nat.zero_le _, Nat.zero_le _⟩ (fun u H locs h hP hD hS => ?_)
        obtain ⟨m_end_7, m_s_8⟩ := u
        have hP : va_P (dC, dI) vwCl (mW ad cI cZ m_thrown m_size m_outLong m_lines m_toldLines m_tokens m_places m_p m_pre m_end_7 m_text m_out m_lineAt m_lineLong m_depth m_signed m_led m_told m_place m_begin m_tokenLong m_stemLong m_address m_letters m_stems m_s_8) H := hP
        have hD : va_D A (mW ad cI cZ m_thrown m_size m_outLong m_lines m_toldLines m_tokens m_places m_p m_pre m_end_7 m_text m_out m_lineAt m_lineLong m_depth m_signed m_led m_told m_place m_begin m_tokenLong m_stemLong m_address m_letters m_stems m_s_8) := hD
        exact J176 m_end_7 m_s_8 H locs ls (lv_sub hl [0] rfl) hP hD hS h
  have J63 : ∀ (m_end : Int32) (m_s : Nat → Int32) (H : Heap) (locs : List Loc) (ls : Array Slot), lv_has ls 1 [(0, .ref (ad 0))] → va_P (dC, dI) vwCl (mW ad cI cZ m_thrown m_size m_outLong m_lines m_toldLines m_tokens m_places m_p m_pre m_end m_text m_out m_lineAt m_lineLong m_depth m_signed m_led m_told m_place m_begin m_tokenLong m_stemLong m_address m_letters m_stems m_s) H → va_D A (mW ad cI cZ m_thrown m_size m_outLong m_lines m_toldLines m_tokens m_places m_p m_pre m_end m_text m_out m_lineAt m_lineLong m_depth m_signed m_led m_told m_place m_begin m_tokenLong m_stemLong m_address m_letters m_stems m_s) → va_S A s.heap H locs → wjX8_first_63 post m_end m_s → W p l e (headSpec wsX8_first ({ frames := 4, cells := 0, slots := 0, locals := 90 })).room s m ([.ref (ad 0)] : List Value).toArray below meth c H locs 0 0 (MQ below Qc ([.ref (ad 0)] : List Value).toArray s 0 0 A) (F0 m 63 ls []) := by
    intro m_end m_s H locs ls hl hP hD hS h
    delta wjX8_first_63 at h
    refine lv_aload_n hx hb dX8_first_63 rfl (lv_at hl 0 rfl) ?_
    refine lv_ldc2 (v := 6645092) hx hb hown (hts (.constantLong RX8 332 (6645092)) (List.mem_of_getElem? (i := 6) rfl)) dX8_first_64 ?_
    refine xc_vi (As := [.long 6645092]) (rest := []) xG Fx (sX8_has l dC dI ad cI cZ sa sv m_thrown m_size m_outLong m_lines m_toldLines m_tokens m_places m_p m_pre m_end m_text m_out m_lineAt m_lineLong m_depth m_signed m_led m_told m_place m_begin m_tokenLong m_stemLong m_address m_letters m_stems m_s 6645092 h) (cwV 1 hts gX8_first_X8_has rfl rfl rfl hdX8_has ⟨Nat.le_of_ble_eq_true rfl, Nat.le_of_ble_eq_true rfl⟩) (va_recv hK hP (ci := 7) (q0 := 0) rfl rfl) hK hP hD hS hA hI rfl hl.1 rfl (Nat.le_of_ble_eq_true rfl) dX8_first_67 ⟨Nat.zero_le _, Nat.zero_le _⟩ (fun r_9 u H locs h hP hD hS => ?_)
    refine lv_if_eq (tgt := 99) hx hb dX8_first_70 (by decide) (fun c9 => ?_) (fun c9 => ?_)
    · have h := h.1 c9
      refine lv_aload_n hx hb dX8_first_99 rfl (lv_at hl 0 rfl) ?_
      refine lv_ldc2 (v := 25956) hx hb hown (hts (.constantLong RX8 334 (25956)) (List.mem_of_getElem? (i := 7) rfl)) dX8_first_100 ?_
      refine xc_vi (As := [.long 25956]) (rest := []) xG Fx (sX8_has l dC dI ad cI cZ sa sv m_thrown m_size m_outLong m_lines m_toldLines m_tokens m_places m_p m_pre m_end m_text m_out m_lineAt m_lineLong m_depth m_signed m_led m_told m_place m_begin m_tokenLong m_stemLong m_address m_letters m_stems m_s 25956 h) (cwV 1 hts gX8_first_X8_has rfl rfl rfl hdX8_has ⟨Nat.le_of_ble_eq_true rfl, Nat.le_of_ble_eq_true rfl⟩) (va_recv hK hP (ci := 7) (q0 := 0) rfl rfl) hK hP hD hS hA hI rfl hl.1 rfl (Nat.le_of_ble_eq_true rfl) dX8_first_103 ⟨Nat.zero_le _, Nat.zero_le _⟩ (fun r_10 u H locs h hP hD hS => ?_)
      refine lv_if_eq (tgt := 139) hx hb dX8_first_106 (by decide) (fun c9 => ?_) (fun c9 => ?_)
      · have h := h.1 c9
        exact J139 m_end m_s H locs ls (lv_sub hl [0] rfl) hP hD hS h
      · have h := h.2 c9
        refine lv_aload_n hx hb dX8_first_109 rfl (lv_at hl 0 rfl) ?_
        refine lv_aload_n hx hb dX8_first_110 rfl (lv_at hl 0 rfl) ?_
        refine va_get (D := (dC, dI)) (ci := 7) (v := .int m_end) (C := RX8) (T := TX8) (N := 26) hx hb hts inX8 hown hK hP 0 rfl rfl 25 (by decide) (hts (.fieldLink RX8 312 "MailWordsModel" "end" "I") (List.mem_of_getElem? (i := 3) rfl)) (fun _ h9 => h9) rfl dX8_first_111 ?_
        refine lv_iconst (v := 2) hx hb dX8_first_114 (by decide) ?_
        refine lv_isub hx hb dX8_first_115 ?_
        refine xc_vi (As := [.int (m_end - 2)]) (rest := []) xG Fx (sX8_hasVowel l dC dI ad cI cZ sa sv m_thrown m_size m_outLong m_lines m_toldLines m_tokens m_places m_p m_pre m_end m_text m_out m_lineAt m_lineLong m_depth m_signed m_led m_told m_place m_begin m_tokenLong m_stemLong m_address m_letters m_stems m_s (m_end - 2) h) (cwV 1 hts gX8_first_X8_hasVowel rfl rfl rfl hdX8_hasVowel ⟨Nat.le_of_ble_eq_true rfl, Nat.le_of_ble_eq_true rfl⟩) (va_recv hK hP (ci := 7) (q0 := 0) rfl rfl) hK hP hD hS hA hI rfl hl.1 rfl (Nat.le_of_ble_eq_true rfl) dX8_first_116 ⟨Nat.zero_le _, Nat.zero_le _⟩ (fun r_11 u H locs h hP hD hS => ?_)
        refine lv_if_eq (tgt := 139) hx hb dX8_first_119 (by decide) (fun c9 => ?_) (fun c9 => ?_)
        · have h := h.1 c9
          exact J139 m_end m_s H locs ls (lv_sub hl [0] rfl) hP hD hS h
        · have h := h.2 c9
          refine lv_aload_n hx hb dX8_first_122 rfl (lv_at hl 0 rfl) ?_
          refine lv_dup hx hb dX8_first_123 rfl ?_
          refine va_get (D := (dC, dI)) (ci := 7) (v := .int m_end) (C := RX8) (T := TX8) (N := 26) hx hb hts inX8 hown hK hP 0 rfl rfl 25 (by decide) (hts (.fieldLink RX8 312 "MailWordsModel" "end" "I") (List.mem_of_getElem? (i := 3) rfl)) (fun _ h9 => h9) rfl dX8_first_124 ?_
          refine lv_iconst (v := 2) hx hb dX8_first_127 (by decide) ?_
          refine lv_isub hx hb dX8_first_128 ?_
          refine lv_topi (fun m_end_12 em_end_12 => ?_)
          have h := h m_end_12 em_end_12
          refine va_put (D := (dC, dI)) (ci := 7) (v := .int m_end_12) (ty := .int) (C := RX8) (T := TX8) (N := 26) hx hb hts inX8 tyX8 tyX8_ok nmX8 hown hK hP hD hS 0 rfl rfl 25 (by decide) (hts (.fieldLink RX8 312 "MailWordsModel" "end" "I") (List.mem_of_getElem? (i := 3) rfl)) (fun _ h9 => h9) rfl (tyX8_ok 25 (by decide)) rfl rfl (Nat.le_of_ble_eq_true rfl) dX8_first_129 (fun H locs hP hD hS => ?_)
          have hP : va_P (dC, dI) vwCl (mW ad cI cZ m_thrown m_size m_outLong m_lines m_toldLines m_tokens m_places m_p m_pre m_end_12 m_text m_out m_lineAt m_lineLong m_depth m_signed m_led m_told m_place m_begin m_tokenLong m_stemLong m_address m_letters m_stems m_s) H := hP
          have hD : va_D A (mW ad cI cZ m_thrown m_size m_outLong m_lines m_toldLines m_tokens m_places m_p m_pre m_end_12 m_text m_out m_lineAt m_lineLong m_depth m_signed m_led m_told m_place m_begin m_tokenLong m_stemLong m_address m_letters m_stems m_s) := hD
          refine lv_aload_n hx hb dX8_first_132 rfl (lv_at hl 0 rfl) ?_
          refine xc_vv (As := []) (rest := []) xG Fx (sX8_mend l dC dI ad cI cZ sa sv m_thrown m_size m_outLong m_lines m_toldLines m_tokens m_places m_p m_pre m_end_12 m_text m_out m_lineAt m_lineLong m_depth m_signed m_led m_told m_place m_begin m_tokenLong m_stemLong m_address m_letters m_stems m_s h) (cwV 0 hts gX8_first_X8_mend rfl rfl rfl hdX8_mend ⟨Nat.le_of_ble_eq_true rfl, Nat.le_of_ble_eq_true rfl⟩) (va_recv hK hP (ci := 7) (q0 := 0) rfl rfl) hK hP hD hS hA hI rfl hl.1 rfl (Nat.le_of_ble_eq_true rfl) dX8_first_133 ⟨Nat.zero_le _, Nat.zero_le _⟩ (fun u H locs h hP hD hS => ?_)
          obtain ⟨m_end_14, m_s_15⟩ := u
          have hP : va_P (dC, dI) vwCl (mW ad cI cZ m_thrown m_size m_outLong m_lines m_toldLines m_tokens m_places m_p m_pre m_end_14 m_text m_out m_lineAt m_lineLong m_depth m_signed m_led m_told m_place m_begin m_tokenLong m_stemLong m_address m_letters m_stems m_s_15) H := hP
          have hD : va_D A (mW ad cI cZ m_thrown m_size m_outLong m_lines m_toldLines m_tokens m_places m_p m_pre m_end_14 m_text m_out m_lineAt m_lineLong m_depth m_signed m_led m_told m_place m_begin m_tokenLong m_stemLong m_address m_letters m_stems m_s_15) := hD
          refine lv_goto (tgt := 176) hx hb dX8_first_136 (by decide) ?_
          exact J176 m_end_14 m_s_15 H locs ls (lv_sub hl [0] rfl) hP hD hS h
    · have h := h.2 c9
      refine lv_aload_n hx hb dX8_first_73 rfl (lv_at hl 0 rfl) ?_
      refine lv_aload_n hx hb dX8_first_74 rfl (lv_at hl 0 rfl) ?_
      refine va_get (D := (dC, dI)) (ci := 7) (v := .int m_end) (C := RX8) (T := TX8) (N := 26) hx hb hts inX8 hown hK hP 0 rfl rfl 25 (by decide) (hts (.fieldLink RX8 312 "MailWordsModel" "end" "I") (List.mem_of_getElem? (i := 3) rfl)) (fun _ h9 => h9) rfl dX8_first_75 ?_
      refine lv_iconst (v := 3) hx hb dX8_first_78 (by decide) ?_
      refine lv_isub hx hb dX8_first_79 ?_
      refine xc_vi (As := [.int (m_end - 3)]) (rest := []) xG Fx (sX8_measure l dC dI ad cI cZ sa sv m_thrown m_size m_outLong m_lines m_toldLines m_tokens m_places m_p m_pre m_end m_text m_out m_lineAt m_lineLong m_depth m_signed m_led m_told m_place m_begin m_tokenLong m_stemLong m_address m_letters m_stems m_s (m_end - 3) h) (cwV 1 hts gX8_first_X8_measure rfl rfl rfl hdX8_measure ⟨Nat.le_of_ble_eq_true rfl, Nat.le_of_ble_eq_true rfl⟩) (va_recv hK hP (ci := 7) (q0 := 0) rfl rfl) hK hP hD hS hA hI rfl hl.1 rfl (Nat.le_of_ble_eq_true rfl) dX8_first_80 ⟨Nat.zero_le _, Nat.zero_le _⟩ (fun r_16 u H locs h hP hD hS => ?_)
      refine lv_if_le (tgt := 176) hx hb dX8_first_83 (by decide) (fun c9 => ?_) (fun c9 => ?_)
      · have h := h.1 c9
        exact J176 m_end m_s H locs ls (lv_sub hl [0] rfl) hP hD hS h
      · have h := h.2 c9
        refine lv_aload_n hx hb dX8_first_86 rfl (lv_at hl 0 rfl) ?_
        refine lv_dup hx hb dX8_first_87 rfl ?_
        refine va_get (D := (dC, dI)) (ci := 7) (v := .int m_end) (C := RX8) (T := TX8) (N := 26) hx hb hts inX8 hown hK hP 0 rfl rfl 25 (by decide) (hts (.fieldLink RX8 312 "MailWordsModel" "end" "I") (List.mem_of_getElem? (i := 3) rfl)) (fun _ h9 => h9) rfl dX8_first_88 ?_
        refine lv_iconst (v := 1) hx hb dX8_first_91 (by decide) ?_
        refine lv_isub hx hb dX8_first_92 ?_
        refine lv_topi (fun m_end_17 em_end_17 => ?_)
        have h := h m_end_17 em_end_17
        refine va_put (D := (dC, dI)) (ci := 7) (v := .int m_end_17) (ty := .int) (C := RX8) (T := TX8) (N := 26) hx hb hts inX8 tyX8 tyX8_ok nmX8 hown hK hP hD hS 0 rfl rfl 25 (by decide) (hts (.fieldLink RX8 312 "MailWordsModel" "end" "I") (List.mem_of_getElem? (i := 3) rfl)) (fun _ h9 => h9) rfl (tyX8_ok 25 (by decide)) rfl rfl (Nat.le_of_ble_eq_true rfl) dX8_first_93 (fun H locs hP hD hS => ?_)
        have hP : va_P (dC, dI) vwCl (mW ad cI cZ m_thrown m_size m_outLong m_lines m_toldLines m_tokens m_places m_p m_pre m_end_17 m_text m_out m_lineAt m_lineLong m_depth m_signed m_led m_told m_place m_begin m_tokenLong m_stemLong m_address m_letters m_stems m_s) H := hP
        have hD : va_D A (mW ad cI cZ m_thrown m_size m_outLong m_lines m_toldLines m_tokens m_places m_p m_pre m_end_17 m_text m_out m_lineAt m_lineLong m_depth m_signed m_led m_told m_place m_begin m_tokenLong m_stemLong m_address m_letters m_stems m_s) := hD
        refine lv_goto (tgt := 176) hx hb dX8_first_96 (by decide) ?_
        exact J176 m_end_17 m_s H locs ls (lv_sub hl [0] rfl) hP hD hS h
  have J20 : ∀ (m_end : Int32) (m_s : Nat → Int32) (H : Heap) (locs : List Loc) (ls : Array Slot), lv_has ls 1 [(0, .ref (ad 0))] → va_P (dC, dI) vwCl (mW ad cI cZ m_thrown m_size m_outLong m_lines m_toldLines m_tokens m_places m_p m_pre m_end m_text m_out m_lineAt m_lineLong m_depth m_signed m_led m_told m_place m_begin m_tokenLong m_stemLong m_address m_letters m_stems m_s) H → va_D A (mW ad cI cZ m_thrown m_size m_outLong m_lines m_toldLines m_tokens m_places m_p m_pre m_end m_text m_out m_lineAt m_lineLong m_depth m_signed m_led m_told m_place m_begin m_tokenLong m_stemLong m_address m_letters m_stems m_s) → va_S A s.heap H locs → wjX8_first_20 post m_end m_s → W p l e (headSpec wsX8_first ({ frames := 4, cells := 0, slots := 0, locals := 90 })).room s m ([.ref (ad 0)] : List Value).toArray below meth c H locs 0 0 (MQ below Qc ([.ref (ad 0)] : List Value).toArray s 0 0 A) (F0 m 20 ls []) := by
    intro m_end m_s H locs ls hl hP hD hS h
    delta wjX8_first_20 at h
    refine lv_aload_n hx hb dX8_first_20 rfl (lv_at hl 0 rfl) ?_
    refine lv_dup hx hb dX8_first_21 rfl ?_
    refine va_get (D := (dC, dI)) (ci := 7) (v := .int m_end) (C := RX8) (T := TX8) (N := 26) hx hb hts inX8 hown hK hP 0 rfl rfl 25 (by decide) (hts (.fieldLink RX8 312 "MailWordsModel" "end" "I") (List.mem_of_getElem? (i := 3) rfl)) (fun _ h9 => h9) rfl dX8_first_22 ?_
    refine lv_iconst (v := 2) hx hb dX8_first_25 (by decide) ?_
    refine lv_isub hx hb dX8_first_26 ?_
    refine lv_topi (fun m_end_18 em_end_18 => ?_)
    have h := h m_end_18 em_end_18
    refine va_put (D := (dC, dI)) (ci := 7) (v := .int m_end_18) (ty := .int) (C := RX8) (T := TX8) (N := 26) hx hb hts inX8 tyX8 tyX8_ok nmX8 hown hK hP hD hS 0 rfl rfl 25 (by decide) (hts (.fieldLink RX8 312 "MailWordsModel" "end" "I") (List.mem_of_getElem? (i := 3) rfl)) (fun _ h9 => h9) rfl (tyX8_ok 25 (by decide)) rfl rfl (Nat.le_of_ble_eq_true rfl) dX8_first_27 (fun H locs hP hD hS => ?_)
    have hP : va_P (dC, dI) vwCl (mW ad cI cZ m_thrown m_size m_outLong m_lines m_toldLines m_tokens m_places m_p m_pre m_end_18 m_text m_out m_lineAt m_lineLong m_depth m_signed m_led m_told m_place m_begin m_tokenLong m_stemLong m_address m_letters m_stems m_s) H := hP
    have hD : va_D A (mW ad cI cZ m_thrown m_size m_outLong m_lines m_toldLines m_tokens m_places m_p m_pre m_end_18 m_text m_out m_lineAt m_lineLong m_depth m_signed m_led m_told m_place m_begin m_tokenLong m_stemLong m_address m_letters m_stems m_s) := hD
    refine lv_goto (tgt := 63) hx hb dX8_first_30 (by decide) ?_
    exact J63 m_end_18 m_s H locs ls (lv_sub hl [0] rfl) hP hD hS h
  intro H locs hP hD hS
  delta wpX8_first at h
  refine lv_aload_n hx hb dX8_first_0 rfl (lv_at hl 0 rfl) ?_
  refine lv_ldc2 (v := 1936942451) hx hb hown (hts (.constantLong RX8 324 (1936942451)) (List.mem_of_getElem? (i := 1) rfl)) dX8_first_1 ?_
  refine xc_vi (As := [.long 1936942451]) (rest := []) xG Fx (sX8_has l dC dI ad cI cZ sa sv m_thrown m_size m_outLong m_lines m_toldLines m_tokens m_places m_p m_pre m_end m_text m_out m_lineAt m_lineLong m_depth m_signed m_led m_told m_place m_begin m_tokenLong m_stemLong m_address m_letters m_stems m_s 1936942451 h) (cwV 1 hts gX8_first_X8_has rfl rfl rfl hdX8_has ⟨Nat.le_of_ble_eq_true rfl, Nat.le_of_ble_eq_true rfl⟩) (va_recv hK hP (ci := 7) (q0 := 0) rfl rfl) hK hP hD hS hA hI rfl hl.1 rfl (Nat.le_of_ble_eq_true rfl) dX8_first_4 ⟨Nat.zero_le _, Nat.zero_le _⟩ (fun r_19 u H locs h hP hD hS => ?_)
  refine lv_if_ne (tgt := 20) hx hb dX8_first_7 (by decide) (fun c9 => ?_) (fun c9 => ?_)
  · have h := h.1 c9
    exact J20 m_end m_s H locs ls (lv_sub hl [0] rfl) hP hD hS h
  · have h := h.2 c9
    refine lv_aload_n hx hb dX8_first_10 rfl (lv_at hl 0 rfl) ?_
    refine lv_ldc2 (v := 6907251) hx hb hown (hts (.constantLong RX8 326 (6907251)) (List.mem_of_getElem? (i := 2) rfl)) dX8_first_11 ?_
    refine xc_vi (As := [.long 6907251]) (rest := []) xG Fx (sX8_has l dC dI ad cI cZ sa sv m_thrown m_size m_outLong m_lines m_toldLines m_tokens m_places m_p m_pre m_end m_text m_out m_lineAt m_lineLong m_depth m_signed m_led m_told m_place m_begin m_tokenLong m_stemLong m_address m_letters m_stems m_s 6907251 h) (cwV 1 hts gX8_first_X8_has rfl rfl rfl hdX8_has ⟨Nat.le_of_ble_eq_true rfl, Nat.le_of_ble_eq_true rfl⟩) (va_recv hK hP (ci := 7) (q0 := 0) rfl rfl) hK hP hD hS hA hI rfl hl.1 rfl (Nat.le_of_ble_eq_true rfl) dX8_first_14 ⟨Nat.zero_le _, Nat.zero_le _⟩ (fun r_20 u H locs h hP hD hS => ?_)
    refine lv_if_eq (tgt := 33) hx hb dX8_first_17 (by decide) (fun c9 => ?_) (fun c9 => ?_)
    · have h := h.1 c9
      refine lv_aload_n hx hb dX8_first_33 rfl (lv_at hl 0 rfl) ?_
      refine lv_ldc2 (v := 29555) hx hb hown (hts (.constantLong RX8 328 (29555)) (List.mem_of_getElem? (i := 4) rfl)) dX8_first_34 ?_
      refine xc_vi (As := [.long 29555]) (rest := []) xG Fx (sX8_has l dC dI ad cI cZ sa sv m_thrown m_size m_outLong m_lines m_toldLines m_tokens m_places m_p m_pre m_end m_text m_out m_lineAt m_lineLong m_depth m_signed m_led m_told m_place m_begin m_tokenLong m_stemLong m_address m_letters m_stems m_s 29555 h) (cwV 1 hts gX8_first_X8_has rfl rfl rfl hdX8_has ⟨Nat.le_of_ble_eq_true rfl, Nat.le_of_ble_eq_true rfl⟩) (va_recv hK hP (ci := 7) (q0 := 0) rfl rfl) hK hP hD hS hA hI rfl hl.1 rfl (Nat.le_of_ble_eq_true rfl) dX8_first_37 ⟨Nat.zero_le _, Nat.zero_le _⟩ (fun r_21 u H locs h hP hD hS => ?_)
      refine lv_if_ne (tgt := 63) hx hb dX8_first_40 (by decide) (fun c9 => ?_) (fun c9 => ?_)
      · have h := h.1 c9
        exact J63 m_end m_s H locs ls (lv_sub hl [0] rfl) hP hD hS h
      · have h := h.2 c9
        refine lv_aload_n hx hb dX8_first_43 rfl (lv_at hl 0 rfl) ?_
        refine lv_ldc2 (v := 115) hx hb hown (hts (.constantLong RX8 330 (115)) (List.mem_of_getElem? (i := 5) rfl)) dX8_first_44 ?_
        refine xc_vi (As := [.long 115]) (rest := []) xG Fx (sX8_has l dC dI ad cI cZ sa sv m_thrown m_size m_outLong m_lines m_toldLines m_tokens m_places m_p m_pre m_end m_text m_out m_lineAt m_lineLong m_depth m_signed m_led m_told m_place m_begin m_tokenLong m_stemLong m_address m_letters m_stems m_s 115 h) (cwV 1 hts gX8_first_X8_has rfl rfl rfl hdX8_has ⟨Nat.le_of_ble_eq_true rfl, Nat.le_of_ble_eq_true rfl⟩) (va_recv hK hP (ci := 7) (q0 := 0) rfl rfl) hK hP hD hS hA hI rfl hl.1 rfl (Nat.le_of_ble_eq_true rfl) dX8_first_47 ⟨Nat.zero_le _, Nat.zero_le _⟩ (fun r_22 u H locs h hP hD hS => ?_)
        refine lv_if_eq (tgt := 63) hx hb dX8_first_50 (by decide) (fun c9 => ?_) (fun c9 => ?_)
        · have h := h.1 c9
          exact J63 m_end m_s H locs ls (lv_sub hl [0] rfl) hP hD hS h
        · have h := h.2 c9
          refine lv_aload_n hx hb dX8_first_53 rfl (lv_at hl 0 rfl) ?_
          refine lv_dup hx hb dX8_first_54 rfl ?_
          refine va_get (D := (dC, dI)) (ci := 7) (v := .int m_end) (C := RX8) (T := TX8) (N := 26) hx hb hts inX8 hown hK hP 0 rfl rfl 25 (by decide) (hts (.fieldLink RX8 312 "MailWordsModel" "end" "I") (List.mem_of_getElem? (i := 3) rfl)) (fun _ h9 => h9) rfl dX8_first_55 ?_
          refine lv_iconst (v := 1) hx hb dX8_first_58 (by decide) ?_
          refine lv_isub hx hb dX8_first_59 ?_
          refine lv_topi (fun m_end_23 em_end_23 => ?_)
          have h := h m_end_23 em_end_23
          refine va_put (D := (dC, dI)) (ci := 7) (v := .int m_end_23) (ty := .int) (C := RX8) (T := TX8) (N := 26) hx hb hts inX8 tyX8 tyX8_ok nmX8 hown hK hP hD hS 0 rfl rfl 25 (by decide) (hts (.fieldLink RX8 312 "MailWordsModel" "end" "I") (List.mem_of_getElem? (i := 3) rfl)) (fun _ h9 => h9) rfl (tyX8_ok 25 (by decide)) rfl rfl (Nat.le_of_ble_eq_true rfl) dX8_first_60 (fun H locs hP hD hS => ?_)
          have hP : va_P (dC, dI) vwCl (mW ad cI cZ m_thrown m_size m_outLong m_lines m_toldLines m_tokens m_places m_p m_pre m_end_23 m_text m_out m_lineAt m_lineLong m_depth m_signed m_led m_told m_place m_begin m_tokenLong m_stemLong m_address m_letters m_stems m_s) H := hP
          have hD : va_D A (mW ad cI cZ m_thrown m_size m_outLong m_lines m_toldLines m_tokens m_places m_p m_pre m_end_23 m_text m_out m_lineAt m_lineLong m_depth m_signed m_led m_told m_place m_begin m_tokenLong m_stemLong m_address m_letters m_stems m_s) := hD
          exact J63 m_end_23 m_s H locs ls (lv_sub hl [0] rfl) hP hD hS h
    · have h := h.2 c9
      exact J20 m_end m_s H locs ls (lv_sub hl [0] rfl) hP hD hS h
