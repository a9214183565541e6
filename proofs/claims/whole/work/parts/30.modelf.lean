set_option maxHeartbeats 4000000 in
set_option maxRecDepth 100000 in
theorem sX8_cut (l : Launch) (dC : Nat → ClassId) (dI : Nat → Nat → Nat) (ad : Nat → Nat) (cI cZ : ClassId) (sa sv : Nat → Nat) (m_thrown : Int32) (m_size : Int32) (m_outLong : Int32) (m_lines : Int32) (m_toldLines : Int32) (m_tokens : Int32) (m_places : Int32) (m_p : Int32) (m_pre : Int32) (m_end : Int32) (m_text : Nat → Int32) (m_out : Nat → Int32) (m_lineAt : Nat → Int32) (m_lineLong : Nat → Int32) (m_depth : Nat → Int32) (m_signed : Nat → Int32) (m_led : Nat → Int32) (m_told : Nat → Int32) (m_place : Nat → Int32) (m_begin : Nat → Int32) (m_tokenLong : Nat → Int32) (m_stemLong : Nat → Int32) (m_address : Nat → Int32) (m_letters : Nat → Int32) (m_stems : Nat → Int32) (m_s : Nat → Int32) (x1 : Int32) {post : Int32 → Int32 → Int32 → Int32 → Int32 → Int32 → (Nat → Int32) → (Nat → Int32) → (Nat → Int32) → (Nat → Int32) → (Nat → Int32) → (Nat → Int32) → (Nat → Int32) → (Nat → Int32) → (Nat → Int32) → (Nat → Int32) → (Nat → Int32) → (Nat → Int32) → (Nat → Int32) → Prop} (h : wpX8_cut post m_thrown m_size m_lines m_tokens m_places m_end m_text m_lineAt m_lineLong m_depth m_signed m_led m_place m_begin m_tokenLong m_stemLong m_address m_letters m_stems m_s x1) : xMi l (dC, dI) vwCl [(cI, .int), (cZ, .boolean)] (sI sa sv) yX8_cut wsX8_cut ({ frames := 9, cells := 0, slots := 0, locals := 213 }) (mW ad cI cZ m_thrown m_size m_outLong m_lines m_toldLines m_tokens m_places m_p m_pre m_end m_text m_out m_lineAt m_lineLong m_depth m_signed m_led m_told m_place m_begin m_tokenLong m_stemLong m_address m_letters m_stems m_s) [.ref (ad 0), .int x1] (fun (r : Int32) (u : Int32 × Int32 × Int32 × Int32 × Int32 × (Nat → Int32) × (Nat → Int32) × (Nat → Int32) × (Nat → Int32) × (Nat → Int32) × (Nat → Int32) × (Nat → Int32) × (Nat → Int32) × (Nat → Int32) × (Nat → Int32) × (Nat → Int32) × (Nat → Int32) × (Nat → Int32)) => post r u.1 u.2.1 u.2.2.1 u.2.2.2.1 u.2.2.2.2.1 u.2.2.2.2.2.1 u.2.2.2.2.2.2.1 u.2.2.2.2.2.2.2.1 u.2.2.2.2.2.2.2.2.1 u.2.2.2.2.2.2.2.2.2.1 u.2.2.2.2.2.2.2.2.2.2.1 u.2.2.2.2.2.2.2.2.2.2.2.1 u.2.2.2.2.2.2.2.2.2.2.2.2.1 u.2.2.2.2.2.2.2.2.2.2.2.2.2.1 u.2.2.2.2.2.2.2.2.2.2.2.2.2.2.1 u.2.2.2.2.2.2.2.2.2.2.2.2.2.2.2.1 u.2.2.2.2.2.2.2.2.2.2.2.2.2.2.2.2.1 u.2.2.2.2.2.2.2.2.2.2.2.2.2.2.2.2.2) (fun u : Int32 × Int32 × Int32 × Int32 × Int32 × (Nat → Int32) × (Nat → Int32) × (Nat → Int32) × (Nat → Int32) × (Nat → Int32) × (Nat → Int32) × (Nat → Int32) × (Nat → Int32) × (Nat → Int32) × (Nat → Int32) × (Nat → Int32) × (Nat → Int32) × (Nat → Int32) => (mW ad cI cZ u.1 m_size m_outLong u.2.1 m_toldLines u.2.2.1 u.2.2.2.1 m_p m_pre u.2.2.2.2.1 m_text m_out u.2.2.2.2.2.1 u.2.2.2.2.2.2.1 u.2.2.2.2.2.2.2.1 u.2.2.2.2.2.2.2.2.1 u.2.2.2.2.2.2.2.2.2.1 m_told u.2.2.2.2.2.2.2.2.2.2.1 u.2.2.2.2.2.2.2.2.2.2.2.1 u.2.2.2.2.2.2.2.2.2.2.2.2.1 u.2.2.2.2.2.2.2.2.2.2.2.2.2.1 u.2.2.2.2.2.2.2.2.2.2.2.2.2.2.1 u.2.2.2.2.2.2.2.2.2.2.2.2.2.2.2.1 u.2.2.2.2.2.2.2.2.2.2.2.2.2.2.2.2.1 u.2.2.2.2.2.2.2.2.2.2.2.2.2.2.2.2.2)) := by
  intro sz
  refine Met.ofW (cc := cX8_cut) (maxL := 3) (ret := (some .int)) (by decide) rfl ?_
  intro p e s m args below meth c s₁ B hml hv
  obtain ⟨rfl, hsz, hP, hK, hD0, hI⟩ := hv
  have hx := B.exec
  have hb := B.bytes
  have hr := B.returns
  have hts := atoms_spec (ws := wsX8_cut) B.pre
  have hown : s.vm.findClass RX8 = some m.cls := findClass_of_methodNamed B.named
  have hlocks := B.notSynchronized
  subst hsz
  have hD := hD0.self (sz := s.heap.size)
  generalize hAe : va_A (mW ad cI cZ m_thrown m_size m_outLong m_lines m_toldLines m_tokens m_places m_p m_pre m_end m_text m_out m_lineAt m_lineLong m_depth m_signed m_led m_told m_place m_begin m_tokenLong m_stemLong m_address m_letters m_stems m_s) s.heap.size = A at hD hI ⊢
  have hA : ∀ q : Nat, s.heap.size ≤ q → A q := fun q h => by rw [← hAe]; exact Or.inr h
  have hS : va_S A s.heap s.heap [] := va_S.rf
  have Fx : CallFix p m c cX8_cut 3 s ([.ref (ad 0), .int x1] : List Value).toArray wsX8_cut RX8 := ⟨hx, hb, hml, hown, hts⟩
  have hQ : ∀ (r : Int32) (u : Int32 × Int32 × Int32 × Int32 × Int32 × (Nat → Int32) × (Nat → Int32) × (Nat → Int32) × (Nat → Int32) × (Nat → Int32) × (Nat → Int32) × (Nat → Int32) × (Nat → Int32) × (Nat → Int32) × (Nat → Int32) × (Nat → Int32) × (Nat → Int32) × (Nat → Int32)) (t : State), (fun (r : Int32) (u : Int32 × Int32 × Int32 × Int32 × Int32 × (Nat → Int32) × (Nat → Int32) × (Nat → Int32) × (Nat → Int32) × (Nat → Int32) × (Nat → Int32) × (Nat → Int32) × (Nat → Int32) × (Nat → Int32) × (Nat → Int32) × (Nat → Int32) × (Nat → Int32) × (Nat → Int32)) => post r u.1 u.2.1 u.2.2.1 u.2.2.2.1 u.2.2.2.2.1 u.2.2.2.2.2.1 u.2.2.2.2.2.2.1 u.2.2.2.2.2.2.2.1 u.2.2.2.2.2.2.2.2.1 u.2.2.2.2.2.2.2.2.2.1 u.2.2.2.2.2.2.2.2.2.2.1 u.2.2.2.2.2.2.2.2.2.2.2.1 u.2.2.2.2.2.2.2.2.2.2.2.2.1 u.2.2.2.2.2.2.2.2.2.2.2.2.2.1 u.2.2.2.2.2.2.2.2.2.2.2.2.2.2.1 u.2.2.2.2.2.2.2.2.2.2.2.2.2.2.2.1 u.2.2.2.2.2.2.2.2.2.2.2.2.2.2.2.2.1 u.2.2.2.2.2.2.2.2.2.2.2.2.2.2.2.2.2) r u → va_P (dC, dI) vwCl ((fun u : Int32 × Int32 × Int32 × Int32 × Int32 × (Nat → Int32) × (Nat → Int32) × (Nat → Int32) × (Nat → Int32) × (Nat → Int32) × (Nat → Int32) × (Nat → Int32) × (Nat → Int32) × (Nat → Int32) × (Nat → Int32) × (Nat → Int32) × (Nat → Int32) × (Nat → Int32) => (mW ad cI cZ u.1 m_size m_outLong u.2.1 m_toldLines u.2.2.1 u.2.2.2.1 m_p m_pre u.2.2.2.2.1 m_text m_out u.2.2.2.2.2.1 u.2.2.2.2.2.2.1 u.2.2.2.2.2.2.2.1 u.2.2.2.2.2.2.2.2.1 u.2.2.2.2.2.2.2.2.2.1 m_told u.2.2.2.2.2.2.2.2.2.2.1 u.2.2.2.2.2.2.2.2.2.2.2.1 u.2.2.2.2.2.2.2.2.2.2.2.2.1 u.2.2.2.2.2.2.2.2.2.2.2.2.2.1 u.2.2.2.2.2.2.2.2.2.2.2.2.2.2.1 u.2.2.2.2.2.2.2.2.2.2.2.2.2.2.2.1 u.2.2.2.2.2.2.2.2.2.2.2.2.2.2.2.2.1 u.2.2.2.2.2.2.2.2.2.2.2.2.2.2.2.2.2)) u) t.heap → va_K (dC, dI) vwCl [(cI, .int), (cZ, .boolean)] t → va_D A ((fun u : Int32 × Int32 × Int32 × Int32 × Int32 × (Nat → Int32) × (Nat → Int32) × (Nat → Int32) × (Nat → Int32) × (Nat → Int32) × (Nat → Int32) × (Nat → Int32) × (Nat → Int32) × (Nat → Int32) × (Nat → Int32) × (Nat → Int32) × (Nat → Int32) × (Nat → Int32) => (mW ad cI cZ u.1 m_size m_outLong u.2.1 m_toldLines u.2.2.1 u.2.2.2.1 m_p m_pre u.2.2.2.2.1 m_text m_out u.2.2.2.2.2.1 u.2.2.2.2.2.2.1 u.2.2.2.2.2.2.2.1 u.2.2.2.2.2.2.2.2.1 u.2.2.2.2.2.2.2.2.2.1 m_told u.2.2.2.2.2.2.2.2.2.2.1 u.2.2.2.2.2.2.2.2.2.2.2.1 u.2.2.2.2.2.2.2.2.2.2.2.2.1 u.2.2.2.2.2.2.2.2.2.2.2.2.2.1 u.2.2.2.2.2.2.2.2.2.2.2.2.2.2.1 u.2.2.2.2.2.2.2.2.2.2.2.2.2.2.2.1 u.2.2.2.2.2.2.2.2.2.2.2.2.2.2.2.2.1 u.2.2.2.2.2.2.2.2.2.2.2.2.2.2.2.2.2)) u) → va_F A s t → (va_Qi (fun (r : Int32) (u : Int32 × Int32 × Int32 × Int32 × Int32 × (Nat → Int32) × (Nat → Int32) × (Nat → Int32) × (Nat → Int32) × (Nat → Int32) × (Nat → Int32) × (Nat → Int32) × (Nat → Int32) × (Nat → Int32) × (Nat → Int32) × (Nat → Int32) × (Nat → Int32) × (Nat → Int32)) => post r u.1 u.2.1 u.2.2.1 u.2.2.2.1 u.2.2.2.2.1 u.2.2.2.2.2.1 u.2.2.2.2.2.2.1 u.2.2.2.2.2.2.2.1 u.2.2.2.2.2.2.2.2.1 u.2.2.2.2.2.2.2.2.2.1 u.2.2.2.2.2.2.2.2.2.2.1 u.2.2.2.2.2.2.2.2.2.2.2.1 u.2.2.2.2.2.2.2.2.2.2.2.2.1 u.2.2.2.2.2.2.2.2.2.2.2.2.2.1 u.2.2.2.2.2.2.2.2.2.2.2.2.2.2.1 u.2.2.2.2.2.2.2.2.2.2.2.2.2.2.2.1 u.2.2.2.2.2.2.2.2.2.2.2.2.2.2.2.2.1 u.2.2.2.2.2.2.2.2.2.2.2.2.2.2.2.2.2) (xB (dC, dI) vwCl [(cI, .int), (cZ, .boolean)] A (fun u : Int32 × Int32 × Int32 × Int32 × Int32 × (Nat → Int32) × (Nat → Int32) × (Nat → Int32) × (Nat → Int32) × (Nat → Int32) × (Nat → Int32) × (Nat → Int32) × (Nat → Int32) × (Nat → Int32) × (Nat → Int32) × (Nat → Int32) × (Nat → Int32) × (Nat → Int32) => (mW ad cI cZ u.1 m_size m_outLong u.2.1 m_toldLines u.2.2.1 u.2.2.2.1 m_p m_pre u.2.2.2.2.1 m_text m_out u.2.2.2.2.2.1 u.2.2.2.2.2.2.1 u.2.2.2.2.2.2.2.1 u.2.2.2.2.2.2.2.2.1 u.2.2.2.2.2.2.2.2.2.1 m_told u.2.2.2.2.2.2.2.2.2.2.1 u.2.2.2.2.2.2.2.2.2.2.2.1 u.2.2.2.2.2.2.2.2.2.2.2.2.1 u.2.2.2.2.2.2.2.2.2.2.2.2.2.1 u.2.2.2.2.2.2.2.2.2.2.2.2.2.2.1 u.2.2.2.2.2.2.2.2.2.2.2.2.2.2.2.1 u.2.2.2.2.2.2.2.2.2.2.2.2.2.2.2.2.1 u.2.2.2.2.2.2.2.2.2.2.2.2.2.2.2.2.2))) A) ([.ref (ad 0), .int x1] : List Value).toArray s (.returned (some (.int r))) t := fun r u t h1 h2 h3 h4 h5 => ⟨⟨r, u, rfl, h1, h2, h3, h4⟩, h5⟩
  generalize (va_Qi (fun (r : Int32) (u : Int32 × Int32 × Int32 × Int32 × Int32 × (Nat → Int32) × (Nat → Int32) × (Nat → Int32) × (Nat → Int32) × (Nat → Int32) × (Nat → Int32) × (Nat → Int32) × (Nat → Int32) × (Nat → Int32) × (Nat → Int32) × (Nat → Int32) × (Nat → Int32) × (Nat → Int32)) => post r u.1 u.2.1 u.2.2.1 u.2.2.2.1 u.2.2.2.2.1 u.2.2.2.2.2.1 u.2.2.2.2.2.2.1 u.2.2.2.2.2.2.2.1 u.2.2.2.2.2.2.2.2.1 u.2.2.2.2.2.2.2.2.2.1 u.2.2.2.2.2.2.2.2.2.2.1 u.2.2.2.2.2.2.2.2.2.2.2.1 u.2.2.2.2.2.2.2.2.2.2.2.2.1 u.2.2.2.2.2.2.2.2.2.2.2.2.2.1 u.2.2.2.2.2.2.2.2.2.2.2.2.2.2.1 u.2.2.2.2.2.2.2.2.2.2.2.2.2.2.2.1 u.2.2.2.2.2.2.2.2.2.2.2.2.2.2.2.2.1 u.2.2.2.2.2.2.2.2.2.2.2.2.2.2.2.2.2) (xB (dC, dI) vwCl [(cI, .int), (cZ, .boolean)] A (fun u : Int32 × Int32 × Int32 × Int32 × Int32 × (Nat → Int32) × (Nat → Int32) × (Nat → Int32) × (Nat → Int32) × (Nat → Int32) × (Nat → Int32) × (Nat → Int32) × (Nat → Int32) × (Nat → Int32) × (Nat → Int32) × (Nat → Int32) × (Nat → Int32) × (Nat → Int32) => (mW ad cI cZ u.1 m_size m_outLong u.2.1 m_toldLines u.2.2.1 u.2.2.2.1 m_p m_pre u.2.2.2.2.1 m_text m_out u.2.2.2.2.2.1 u.2.2.2.2.2.2.1 u.2.2.2.2.2.2.2.1 u.2.2.2.2.2.2.2.2.1 u.2.2.2.2.2.2.2.2.2.1 m_told u.2.2.2.2.2.2.2.2.2.2.1 u.2.2.2.2.2.2.2.2.2.2.2.1 u.2.2.2.2.2.2.2.2.2.2.2.2.1 u.2.2.2.2.2.2.2.2.2.2.2.2.2.1 u.2.2.2.2.2.2.2.2.2.2.2.2.2.2.1 u.2.2.2.2.2.2.2.2.2.2.2.2.2.2.2.1 u.2.2.2.2.2.2.2.2.2.2.2.2.2.2.2.2.1 u.2.2.2.2.2.2.2.2.2.2.2.2.2.2.2.2.2))) A) = Qc at hQ ⊢
  have hl := lv_entry ([.ref (ad 0), .int x1]) (n := 3) (Nat.le_of_ble_eq_true rfl)
  rw [lg_entry_eq]
  generalize (lg_sl ([.ref (ad 0), .int x1]) ++ List.replicate (3 - (lg_sl ([.ref (ad 0), .int x1])).length) Slot.unset).toArray = ls at hl ⊢
  have hl : lv_has ls 3 [(0, .ref (ad 0)), (1, .int x1)] := hl
  refine (fun (key : ∀ (H : Heap) (locs : List Loc), va_P (dC, dI) vwCl (mW ad cI cZ m_thrown m_size m_outLong m_lines m_toldLines m_tokens m_places m_p m_pre m_end m_text m_out m_lineAt m_lineLong m_depth m_signed m_led m_told m_place m_begin m_tokenLong m_stemLong m_address m_letters m_stems m_s) H → va_D A (mW ad cI cZ m_thrown m_size m_outLong m_lines m_toldLines m_tokens m_places m_p m_pre m_end m_text m_out m_lineAt m_lineLong m_depth m_signed m_led m_told m_place m_begin m_tokenLong m_stemLong m_address m_letters m_stems m_s) → va_S A s.heap H locs → W p l e (headSpec wsX8_cut ({ frames := 9, cells := 0, slots := 0, locals := 213 })).room s m ([.ref (ad 0), .int x1] : List Value).toArray below meth c H locs 0 0 (MQ below Qc ([.ref (ad 0), .int x1] : List Value).toArray s 0 0 A) (F0 m 0 ls [])) => key _ _ hP hD hS) ?_
  have inX8 : ∀ w ∈ wsX80, w ∈ wsX8_cut := (fun _ h9 => List.mem_cons_of_mem _ (List.mem_append_right _ h9))
  have L21 : ∀ (m_thrown : Int32) (m_lines : Int32) (m_lineAt : Nat → Int32) (m_lineLong : Nat → Int32) (m_depth : Nat → Int32) (m_signed : Nat → Int32) (m_led : Nat → Int32) (n : Nat) (m_tokens : Int32) (m_places : Int32) (m_end : Int32) (m_place : Nat → Int32) (m_begin : Nat → Int32) (m_tokenLong : Nat → Int32) (m_stemLong : Nat → Int32) (m_address : Nat → Int32) (m_letters : Nat → Int32) (m_stems : Nat → Int32) (m_s : Nat → Int32) (x2 : Int32) (H : Heap) (locs : List Loc) (ls : Array Slot), lv_has ls 3 [(0, .ref (ad 0)), (1, .int x1), (2, .int x2)] → va_P (dC, dI) vwCl (mW ad cI cZ m_thrown m_size m_outLong m_lines m_toldLines m_tokens m_places m_p m_pre m_end m_text m_out m_lineAt m_lineLong m_depth m_signed m_led m_told m_place m_begin m_tokenLong m_stemLong m_address m_letters m_stems m_s) H → va_D A (mW ad cI cZ m_thrown m_size m_outLong m_lines m_toldLines m_tokens m_places m_p m_pre m_end m_text m_out m_lineAt m_lineLong m_depth m_signed m_led m_told m_place m_begin m_tokenLong m_stemLong m_address m_letters m_stems m_s) → va_S A s.heap H locs → wlX8_cut_21 post m_size m_text x1 m_thrown m_lines m_lineAt m_lineLong m_depth m_signed m_led n m_tokens m_places m_end m_place m_begin m_tokenLong m_stemLong m_address m_letters m_stems m_s x2 → W p l e (headSpec wsX8_cut ({ frames := 9, cells := 0, slots := 0, locals := 213 })).room s m ([.ref (ad 0), .int x1] : List Value).toArray below meth c H locs 0 0 (MQ below Qc ([.ref (ad 0), .int x1] : List Value).toArray s 0 0 A) (F0 m 21 ls []) := by
    intro m_thrown m_lines m_lineAt m_lineLong m_depth m_signed m_led
    intro n
    induction n with
    | zero => intro m_tokens m_places m_end m_place m_begin m_tokenLong m_stemLong m_address m_letters m_stems m_s x2 H locs ls _ _ _ _ h; exact absurd h (fun z => z)
    | succ n21 ih21 =>
      intro m_tokens m_places m_end m_place m_begin m_tokenLong m_stemLong m_address m_letters m_stems m_s x2 H locs ls hl hP hD hS h
      have J83 : ∀ (m_tokens : Int32) (m_places : Int32) (m_end : Int32) (m_place : Nat → Int32) (m_begin : Nat → Int32) (m_tokenLong : Nat → Int32) (m_stemLong : Nat → Int32) (m_address : Nat → Int32) (m_letters : Nat → Int32) (m_stems : Nat → Int32) (m_s : Nat → Int32) (x2 : Int32) (H : Heap) (locs : List Loc) (ls : Array Slot), lv_has ls 3 [(0, .ref (ad 0)), (1, .int x1), (2, .int x2)] → va_P (dC, dI) vwCl (mW ad cI cZ m_thrown m_size m_outLong m_lines m_toldLines m_tokens m_places m_p m_pre m_end m_text m_out m_lineAt m_lineLong m_depth m_signed m_led m_told m_place m_begin m_tokenLong m_stemLong m_address m_letters m_stems m_s) H → va_D A (mW ad cI cZ m_thrown m_size m_outLong m_lines m_toldLines m_tokens m_places m_p m_pre m_end m_text m_out m_lineAt m_lineLong m_depth m_signed m_led m_told m_place m_begin m_tokenLong m_stemLong m_address m_letters m_stems m_s) → va_S A s.heap H locs → wjX8_cut_83 (fun m_tokens m_places m_end m_place m_begin m_tokenLong m_stemLong m_address m_letters m_stems m_s x2 => wlX8_cut_21 post m_size m_text x1 m_thrown m_lines m_lineAt m_lineLong m_depth m_signed m_led n21 m_tokens m_places m_end m_place m_begin m_tokenLong m_stemLong m_address m_letters m_stems m_s x2) post m_size m_text x1 m_thrown m_lines m_tokens m_places m_end m_lineAt m_lineLong m_depth m_signed m_led m_place m_begin m_tokenLong m_stemLong m_address m_letters m_stems m_s x2 → W p l e (headSpec wsX8_cut ({ frames := 9, cells := 0, slots := 0, locals := 213 })).room s m ([.ref (ad 0), .int x1] : List Value).toArray below meth c H locs 0 0 (MQ below Qc ([.ref (ad 0), .int x1] : List Value).toArray s 0 0 A) (F0 m 83 ls []) := by
        intro m_tokens m_places m_end m_place m_begin m_tokenLong m_stemLong m_address m_letters m_stems m_s x2 H locs ls hl hP hD hS h
        delta wjX8_cut_83 at h
        obtain ⟨x2_1, ex2_1⟩ : ∃ y : Int32, y = x2 + 1 := ⟨_, rfl⟩
        have h := h x2_1 ex2_1
        refine lv_iinc (v := x2_1) (lv' := [(2, .int x2_1), (0, .ref (ad 0)), (1, .int x1)]) hx hb dX8_cut_83 hl (k := 2) rfl (by rw [ex2_1]; rfl) (by decide) rfl (fun ls hl => ?_)
        refine lv_goto (tgt := 21) hx hb dX8_cut_86 (by decide) ?_
        exact ih21 m_tokens m_places m_end m_place m_begin m_tokenLong m_stemLong m_address m_letters m_stems m_s x2_1 H locs ls (lv_sub hl [1, 2, 0] rfl) hP hD hS h
      have J60 : ∀ (m_tokens : Int32) (m_places : Int32) (m_end : Int32) (m_place : Nat → Int32) (m_begin : Nat → Int32) (m_tokenLong : Nat → Int32) (m_stemLong : Nat → Int32) (m_address : Nat → Int32) (m_letters : Nat → Int32) (m_stems : Nat → Int32) (m_s : Nat → Int32) (x2 : Int32) (H : Heap) (locs : List Loc) (ls : Array Slot), lv_has ls 3 [(0, .ref (ad 0)), (1, .int x1), (2, .int x2)] → va_P (dC, dI) vwCl (mW ad cI cZ m_thrown m_size m_outLong m_lines m_toldLines m_tokens m_places m_p m_pre m_end m_text m_out m_lineAt m_lineLong m_depth m_signed m_led m_told m_place m_begin m_tokenLong m_stemLong m_address m_letters m_stems m_s) H → va_D A (mW ad cI cZ m_thrown m_size m_outLong m_lines m_toldLines m_tokens m_places m_p m_pre m_end m_text m_out m_lineAt m_lineLong m_depth m_signed m_led m_told m_place m_begin m_tokenLong m_stemLong m_address m_letters m_stems m_s) → va_S A s.heap H locs → wjX8_cut_60 (fun m_tokens m_places m_end m_place m_begin m_tokenLong m_stemLong m_address m_letters m_stems m_s x2 => wlX8_cut_21 post m_size m_text x1 m_thrown m_lines m_lineAt m_lineLong m_depth m_signed m_led n21 m_tokens m_places m_end m_place m_begin m_tokenLong m_stemLong m_address m_letters m_stems m_s x2) post m_size m_text x1 m_thrown m_lines m_tokens m_places m_end m_lineAt m_lineLong m_depth m_signed m_led m_place m_begin m_tokenLong m_stemLong m_address m_letters m_stems m_s x2 → W p l e (headSpec wsX8_cut ({ frames := 9, cells := 0, slots := 0, locals := 213 })).room s m ([.ref (ad 0), .int x1] : List Value).toArray below meth c H locs 0 0 (MQ below Qc ([.ref (ad 0), .int x1] : List Value).toArray s 0 0 A) (F0 m 60 ls []) := by
        intro m_tokens m_places m_end m_place m_begin m_tokenLong m_stemLong m_address m_letters m_stems m_s x2 H locs ls hl hP hD hS h
        delta wjX8_cut_60 at h
        refine lv_aload_n hx hb dX8_cut_60 rfl (lv_at hl 0 rfl) ?_
        refine lv_aload_n hx hb dX8_cut_61 rfl (lv_at hl 0 rfl) ?_
        refine va_get (D := (dC, dI)) (ci := 7) (v := .ref (ad 3)) (C := RX8) (T := TX8) (N := 26) hx hb hts inX8 hown hK hP 0 rfl rfl 6 (by decide) (hts (.fieldLink RX8 16 "MailWordsModel" "lineAt" "[I") (List.mem_of_getElem? (i := 8) rfl)) (fun _ h9 => h9) rfl dX8_cut_62 ?_
        refine lv_iload_n hx hb dX8_cut_65 rfl (lv_at hl 2 rfl) ?_
        have hi9 := h.1
        have h := h.2
        refine va_iald hx hb hK hP 3 0 rfl rfl hi9 dX8_cut_66 ?_
        refine lv_aload_n hx hb dX8_cut_67 rfl (lv_at hl 0 rfl) ?_
        refine va_get (D := (dC, dI)) (ci := 7) (v := .ref (ad 3)) (C := RX8) (T := TX8) (N := 26) hx hb hts inX8 hown hK hP 0 rfl rfl 6 (by decide) (hts (.fieldLink RX8 16 "MailWordsModel" "lineAt" "[I") (List.mem_of_getElem? (i := 8) rfl)) (fun _ h9 => h9) rfl dX8_cut_68 ?_
        refine lv_iload_n hx hb dX8_cut_71 rfl (lv_at hl 2 rfl) ?_
        have hi9 := h.1
        have h := h.2
        refine va_iald hx hb hK hP 3 0 rfl rfl hi9 dX8_cut_72 ?_
        refine lv_aload_n hx hb dX8_cut_73 rfl (lv_at hl 0 rfl) ?_
        refine va_get (D := (dC, dI)) (ci := 7) (v := .ref (ad 4)) (C := RX8) (T := TX8) (N := 26) hx hb hts inX8 hown hK hP 0 rfl rfl 7 (by decide) (hts (.fieldLink RX8 19 "MailWordsModel" "lineLong" "[I") (List.mem_of_getElem? (i := 9) rfl)) (fun _ h9 => h9) rfl dX8_cut_74 ?_
        refine lv_iload_n hx hb dX8_cut_77 rfl (lv_at hl 2 rfl) ?_
        have hi9 := h.1
        have h := h.2
        refine va_iald hx hb hK hP 4 0 rfl rfl hi9 dX8_cut_78 ?_
        refine lv_iadd hx hb dX8_cut_79 ?_
        refine xc_vv (As := [.int (m_lineAt x2.toNatClampNeg), .int ((m_lineAt x2.toNatClampNeg) + (m_lineLong x2.toNatClampNeg))]) (rest := []) xG Fx (sX8_cutLine l dC dI ad cI cZ sa sv m_thrown m_size m_outLong m_lines m_toldLines m_tokens m_places m_p m_pre m_end m_text m_out m_lineAt m_lineLong m_depth m_signed m_led m_told m_place m_begin m_tokenLong m_stemLong m_address m_letters m_stems m_s (m_lineAt x2.toNatClampNeg) ((m_lineAt x2.toNatClampNeg) + (m_lineLong x2.toNatClampNeg)) h) (cwV 2 hts gX8_cut_X8_cutLine rfl rfl rfl hdX8_cutLine ⟨Nat.le_of_ble_eq_true rfl, Nat.le_of_ble_eq_true rfl⟩) (va_recv hK hP (ci := 7) (q0 := 0) rfl rfl) hK hP hD hS hA hI rfl hl.1 rfl (Nat.le_of_ble_eq_true rfl) dX8_cut_80 ⟨Nat.zero_le _, Nat.zero_le _⟩ (fun u H locs h hP hD hS => ?_)
        obtain ⟨m_tokens_3, m_places_4, m_end_5, m_place_6, m_begin_7, m_tokenLong_8, m_stemLong_9, m_address_10, m_letters_11, m_stems_12, m_s_13⟩ := u
        have hP : va_P (dC, dI) vwCl (mW ad cI cZ m_thrown m_size m_outLong m_lines m_toldLines m_tokens_3 m_places_4 m_p m_pre m_end_5 m_text m_out m_lineAt m_lineLong m_depth m_signed m_led m_told m_place_6 m_begin_7 m_tokenLong_8 m_stemLong_9 m_address_10 m_letters_11 m_stems_12 m_s_13) H := hP
        have hD : va_D A (mW ad cI cZ m_thrown m_size m_outLong m_lines m_toldLines m_tokens_3 m_places_4 m_p m_pre m_end_5 m_text m_out m_lineAt m_lineLong m_depth m_signed m_led m_told m_place_6 m_begin_7 m_tokenLong_8 m_stemLong_9 m_address_10 m_letters_11 m_stems_12 m_s_13) := hD
        exact J83 m_tokens_3 m_places_4 m_end_5 m_place_6 m_begin_7 m_tokenLong_8 m_stemLong_9 m_address_10 m_letters_11 m_stems_12 m_s_13 x2 H locs ls (lv_sub hl [0, 1, 2] rfl) hP hD hS h
      rw [wlX8_cut_21] at h
      refine lv_iload_n hx hb dX8_cut_21 rfl (lv_at hl 2 rfl) ?_
      refine lv_aload_n hx hb dX8_cut_22 rfl (lv_at hl 0 rfl) ?_
      refine va_get (D := (dC, dI)) (ci := 7) (v := .int m_lines) (C := RX8) (T := TX8) (N := 26) hx hb hts inX8 hown hK hP 0 rfl rfl 5 (by decide) (hts (.fieldLink RX8 249 "MailWordsModel" "lines" "I") (List.mem_of_getElem? (i := 4) rfl)) (fun _ h9 => h9) rfl dX8_cut_23 ?_
      refine lv_icmp_ge (tgt := 89) hx hb dX8_cut_26 (by decide) (fun c9 => ?_) (fun c9 => ?_)
      · have h := h.1 c9
        refine lv_aload_n hx hb dX8_cut_89 rfl (lv_at hl 0 rfl) ?_
        refine va_get (D := (dC, dI)) (ci := 7) (v := .int m_tokens) (C := RX8) (T := TX8) (N := 26) hx hb hts inX8 hown hK hP 0 rfl rfl 13 (by decide) (hts (.fieldLink RX8 268 "MailWordsModel" "tokens" "I") (List.mem_of_getElem? (i := 2) rfl)) (fun _ h9 => h9) rfl dX8_cut_90 ?_
        exact W.iret (v := m_tokens) hx hb hr (fun t ht hW => hQ m_tokens (m_thrown, m_lines, m_tokens, m_places, m_end, m_lineAt, m_lineLong, m_depth, m_signed, m_led, m_place, m_begin, m_tokenLong, m_stemLong, m_address, m_letters, m_stems, m_s) t h (by rw [ht]; exact hP) (va_K.moved hW.alike hK) hD (hS.F ht)) hS.2.2 dX8_cut_93
      · have h := h.2 c9
        refine lv_iload_n hx hb dX8_cut_29 rfl (lv_at hl 1 rfl) ?_
        refine lv_if_eq (tgt := 60) hx hb dX8_cut_30 (by decide) (fun c9 => ?_) (fun c9 => ?_)
        · have h := h.1 c9
          exact J60 m_tokens m_places m_end m_place m_begin m_tokenLong m_stemLong m_address m_letters m_stems m_s x2 H locs ls (lv_sub hl [0, 1, 2] rfl) hP hD hS h
        · have h := h.2 c9
          refine lv_aload_n hx hb dX8_cut_33 rfl (lv_at hl 0 rfl) ?_
          refine va_get (D := (dC, dI)) (ci := 7) (v := .ref (ad 5)) (C := RX8) (T := TX8) (N := 26) hx hb hts inX8 hown hK hP 0 rfl rfl 8 (by decide) (hts (.fieldLink RX8 22 "MailWordsModel" "depth" "[I") (List.mem_of_getElem? (i := 5) rfl)) (fun _ h9 => h9) rfl dX8_cut_34 ?_
          refine lv_iload_n hx hb dX8_cut_37 rfl (lv_at hl 2 rfl) ?_
          have hi9 := h.1
          have h := h.2
          refine va_iald hx hb hK hP 5 0 rfl rfl hi9 dX8_cut_38 ?_
          refine lv_if_ne (tgt := 83) hx hb dX8_cut_39 (by decide) (fun c9 => ?_) (fun c9 => ?_)
          · have h := h.1 c9
            exact J83 m_tokens m_places m_end m_place m_begin m_tokenLong m_stemLong m_address m_letters m_stems m_s x2 H locs ls (lv_sub hl [0, 1, 2] rfl) hP hD hS h
          · have h := h.2 c9
            refine lv_aload_n hx hb dX8_cut_42 rfl (lv_at hl 0 rfl) ?_
            refine va_get (D := (dC, dI)) (ci := 7) (v := .ref (ad 6)) (C := RX8) (T := TX8) (N := 26) hx hb hts inX8 hown hK hP 0 rfl rfl 9 (by decide) (hts (.fieldLink RX8 25 "MailWordsModel" "signed" "[Z") (List.mem_of_getElem? (i := 6) rfl)) (fun _ h9 => h9) rfl dX8_cut_43 ?_
            refine lv_iload_n hx hb dX8_cut_46 rfl (lv_at hl 2 rfl) ?_
            have hi9 := h.1
            have h := h.2
            refine va_zald hx hb hK hP 6 1 rfl rfl hi9 dX8_cut_47 ?_
            refine lv_if_ne (tgt := 83) hx hb dX8_cut_48 (by decide) (fun c9 => ?_) (fun c9 => ?_)
            · have h := h.1 c9
              exact J83 m_tokens m_places m_end m_place m_begin m_tokenLong m_stemLong m_address m_letters m_stems m_s x2 H locs ls (lv_sub hl [0, 1, 2] rfl) hP hD hS h
            · have h := h.2 c9
              refine lv_aload_n hx hb dX8_cut_51 rfl (lv_at hl 0 rfl) ?_
              refine va_get (D := (dC, dI)) (ci := 7) (v := .ref (ad 7)) (C := RX8) (T := TX8) (N := 26) hx hb hts inX8 hown hK hP 0 rfl rfl 10 (by decide) (hts (.fieldLink RX8 29 "MailWordsModel" "led" "[Z") (List.mem_of_getElem? (i := 7) rfl)) (fun _ h9 => h9) rfl dX8_cut_52 ?_
              refine lv_iload_n hx hb dX8_cut_55 rfl (lv_at hl 2 rfl) ?_
              have hi9 := h.1
              have h := h.2
              refine va_zald hx hb hK hP 7 1 rfl rfl hi9 dX8_cut_56 ?_
              refine lv_if_ne (tgt := 83) hx hb dX8_cut_57 (by decide) (fun c9 => ?_) (fun c9 => ?_)
              · have h := h.1 c9
                exact J83 m_tokens m_places m_end m_place m_begin m_tokenLong m_stemLong m_address m_letters m_stems m_s x2 H locs ls (lv_sub hl [0, 1, 2] rfl) hP hD hS h
              · have h := h.2 c9
                exact J60 m_tokens m_places m_end m_place m_begin m_tokenLong m_stemLong m_address m_letters m_stems m_s x2 H locs ls (lv_sub hl [0, 1, 2] rfl) hP hD hS h
  intro H locs hP hD hS
  delta wpX8_cut at h
  refine lv_aload_n hx hb dX8_cut_0 rfl (lv_at hl 0 rfl) ?_
  refine lv_iconst (v := 0) hx hb dX8_cut_1 (by decide) ?_
  refine va_put (D := (dC, dI)) (ci := 7) (v := .int 0) (ty := .int) (C := RX8) (T := TX8) (N := 26) hx hb hts inX8 tyX8 tyX8_ok nmX8 hown hK hP hD hS 0 rfl rfl 0 (by decide) (hts (.fieldLink RX8 60 "MailWordsModel" "thrown" "I") (List.mem_of_getElem? (i := 1) rfl)) (fun _ h9 => h9) rfl (tyX8_ok 0 (by decide)) rfl rfl (Nat.le_of_ble_eq_true rfl) dX8_cut_2 (fun H locs hP hD hS => ?_)
  have hP : va_P (dC, dI) vwCl (mW ad cI cZ 0 m_size m_outLong m_lines m_toldLines m_tokens m_places m_p m_pre m_end m_text m_out m_lineAt m_lineLong m_depth m_signed m_led m_told m_place m_begin m_tokenLong m_stemLong m_address m_letters m_stems m_s) H := hP
  have hD : va_D A (mW ad cI cZ 0 m_size m_outLong m_lines m_toldLines m_tokens m_places m_p m_pre m_end m_text m_out m_lineAt m_lineLong m_depth m_signed m_led m_told m_place m_begin m_tokenLong m_stemLong m_address m_letters m_stems m_s) := hD
  refine lv_aload_n hx hb dX8_cut_5 rfl (lv_at hl 0 rfl) ?_
  refine xc_vv (As := []) (rest := []) xG Fx (sX8_lookAtLines l dC dI ad cI cZ sa sv 0 m_size m_outLong m_lines m_toldLines m_tokens m_places m_p m_pre m_end m_text m_out m_lineAt m_lineLong m_depth m_signed m_led m_told m_place m_begin m_tokenLong m_stemLong m_address m_letters m_stems m_s h) (cwV 0 hts gX8_cut_X8_lookAtLines rfl rfl rfl hdX8_lookAtLines ⟨Nat.le_of_ble_eq_true rfl, Nat.le_of_ble_eq_true rfl⟩) (va_recv hK hP (ci := 7) (q0 := 0) rfl rfl) hK hP hD hS hA hI rfl hl.1 rfl (Nat.le_of_ble_eq_true rfl) dX8_cut_6 ⟨Nat.zero_le _, Nat.zero_le _⟩ (fun u H locs h hP hD hS => ?_)
  obtain ⟨m_lines_15, m_lineAt_16, m_lineLong_17, m_depth_18, m_signed_19, m_led_20⟩ := u
  have hP : va_P (dC, dI) vwCl (mW ad cI cZ 0 m_size m_outLong m_lines_15 m_toldLines m_tokens m_places m_p m_pre m_end m_text m_out m_lineAt_16 m_lineLong_17 m_depth_18 m_signed_19 m_led_20 m_told m_place m_begin m_tokenLong m_stemLong m_address m_letters m_stems m_s) H := hP
  have hD : va_D A (mW ad cI cZ 0 m_size m_outLong m_lines_15 m_toldLines m_tokens m_places m_p m_pre m_end m_text m_out m_lineAt_16 m_lineLong_17 m_depth_18 m_signed_19 m_led_20 m_told m_place m_begin m_tokenLong m_stemLong m_address m_letters m_stems m_s) := hD
  refine lv_aload_n hx hb dX8_cut_9 rfl (lv_at hl 0 rfl) ?_
  refine lv_iconst (v := 0) hx hb dX8_cut_10 (by decide) ?_
  refine va_put (D := (dC, dI)) (ci := 7) (v := .int 0) (ty := .int) (C := RX8) (T := TX8) (N := 26) hx hb hts inX8 tyX8 tyX8_ok nmX8 hown hK hP hD hS 0 rfl rfl 13 (by decide) (hts (.fieldLink RX8 268 "MailWordsModel" "tokens" "I") (List.mem_of_getElem? (i := 2) rfl)) (fun _ h9 => h9) rfl (tyX8_ok 13 (by decide)) rfl rfl (Nat.le_of_ble_eq_true rfl) dX8_cut_11 (fun H locs hP hD hS => ?_)
  have hP : va_P (dC, dI) vwCl (mW ad cI cZ 0 m_size m_outLong m_lines_15 m_toldLines 0 m_places m_p m_pre m_end m_text m_out m_lineAt_16 m_lineLong_17 m_depth_18 m_signed_19 m_led_20 m_told m_place m_begin m_tokenLong m_stemLong m_address m_letters m_stems m_s) H := hP
  have hD : va_D A (mW ad cI cZ 0 m_size m_outLong m_lines_15 m_toldLines 0 m_places m_p m_pre m_end m_text m_out m_lineAt_16 m_lineLong_17 m_depth_18 m_signed_19 m_led_20 m_told m_place m_begin m_tokenLong m_stemLong m_address m_letters m_stems m_s) := hD
  refine lv_aload_n hx hb dX8_cut_14 rfl (lv_at hl 0 rfl) ?_
  refine lv_iconst (v := 0) hx hb dX8_cut_15 (by decide) ?_
  refine va_put (D := (dC, dI)) (ci := 7) (v := .int 0) (ty := .int) (C := RX8) (T := TX8) (N := 26) hx hb hts inX8 tyX8 tyX8_ok nmX8 hown hK hP hD hS 0 rfl rfl 14 (by decide) (hts (.fieldLink RX8 280 "MailWordsModel" "places" "I") (List.mem_of_getElem? (i := 3) rfl)) (fun _ h9 => h9) rfl (tyX8_ok 14 (by decide)) rfl rfl (Nat.le_of_ble_eq_true rfl) dX8_cut_16 (fun H locs hP hD hS => ?_)
  have hP : va_P (dC, dI) vwCl (mW ad cI cZ 0 m_size m_outLong m_lines_15 m_toldLines 0 0 m_p m_pre m_end m_text m_out m_lineAt_16 m_lineLong_17 m_depth_18 m_signed_19 m_led_20 m_told m_place m_begin m_tokenLong m_stemLong m_address m_letters m_stems m_s) H := hP
  have hD : va_D A (mW ad cI cZ 0 m_size m_outLong m_lines_15 m_toldLines 0 0 m_p m_pre m_end m_text m_out m_lineAt_16 m_lineLong_17 m_depth_18 m_signed_19 m_led_20 m_told m_place m_begin m_tokenLong m_stemLong m_address m_letters m_stems m_s) := hD
  refine lv_iconst (v := 0) hx hb dX8_cut_19 (by decide) ?_
  refine lv_istore_n (lv' := [(2, .int 0), (0, .ref (ad 0)), (1, .int x1)]) hx hb dX8_cut_20 rfl hl (by decide) rfl (fun ls hl => ?_)
  obtain ⟨n, h⟩ := h
  exact L21 0 m_lines_15 m_lineAt_16 m_lineLong_17 m_depth_18 m_signed_19 m_led_20 n 0 0 m_end m_place m_begin m_tokenLong m_stemLong m_address m_letters m_stems m_s 0 H locs ls (lv_sub hl [1, 2, 0] rfl) hP hD hS h
set_option maxHeartbeats 4000000 in
set_option maxRecDepth 100000 in
theorem sX8_isToken (l : Launch) (dC : Nat → ClassId) (dI : Nat → Nat → Nat) (ad : Nat → Nat) (cI cZ : ClassId) (sa sv : Nat → Nat) (m_thrown : Int32) (m_size : Int32) (m_outLong : Int32) (m_lines : Int32) (m_toldLines : Int32) (m_tokens : Int32) (m_places : Int32) (m_p : Int32) (m_pre : Int32) (m_end : Int32) (m_text : Nat → Int32) (m_out : Nat → Int32) (m_lineAt : Nat → Int32) (m_lineLong : Nat → Int32) (m_depth : Nat → Int32) (m_signed : Nat → Int32) (m_led : Nat → Int32) (m_told : Nat → Int32) (m_place : Nat → Int32) (m_begin : Nat → Int32) (m_tokenLong : Nat → Int32) (m_stemLong : Nat → Int32) (m_address : Nat → Int32) (m_letters : Nat → Int32) (m_stems : Nat → Int32) (m_s : Nat → Int32) (x1 : Int32) {post : Int32 → Prop} (h : wpX8_isToken post m_tokens x1) : xMi l (dC, dI) vwCl [(cI, .int), (cZ, .boolean)] (sI sa sv) yX8_isToken wsX8_isToken ({ frames := 0, cells := 0, slots := 0, locals := 0 }) (mW ad cI cZ m_thrown m_size m_outLong m_lines m_toldLines m_tokens m_places m_p m_pre m_end m_text m_out m_lineAt m_lineLong m_depth m_signed m_led m_told m_place m_begin m_tokenLong m_stemLong m_address m_letters m_stems m_s) [.ref (ad 0), .int x1] (fun (r : Int32) (u : Unit) => post r ) (fun u : Unit => (mW ad cI cZ m_thrown m_size m_outLong m_lines m_toldLines m_tokens m_places m_p m_pre m_end m_text m_out m_lineAt m_lineLong m_depth m_signed m_led m_told m_place m_begin m_tokenLong m_stemLong m_address m_letters m_stems m_s)) := by
  intro sz
  refine Met.ofW (cc := cX8_isToken) (maxL := 2) (ret := (some .boolean)) (by decide) rfl ?_
  intro p e s m args below meth c s₁ B hml hv
  obtain ⟨rfl, hsz, hP, hK, hD0, hI⟩ := hv
  have hx := B.exec
  have hb := B.bytes
  have hr := B.returns
  have hts := atoms_spec (ws := wsX8_isToken) B.pre
  have hown : s.vm.findClass RX8 = some m.cls := findClass_of_methodNamed B.named
  have hlocks := B.notSynchronized
  subst hsz
  have hD := hD0.self (sz := s.heap.size)
  generalize hAe : va_A (mW ad cI cZ m_thrown m_size m_outLong m_lines m_toldLines m_tokens m_places m_p m_pre m_end m_text m_out m_lineAt m_lineLong m_depth m_signed m_led m_told m_place m_begin m_tokenLong m_stemLong m_address m_letters m_stems m_s) s.heap.size = A at hD hI ⊢
  have hA : ∀ q : Nat, s.heap.size ≤ q → A q := fun q h => by rw [← hAe]; exact Or.inr h
  have hS : va_S A s.heap s.heap [] := va_S.rf
  have Fx : CallFix p m c cX8_isToken 2 s ([.ref (ad 0), .int x1] : List Value).toArray wsX8_isToken RX8 := ⟨hx, hb, hml, hown, hts⟩
  have hQ : ∀ (r : Int32) (u : Unit) (t : State), (fun (r : Int32) (u : Unit) => post r ) r u → va_P (dC, dI) vwCl ((fun u : Unit => (mW ad cI cZ m_thrown m_size m_outLong m_lines m_toldLines m_tokens m_places m_p m_pre m_end m_text m_out m_lineAt m_lineLong m_depth m_signed m_led m_told m_place m_begin m_tokenLong m_stemLong m_address m_letters m_stems m_s)) u) t.heap → va_K (dC, dI) vwCl [(cI, .int), (cZ, .boolean)] t → va_D A ((fun u : Unit => (mW ad cI cZ m_thrown m_size m_outLong m_lines m_toldLines m_tokens m_places m_p m_pre m_end m_text m_out m_lineAt m_lineLong m_depth m_signed m_led m_told m_place m_begin m_tokenLong m_stemLong m_address m_letters m_stems m_s)) u) → va_F A s t → (va_Qi (fun (r : Int32) (u : Unit) => post r ) (xB (dC, dI) vwCl [(cI, .int), (cZ, .boolean)] A (fun u : Unit => (mW ad cI cZ m_thrown m_size m_outLong m_lines m_toldLines m_tokens m_places m_p m_pre m_end m_text m_out m_lineAt m_lineLong m_depth m_signed m_led m_told m_place m_begin m_tokenLong m_stemLong m_address m_letters m_stems m_s))) A) ([.ref (ad 0), .int x1] : List Value).toArray s (.returned (some (.int r))) t := fun r u t h1 h2 h3 h4 h5 => ⟨⟨r, u, rfl, h1, h2, h3, h4⟩, h5⟩
  generalize (va_Qi (fun (r : Int32) (u : Unit) => post r ) (xB (dC, dI) vwCl [(cI, .int), (cZ, .boolean)] A (fun u : Unit => (mW ad cI cZ m_thrown m_size m_outLong m_lines m_toldLines m_tokens m_places m_p m_pre m_end m_text m_out m_lineAt m_lineLong m_depth m_signed m_led m_told m_place m_begin m_tokenLong m_stemLong m_address m_letters m_stems m_s))) A) = Qc at hQ ⊢
  have hl := lv_entry ([.ref (ad 0), .int x1]) (n := 2) (Nat.le_of_ble_eq_true rfl)
  rw [lg_entry_eq]
  generalize (lg_sl ([.ref (ad 0), .int x1]) ++ List.replicate (2 - (lg_sl ([.ref (ad 0), .int x1])).length) Slot.unset).toArray = ls at hl ⊢
  have hl : lv_has ls 2 [(0, .ref (ad 0)), (1, .int x1)] := hl
  refine (fun (key : ∀ (H : Heap) (locs : List Loc), va_P (dC, dI) vwCl (mW ad cI cZ m_thrown m_size m_outLong m_lines m_toldLines m_tokens m_places m_p m_pre m_end m_text m_out m_lineAt m_lineLong m_depth m_signed m_led m_told m_place m_begin m_tokenLong m_stemLong m_address m_letters m_stems m_s) H → va_D A (mW ad cI cZ m_thrown m_size m_outLong m_lines m_toldLines m_tokens m_places m_p m_pre m_end m_text m_out m_lineAt m_lineLong m_depth m_signed m_led m_told m_place m_begin m_tokenLong m_stemLong m_address m_letters m_stems m_s) → va_S A s.heap H locs → W p l e (headSpec wsX8_isToken ({ frames := 0, cells := 0, slots := 0, locals := 0 })).room s m ([.ref (ad 0), .int x1] : List Value).toArray below meth c H locs 0 0 (MQ below Qc ([.ref (ad 0), .int x1] : List Value).toArray s 0 0 A) (F0 m 0 ls [])) => key _ _ hP hD hS) ?_
  have inX8 : ∀ w ∈ wsX80, w ∈ wsX8_isToken := (fun _ h9 => List.mem_cons_of_mem _ (List.mem_append_right _ h9))
  intro H locs hP hD hS
  delta wpX8_isToken at h
  refine lv_iload_n hx hb dX8_isToken_0 rfl (lv_at hl 1 rfl) ?_
  refine lv_if_lt (tgt := 16) hx hb dX8_isToken_1 (by decide) (fun c9 => ?_) (fun c9 => ?_)
  · have h := h.1 c9
    refine lv_iconst (v := 0) hx hb dX8_isToken_16 (by decide) ?_
    exact W.zret (v := 0) hx hb hr (bN_nar bN0) (fun t ht hW => hQ 0 () t h (by rw [ht]; exact hP) (va_K.moved hW.alike hK) hD (hS.F ht)) hS.2.2 dX8_isToken_17
  · have h := h.2 c9
    refine lv_iload_n hx hb dX8_isToken_4 rfl (lv_at hl 1 rfl) ?_
    refine lv_aload_n hx hb dX8_isToken_5 rfl (lv_at hl 0 rfl) ?_
    refine va_get (D := (dC, dI)) (ci := 7) (v := .int m_tokens) (C := RX8) (T := TX8) (N := 26) hx hb hts inX8 hown hK hP 0 rfl rfl 13 (by decide) (hts (.fieldLink RX8 268 "MailWordsModel" "tokens" "I") (List.mem_of_getElem? (i := 1) rfl)) (fun _ h9 => h9) rfl dX8_isToken_6 ?_
    refine lv_icmp_ge (tgt := 16) hx hb dX8_isToken_9 (by decide) (fun c9 => ?_) (fun c9 => ?_)
    · have h := h.1 c9
      refine lv_iconst (v := 0) hx hb dX8_isToken_16 (by decide) ?_
      exact W.zret (v := 0) hx hb hr (bN_nar bN0) (fun t ht hW => hQ 0 () t h (by rw [ht]; exact hP) (va_K.moved hW.alike hK) hD (hS.F ht)) hS.2.2 dX8_isToken_17
    · have h := h.2 c9
      refine lv_iconst (v := 1) hx hb dX8_isToken_12 (by decide) ?_
      refine lv_goto (tgt := 17) hx hb dX8_isToken_13 (by decide) ?_
      exact W.zret (v := 1) hx hb hr (bN_nar bN1) (fun t ht hW => hQ 1 () t h (by rw [ht]; exact hP) (va_K.moved hW.alike hK) hD (hS.F ht)) hS.2.2 dX8_isToken_17
set_option maxHeartbeats 4000000 in
set_option maxRecDepth 100000 in
theorem sX8_token (l : Launch) (dC : Nat → ClassId) (dI : Nat → Nat → Nat) (ad : Nat → Nat) (cI cZ : ClassId) (sa sv : Nat → Nat) (m_thrown : Int32) (m_size : Int32) (m_outLong : Int32) (m_lines : Int32) (m_toldLines : Int32) (m_tokens : Int32) (m_places : Int32) (m_p : Int32) (m_pre : Int32) (m_end : Int32) (m_text : Nat → Int32) (m_out : Nat → Int32) (m_lineAt : Nat → Int32) (m_lineLong : Nat → Int32) (m_depth : Nat → Int32) (m_signed : Nat → Int32) (m_led : Nat → Int32) (m_told : Nat → Int32) (m_place : Nat → Int32) (m_begin : Nat → Int32) (m_tokenLong : Nat → Int32) (m_stemLong : Nat → Int32) (m_address : Nat → Int32) (m_letters : Nat → Int32) (m_stems : Nat → Int32) (m_s : Nat → Int32) (x1 : Int32) (x2 : Int32) {post : Int32 → Int32 → Prop} (h : wpX8_token post m_thrown m_tokens m_place m_begin m_tokenLong m_stemLong m_address x1 x2) : xMi l (dC, dI) vwCl [(cI, .int), (cZ, .boolean)] (sI sa sv) yX8_token wsX8_token ({ frames := 1, cells := 0, slots := 0, locals := 21 }) (mW ad cI cZ m_thrown m_size m_outLong m_lines m_toldLines m_tokens m_places m_p m_pre m_end m_text m_out m_lineAt m_lineLong m_depth m_signed m_led m_told m_place m_begin m_tokenLong m_stemLong m_address m_letters m_stems m_s) [.ref (ad 0), .int x1, .int x2] (fun (r : Int32) (u : Int32) => post r u) (fun u : Int32 => (mW ad cI cZ u m_size m_outLong m_lines m_toldLines m_tokens m_places m_p m_pre m_end m_text m_out m_lineAt m_lineLong m_depth m_signed m_led m_told m_place m_begin m_tokenLong m_stemLong m_address m_letters m_stems m_s)) := by
  intro sz
  refine Met.ofW (cc := cX8_token) (maxL := 3) (ret := (some .int)) (by decide) rfl ?_
  intro p e s m args below meth c s₁ B hml hv
  obtain ⟨rfl, hsz, hP, hK, hD0, hI⟩ := hv
  have hx := B.exec
  have hb := B.bytes
  have hr := B.returns
  have hts := atoms_spec (ws := wsX8_token) B.pre
  have hown : s.vm.findClass RX8 = some m.cls := findClass_of_methodNamed B.named
  have hlocks := B.notSynchronized
  subst hsz
  have hD := hD0.self (sz := s.heap.size)
  generalize hAe : va_A (mW ad cI cZ m_thrown m_size m_outLong m_lines m_toldLines m_tokens m_places m_p m_pre m_end m_text m_out m_lineAt m_lineLong m_depth m_signed m_led m_told m_place m_begin m_tokenLong m_stemLong m_address m_letters m_stems m_s) s.heap.size = A at hD hI ⊢
  have hA : ∀ q : Nat, s.heap.size ≤ q → A q := fun q h => by rw [← hAe]; exact Or.inr h
  have hS : va_S A s.heap s.heap [] := va_S.rf
  have Fx : CallFix p m c cX8_token 3 s ([.ref (ad 0), .int x1, .int x2] : List Value).toArray wsX8_token RX8 := ⟨hx, hb, hml, hown, hts⟩
  have hQ : ∀ (r : Int32) (u : Int32) (t : State), (fun (r : Int32) (u : Int32) => post r u) r u → va_P (dC, dI) vwCl ((fun u : Int32 => (mW ad cI cZ u m_size m_outLong m_lines m_toldLines m_tokens m_places m_p m_pre m_end m_text m_out m_lineAt m_lineLong m_depth m_signed m_led m_told m_place m_begin m_tokenLong m_stemLong m_address m_letters m_stems m_s)) u) t.heap → va_K (dC, dI) vwCl [(cI, .int), (cZ, .boolean)] t → va_D A ((fun u : Int32 => (mW ad cI cZ u m_size m_outLong m_lines m_toldLines m_tokens m_places m_p m_pre m_end m_text m_out m_lineAt m_lineLong m_depth m_signed m_led m_told m_place m_begin m_tokenLong m_stemLong m_address m_letters m_stems m_s)) u) → va_F A s t → (va_Qi (fun (r : Int32) (u : Int32) => post r u) (xB (dC, dI) vwCl [(cI, .int), (cZ, .boolean)] A (fun u : Int32 => (mW ad cI cZ u m_size m_outLong m_lines m_toldLines m_tokens m_places m_p m_pre m_end m_text m_out m_lineAt m_lineLong m_depth m_signed m_led m_told m_place m_begin m_tokenLong m_stemLong m_address m_letters m_stems m_s))) A) ([.ref (ad 0), .int x1, .int x2] : List Value).toArray s (.returned (some (.int r))) t := fun r u t h1 h2 h3 h4 h5 => ⟨⟨r, u, rfl, h1, h2, h3, h4⟩, h5⟩
  generalize (va_Qi (fun (r : Int32) (u : Int32) => post r u) (xB (dC, dI) vwCl [(cI, .int), (cZ, .boolean)] A (fun u : Int32 => (mW ad cI cZ u m_size m_outLong m_lines m_toldLines m_tokens m_places m_p m_pre m_end m_text m_out m_lineAt m_lineLong m_depth m_signed m_led m_told m_place m_begin m_tokenLong m_stemLong m_address m_letters m_stems m_s))) A) = Qc at hQ ⊢
  have hl := lv_entry ([.ref (ad 0), .int x1, .int x2]) (n := 3) (Nat.le_of_ble_eq_true rfl)
  rw [lg_entry_eq]
  generalize (lg_sl ([.ref (ad 0), .int x1, .int x2]) ++ List.replicate (3 - (lg_sl ([.ref (ad 0), .int x1, .int x2])).length) Slot.unset).toArray = ls at hl ⊢
  have hl : lv_has ls 3 [(0, .ref (ad 0)), (1, .int x1), (2, .int x2)] := hl
  refine (fun (key : ∀ (H : Heap) (locs : List Loc), va_P (dC, dI) vwCl (mW ad cI cZ m_thrown m_size m_outLong m_lines m_toldLines m_tokens m_places m_p m_pre m_end m_text m_out m_lineAt m_lineLong m_depth m_signed m_led m_told m_place m_begin m_tokenLong m_stemLong m_address m_letters m_stems m_s) H → va_D A (mW ad cI cZ m_thrown m_size m_outLong m_lines m_toldLines m_tokens m_places m_p m_pre m_end m_text m_out m_lineAt m_lineLong m_depth m_signed m_led m_told m_place m_begin m_tokenLong m_stemLong m_address m_letters m_stems m_s) → va_S A s.heap H locs → W p l e (headSpec wsX8_token ({ frames := 1, cells := 0, slots := 0, locals := 21 })).room s m ([.ref (ad 0), .int x1, .int x2] : List Value).toArray below meth c H locs 0 0 (MQ below Qc ([.ref (ad 0), .int x1, .int x2] : List Value).toArray s 0 0 A) (F0 m 0 ls [])) => key _ _ hP hD hS) ?_
  have inX8 : ∀ w ∈ wsX80, w ∈ wsX8_token := (fun _ h9 => List.mem_cons_of_mem _ (List.mem_append_right _ h9))
  intro H locs hP hD hS
  delta wpX8_token at h
  refine lv_aload_n hx hb dX8_token_0 rfl (lv_at hl 0 rfl) ?_
  refine lv_iconst (v := 0) hx hb dX8_token_1 (by decide) ?_
  refine va_put (D := (dC, dI)) (ci := 7) (v := .int 0) (ty := .int) (C := RX8) (T := TX8) (N := 26) hx hb hts inX8 tyX8 tyX8_ok nmX8 hown hK hP hD hS 0 rfl rfl 0 (by decide) (hts (.fieldLink RX8 60 "MailWordsModel" "thrown" "I") (List.mem_of_getElem? (i := 1) rfl)) (fun _ h9 => h9) rfl (tyX8_ok 0 (by decide)) rfl rfl (Nat.le_of_ble_eq_true rfl) dX8_token_2 (fun H locs hP hD hS => ?_)
  have hP : va_P (dC, dI) vwCl (mW ad cI cZ 0 m_size m_outLong m_lines m_toldLines m_tokens m_places m_p m_pre m_end m_text m_out m_lineAt m_lineLong m_depth m_signed m_led m_told m_place m_begin m_tokenLong m_stemLong m_address m_letters m_stems m_s) H := hP
  have hD : va_D A (mW ad cI cZ 0 m_size m_outLong m_lines m_toldLines m_tokens m_places m_p m_pre m_end m_text m_out m_lineAt m_lineLong m_depth m_signed m_led m_told m_place m_begin m_tokenLong m_stemLong m_address m_letters m_stems m_s) := hD
  refine lv_aload_n hx hb dX8_token_5 rfl (lv_at hl 0 rfl) ?_
  refine lv_iload_n hx hb dX8_token_6 rfl (lv_at hl 1 rfl) ?_
  refine xc_vi (As := [.int x1]) (rest := []) xG Fx (sX8_isToken l dC dI ad cI cZ sa sv 0 m_size m_outLong m_lines m_toldLines m_tokens m_places m_p m_pre m_end m_text m_out m_lineAt m_lineLong m_depth m_signed m_led m_told m_place m_begin m_tokenLong m_stemLong m_address m_letters m_stems m_s x1 h) (cwV 1 hts gX8_token_X8_isToken rfl rfl rfl hdX8_isToken ⟨Nat.le_of_ble_eq_true rfl, Nat.le_of_ble_eq_true rfl⟩) (va_recv hK hP (ci := 7) (q0 := 0) rfl rfl) hK hP hD hS hA hI rfl hl.1 rfl (Nat.le_of_ble_eq_true rfl) dX8_token_7 ⟨Nat.zero_le _, Nat.zero_le _⟩ (fun r_1 u H locs h hP hD hS => ?_)
  refine lv_if_ne (tgt := 15) hx hb dX8_token_10 (by decide) (fun c9 => ?_) (fun c9 => ?_)
  · have h := h.1 c9
    refine lv_iload_n hx hb dX8_token_15 rfl (lv_at hl 2 rfl) ?_
    by_cases c0 : x2 = 0
    · have h := h.1 c0
      refine lv_tableIn (tgt := 52) hx hb dX8_token_16 (by rw [c0]; decide) (by rw [c0]; decide) (by rw [c0]; rfl) (by decide) ?_
      refine lv_aload_n hx hb dX8_token_52 rfl (lv_at hl 0 rfl) ?_
      refine va_get (D := (dC, dI)) (ci := 7) (v := .ref (ad 9)) (C := RX8) (T := TX8) (N := 26) hx hb hts inX8 hown hK hP 0 rfl rfl 15 (by decide) (hts (.fieldLink RX8 35 "MailWordsModel" "place" "[I") (List.mem_of_getElem? (i := 2) rfl)) (fun _ h9 => h9) rfl dX8_token_53 ?_
      refine lv_iload_n hx hb dX8_token_56 rfl (lv_at hl 1 rfl) ?_
      have hi9 := h.1
      have h := h.2
      refine va_iald hx hb hK hP 9 0 rfl rfl hi9 dX8_token_57 ?_
      exact W.iret (v := (m_place x1.toNatClampNeg)) hx hb hr (fun t ht hW => hQ (m_place x1.toNatClampNeg) 0 t h (by rw [ht]; exact hP) (va_K.moved hW.alike hK) hD (hS.F ht)) hS.2.2 dX8_token_58
    by_cases c1 : x2 = 1
    · have h := h.2.1 c1
      refine lv_tableIn (tgt := 59) hx hb dX8_token_16 (by rw [c1]; decide) (by rw [c1]; decide) (by rw [c1]; rfl) (by decide) ?_
      refine lv_aload_n hx hb dX8_token_59 rfl (lv_at hl 0 rfl) ?_
      refine va_get (D := (dC, dI)) (ci := 7) (v := .ref (ad 11)) (C := RX8) (T := TX8) (N := 26) hx hb hts inX8 hown hK hP 0 rfl rfl 17 (by decide) (hts (.fieldLink RX8 41 "MailWordsModel" "tokenLong" "[I") (List.mem_of_getElem? (i := 3) rfl)) (fun _ h9 => h9) rfl dX8_token_60 ?_
      refine lv_iload_n hx hb dX8_token_63 rfl (lv_at hl 1 rfl) ?_
      have hi9 := h.1
      have h := h.2
      refine va_iald hx hb hK hP 11 0 rfl rfl hi9 dX8_token_64 ?_
      exact W.iret (v := (m_tokenLong x1.toNatClampNeg)) hx hb hr (fun t ht hW => hQ (m_tokenLong x1.toNatClampNeg) 0 t h (by rw [ht]; exact hP) (va_K.moved hW.alike hK) hD (hS.F ht)) hS.2.2 dX8_token_65
    by_cases c2 : x2 = 2
    · have h := h.2.2.1 c2
      refine lv_tableIn (tgt := 66) hx hb dX8_token_16 (by rw [c2]; decide) (by rw [c2]; decide) (by rw [c2]; rfl) (by decide) ?_
      refine lv_aload_n hx hb dX8_token_66 rfl (lv_at hl 0 rfl) ?_
      refine va_get (D := (dC, dI)) (ci := 7) (v := .ref (ad 12)) (C := RX8) (T := TX8) (N := 26) hx hb hts inX8 hown hK hP 0 rfl rfl 18 (by decide) (hts (.fieldLink RX8 44 "MailWordsModel" "stemLong" "[I") (List.mem_of_getElem? (i := 4) rfl)) (fun _ h9 => h9) rfl dX8_token_67 ?_
      refine lv_iload_n hx hb dX8_token_70 rfl (lv_at hl 1 rfl) ?_
      have hi9 := h.1
      have h := h.2
      refine va_iald hx hb hK hP 12 0 rfl rfl hi9 dX8_token_71 ?_
      exact W.iret (v := (m_stemLong x1.toNatClampNeg)) hx hb hr (fun t ht hW => hQ (m_stemLong x1.toNatClampNeg) 0 t h (by rw [ht]; exact hP) (va_K.moved hW.alike hK) hD (hS.F ht)) hS.2.2 dX8_token_72
    by_cases c3 : x2 = 3
    · have h := h.2.2.2.1 c3
      refine lv_tableIn (tgt := 73) hx hb dX8_token_16 (by rw [c3]; decide) (by rw [c3]; decide) (by rw [c3]; rfl) (by decide) ?_
      refine lv_aload_n hx hb dX8_token_73 rfl (lv_at hl 0 rfl) ?_
      refine va_get (D := (dC, dI)) (ci := 7) (v := .ref (ad 13)) (C := RX8) (T := TX8) (N := 26) hx hb hts inX8 hown hK hP 0 rfl rfl 19 (by decide) (hts (.fieldLink RX8 47 "MailWordsModel" "address" "[Z") (List.mem_of_getElem? (i := 5) rfl)) (fun _ h9 => h9) rfl dX8_token_74 ?_
      refine lv_iload_n hx hb dX8_token_77 rfl (lv_at hl 1 rfl) ?_
      have hi9 := h.1
      have h := h.2
      refine va_zald hx hb hK hP 13 1 rfl rfl hi9 dX8_token_78 ?_
      refine lv_if_eq (tgt := 86) hx hb dX8_token_79 (by decide) (fun c9 => ?_) (fun c9 => ?_)
      · have h := h.1 c9
        refine lv_iconst (v := 0) hx hb dX8_token_86 (by decide) ?_
        exact W.iret (v := 0) hx hb hr (fun t ht hW => hQ 0 0 t h (by rw [ht]; exact hP) (va_K.moved hW.alike hK) hD (hS.F ht)) hS.2.2 dX8_token_87
      · have h := h.2 c9
        refine lv_iconst (v := 1) hx hb dX8_token_82 (by decide) ?_
        refine lv_goto (tgt := 87) hx hb dX8_token_83 (by decide) ?_
        exact W.iret (v := 1) hx hb hr (fun t ht hW => hQ 1 0 t h (by rw [ht]; exact hP) (va_K.moved hW.alike hK) hD (hS.F ht)) hS.2.2 dX8_token_87
    by_cases c4 : x2 = 4
    · have h := h.2.2.2.2.1 c4
      refine lv_tableIn (tgt := 88) hx hb dX8_token_16 (by rw [c4]; decide) (by rw [c4]; decide) (by rw [c4]; rfl) (by decide) ?_
      refine lv_aload_n hx hb dX8_token_88 rfl (lv_at hl 0 rfl) ?_
      refine va_get (D := (dC, dI)) (ci := 7) (v := .ref (ad 10)) (C := RX8) (T := TX8) (N := 26) hx hb hts inX8 hown hK hP 0 rfl rfl 16 (by decide) (hts (.fieldLink RX8 38 "MailWordsModel" "begin" "[I") (List.mem_of_getElem? (i := 6) rfl)) (fun _ h9 => h9) rfl dX8_token_89 ?_
      refine lv_iload_n hx hb dX8_token_92 rfl (lv_at hl 1 rfl) ?_
      have hi9 := h.1
      have h := h.2
      refine va_iald hx hb hK hP 10 0 rfl rfl hi9 dX8_token_93 ?_
      exact W.iret (v := (m_begin x1.toNatClampNeg)) hx hb hr (fun t ht hW => hQ (m_begin x1.toNatClampNeg) 0 t h (by rw [ht]; exact hP) (va_K.moved hW.alike hK) hD (hS.F ht)) hS.2.2 dX8_token_94
    have h := h.2.2.2.2.2 c0 c1 c2 c3 c4
    refine lv_tableOut (tgt := 95) hx hb dX8_token_16 (sw_out0_4 c0 c1 c2 c3 c4) (by decide) ?_
    refine lv_iconst (v := (-1)) hx hb dX8_token_95 (by decide) ?_
    exact W.iret (v := (-1)) hx hb hr (fun t ht hW => hQ (-1) 0 t h (by rw [ht]; exact hP) (va_K.moved hW.alike hK) hD (hS.F ht)) hS.2.2 dX8_token_96
  · have h := h.2 c9
    refine lv_iconst (v := (-1)) hx hb dX8_token_13 (by decide) ?_
    exact W.iret (v := (-1)) hx hb hr (fun t ht hW => hQ (-1) 0 t h (by rw [ht]; exact hP) (va_K.moved hW.alike hK) hD (hS.F ht)) hS.2.2 dX8_token_14
set_option maxHeartbeats 4000000 in
set_option maxRecDepth 100000 in
theorem sX8_letter (l : Launch) (dC : Nat → ClassId) (dI : Nat → Nat → Nat) (ad : Nat → Nat) (cI cZ : ClassId) (sa sv : Nat → Nat) (m_thrown : Int32) (m_size : Int32) (m_outLong : Int32) (m_lines : Int32) (m_toldLines : Int32) (m_tokens : Int32) (m_places : Int32) (m_p : Int32) (m_pre : Int32) (m_end : Int32) (m_text : Nat → Int32) (m_out : Nat → Int32) (m_lineAt : Nat → Int32) (m_lineLong : Nat → Int32) (m_depth : Nat → Int32) (m_signed : Nat → Int32) (m_led : Nat → Int32) (m_told : Nat → Int32) (m_place : Nat → Int32) (m_begin : Nat → Int32) (m_tokenLong : Nat → Int32) (m_stemLong : Nat → Int32) (m_address : Nat → Int32) (m_letters : Nat → Int32) (m_stems : Nat → Int32) (m_s : Nat → Int32) (x1 : Int32) (x2 : Int32) (x3 : Int32) {post : Int32 → Int32 → Prop} (h : wpX8_letter post m_thrown m_tokens m_tokenLong m_stemLong m_letters m_stems x1 x2 x3) : xMi l (dC, dI) vwCl [(cI, .int), (cZ, .boolean)] (sI sa sv) yX8_letter wsX8_letter ({ frames := 1, cells := 0, slots := 0, locals := 21 }) (mW ad cI cZ m_thrown m_size m_outLong m_lines m_toldLines m_tokens m_places m_p m_pre m_end m_text m_out m_lineAt m_lineLong m_depth m_signed m_led m_told m_place m_begin m_tokenLong m_stemLong m_address m_letters m_stems m_s) [.ref (ad 0), .int x1, .int x2, .int x3] (fun (r : Int32) (u : Int32) => post r u) (fun u : Int32 => (mW ad cI cZ u m_size m_outLong m_lines m_toldLines m_tokens m_places m_p m_pre m_end m_text m_out m_lineAt m_lineLong m_depth m_signed m_led m_told m_place m_begin m_tokenLong m_stemLong m_address m_letters m_stems m_s)) := by
  intro sz
  refine Met.ofW (cc := cX8_letter) (maxL := 4) (ret := (some .int)) (by decide) rfl ?_
  intro p e s m args below meth c s₁ B hml hv
  obtain ⟨rfl, hsz, hP, hK, hD0, hI⟩ := hv
  have hx := B.exec
  have hb := B.bytes
  have hr := B.returns
  have hts := atoms_spec (ws := wsX8_letter) B.pre
  have hown : s.vm.findClass RX8 = some m.cls := findClass_of_methodNamed B.named
  have hlocks := B.notSynchronized
  subst hsz
  have hD := hD0.self (sz := s.heap.size)
  generalize hAe : va_A (mW ad cI cZ m_thrown m_size m_outLong m_lines m_toldLines m_tokens m_places m_p m_pre m_end m_text m_out m_lineAt m_lineLong m_depth m_signed m_led m_told m_place m_begin m_tokenLong m_stemLong m_address m_letters m_stems m_s) s.heap.size = A at hD hI ⊢
  have hA : ∀ q : Nat, s.heap.size ≤ q → A q := fun q h => by rw [← hAe]; exact Or.inr h
  have hS : va_S A s.heap s.heap [] := va_S.rf
  have Fx : CallFix p m c cX8_letter 4 s ([.ref (ad 0), .int x1, .int x2, .int x3] : List Value).toArray wsX8_letter RX8 := ⟨hx, hb, hml, hown, hts⟩
  have hQ : ∀ (r : Int32) (u : Int32) (t : State), (fun (r : Int32) (u : Int32) => post r u) r u → va_P (dC, dI) vwCl ((fun u : Int32 => (mW ad cI cZ u m_size m_outLong m_lines m_toldLines m_tokens m_places m_p m_pre m_end m_text m_out m_lineAt m_lineLong m_depth m_signed m_led m_told m_place m_begin m_tokenLong m_stemLong m_address m_letters m_stems m_s)) u) t.heap → va_K (dC, dI) vwCl [(cI, .int), (cZ, .boolean)] t → va_D A ((fun u : Int32 => (mW ad cI cZ u m_size m_outLong m_lines m_toldLines m_tokens m_places m_p m_pre m_end m_text m_out m_lineAt m_lineLong m_depth m_signed m_led m_told m_place m_begin m_tokenLong m_stemLong m_address m_letters m_stems m_s)) u) → va_F A s t → (va_Qi (fun (r : Int32) (u : Int32) => post r u) (xB (dC, dI) vwCl [(cI, .int), (cZ, .boolean)] A (fun u : Int32 => (mW ad cI cZ u m_size m_outLong m_lines m_toldLines m_tokens m_places m_p m_pre m_end m_text m_out m_lineAt m_lineLong m_depth m_signed m_led m_told m_place m_begin m_tokenLong m_stemLong m_address m_letters m_stems m_s))) A) ([.ref (ad 0), .int x1, .int x2, .int x3] : List Value).toArray s (.returned (some (.int r))) t := fun r u t h1 h2 h3 h4 h5 => ⟨⟨r, u, rfl, h1, h2, h3, h4⟩, h5⟩
  generalize (va_Qi (fun (r : Int32) (u : Int32) => post r u) (xB (dC, dI) vwCl [(cI, .int), (cZ, .boolean)] A (fun u : Int32 => (mW ad cI cZ u m_size m_outLong m_lines m_toldLines m_tokens m_places m_p m_pre m_end m_text m_out m_lineAt m_lineLong m_depth m_signed m_led m_told m_place m_begin m_tokenLong m_stemLong m_address m_letters m_stems m_s))) A) = Qc at hQ ⊢
  have hl := lv_entry ([.ref (ad 0), .int x1, .int x2, .int x3]) (n := 4) (Nat.le_of_ble_eq_true rfl)
  rw [lg_entry_eq]
  generalize (lg_sl ([.ref (ad 0), .int x1, .int x2, .int x3]) ++ List.replicate (4 - (lg_sl ([.ref (ad 0), .int x1, .int x2, .int x3])).length) Slot.unset).toArray = ls at hl ⊢
  have hl : lv_has ls 4 [(0, .ref (ad 0)), (1, .int x1), (2, .int x2), (3, .int x3)] := hl
  refine (fun (key : ∀ (H : Heap) (locs : List Loc), va_P (dC, dI) vwCl (mW ad cI cZ m_thrown m_size m_outLong m_lines m_toldLines m_tokens m_places m_p m_pre m_end m_text m_out m_lineAt m_lineLong m_depth m_signed m_led m_told m_place m_begin m_tokenLong m_stemLong m_address m_letters m_stems m_s) H → va_D A (mW ad cI cZ m_thrown m_size m_outLong m_lines m_toldLines m_tokens m_places m_p m_pre m_end m_text m_out m_lineAt m_lineLong m_depth m_signed m_led m_told m_place m_begin m_tokenLong m_stemLong m_address m_letters m_stems m_s) → va_S A s.heap H locs → W p l e (headSpec wsX8_letter ({ frames := 1, cells := 0, slots := 0, locals := 21 })).room s m ([.ref (ad 0), .int x1, .int x2, .int x3] : List Value).toArray below meth c H locs 0 0 (MQ below Qc ([.ref (ad 0), .int x1, .int x2, .int x3] : List Value).toArray s 0 0 A) (F0 m 0 ls [])) => key _ _ hP hD hS) ?_
  have inX8 : ∀ w ∈ wsX80, w ∈ wsX8_letter := (fun _ h9 => List.mem_cons_of_mem _ (List.mem_append_right _ h9))
  have J37 : ∀ (m_thrown : Int32) (s0 : Int32) (s1 : Int32) (H : Heap) (locs : List Loc) (ls : Array Slot), lv_has ls 4 [(0, .ref (ad 0)), (1, .int x1), (2, .int x2), (3, .int x3)] → va_P (dC, dI) vwCl (mW ad cI cZ m_thrown m_size m_outLong m_lines m_toldLines m_tokens m_places m_p m_pre m_end m_text m_out m_lineAt m_lineLong m_depth m_signed m_led m_told m_place m_begin m_tokenLong m_stemLong m_address m_letters m_stems m_s) H → va_D A (mW ad cI cZ m_thrown m_size m_outLong m_lines m_toldLines m_tokens m_places m_p m_pre m_end m_text m_out m_lineAt m_lineLong m_depth m_signed m_led m_told m_place m_begin m_tokenLong m_stemLong m_address m_letters m_stems m_s) → va_S A s.heap H locs → wjX8_letter_37 post m_tokens m_tokenLong m_stemLong m_letters m_stems x1 x2 x3 m_thrown s0 s1 → W p l e (headSpec wsX8_letter ({ frames := 1, cells := 0, slots := 0, locals := 21 })).room s m ([.ref (ad 0), .int x1, .int x2, .int x3] : List Value).toArray below meth c H locs 0 0 (MQ below Qc ([.ref (ad 0), .int x1, .int x2, .int x3] : List Value).toArray s 0 0 A) (F0 m 37 ls [.int s0, .int s1]) := by
    intro m_thrown s0 s1 H locs ls hl hP hD hS h
    delta wjX8_letter_37 at h
    refine lv_icmp_lt (tgt := 42) hx hb dX8_letter_37 (by decide) (fun c9 => ?_) (fun c9 => ?_)
    · have h := h.1 c9
      refine lv_iload_n hx hb dX8_letter_42 rfl (lv_at hl 2 rfl) ?_
      refine lv_if_eq (tgt := 60) hx hb dX8_letter_43 (by decide) (fun c9 => ?_) (fun c9 => ?_)
      · have h := h.1 c9
        refine lv_aload_n hx hb dX8_letter_60 rfl (lv_at hl 0 rfl) ?_
        refine va_get (D := (dC, dI)) (ci := 7) (v := .ref (ad 14)) (C := RX8) (T := TX8) (N := 26) hx hb hts inX8 hown hK hP 0 rfl rfl 20 (by decide) (hts (.fieldLink RX8 51 "MailWordsModel" "letters" "[I") (List.mem_of_getElem? (i := 5) rfl)) (fun _ h9 => h9) rfl dX8_letter_61 ?_
        refine lv_bipush (v := 30) hx hb dX8_letter_64 (by decide) ?_
        refine lv_iload_n hx hb dX8_letter_66 rfl (lv_at hl 1 rfl) ?_
        refine lv_imul hx hb dX8_letter_67 ?_
        refine lv_iload_n hx hb dX8_letter_68 rfl (lv_at hl 3 rfl) ?_
        refine lv_iadd hx hb dX8_letter_69 ?_
        have hi9 := h.1
        have h := h.2
        refine va_iald hx hb hK hP 14 0 rfl rfl hi9 dX8_letter_70 ?_
        exact W.iret (v := (m_letters (((30 * x1) + x3) : Int32).toNatClampNeg)) hx hb hr (fun t ht hW => hQ (m_letters (((30 * x1) + x3) : Int32).toNatClampNeg) m_thrown t h (by rw [ht]; exact hP) (va_K.moved hW.alike hK) hD (hS.F ht)) hS.2.2 dX8_letter_71
      · have h := h.2 c9
        refine lv_aload_n hx hb dX8_letter_46 rfl (lv_at hl 0 rfl) ?_
        refine va_get (D := (dC, dI)) (ci := 7) (v := .ref (ad 15)) (C := RX8) (T := TX8) (N := 26) hx hb hts inX8 hown hK hP 0 rfl rfl 21 (by decide) (hts (.fieldLink RX8 54 "MailWordsModel" "stems" "[I") (List.mem_of_getElem? (i := 4) rfl)) (fun _ h9 => h9) rfl dX8_letter_47 ?_
        refine lv_bipush (v := 30) hx hb dX8_letter_50 (by decide) ?_
        refine lv_iload_n hx hb dX8_letter_52 rfl (lv_at hl 1 rfl) ?_
        refine lv_imul hx hb dX8_letter_53 ?_
        refine lv_iload_n hx hb dX8_letter_54 rfl (lv_at hl 3 rfl) ?_
        refine lv_iadd hx hb dX8_letter_55 ?_
        have hi9 := h.1
        have h := h.2
        refine va_iald hx hb hK hP 15 0 rfl rfl hi9 dX8_letter_56 ?_
        refine lv_goto (tgt := 71) hx hb dX8_letter_57 (by decide) ?_
        exact W.iret (v := (m_stems (((30 * x1) + x3) : Int32).toNatClampNeg)) hx hb hr (fun t ht hW => hQ (m_stems (((30 * x1) + x3) : Int32).toNatClampNeg) m_thrown t h (by rw [ht]; exact hP) (va_K.moved hW.alike hK) hD (hS.F ht)) hS.2.2 dX8_letter_71
    · have h := h.2 c9
      refine lv_iconst (v := (-1)) hx hb dX8_letter_40 (by decide) ?_
      exact W.iret (v := (-1)) hx hb hr (fun t ht hW => hQ (-1) m_thrown t h (by rw [ht]; exact hP) (va_K.moved hW.alike hK) hD (hS.F ht)) hS.2.2 dX8_letter_41
  intro H locs hP hD hS
  delta wpX8_letter at h
  refine lv_aload_n hx hb dX8_letter_0 rfl (lv_at hl 0 rfl) ?_
  refine lv_iconst (v := 0) hx hb dX8_letter_1 (by decide) ?_
  refine va_put (D := (dC, dI)) (ci := 7) (v := .int 0) (ty := .int) (C := RX8) (T := TX8) (N := 26) hx hb hts inX8 tyX8 tyX8_ok nmX8 hown hK hP hD hS 0 rfl rfl 0 (by decide) (hts (.fieldLink RX8 60 "MailWordsModel" "thrown" "I") (List.mem_of_getElem? (i := 1) rfl)) (fun _ h9 => h9) rfl (tyX8_ok 0 (by decide)) rfl rfl (Nat.le_of_ble_eq_true rfl) dX8_letter_2 (fun H locs hP hD hS => ?_)
  have hP : va_P (dC, dI) vwCl (mW ad cI cZ 0 m_size m_outLong m_lines m_toldLines m_tokens m_places m_p m_pre m_end m_text m_out m_lineAt m_lineLong m_depth m_signed m_led m_told m_place m_begin m_tokenLong m_stemLong m_address m_letters m_stems m_s) H := hP
  have hD : va_D A (mW ad cI cZ 0 m_size m_outLong m_lines m_toldLines m_tokens m_places m_p m_pre m_end m_text m_out m_lineAt m_lineLong m_depth m_signed m_led m_told m_place m_begin m_tokenLong m_stemLong m_address m_letters m_stems m_s) := hD
  refine lv_aload_n hx hb dX8_letter_5 rfl (lv_at hl 0 rfl) ?_
  refine lv_iload_n hx hb dX8_letter_6 rfl (lv_at hl 1 rfl) ?_
  refine xc_vi (As := [.int x1]) (rest := []) xG Fx (sX8_isToken l dC dI ad cI cZ sa sv 0 m_size m_outLong m_lines m_toldLines m_tokens m_places m_p m_pre m_end m_text m_out m_lineAt m_lineLong m_depth m_signed m_led m_told m_place m_begin m_tokenLong m_stemLong m_address m_letters m_stems m_s x1 h) (cwV 1 hts gX8_letter_X8_isToken rfl rfl rfl hdX8_isToken ⟨Nat.le_of_ble_eq_true rfl, Nat.le_of_ble_eq_true rfl⟩) (va_recv hK hP (ci := 7) (q0 := 0) rfl rfl) hK hP hD hS hA hI rfl hl.1 rfl (Nat.le_of_ble_eq_true rfl) dX8_letter_7 ⟨Nat.zero_le _, Nat.zero_le _⟩ (fun r_1 u H locs h hP hD hS => ?_)
  refine lv_if_eq (tgt := 40) hx hb dX8_letter_10 (by decide) (fun c9 => ?_) (fun c9 => ?_)
  · have h := h.1 c9
    refine lv_iconst (v := (-1)) hx hb dX8_letter_40 (by decide) ?_
    exact W.iret (v := (-1)) hx hb hr (fun t ht hW => hQ (-1) 0 t h (by rw [ht]; exact hP) (va_K.moved hW.alike hK) hD (hS.F ht)) hS.2.2 dX8_letter_41
  · have h := h.2 c9
    refine lv_iload_n hx hb dX8_letter_13 rfl (lv_at hl 3 rfl) ?_
    refine lv_if_lt (tgt := 40) hx hb dX8_letter_14 (by decide) (fun c9 => ?_) (fun c9 => ?_)
    · have h := h.1 c9
      refine lv_iconst (v := (-1)) hx hb dX8_letter_40 (by decide) ?_
      exact W.iret (v := (-1)) hx hb hr (fun t ht hW => hQ (-1) 0 t h (by rw [ht]; exact hP) (va_K.moved hW.alike hK) hD (hS.F ht)) hS.2.2 dX8_letter_41
    · have h := h.2 c9
      refine lv_iload_n hx hb dX8_letter_17 rfl (lv_at hl 3 rfl) ?_
      refine lv_iload_n hx hb dX8_letter_18 rfl (lv_at hl 2 rfl) ?_
      refine lv_if_eq (tgt := 31) hx hb dX8_letter_19 (by decide) (fun c9 => ?_) (fun c9 => ?_)
      · have h := h.1 c9
        refine lv_aload_n hx hb dX8_letter_31 rfl (lv_at hl 0 rfl) ?_
        refine va_get (D := (dC, dI)) (ci := 7) (v := .ref (ad 11)) (C := RX8) (T := TX8) (N := 26) hx hb hts inX8 hown hK hP 0 rfl rfl 17 (by decide) (hts (.fieldLink RX8 41 "MailWordsModel" "tokenLong" "[I") (List.mem_of_getElem? (i := 3) rfl)) (fun _ h9 => h9) rfl dX8_letter_32 ?_
        refine lv_iload_n hx hb dX8_letter_35 rfl (lv_at hl 1 rfl) ?_
        have hi9 := h.1
        have h := h.2
        refine va_iald hx hb hK hP 11 0 rfl rfl hi9 dX8_letter_36 ?_
        exact J37 0 (m_tokenLong x1.toNatClampNeg) x3 H locs ls (lv_sub hl [0, 1, 2, 3] rfl) hP hD hS h
      · have h := h.2 c9
        refine lv_aload_n hx hb dX8_letter_22 rfl (lv_at hl 0 rfl) ?_
        refine va_get (D := (dC, dI)) (ci := 7) (v := .ref (ad 12)) (C := RX8) (T := TX8) (N := 26) hx hb hts inX8 hown hK hP 0 rfl rfl 18 (by decide) (hts (.fieldLink RX8 44 "MailWordsModel" "stemLong" "[I") (List.mem_of_getElem? (i := 2) rfl)) (fun _ h9 => h9) rfl dX8_letter_23 ?_
        refine lv_iload_n hx hb dX8_letter_26 rfl (lv_at hl 1 rfl) ?_
        have hi9 := h.1
        have h := h.2
        refine va_iald hx hb hK hP 12 0 rfl rfl hi9 dX8_letter_27 ?_
        refine lv_goto (tgt := 37) hx hb dX8_letter_28 (by decide) ?_
        exact J37 0 (m_stemLong x1.toNatClampNeg) x3 H locs ls (lv_sub hl [0, 1, 2, 3] rfl) hP hD hS h
set_option maxHeartbeats 4000000 in
set_option maxRecDepth 100000 in
theorem sX8_sameStem (l : Launch) (dC : Nat → ClassId) (dI : Nat → Nat → Nat) (ad : Nat → Nat) (cI cZ : ClassId) (sa sv : Nat → Nat) (m_thrown : Int32) (m_size : Int32) (m_outLong : Int32) (m_lines : Int32) (m_toldLines : Int32) (m_tokens : Int32) (m_places : Int32) (m_p : Int32) (m_pre : Int32) (m_end : Int32) (m_text : Nat → Int32) (m_out : Nat → Int32) (m_lineAt : Nat → Int32) (m_lineLong : Nat → Int32) (m_depth : Nat → Int32) (m_signed : Nat → Int32) (m_led : Nat → Int32) (m_told : Nat → Int32) (m_place : Nat → Int32) (m_begin : Nat → Int32) (m_tokenLong : Nat → Int32) (m_stemLong : Nat → Int32) (m_address : Nat → Int32) (m_letters : Nat → Int32) (m_stems : Nat → Int32) (m_s : Nat → Int32) (x1 : Int32) (x2 : Int32) {post : Int32 → Prop} (h : wpX8_sameStem post m_stemLong m_stems x1 x2) : xMi l (dC, dI) vwCl [(cI, .int), (cZ, .boolean)] (sI sa sv) yX8_sameStem wsX8_sameStem ({ frames := 0, cells := 0, slots := 0, locals := 0 }) (mW ad cI cZ m_thrown m_size m_outLong m_lines m_toldLines m_tokens m_places m_p m_pre m_end m_text m_out m_lineAt m_lineLong m_depth m_signed m_led m_told m_place m_begin m_tokenLong m_stemLong m_address m_letters m_stems m_s) [.ref (ad 0), .int x1, .int x2] (fun (r : Int32) (u : Unit) => post r ) (fun u : Unit => (mW ad cI cZ m_thrown m_size m_outLong m_lines m_toldLines m_tokens m_places m_p m_pre m_end m_text m_out m_lineAt m_lineLong m_depth m_signed m_led m_told m_place m_begin m_tokenLong m_stemLong m_address m_letters m_stems m_s)) := by
  intro sz
  refine Met.ofW (cc := cX8_sameStem) (maxL := 4) (ret := (some .boolean)) (by decide) rfl ?_
  intro p e s m args below meth c s₁ B hml hv
  obtain ⟨rfl, hsz, hP, hK, hD0, hI⟩ := hv
  have hx := B.exec
  have hb := B.bytes
  have hr := B.returns
  have hts := atoms_spec (ws := wsX8_sameStem) B.pre
  have hown : s.vm.findClass RX8 = some m.cls := findClass_of_methodNamed B.named
  have hlocks := B.notSynchronized
  subst hsz
  have hD := hD0.self (sz := s.heap.size)
  generalize hAe : va_A (mW ad cI cZ m_thrown m_size m_outLong m_lines m_toldLines m_tokens m_places m_p m_pre m_end m_text m_out m_lineAt m_lineLong m_depth m_signed m_led m_told m_place m_begin m_tokenLong m_stemLong m_address m_letters m_stems m_s) s.heap.size = A at hD hI ⊢
  have hA : ∀ q : Nat, s.heap.size ≤ q → A q := fun q h => by rw [← hAe]; exact Or.inr h
  have hS : va_S A s.heap s.heap [] := va_S.rf
  have Fx : CallFix p m c cX8_sameStem 4 s ([.ref (ad 0), .int x1, .int x2] : List Value).toArray wsX8_sameStem RX8 := ⟨hx, hb, hml, hown, hts⟩
  have hQ : ∀ (r : Int32) (u : Unit) (t : State), (fun (r : Int32) (u : Unit) => post r ) r u → va_P (dC, dI) vwCl ((fun u : Unit => (mW ad cI cZ m_thrown m_size m_outLong m_lines m_toldLines m_tokens m_places m_p m_pre m_end m_text m_out m_lineAt m_lineLong m_depth m_signed m_led m_told m_place m_begin m_tokenLong m_stemLong m_address m_letters m_stems m_s)) u) t.heap → va_K (dC, dI) vwCl [(cI, .int), (cZ, .boolean)] t → va_D A ((fun u : Unit => (mW ad cI cZ m_thrown m_size m_outLong m_lines m_toldLines m_tokens m_places m_p m_pre m_end m_text m_out m_lineAt m_lineLong m_depth m_signed m_led m_told m_place m_begin m_tokenLong m_stemLong m_address m_letters m_stems m_s)) u) → va_F A s t → (va_Qi (fun (r : Int32) (u : Unit) => post r ) (xB (dC, dI) vwCl [(cI, .int), (cZ, .boolean)] A (fun u : Unit => (mW ad cI cZ m_thrown m_size m_outLong m_lines m_toldLines m_tokens m_places m_p m_pre m_end m_text m_out m_lineAt m_lineLong m_depth m_signed m_led m_told m_place m_begin m_tokenLong m_stemLong m_address m_letters m_stems m_s))) A) ([.ref (ad 0), .int x1, .int x2] : List Value).toArray s (.returned (some (.int r))) t := fun r u t h1 h2 h3 h4 h5 => ⟨⟨r, u, rfl, h1, h2, h3, h4⟩, h5⟩
  generalize (va_Qi (fun (r : Int32) (u : Unit) => post r ) (xB (dC, dI) vwCl [(cI, .int), (cZ, .boolean)] A (fun u : Unit => (mW ad cI cZ m_thrown m_size m_outLong m_lines m_toldLines m_tokens m_places m_p m_pre m_end m_text m_out m_lineAt m_lineLong m_depth m_signed m_led m_told m_place m_begin m_tokenLong m_stemLong m_address m_letters m_stems m_s))) A) = Qc at hQ ⊢
  have hl := lv_entry ([.ref (ad 0), .int x1, .int x2]) (n := 4) (Nat.le_of_ble_eq_true rfl)
  rw [lg_entry_eq]
  generalize (lg_sl ([.ref (ad 0), .int x1, .int x2]) ++ List.replicate (4 - (lg_sl ([.ref (ad 0), .int x1, .int x2])).length) Slot.unset).toArray = ls at hl ⊢
  have hl : lv_has ls 4 [(0, .ref (ad 0)), (1, .int x1), (2, .int x2)] := hl
  refine (fun (key : ∀ (H : Heap) (locs : List Loc), va_P (dC, dI) vwCl (mW ad cI cZ m_thrown m_size m_outLong m_lines m_toldLines m_tokens m_places m_p m_pre m_end m_text m_out m_lineAt m_lineLong m_depth m_signed m_led m_told m_place m_begin m_tokenLong m_stemLong m_address m_letters m_stems m_s) H → va_D A (mW ad cI cZ m_thrown m_size m_outLong m_lines m_toldLines m_tokens m_places m_p m_pre m_end m_text m_out m_lineAt m_lineLong m_depth m_signed m_led m_told m_place m_begin m_tokenLong m_stemLong m_address m_letters m_stems m_s) → va_S A s.heap H locs → W p l e (headSpec wsX8_sameStem ({ frames := 0, cells := 0, slots := 0, locals := 0 })).room s m ([.ref (ad 0), .int x1, .int x2] : List Value).toArray below meth c H locs 0 0 (MQ below Qc ([.ref (ad 0), .int x1, .int x2] : List Value).toArray s 0 0 A) (F0 m 0 ls [])) => key _ _ hP hD hS) ?_
  have inX8 : ∀ w ∈ wsX80, w ∈ wsX8_sameStem := (fun _ h9 => List.mem_cons_of_mem _ (List.mem_append_right _ h9))
  have L19 : ∀ (n : Nat) (x3 : Int32) (H : Heap) (locs : List Loc) (ls : Array Slot), lv_has ls 4 [(0, .ref (ad 0)), (1, .int x1), (2, .int x2), (3, .int x3)] → va_P (dC, dI) vwCl (mW ad cI cZ m_thrown m_size m_outLong m_lines m_toldLines m_tokens m_places m_p m_pre m_end m_text m_out m_lineAt m_lineLong m_depth m_signed m_led m_told m_place m_begin m_tokenLong m_stemLong m_address m_letters m_stems m_s) H → va_D A (mW ad cI cZ m_thrown m_size m_outLong m_lines m_toldLines m_tokens m_places m_p m_pre m_end m_text m_out m_lineAt m_lineLong m_depth m_signed m_led m_told m_place m_begin m_tokenLong m_stemLong m_address m_letters m_stems m_s) → va_S A s.heap H locs → wlX8_sameStem_19 post m_stemLong m_stems x1 x2 n x3 → W p l e (headSpec wsX8_sameStem ({ frames := 0, cells := 0, slots := 0, locals := 0 })).room s m ([.ref (ad 0), .int x1, .int x2] : List Value).toArray below meth c H locs 0 0 (MQ below Qc ([.ref (ad 0), .int x1, .int x2] : List Value).toArray s 0 0 A) (F0 m 19 ls []) := by
    intro n
    induction n with
    | zero => intro x3 H locs ls _ _ _ _ h; exact absurd h (fun z => z)
    | succ n19 ih19 =>
      intro x3 H locs ls hl hP hD hS h
      rw [wlX8_sameStem_19] at h
      refine lv_iload_n hx hb dX8_sameStem_19 rfl (lv_at hl 3 rfl) ?_
      refine lv_aload_n hx hb dX8_sameStem_20 rfl (lv_at hl 0 rfl) ?_
      refine va_get (D := (dC, dI)) (ci := 7) (v := .ref (ad 12)) (C := RX8) (T := TX8) (N := 26) hx hb hts inX8 hown hK hP 0 rfl rfl 18 (by decide) (hts (.fieldLink RX8 44 "MailWordsModel" "stemLong" "[I") (List.mem_of_getElem? (i := 1) rfl)) (fun _ h9 => h9) rfl dX8_sameStem_21 ?_
      refine lv_iload_n hx hb dX8_sameStem_24 rfl (lv_at hl 1 rfl) ?_
      have hi9 := h.1
      have h := h.2
      refine va_iald hx hb hK hP 12 0 rfl rfl hi9 dX8_sameStem_25 ?_
      refine lv_icmp_ge (tgt := 62) hx hb dX8_sameStem_26 (by decide) (fun c9 => ?_) (fun c9 => ?_)
      · have h := h.1 c9
        refine lv_iconst (v := 1) hx hb dX8_sameStem_62 (by decide) ?_
        exact W.zret (v := 1) hx hb hr (bN_nar bN1) (fun t ht hW => hQ 1 () t h (by rw [ht]; exact hP) (va_K.moved hW.alike hK) hD (hS.F ht)) hS.2.2 dX8_sameStem_63
      · have h := h.2 c9
        refine lv_aload_n hx hb dX8_sameStem_29 rfl (lv_at hl 0 rfl) ?_
        refine va_get (D := (dC, dI)) (ci := 7) (v := .ref (ad 15)) (C := RX8) (T := TX8) (N := 26) hx hb hts inX8 hown hK hP 0 rfl rfl 21 (by decide) (hts (.fieldLink RX8 54 "MailWordsModel" "stems" "[I") (List.mem_of_getElem? (i := 2) rfl)) (fun _ h9 => h9) rfl dX8_sameStem_30 ?_
        refine lv_bipush (v := 30) hx hb dX8_sameStem_33 (by decide) ?_
        refine lv_iload_n hx hb dX8_sameStem_35 rfl (lv_at hl 1 rfl) ?_
        refine lv_imul hx hb dX8_sameStem_36 ?_
        refine lv_iload_n hx hb dX8_sameStem_37 rfl (lv_at hl 3 rfl) ?_
        refine lv_iadd hx hb dX8_sameStem_38 ?_
        have hi9 := h.1
        have h := h.2
        refine va_iald hx hb hK hP 15 0 rfl rfl hi9 dX8_sameStem_39 ?_
        refine lv_aload_n hx hb dX8_sameStem_40 rfl (lv_at hl 0 rfl) ?_
        refine va_get (D := (dC, dI)) (ci := 7) (v := .ref (ad 15)) (C := RX8) (T := TX8) (N := 26) hx hb hts inX8 hown hK hP 0 rfl rfl 21 (by decide) (hts (.fieldLink RX8 54 "MailWordsModel" "stems" "[I") (List.mem_of_getElem? (i := 2) rfl)) (fun _ h9 => h9) rfl dX8_sameStem_41 ?_
        refine lv_bipush (v := 30) hx hb dX8_sameStem_44 (by decide) ?_
        refine lv_iload_n hx hb dX8_sameStem_46 rfl (lv_at hl 2 rfl) ?_
        refine lv_imul hx hb dX8_sameStem_47 ?_
        refine lv_iload_n hx hb dX8_sameStem_48 rfl (lv_at hl 3 rfl) ?_
        refine lv_iadd hx hb dX8_sameStem_49 ?_
        have hi9 := h.1
        have h := h.2
        refine va_iald hx hb hK hP 15 0 rfl rfl hi9 dX8_sameStem_50 ?_
        refine lv_icmp_eq (tgt := 56) hx hb dX8_sameStem_51 (by decide) (fun c9 => ?_) (fun c9 => ?_)
        · have h := h.1 c9
          obtain ⟨x3_1, ex3_1⟩ : ∃ y : Int32, y = x3 + 1 := ⟨_, rfl⟩
          have h := h x3_1 ex3_1
          refine lv_iinc (v := x3_1) (lv' := [(3, .int x3_1), (0, .ref (ad 0)), (1, .int x1), (2, .int x2)]) hx hb dX8_sameStem_56 hl (k := 3) rfl (by rw [ex3_1]; rfl) (by decide) rfl (fun ls hl => ?_)
          refine lv_goto (tgt := 19) hx hb dX8_sameStem_59 (by decide) ?_
          exact ih19 x3_1 H locs ls (lv_sub hl [1, 2, 3, 0] rfl) hP hD hS h
        · have h := h.2 c9
          refine lv_iconst (v := 0) hx hb dX8_sameStem_54 (by decide) ?_
          exact W.zret (v := 0) hx hb hr (bN_nar bN0) (fun t ht hW => hQ 0 () t h (by rw [ht]; exact hP) (va_K.moved hW.alike hK) hD (hS.F ht)) hS.2.2 dX8_sameStem_55
  intro H locs hP hD hS
  delta wpX8_sameStem at h
  refine lv_aload_n hx hb dX8_sameStem_0 rfl (lv_at hl 0 rfl) ?_
  refine va_get (D := (dC, dI)) (ci := 7) (v := .ref (ad 12)) (C := RX8) (T := TX8) (N := 26) hx hb hts inX8 hown hK hP 0 rfl rfl 18 (by decide) (hts (.fieldLink RX8 44 "MailWordsModel" "stemLong" "[I") (List.mem_of_getElem? (i := 1) rfl)) (fun _ h9 => h9) rfl dX8_sameStem_1 ?_
  refine lv_iload_n hx hb dX8_sameStem_4 rfl (lv_at hl 1 rfl) ?_
  have hi9 := h.1
  have h := h.2
  refine va_iald hx hb hK hP 12 0 rfl rfl hi9 dX8_sameStem_5 ?_
  refine lv_aload_n hx hb dX8_sameStem_6 rfl (lv_at hl 0 rfl) ?_
  refine va_get (D := (dC, dI)) (ci := 7) (v := .ref (ad 12)) (C := RX8) (T := TX8) (N := 26) hx hb hts inX8 hown hK hP 0 rfl rfl 18 (by decide) (hts (.fieldLink RX8 44 "MailWordsModel" "stemLong" "[I") (List.mem_of_getElem? (i := 1) rfl)) (fun _ h9 => h9) rfl dX8_sameStem_7 ?_
  refine lv_iload_n hx hb dX8_sameStem_10 rfl (lv_at hl 2 rfl) ?_
  have hi9 := h.1
  have h := h.2
  refine va_iald hx hb hK hP 12 0 rfl rfl hi9 dX8_sameStem_11 ?_
  refine lv_icmp_eq (tgt := 17) hx hb dX8_sameStem_12 (by decide) (fun c9 => ?_) (fun c9 => ?_)
  · have h := h.1 c9
    refine lv_iconst (v := 0) hx hb dX8_sameStem_17 (by decide) ?_
    refine lv_istore_n (lv' := [(3, .int 0), (0, .ref (ad 0)), (1, .int x1), (2, .int x2)]) hx hb dX8_sameStem_18 rfl hl (by decide) rfl (fun ls hl => ?_)
    obtain ⟨n, h⟩ := h
    exact L19  n 0 H locs ls (lv_sub hl [1, 2, 3, 0] rfl) hP hD hS h
  · have h := h.2 c9
    refine lv_iconst (v := 0) hx hb dX8_sameStem_15 (by decide) ?_
    exact W.zret (v := 0) hx hb hr (bN_nar bN0) (fun t ht hW => hQ 0 () t h (by rw [ht]; exact hP) (va_K.moved hW.alike hK) hD (hS.F ht)) hS.2.2 dX8_sameStem_16
set_option maxHeartbeats 4000000 in
set_option maxRecDepth 100000 in
theorem sX8_different (l : Launch) (dC : Nat → ClassId) (dI : Nat → Nat → Nat) (ad : Nat → Nat) (cI cZ : ClassId) (sa sv : Nat → Nat) (m_thrown : Int32) (m_size : Int32) (m_outLong : Int32) (m_lines : Int32) (m_toldLines : Int32) (m_tokens : Int32) (m_places : Int32) (m_p : Int32) (m_pre : Int32) (m_end : Int32) (m_text : Nat → Int32) (m_out : Nat → Int32) (m_lineAt : Nat → Int32) (m_lineLong : Nat → Int32) (m_depth : Nat → Int32) (m_signed : Nat → Int32) (m_led : Nat → Int32) (m_told : Nat → Int32) (m_place : Nat → Int32) (m_begin : Nat → Int32) (m_tokenLong : Nat → Int32) (m_stemLong : Nat → Int32) (m_address : Nat → Int32) (m_letters : Nat → Int32) (m_stems : Nat → Int32) (m_s : Nat → Int32)  {post : Int32 → Int32 → Prop} (h : wpX8_different post m_thrown m_tokens m_stemLong m_address m_stems) : xMi l (dC, dI) vwCl [(cI, .int), (cZ, .boolean)] (sI sa sv) yX8_different wsX8_different ({ frames := 1, cells := 0, slots := 0, locals := 23 }) (mW ad cI cZ m_thrown m_size m_outLong m_lines m_toldLines m_tokens m_places m_p m_pre m_end m_text m_out m_lineAt m_lineLong m_depth m_signed m_led m_told m_place m_begin m_tokenLong m_stemLong m_address m_letters m_stems m_s) [.ref (ad 0)] (fun (r : Int32) (u : Int32) => post r u) (fun u : Int32 => (mW ad cI cZ u m_size m_outLong m_lines m_toldLines m_tokens m_places m_p m_pre m_end m_text m_out m_lineAt m_lineLong m_depth m_signed m_led m_told m_place m_begin m_tokenLong m_stemLong m_address m_letters m_stems m_s)) := by
  intro sz
  refine Met.ofW (cc := cX8_different) (maxL := 5) (ret := (some .int)) (by decide) rfl ?_
  intro p e s m args below meth c s₁ B hml hv
  obtain ⟨rfl, hsz, hP, hK, hD0, hI⟩ := hv
  have hx := B.exec
  have hb := B.bytes
  have hr := B.returns
  have hts := atoms_spec (ws := wsX8_different) B.pre
  have hown : s.vm.findClass RX8 = some m.cls := findClass_of_methodNamed B.named
  have hlocks := B.notSynchronized
  subst hsz
  have hD := hD0.self (sz := s.heap.size)
  generalize hAe : va_A (mW ad cI cZ m_thrown m_size m_outLong m_lines m_toldLines m_tokens m_places m_p m_pre m_end m_text m_out m_lineAt m_lineLong m_depth m_signed m_led m_told m_place m_begin m_tokenLong m_stemLong m_address m_letters m_stems m_s) s.heap.size = A at hD hI ⊢
  have hA : ∀ q : Nat, s.heap.size ≤ q → A q := fun q h => by rw [← hAe]; exact Or.inr h
  have hS : va_S A s.heap s.heap [] := va_S.rf
  have Fx : CallFix p m c cX8_different 5 s ([.ref (ad 0)] : List Value).toArray wsX8_different RX8 := ⟨hx, hb, hml, hown, hts⟩
  have hQ : ∀ (r : Int32) (u : Int32) (t : State), (fun (r : Int32) (u : Int32) => post r u) r u → va_P (dC, dI) vwCl ((fun u : Int32 => (mW ad cI cZ u m_size m_outLong m_lines m_toldLines m_tokens m_places m_p m_pre m_end m_text m_out m_lineAt m_lineLong m_depth m_signed m_led m_told m_place m_begin m_tokenLong m_stemLong m_address m_letters m_stems m_s)) u) t.heap → va_K (dC, dI) vwCl [(cI, .int), (cZ, .boolean)] t → va_D A ((fun u : Int32 => (mW ad cI cZ u m_size m_outLong m_lines m_toldLines m_tokens m_places m_p m_pre m_end m_text m_out m_lineAt m_lineLong m_depth m_signed m_led m_told m_place m_begin m_tokenLong m_stemLong m_address m_letters m_stems m_s)) u) → va_F A s t → (va_Qi (fun (r : Int32) (u : Int32) => post r u) (xB (dC, dI) vwCl [(cI, .int), (cZ, .boolean)] A (fun u : Int32 => (mW ad cI cZ u m_size m_outLong m_lines m_toldLines m_tokens m_places m_p m_pre m_end m_text m_out m_lineAt m_lineLong m_depth m_signed m_led m_told m_place m_begin m_tokenLong m_stemLong m_address m_letters m_stems m_s))) A) ([.ref (ad 0)] : List Value).toArray s (.returned (some (.int r))) t := fun r u t h1 h2 h3 h4 h5 => ⟨⟨r, u, rfl, h1, h2, h3, h4⟩, h5⟩
  generalize (va_Qi (fun (r : Int32) (u : Int32) => post r u) (xB (dC, dI) vwCl [(cI, .int), (cZ, .boolean)] A (fun u : Int32 => (mW ad cI cZ u m_size m_outLong m_lines m_toldLines m_tokens m_places m_p m_pre m_end m_text m_out m_lineAt m_lineLong m_depth m_signed m_led m_told m_place m_begin m_tokenLong m_stemLong m_address m_letters m_stems m_s))) A) = Qc at hQ ⊢
  have hl := lv_entry ([.ref (ad 0)]) (n := 5) (Nat.le_of_ble_eq_true rfl)
  rw [lg_entry_eq]
  generalize (lg_sl ([.ref (ad 0)]) ++ List.replicate (5 - (lg_sl ([.ref (ad 0)])).length) Slot.unset).toArray = ls at hl ⊢
  have hl : lv_has ls 5 [(0, .ref (ad 0))] := hl
  refine (fun (key : ∀ (H : Heap) (locs : List Loc), va_P (dC, dI) vwCl (mW ad cI cZ m_thrown m_size m_outLong m_lines m_toldLines m_tokens m_places m_p m_pre m_end m_text m_out m_lineAt m_lineLong m_depth m_signed m_led m_told m_place m_begin m_tokenLong m_stemLong m_address m_letters m_stems m_s) H → va_D A (mW ad cI cZ m_thrown m_size m_outLong m_lines m_toldLines m_tokens m_places m_p m_pre m_end m_text m_out m_lineAt m_lineLong m_depth m_signed m_led m_told m_place m_begin m_tokenLong m_stemLong m_address m_letters m_stems m_s) → va_S A s.heap H locs → W p l e (headSpec wsX8_different ({ frames := 1, cells := 0, slots := 0, locals := 23 })).room s m ([.ref (ad 0)] : List Value).toArray below meth c H locs 0 0 (MQ below Qc ([.ref (ad 0)] : List Value).toArray s 0 0 A) (F0 m 0 ls [])) => key _ _ hP hD hS) ?_
  have inX8 : ∀ w ∈ wsX80, w ∈ wsX8_different := (fun _ h9 => List.mem_cons_of_mem _ (List.mem_append_right _ h9))
  have L9 : ∀ (m_thrown : Int32) (n : Nat) (x1 : Int32) (x2 : Int32) (H : Heap) (locs : List Loc) (ls : Array Slot), lv_has ls 5 [(0, .ref (ad 0)), (1, .int x1), (2, .int x2)] → va_P (dC, dI) vwCl (mW ad cI cZ m_thrown m_size m_outLong m_lines m_toldLines m_tokens m_places m_p m_pre m_end m_text m_out m_lineAt m_lineLong m_depth m_signed m_led m_told m_place m_begin m_tokenLong m_stemLong m_address m_letters m_stems m_s) H → va_D A (mW ad cI cZ m_thrown m_size m_outLong m_lines m_toldLines m_tokens m_places m_p m_pre m_end m_text m_out m_lineAt m_lineLong m_depth m_signed m_led m_told m_place m_begin m_tokenLong m_stemLong m_address m_letters m_stems m_s) → va_S A s.heap H locs → wlX8_different_9 post m_tokens m_stemLong m_address m_stems m_thrown n x1 x2 → W p l e (headSpec wsX8_different ({ frames := 1, cells := 0, slots := 0, locals := 23 })).room s m ([.ref (ad 0)] : List Value).toArray below meth c H locs 0 0 (MQ below Qc ([.ref (ad 0)] : List Value).toArray s 0 0 A) (F0 m 9 ls []) := by
    intro m_thrown
    intro n
    induction n with
    | zero => intro x1 x2 H locs ls _ _ _ _ h; exact absurd h (fun z => z)
    | succ n9 ih9 =>
      intro x1 x2 H locs ls hl hP hD hS h
      have J80 : ∀ (x1 : Int32) (x2 : Int32) (H : Heap) (locs : List Loc) (ls : Array Slot), lv_has ls 5 [(0, .ref (ad 0)), (1, .int x1), (2, .int x2)] → va_P (dC, dI) vwCl (mW ad cI cZ m_thrown m_size m_outLong m_lines m_toldLines m_tokens m_places m_p m_pre m_end m_text m_out m_lineAt m_lineLong m_depth m_signed m_led m_told m_place m_begin m_tokenLong m_stemLong m_address m_letters m_stems m_s) H → va_D A (mW ad cI cZ m_thrown m_size m_outLong m_lines m_toldLines m_tokens m_places m_p m_pre m_end m_text m_out m_lineAt m_lineLong m_depth m_signed m_led m_told m_place m_begin m_tokenLong m_stemLong m_address m_letters m_stems m_s) → va_S A s.heap H locs → wjX8_different_80 (fun x1 x2 => wlX8_different_9 post m_tokens m_stemLong m_address m_stems m_thrown n9 x1 x2) post m_tokens m_stemLong m_address m_stems m_thrown x1 x2 → W p l e (headSpec wsX8_different ({ frames := 1, cells := 0, slots := 0, locals := 23 })).room s m ([.ref (ad 0)] : List Value).toArray below meth c H locs 0 0 (MQ below Qc ([.ref (ad 0)] : List Value).toArray s 0 0 A) (F0 m 80 ls []) := by
        intro x1 x2 H locs ls hl hP hD hS h
        delta wjX8_different_80 at h
        obtain ⟨x2_1, ex2_1⟩ : ∃ y : Int32, y = x2 + 1 := ⟨_, rfl⟩
        have h := h x2_1 ex2_1
        refine lv_iinc (v := x2_1) (lv' := [(2, .int x2_1), (0, .ref (ad 0)), (1, .int x1)]) hx hb dX8_different_80 hl (k := 2) rfl (by rw [ex2_1]; rfl) (by decide) rfl (fun ls hl => ?_)
        refine lv_goto (tgt := 9) hx hb dX8_different_83 (by decide) ?_
        exact ih9 x1 x2_1 H locs ls (lv_sub hl [1, 2, 0] rfl) hP hD hS h
      have J73 : ∀ (x1 : Int32) (x2 : Int32) (x3 : Int32) (H : Heap) (locs : List Loc) (ls : Array Slot), lv_has ls 5 [(0, .ref (ad 0)), (1, .int x1), (2, .int x2), (3, .int x3)] → va_P (dC, dI) vwCl (mW ad cI cZ m_thrown m_size m_outLong m_lines m_toldLines m_tokens m_places m_p m_pre m_end m_text m_out m_lineAt m_lineLong m_depth m_signed m_led m_told m_place m_begin m_tokenLong m_stemLong m_address m_letters m_stems m_s) H → va_D A (mW ad cI cZ m_thrown m_size m_outLong m_lines m_toldLines m_tokens m_places m_p m_pre m_end m_text m_out m_lineAt m_lineLong m_depth m_signed m_led m_told m_place m_begin m_tokenLong m_stemLong m_address m_letters m_stems m_s) → va_S A s.heap H locs → wjX8_different_73 (fun x1 x2 => wlX8_different_9 post m_tokens m_stemLong m_address m_stems m_thrown n9 x1 x2) post m_tokens m_stemLong m_address m_stems m_thrown x1 x2 x3 → W p l e (headSpec wsX8_different ({ frames := 1, cells := 0, slots := 0, locals := 23 })).room s m ([.ref (ad 0)] : List Value).toArray below meth c H locs 0 0 (MQ below Qc ([.ref (ad 0)] : List Value).toArray s 0 0 A) (F0 m 73 ls []) := by
        intro x1 x2 x3 H locs ls hl hP hD hS h
        delta wjX8_different_73 at h
        refine lv_iload_n hx hb dX8_different_73 rfl (lv_at hl 3 rfl) ?_
        refine lv_if_eq (tgt := 80) hx hb dX8_different_74 (by decide) (fun c9 => ?_) (fun c9 => ?_)
        · have h := h.1 c9
          exact J80 x1 x2 H locs ls (lv_sub hl [0, 1, 2] rfl) hP hD hS h
        · have h := h.2 c9
          obtain ⟨x1_2, ex1_2⟩ : ∃ y : Int32, y = x1 + 1 := ⟨_, rfl⟩
          have h := h x1_2 ex1_2
          refine lv_iinc (v := x1_2) (lv' := [(1, .int x1_2), (0, .ref (ad 0)), (2, .int x2), (3, .int x3)]) hx hb dX8_different_77 hl (k := 1) rfl (by rw [ex1_2]; rfl) (by decide) rfl (fun ls hl => ?_)
          exact J80 x1_2 x2 H locs ls (lv_sub hl [1, 0, 2] rfl) hP hD hS h
      have L35 : ∀ (x1 : Int32) (x2 : Int32) (n : Nat) (x3 : Int32) (x4 : Int32) (H : Heap) (locs : List Loc) (ls : Array Slot), lv_has ls 5 [(0, .ref (ad 0)), (1, .int x1), (2, .int x2), (3, .int x3), (4, .int x4)] → va_P (dC, dI) vwCl (mW ad cI cZ m_thrown m_size m_outLong m_lines m_toldLines m_tokens m_places m_p m_pre m_end m_text m_out m_lineAt m_lineLong m_depth m_signed m_led m_told m_place m_begin m_tokenLong m_stemLong m_address m_letters m_stems m_s) H → va_D A (mW ad cI cZ m_thrown m_size m_outLong m_lines m_toldLines m_tokens m_places m_p m_pre m_end m_text m_out m_lineAt m_lineLong m_depth m_signed m_led m_told m_place m_begin m_tokenLong m_stemLong m_address m_letters m_stems m_s) → va_S A s.heap H locs → wlX8_different_35 (fun x1 x2 => wlX8_different_9 post m_tokens m_stemLong m_address m_stems m_thrown n9 x1 x2) post m_tokens m_stemLong m_address m_stems m_thrown x1 x2 n x3 x4 → W p l e (headSpec wsX8_different ({ frames := 1, cells := 0, slots := 0, locals := 23 })).room s m ([.ref (ad 0)] : List Value).toArray below meth c H locs 0 0 (MQ below Qc ([.ref (ad 0)] : List Value).toArray s 0 0 A) (F0 m 35 ls []) := by
        intro x1 x2
        intro n
        induction n with
        | zero => intro x3 x4 H locs ls _ _ _ _ h; exact absurd h (fun z => z)
        | succ n35 ih35 =>
          intro x3 x4 H locs ls hl hP hD hS h
          have J67 : ∀ (x3 : Int32) (x4 : Int32) (H : Heap) (locs : List Loc) (ls : Array Slot), lv_has ls 5 [(0, .ref (ad 0)), (1, .int x1), (2, .int x2), (3, .int x3), (4, .int x4)] → va_P (dC, dI) vwCl (mW ad cI cZ m_thrown m_size m_outLong m_lines m_toldLines m_tokens m_places m_p m_pre m_end m_text m_out m_lineAt m_lineLong m_depth m_signed m_led m_told m_place m_begin m_tokenLong m_stemLong m_address m_letters m_stems m_s) H → va_D A (mW ad cI cZ m_thrown m_size m_outLong m_lines m_toldLines m_tokens m_places m_p m_pre m_end m_text m_out m_lineAt m_lineLong m_depth m_signed m_led m_told m_place m_begin m_tokenLong m_stemLong m_address m_letters m_stems m_s) → va_S A s.heap H locs → wjX8_different_67 (fun x3 x4 => wlX8_different_35 (fun x1 x2 => wlX8_different_9 post m_tokens m_stemLong m_address m_stems m_thrown n9 x1 x2) post m_tokens m_stemLong m_address m_stems m_thrown x1 x2 n35 x3 x4) (fun x1 x2 => wlX8_different_9 post m_tokens m_stemLong m_address m_stems m_thrown n9 x1 x2) post m_tokens m_stemLong m_address m_stems m_thrown x1 x2 x3 x4 → W p l e (headSpec wsX8_different ({ frames := 1, cells := 0, slots := 0, locals := 23 })).room s m ([.ref (ad 0)] : List Value).toArray below meth c H locs 0 0 (MQ below Qc ([.ref (ad 0)] : List Value).toArray s 0 0 A) (F0 m 67 ls []) := by
            intro x3 x4 H locs ls hl hP hD hS h
            delta wjX8_different_67 at h
            obtain ⟨x4_3, ex4_3⟩ : ∃ y : Int32, y = x4 + 1 := ⟨_, rfl⟩
            have h := h x4_3 ex4_3
            refine lv_iinc (v := x4_3) (lv' := [(4, .int x4_3), (0, .ref (ad 0)), (1, .int x1), (2, .int x2), (3, .int x3)]) hx hb dX8_different_67 hl (k := 4) rfl (by rw [ex4_3]; rfl) (by decide) rfl (fun ls hl => ?_)
            refine lv_goto (tgt := 35) hx hb dX8_different_70 (by decide) ?_
            exact ih35 x3 x4_3 H locs ls (lv_sub hl [1, 2, 3, 4, 0] rfl) hP hD hS h
          rw [wlX8_different_35] at h
          refine lv_iload hx hb dX8_different_35 (lv_at hl 4 rfl) ?_
          refine lv_iload_n hx hb dX8_different_37 rfl (lv_at hl 2 rfl) ?_
          refine lv_icmp_ge (tgt := 73) hx hb dX8_different_38 (by decide) (fun c9 => ?_) (fun c9 => ?_)
          · have h := h.1 c9
            exact J73 x1 x2 x3 H locs ls (lv_sub hl [0, 1, 2, 3] rfl) hP hD hS h
          · have h := h.2 c9
            refine lv_iload_n hx hb dX8_different_41 rfl (lv_at hl 3 rfl) ?_
            refine lv_if_eq (tgt := 73) hx hb dX8_different_42 (by decide) (fun c9 => ?_) (fun c9 => ?_)
            · have h := h.1 c9
              exact J73 x1 x2 x3 H locs ls (lv_sub hl [0, 1, 2, 3] rfl) hP hD hS h
            · have h := h.2 c9
              refine lv_aload_n hx hb dX8_different_45 rfl (lv_at hl 0 rfl) ?_
              refine va_get (D := (dC, dI)) (ci := 7) (v := .ref (ad 13)) (C := RX8) (T := TX8) (N := 26) hx hb hts inX8 hown hK hP 0 rfl rfl 19 (by decide) (hts (.fieldLink RX8 47 "MailWordsModel" "address" "[Z") (List.mem_of_getElem? (i := 3) rfl)) (fun _ h9 => h9) rfl dX8_different_46 ?_
              refine lv_iload hx hb dX8_different_49 (lv_at hl 4 rfl) ?_
              have hi9 := h.1
              have h := h.2
              refine va_zald hx hb hK hP 13 1 rfl rfl hi9 dX8_different_51 ?_
              refine lv_if_ne (tgt := 67) hx hb dX8_different_52 (by decide) (fun c9 => ?_) (fun c9 => ?_)
              · have h := h.1 c9
                exact J67 x3 x4 H locs ls (lv_sub hl [0, 1, 2, 3, 4] rfl) hP hD hS h
              · have h := h.2 c9
                refine lv_aload_n hx hb dX8_different_55 rfl (lv_at hl 0 rfl) ?_
                refine lv_iload hx hb dX8_different_56 (lv_at hl 4 rfl) ?_
                refine lv_iload_n hx hb dX8_different_58 rfl (lv_at hl 2 rfl) ?_
                refine xc_vi (As := [.int x4, .int x2]) (rest := []) xG Fx (sX8_sameStem l dC dI ad cI cZ sa sv m_thrown m_size m_outLong m_lines m_toldLines m_tokens m_places m_p m_pre m_end m_text m_out m_lineAt m_lineLong m_depth m_signed m_led m_told m_place m_begin m_tokenLong m_stemLong m_address m_letters m_stems m_s x4 x2 h) (cwV 2 hts gX8_different_X8_sameStem rfl rfl rfl hdX8_sameStem ⟨Nat.le_of_ble_eq_true rfl, Nat.le_of_ble_eq_true rfl⟩) (va_recv hK hP (ci := 7) (q0 := 0) rfl rfl) hK hP hD hS hA hI rfl hl.1 rfl (Nat.le_of_ble_eq_true rfl) dX8_different_59 ⟨Nat.zero_le _, Nat.zero_le _⟩ (fun r_4 u H locs h hP hD hS => ?_)
                refine lv_if_eq (tgt := 67) hx hb dX8_different_62 (by decide) (fun c9 => ?_) (fun c9 => ?_)
                · have h := h.1 c9
                  exact J67 x3 x4 H locs ls (lv_sub hl [0, 1, 2, 3, 4] rfl) hP hD hS h
                · have h := h.2 c9
                  refine lv_iconst (v := 0) hx hb dX8_different_65 (by decide) ?_
                  refine lv_istore_n (lv' := [(3, .int 0), (0, .ref (ad 0)), (1, .int x1), (2, .int x2), (4, .int x4)]) hx hb dX8_different_66 rfl hl (by decide) rfl (fun ls hl => ?_)
                  exact J67 0 x4 H locs ls (lv_sub hl [1, 2, 3, 0, 4] rfl) hP hD hS h
      have J31 : ∀ (x1 : Int32) (x2 : Int32) (s0 : Int32) (H : Heap) (locs : List Loc) (ls : Array Slot), lv_has ls 5 [(0, .ref (ad 0)), (1, .int x1), (2, .int x2)] → va_P (dC, dI) vwCl (mW ad cI cZ m_thrown m_size m_outLong m_lines m_toldLines m_tokens m_places m_p m_pre m_end m_text m_out m_lineAt m_lineLong m_depth m_signed m_led m_told m_place m_begin m_tokenLong m_stemLong m_address m_letters m_stems m_s) H → va_D A (mW ad cI cZ m_thrown m_size m_outLong m_lines m_toldLines m_tokens m_places m_p m_pre m_end m_text m_out m_lineAt m_lineLong m_depth m_signed m_led m_told m_place m_begin m_tokenLong m_stemLong m_address m_letters m_stems m_s) → va_S A s.heap H locs → wjX8_different_31 (fun x1 x2 => wlX8_different_9 post m_tokens m_stemLong m_address m_stems m_thrown n9 x1 x2) post m_tokens m_stemLong m_address m_stems m_thrown x1 x2 s0 → W p l e (headSpec wsX8_different ({ frames := 1, cells := 0, slots := 0, locals := 23 })).room s m ([.ref (ad 0)] : List Value).toArray below meth c H locs 0 0 (MQ below Qc ([.ref (ad 0)] : List Value).toArray s 0 0 A) (F0 m 31 ls [.int s0]) := by
        intro x1 x2 s0 H locs ls hl hP hD hS h
        delta wjX8_different_31 at h
        refine lv_istore_n (lv' := [(3, .int s0), (0, .ref (ad 0)), (1, .int x1), (2, .int x2)]) hx hb dX8_different_31 rfl hl (by decide) rfl (fun ls hl => ?_)
        refine lv_iconst (v := 0) hx hb dX8_different_32 (by decide) ?_
        refine lv_istore (lv' := [(4, .int 0), (3, .int s0), (0, .ref (ad 0)), (1, .int x1), (2, .int x2)]) hx hb dX8_different_33 hl (by decide) rfl (fun ls hl => ?_)
        obtain ⟨n, h⟩ := h
        exact L35 x1 x2 n s0 0 H locs ls (lv_sub hl [2, 3, 4, 1, 0] rfl) hP hD hS h
      rw [wlX8_different_9] at h
      refine lv_iload_n hx hb dX8_different_9 rfl (lv_at hl 2 rfl) ?_
      refine lv_aload_n hx hb dX8_different_10 rfl (lv_at hl 0 rfl) ?_
      refine va_get (D := (dC, dI)) (ci := 7) (v := .int m_tokens) (C := RX8) (T := TX8) (N := 26) hx hb hts inX8 hown hK hP 0 rfl rfl 13 (by decide) (hts (.fieldLink RX8 268 "MailWordsModel" "tokens" "I") (List.mem_of_getElem? (i := 2) rfl)) (fun _ h9 => h9) rfl dX8_different_11 ?_
      refine lv_icmp_ge (tgt := 86) hx hb dX8_different_14 (by decide) (fun c9 => ?_) (fun c9 => ?_)
      · have h := h.1 c9
        refine lv_iload_n hx hb dX8_different_86 rfl (lv_at hl 1 rfl) ?_
        exact W.iret (v := x1) hx hb hr (fun t ht hW => hQ x1 m_thrown t h (by rw [ht]; exact hP) (va_K.moved hW.alike hK) hD (hS.F ht)) hS.2.2 dX8_different_87
      · have h := h.2 c9
        refine lv_aload_n hx hb dX8_different_17 rfl (lv_at hl 0 rfl) ?_
        refine va_get (D := (dC, dI)) (ci := 7) (v := .ref (ad 13)) (C := RX8) (T := TX8) (N := 26) hx hb hts inX8 hown hK hP 0 rfl rfl 19 (by decide) (hts (.fieldLink RX8 47 "MailWordsModel" "address" "[Z") (List.mem_of_getElem? (i := 3) rfl)) (fun _ h9 => h9) rfl dX8_different_18 ?_
        refine lv_iload_n hx hb dX8_different_21 rfl (lv_at hl 2 rfl) ?_
        have hi9 := h.1
        have h := h.2
        refine va_zald hx hb hK hP 13 1 rfl rfl hi9 dX8_different_22 ?_
        refine lv_if_ne (tgt := 30) hx hb dX8_different_23 (by decide) (fun c9 => ?_) (fun c9 => ?_)
        · have h := h.1 c9
          refine lv_iconst (v := 0) hx hb dX8_different_30 (by decide) ?_
          exact J31 x1 x2 0 H locs ls (lv_sub hl [0, 1, 2] rfl) hP hD hS h
        · have h := h.2 c9
          refine lv_iconst (v := 1) hx hb dX8_different_26 (by decide) ?_
          refine lv_goto (tgt := 31) hx hb dX8_different_27 (by decide) ?_
          exact J31 x1 x2 1 H locs ls (lv_sub hl [0, 1, 2] rfl) hP hD hS h
  intro H locs hP hD hS
  delta wpX8_different at h
  refine lv_aload_n hx hb dX8_different_0 rfl (lv_at hl 0 rfl) ?_
  refine lv_iconst (v := 0) hx hb dX8_different_1 (by decide) ?_
  refine va_put (D := (dC, dI)) (ci := 7) (v := .int 0) (ty := .int) (C := RX8) (T := TX8) (N := 26) hx hb hts inX8 tyX8 tyX8_ok nmX8 hown hK hP hD hS 0 rfl rfl 0 (by decide) (hts (.fieldLink RX8 60 "MailWordsModel" "thrown" "I") (List.mem_of_getElem? (i := 1) rfl)) (fun _ h9 => h9) rfl (tyX8_ok 0 (by decide)) rfl rfl (Nat.le_of_ble_eq_true rfl) dX8_different_2 (fun H locs hP hD hS => ?_)
  have hP : va_P (dC, dI) vwCl (mW ad cI cZ 0 m_size m_outLong m_lines m_toldLines m_tokens m_places m_p m_pre m_end m_text m_out m_lineAt m_lineLong m_depth m_signed m_led m_told m_place m_begin m_tokenLong m_stemLong m_address m_letters m_stems m_s) H := hP
  have hD : va_D A (mW ad cI cZ 0 m_size m_outLong m_lines m_toldLines m_tokens m_places m_p m_pre m_end m_text m_out m_lineAt m_lineLong m_depth m_signed m_led m_told m_place m_begin m_tokenLong m_stemLong m_address m_letters m_stems m_s) := hD
  refine lv_iconst (v := 0) hx hb dX8_different_5 (by decide) ?_
  refine lv_istore_n (lv' := [(1, .int 0), (0, .ref (ad 0))]) hx hb dX8_different_6 rfl hl (by decide) rfl (fun ls hl => ?_)
  refine lv_iconst (v := 0) hx hb dX8_different_7 (by decide) ?_
  refine lv_istore_n (lv' := [(2, .int 0), (1, .int 0), (0, .ref (ad 0))]) hx hb dX8_different_8 rfl hl (by decide) rfl (fun ls hl => ?_)
  obtain ⟨n, h⟩ := h
  exact L9 0 n 0 0 H locs ls (lv_sub hl [2, 1, 0] rfl) hP hD hS h
set_option maxHeartbeats 4000000 in
set_option maxRecDepth 100000 in
theorem sX8_often (l : Launch) (dC : Nat → ClassId) (dI : Nat → Nat → Nat) (ad : Nat → Nat) (cI cZ : ClassId) (sa sv : Nat → Nat) (m_thrown : Int32) (m_size : Int32) (m_outLong : Int32) (m_lines : Int32) (m_toldLines : Int32) (m_tokens : Int32) (m_places : Int32) (m_p : Int32) (m_pre : Int32) (m_end : Int32) (m_text : Nat → Int32) (m_out : Nat → Int32) (m_lineAt : Nat → Int32) (m_lineLong : Nat → Int32) (m_depth : Nat → Int32) (m_signed : Nat → Int32) (m_led : Nat → Int32) (m_told : Nat → Int32) (m_place : Nat → Int32) (m_begin : Nat → Int32) (m_tokenLong : Nat → Int32) (m_stemLong : Nat → Int32) (m_address : Nat → Int32) (m_letters : Nat → Int32) (m_stems : Nat → Int32) (m_s : Nat → Int32) (x1 : Int32) {post : Int32 → Int32 → Prop} (h : wpX8_often post m_thrown m_tokens m_stemLong m_address m_stems x1) : xMi l (dC, dI) vwCl [(cI, .int), (cZ, .boolean)] (sI sa sv) yX8_often wsX8_often ({ frames := 1, cells := 0, slots := 0, locals := 23 }) (mW ad cI cZ m_thrown m_size m_outLong m_lines m_toldLines m_tokens m_places m_p m_pre m_end m_text m_out m_lineAt m_lineLong m_depth m_signed m_led m_told m_place m_begin m_tokenLong m_stemLong m_address m_letters m_stems m_s) [.ref (ad 0), .int x1] (fun (r : Int32) (u : Int32) => post r u) (fun u : Int32 => (mW ad cI cZ u m_size m_outLong m_lines m_toldLines m_tokens m_places m_p m_pre m_end m_text m_out m_lineAt m_lineLong m_depth m_signed m_led m_told m_place m_begin m_tokenLong m_stemLong m_address m_letters m_stems m_s)) := by
  intro sz
  refine Met.ofW (cc := cX8_often) (maxL := 4) (ret := (some .int)) (by decide) rfl ?_
  intro p e s m args below meth c s₁ B hml hv
  obtain ⟨rfl, hsz, hP, hK, hD0, hI⟩ := hv
  have hx := B.exec
  have hb := B.bytes
  have hr := B.returns
  have hts := atoms_spec (ws := wsX8_often) B.pre
  have hown : s.vm.findClass RX8 = some m.cls := findClass_of_methodNamed B.named
  have hlocks := B.notSynchronized
  subst hsz
  have hD := hD0.self (sz := s.heap.size)
  generalize hAe : va_A (mW ad cI cZ m_thrown m_size m_outLong m_lines m_toldLines m_tokens m_places m_p m_pre m_end m_text m_out m_lineAt m_lineLong m_depth m_signed m_led m_told m_place m_begin m_tokenLong m_stemLong m_address m_letters m_stems m_s) s.heap.size = A at hD hI ⊢
  have hA : ∀ q : Nat, s.heap.size ≤ q → A q := fun q h => by rw [← hAe]; exact Or.inr h
  have hS : va_S A s.heap s.heap [] := va_S.rf
  have Fx : CallFix p m c cX8_often 4 s ([.ref (ad 0), .int x1] : List Value).toArray wsX8_often RX8 := ⟨hx, hb, hml, hown, hts⟩
  have hQ : ∀ (r : Int32) (u : Int32) (t : State), (fun (r : Int32) (u : Int32) => post r u) r u → va_P (dC, dI) vwCl ((fun u : Int32 => (mW ad cI cZ u m_size m_outLong m_lines m_toldLines m_tokens m_places m_p m_pre m_end m_text m_out m_lineAt m_lineLong m_depth m_signed m_led m_told m_place m_begin m_tokenLong m_stemLong m_address m_letters m_stems m_s)) u) t.heap → va_K (dC, dI) vwCl [(cI, .int), (cZ, .boolean)] t → va_D A ((fun u : Int32 => (mW ad cI cZ u m_size m_outLong m_lines m_toldLines m_tokens m_places m_p m_pre m_end m_text m_out m_lineAt m_lineLong m_depth m_signed m_led m_told m_place m_begin m_tokenLong m_stemLong m_address m_letters m_stems m_s)) u) → va_F A s t → (va_Qi (fun (r : Int32) (u : Int32) => post r u) (xB (dC, dI) vwCl [(cI, .int), (cZ, .boolean)] A (fun u : Int32 => (mW ad cI cZ u m_size m_outLong m_lines m_toldLines m_tokens m_places m_p m_pre m_end m_text m_out m_lineAt m_lineLong m_depth m_signed m_led m_told m_place m_begin m_tokenLong m_stemLong m_address m_letters m_stems m_s))) A) ([.ref (ad 0), .int x1] : List Value).toArray s (.returned (some (.int r))) t := fun r u t h1 h2 h3 h4 h5 => ⟨⟨r, u, rfl, h1, h2, h3, h4⟩, h5⟩
  generalize (va_Qi (fun (r : Int32) (u : Int32) => post r u) (xB (dC, dI) vwCl [(cI, .int), (cZ, .boolean)] A (fun u : Int32 => (mW ad cI cZ u m_size m_outLong m_lines m_toldLines m_tokens m_places m_p m_pre m_end m_text m_out m_lineAt m_lineLong m_depth m_signed m_led m_told m_place m_begin m_tokenLong m_stemLong m_address m_letters m_stems m_s))) A) = Qc at hQ ⊢
  have hl := lv_entry ([.ref (ad 0), .int x1]) (n := 4) (Nat.le_of_ble_eq_true rfl)
  rw [lg_entry_eq]
  generalize (lg_sl ([.ref (ad 0), .int x1]) ++ List.replicate (4 - (lg_sl ([.ref (ad 0), .int x1])).length) Slot.unset).toArray = ls at hl ⊢
  have hl : lv_has ls 4 [(0, .ref (ad 0)), (1, .int x1)] := hl
  refine (fun (key : ∀ (H : Heap) (locs : List Loc), va_P (dC, dI) vwCl (mW ad cI cZ m_thrown m_size m_outLong m_lines m_toldLines m_tokens m_places m_p m_pre m_end m_text m_out m_lineAt m_lineLong m_depth m_signed m_led m_told m_place m_begin m_tokenLong m_stemLong m_address m_letters m_stems m_s) H → va_D A (mW ad cI cZ m_thrown m_size m_outLong m_lines m_toldLines m_tokens m_places m_p m_pre m_end m_text m_out m_lineAt m_lineLong m_depth m_signed m_led m_told m_place m_begin m_tokenLong m_stemLong m_address m_letters m_stems m_s) → va_S A s.heap H locs → W p l e (headSpec wsX8_often ({ frames := 1, cells := 0, slots := 0, locals := 23 })).room s m ([.ref (ad 0), .int x1] : List Value).toArray below meth c H locs 0 0 (MQ below Qc ([.ref (ad 0), .int x1] : List Value).toArray s 0 0 A) (F0 m 0 ls [])) => key _ _ hP hD hS) ?_
  have inX8 : ∀ w ∈ wsX80, w ∈ wsX8_often := (fun _ h9 => List.mem_cons_of_mem _ (List.mem_append_right _ h9))
  have L9 : ∀ (m_thrown : Int32) (n : Nat) (x2 : Int32) (x3 : Int32) (H : Heap) (locs : List Loc) (ls : Array Slot), lv_has ls 4 [(0, .ref (ad 0)), (1, .int x1), (2, .int x2), (3, .int x3)] → va_P (dC, dI) vwCl (mW ad cI cZ m_thrown m_size m_outLong m_lines m_toldLines m_tokens m_places m_p m_pre m_end m_text m_out m_lineAt m_lineLong m_depth m_signed m_led m_told m_place m_begin m_tokenLong m_stemLong m_address m_letters m_stems m_s) H → va_D A (mW ad cI cZ m_thrown m_size m_outLong m_lines m_toldLines m_tokens m_places m_p m_pre m_end m_text m_out m_lineAt m_lineLong m_depth m_signed m_led m_told m_place m_begin m_tokenLong m_stemLong m_address m_letters m_stems m_s) → va_S A s.heap H locs → wlX8_often_9 post m_tokens m_stemLong m_address m_stems x1 m_thrown n x2 x3 → W p l e (headSpec wsX8_often ({ frames := 1, cells := 0, slots := 0, locals := 23 })).room s m ([.ref (ad 0), .int x1] : List Value).toArray below meth c H locs 0 0 (MQ below Qc ([.ref (ad 0), .int x1] : List Value).toArray s 0 0 A) (F0 m 9 ls []) := by
    intro m_thrown
    intro n
    induction n with
    | zero => intro x2 x3 H locs ls _ _ _ _ h; exact absurd h (fun z => z)
    | succ n9 ih9 =>
      intro x2 x3 H locs ls hl hP hD hS h
      have J46 : ∀ (x2 : Int32) (x3 : Int32) (H : Heap) (locs : List Loc) (ls : Array Slot), lv_has ls 4 [(0, .ref (ad 0)), (1, .int x1), (2, .int x2), (3, .int x3)] → va_P (dC, dI) vwCl (mW ad cI cZ m_thrown m_size m_outLong m_lines m_toldLines m_tokens m_places m_p m_pre m_end m_text m_out m_lineAt m_lineLong m_depth m_signed m_led m_told m_place m_begin m_tokenLong m_stemLong m_address m_letters m_stems m_s) H → va_D A (mW ad cI cZ m_thrown m_size m_outLong m_lines m_toldLines m_tokens m_places m_p m_pre m_end m_text m_out m_lineAt m_lineLong m_depth m_signed m_led m_told m_place m_begin m_tokenLong m_stemLong m_address m_letters m_stems m_s) → va_S A s.heap H locs → wjX8_often_46 (fun x2 x3 => wlX8_often_9 post m_tokens m_stemLong m_address m_stems x1 m_thrown n9 x2 x3) post m_tokens m_stemLong m_address m_stems x1 m_thrown x2 x3 → W p l e (headSpec wsX8_often ({ frames := 1, cells := 0, slots := 0, locals := 23 })).room s m ([.ref (ad 0), .int x1] : List Value).toArray below meth c H locs 0 0 (MQ below Qc ([.ref (ad 0), .int x1] : List Value).toArray s 0 0 A) (F0 m 46 ls []) := by
        intro x2 x3 H locs ls hl hP hD hS h
        delta wjX8_often_46 at h
        obtain ⟨x3_1, ex3_1⟩ : ∃ y : Int32, y = x3 + 1 := ⟨_, rfl⟩
        have h := h x3_1 ex3_1
        refine lv_iinc (v := x3_1) (lv' := [(3, .int x3_1), (0, .ref (ad 0)), (1, .int x1), (2, .int x2)]) hx hb dX8_often_46 hl (k := 3) rfl (by rw [ex3_1]; rfl) (by decide) rfl (fun ls hl => ?_)
        refine lv_goto (tgt := 9) hx hb dX8_often_49 (by decide) ?_
        exact ih9 x2 x3_1 H locs ls (lv_sub hl [1, 2, 3, 0] rfl) hP hD hS h
      rw [wlX8_often_9] at h
      refine lv_iload_n hx hb dX8_often_9 rfl (lv_at hl 3 rfl) ?_
      refine lv_aload_n hx hb dX8_often_10 rfl (lv_at hl 0 rfl) ?_
      refine va_get (D := (dC, dI)) (ci := 7) (v := .int m_tokens) (C := RX8) (T := TX8) (N := 26) hx hb hts inX8 hown hK hP 0 rfl rfl 13 (by decide) (hts (.fieldLink RX8 268 "MailWordsModel" "tokens" "I") (List.mem_of_getElem? (i := 2) rfl)) (fun _ h9 => h9) rfl dX8_often_11 ?_
      refine lv_icmp_ge (tgt := 52) hx hb dX8_often_14 (by decide) (fun c9 => ?_) (fun c9 => ?_)
      · have h := h.1 c9
        refine lv_iload_n hx hb dX8_often_52 rfl (lv_at hl 2 rfl) ?_
        exact W.iret (v := x2) hx hb hr (fun t ht hW => hQ x2 m_thrown t h (by rw [ht]; exact hP) (va_K.moved hW.alike hK) hD (hS.F ht)) hS.2.2 dX8_often_53
      · have h := h.2 c9
        refine lv_aload_n hx hb dX8_often_17 rfl (lv_at hl 0 rfl) ?_
        refine lv_iload_n hx hb dX8_often_18 rfl (lv_at hl 1 rfl) ?_
        refine xc_vi (As := [.int x1]) (rest := []) xG Fx (sX8_isToken l dC dI ad cI cZ sa sv m_thrown m_size m_outLong m_lines m_toldLines m_tokens m_places m_p m_pre m_end m_text m_out m_lineAt m_lineLong m_depth m_signed m_led m_told m_place m_begin m_tokenLong m_stemLong m_address m_letters m_stems m_s x1 h) (cwV 1 hts gX8_often_X8_isToken rfl rfl rfl hdX8_isToken ⟨Nat.le_of_ble_eq_true rfl, Nat.le_of_ble_eq_true rfl⟩) (va_recv hK hP (ci := 7) (q0 := 0) rfl rfl) hK hP hD hS hA hI rfl hl.1 rfl (Nat.le_of_ble_eq_true rfl) dX8_often_19 ⟨Nat.zero_le _, Nat.zero_le _⟩ (fun r_2 u H locs h hP hD hS => ?_)
        refine lv_if_eq (tgt := 52) hx hb dX8_often_22 (by decide) (fun c9 => ?_) (fun c9 => ?_)
        · have h := h.1 c9
          refine lv_iload_n hx hb dX8_often_52 rfl (lv_at hl 2 rfl) ?_
          exact W.iret (v := x2) hx hb hr (fun t ht hW => hQ x2 m_thrown t h (by rw [ht]; exact hP) (va_K.moved hW.alike hK) hD (hS.F ht)) hS.2.2 dX8_often_53
        · have h := h.2 c9
          refine lv_aload_n hx hb dX8_often_25 rfl (lv_at hl 0 rfl) ?_
          refine va_get (D := (dC, dI)) (ci := 7) (v := .ref (ad 13)) (C := RX8) (T := TX8) (N := 26) hx hb hts inX8 hown hK hP 0 rfl rfl 19 (by decide) (hts (.fieldLink RX8 47 "MailWordsModel" "address" "[Z") (List.mem_of_getElem? (i := 3) rfl)) (fun _ h9 => h9) rfl dX8_often_26 ?_
          refine lv_iload_n hx hb dX8_often_29 rfl (lv_at hl 3 rfl) ?_
          have hi9 := h.1
          have h := h.2
          refine va_zald hx hb hK hP 13 1 rfl rfl hi9 dX8_often_30 ?_
          refine lv_if_ne (tgt := 46) hx hb dX8_often_31 (by decide) (fun c9 => ?_) (fun c9 => ?_)
          · have h := h.1 c9
            exact J46 x2 x3 H locs ls (lv_sub hl [0, 1, 2, 3] rfl) hP hD hS h
          · have h := h.2 c9
            refine lv_aload_n hx hb dX8_often_34 rfl (lv_at hl 0 rfl) ?_
            refine lv_iload_n hx hb dX8_often_35 rfl (lv_at hl 3 rfl) ?_
            refine lv_iload_n hx hb dX8_often_36 rfl (lv_at hl 1 rfl) ?_
            refine xc_vi (As := [.int x3, .int x1]) (rest := []) xG Fx (sX8_sameStem l dC dI ad cI cZ sa sv m_thrown m_size m_outLong m_lines m_toldLines m_tokens m_places m_p m_pre m_end m_text m_out m_lineAt m_lineLong m_depth m_signed m_led m_told m_place m_begin m_tokenLong m_stemLong m_address m_letters m_stems m_s x3 x1 h) (cwV 2 hts gX8_often_X8_sameStem rfl rfl rfl hdX8_sameStem ⟨Nat.le_of_ble_eq_true rfl, Nat.le_of_ble_eq_true rfl⟩) (va_recv hK hP (ci := 7) (q0 := 0) rfl rfl) hK hP hD hS hA hI rfl hl.1 rfl (Nat.le_of_ble_eq_true rfl) dX8_often_37 ⟨Nat.zero_le _, Nat.zero_le _⟩ (fun r_3 u H locs h hP hD hS => ?_)
            refine lv_if_eq (tgt := 46) hx hb dX8_often_40 (by decide) (fun c9 => ?_) (fun c9 => ?_)
            · have h := h.1 c9
              exact J46 x2 x3 H locs ls (lv_sub hl [0, 1, 2, 3] rfl) hP hD hS h
            · have h := h.2 c9
              obtain ⟨x2_4, ex2_4⟩ : ∃ y : Int32, y = x2 + 1 := ⟨_, rfl⟩
              have h := h x2_4 ex2_4
              refine lv_iinc (v := x2_4) (lv' := [(2, .int x2_4), (0, .ref (ad 0)), (1, .int x1), (3, .int x3)]) hx hb dX8_often_43 hl (k := 2) rfl (by rw [ex2_4]; rfl) (by decide) rfl (fun ls hl => ?_)
              exact J46 x2_4 x3 H locs ls (lv_sub hl [1, 2, 0, 3] rfl) hP hD hS h
  intro H locs hP hD hS
  delta wpX8_often at h
  refine lv_aload_n hx hb dX8_often_0 rfl (lv_at hl 0 rfl) ?_
  refine lv_iconst (v := 0) hx hb dX8_often_1 (by decide) ?_
  refine va_put (D := (dC, dI)) (ci := 7) (v := .int 0) (ty := .int) (C := RX8) (T := TX8) (N := 26) hx hb hts inX8 tyX8 tyX8_ok nmX8 hown hK hP hD hS 0 rfl rfl 0 (by decide) (hts (.fieldLink RX8 60 "MailWordsModel" "thrown" "I") (List.mem_of_getElem? (i := 1) rfl)) (fun _ h9 => h9) rfl (tyX8_ok 0 (by decide)) rfl rfl (Nat.le_of_ble_eq_true rfl) dX8_often_2 (fun H locs hP hD hS => ?_)
  have hP : va_P (dC, dI) vwCl (mW ad cI cZ 0 m_size m_outLong m_lines m_toldLines m_tokens m_places m_p m_pre m_end m_text m_out m_lineAt m_lineLong m_depth m_signed m_led m_told m_place m_begin m_tokenLong m_stemLong m_address m_letters m_stems m_s) H := hP
  have hD : va_D A (mW ad cI cZ 0 m_size m_outLong m_lines m_toldLines m_tokens m_places m_p m_pre m_end m_text m_out m_lineAt m_lineLong m_depth m_signed m_led m_told m_place m_begin m_tokenLong m_stemLong m_address m_letters m_stems m_s) := hD
  refine lv_iconst (v := 0) hx hb dX8_often_5 (by decide) ?_
  refine lv_istore_n (lv' := [(2, .int 0), (0, .ref (ad 0)), (1, .int x1)]) hx hb dX8_often_6 rfl hl (by decide) rfl (fun ls hl => ?_)
  refine lv_iconst (v := 0) hx hb dX8_often_7 (by decide) ?_
  refine lv_istore_n (lv' := [(3, .int 0), (2, .int 0), (0, .ref (ad 0)), (1, .int x1)]) hx hb dX8_often_8 rfl hl (by decide) rfl (fun ls hl => ?_)
  obtain ⟨n, h⟩ := h
  exact L9 0 n 0 0 H locs ls (lv_sub hl [2, 3, 1, 0] rfl) hP hD hS h
