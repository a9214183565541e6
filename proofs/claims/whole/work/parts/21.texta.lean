set_option maxHeartbeats 4000000 in
set_option maxRecDepth 100000 in
theorem sX5_size (l : Launch) (dC : Nat → ClassId) (dI : Nat → Nat → Nat) (ad : Nat → Nat) (cI cZ : ClassId) (sa sv : Nat → Nat) (lt_count : Int32) (lw_begin : Int32) (lw_end : Int32) (lw_depth : Int32) (lw_signed : Int32) (lw_led : Int32) (pr_written : Int32) (pr_within : Int32) (st_size : Int32) (tx_size : Int32) (tt_count : Int32) (tt_pieces : Int32) (tt_kinds : Int32) (lt_begins : Nat → Int32) (lt_marks : Nat → Int32) (st_word : Nat → Int32) (st_vowels : Nat → Int32) (tx_characters : Nat → Int32) (tt_begins : Nat → Int32) (tt_lengths : Nat → Int32) (tt_stemLengths : Nat → Int32) (tt_places : Nat → Int32) (tt_addresses : Nat → Int32) (tt_smalls : Nat → Int32) (tt_stems : Nat → Int32) (tt_slots : Nat → Int32) (tt_nexts : Nat → Int32)  {post : Int32 → Prop} (h : wpX5_size post tx_size) : xMi l (dC, dI) vwCl [(cI, .int), (cZ, .boolean)] (sI sa sv) yX5_size wsX5_size ({ frames := 0, cells := 0, slots := 0, locals := 0 }) (xW ad cI cZ lt_count lw_begin lw_end lw_depth lw_signed lw_led pr_written pr_within st_size tx_size tt_count tt_pieces tt_kinds lt_begins lt_marks st_word st_vowels tx_characters tt_begins tt_lengths tt_stemLengths tt_places tt_addresses tt_smalls tt_stems tt_slots tt_nexts) [.ref (ad 4)] (fun (r : Int32) (u : Unit) => post r ) (fun u : Unit => (xW ad cI cZ lt_count lw_begin lw_end lw_depth lw_signed lw_led pr_written pr_within st_size tx_size tt_count tt_pieces tt_kinds lt_begins lt_marks st_word st_vowels tx_characters tt_begins tt_lengths tt_stemLengths tt_places tt_addresses tt_smalls tt_stems tt_slots tt_nexts)) := by
  intro sz
  refine Met.ofW (cc := cX5_size) (maxL := 1) (ret := (some .int)) (by decide) rfl ?_
  intro p e s m args below meth c s₁ B hml hv
  obtain ⟨rfl, hsz, hP, hK, hD0, hI⟩ := hv
  have hx := B.exec
  have hb := B.bytes
  have hr := B.returns
  have hts := atoms_spec (ws := wsX5_size) B.pre
  have hown : s.vm.findClass RX5 = some m.cls := findClass_of_methodNamed B.named
  have hlocks := B.notSynchronized
  subst hsz
  have hD := hD0.self (sz := s.heap.size)
  generalize hAe : va_A (xW ad cI cZ lt_count lw_begin lw_end lw_depth lw_signed lw_led pr_written pr_within st_size tx_size tt_count tt_pieces tt_kinds lt_begins lt_marks st_word st_vowels tx_characters tt_begins tt_lengths tt_stemLengths tt_places tt_addresses tt_smalls tt_stems tt_slots tt_nexts) s.heap.size = A at hD hI ⊢
  have hA : ∀ q : Nat, s.heap.size ≤ q → A q := fun q h => by rw [← hAe]; exact Or.inr h
  have hS : va_S A s.heap s.heap [] := va_S.rf
  have Fx : CallFix p m c cX5_size 1 s ([.ref (ad 4)] : List Value).toArray wsX5_size RX5 := ⟨hx, hb, hml, hown, hts⟩
  have hQ : ∀ (r : Int32) (u : Unit) (t : State), (fun (r : Int32) (u : Unit) => post r ) r u → va_P (dC, dI) vwCl ((fun u : Unit => (xW ad cI cZ lt_count lw_begin lw_end lw_depth lw_signed lw_led pr_written pr_within st_size tx_size tt_count tt_pieces tt_kinds lt_begins lt_marks st_word st_vowels tx_characters tt_begins tt_lengths tt_stemLengths tt_places tt_addresses tt_smalls tt_stems tt_slots tt_nexts)) u) t.heap → va_K (dC, dI) vwCl [(cI, .int), (cZ, .boolean)] t → va_D A ((fun u : Unit => (xW ad cI cZ lt_count lw_begin lw_end lw_depth lw_signed lw_led pr_written pr_within st_size tx_size tt_count tt_pieces tt_kinds lt_begins lt_marks st_word st_vowels tx_characters tt_begins tt_lengths tt_stemLengths tt_places tt_addresses tt_smalls tt_stems tt_slots tt_nexts)) u) → va_F A s t → (va_Qi (fun (r : Int32) (u : Unit) => post r ) (xB (dC, dI) vwCl [(cI, .int), (cZ, .boolean)] A (fun u : Unit => (xW ad cI cZ lt_count lw_begin lw_end lw_depth lw_signed lw_led pr_written pr_within st_size tx_size tt_count tt_pieces tt_kinds lt_begins lt_marks st_word st_vowels tx_characters tt_begins tt_lengths tt_stemLengths tt_places tt_addresses tt_smalls tt_stems tt_slots tt_nexts))) A) ([.ref (ad 4)] : List Value).toArray s (.returned (some (.int r))) t := fun r u t h1 h2 h3 h4 h5 => ⟨⟨r, u, rfl, h1, h2, h3, h4⟩, h5⟩
  generalize (va_Qi (fun (r : Int32) (u : Unit) => post r ) (xB (dC, dI) vwCl [(cI, .int), (cZ, .boolean)] A (fun u : Unit => (xW ad cI cZ lt_count lw_begin lw_end lw_depth lw_signed lw_led pr_written pr_within st_size tx_size tt_count tt_pieces tt_kinds lt_begins lt_marks st_word st_vowels tx_characters tt_begins tt_lengths tt_stemLengths tt_places tt_addresses tt_smalls tt_stems tt_slots tt_nexts))) A) = Qc at hQ ⊢
  have hl := lv_entry ([.ref (ad 4)]) (n := 1) (Nat.le_of_ble_eq_true rfl)
  rw [lg_entry_eq]
  generalize (lg_sl ([.ref (ad 4)]) ++ List.replicate (1 - (lg_sl ([.ref (ad 4)])).length) Slot.unset).toArray = ls at hl ⊢
  have hl : lv_has ls 1 [(0, .ref (ad 4))] := hl
  refine (fun (key : ∀ (H : Heap) (locs : List Loc), va_P (dC, dI) vwCl (xW ad cI cZ lt_count lw_begin lw_end lw_depth lw_signed lw_led pr_written pr_within st_size tx_size tt_count tt_pieces tt_kinds lt_begins lt_marks st_word st_vowels tx_characters tt_begins tt_lengths tt_stemLengths tt_places tt_addresses tt_smalls tt_stems tt_slots tt_nexts) H → va_D A (xW ad cI cZ lt_count lw_begin lw_end lw_depth lw_signed lw_led pr_written pr_within st_size tx_size tt_count tt_pieces tt_kinds lt_begins lt_marks st_word st_vowels tx_characters tt_begins tt_lengths tt_stemLengths tt_places tt_addresses tt_smalls tt_stems tt_slots tt_nexts) → va_S A s.heap H locs → W p l e (headSpec wsX5_size ({ frames := 0, cells := 0, slots := 0, locals := 0 })).room s m ([.ref (ad 4)] : List Value).toArray below meth c H locs 0 0 (MQ below Qc ([.ref (ad 4)] : List Value).toArray s 0 0 A) (F0 m 0 ls [])) => key _ _ hP hD hS) ?_
  have inX5 : ∀ w ∈ wsX50, w ∈ wsX5_size := (fun _ h9 => List.mem_cons_of_mem _ (List.mem_append_right _ h9))
  intro H locs hP hD hS
  delta wpX5_size at h
  refine lv_aload_n hx hb dX5_size_0 rfl (lv_at hl 0 rfl) ?_
  refine va_get (D := (dC, dI)) (ci := 4) (v := .int tx_size) (C := RX5) (T := TX5) (N := 2) hx hb hts inX5 hown hK hP 4 rfl rfl 1 (by decide) (hts (.fieldLink RX5 15 "MailWords$Text" "size" "I") (List.mem_of_getElem? (i := 1) rfl)) (fun _ h9 => h9) rfl dX5_size_1 ?_
  exact W.iret (v := tx_size) hx hb hr (fun t ht hW => hQ tx_size () t h (by rw [ht]; exact hP) (va_K.moved hW.alike hK) hD (hS.F ht)) hS.2.2 dX5_size_4
set_option maxHeartbeats 4000000 in
set_option maxRecDepth 100000 in
theorem sX5_get (l : Launch) (dC : Nat → ClassId) (dI : Nat → Nat → Nat) (ad : Nat → Nat) (cI cZ : ClassId) (sa sv : Nat → Nat) (lt_count : Int32) (lw_begin : Int32) (lw_end : Int32) (lw_depth : Int32) (lw_signed : Int32) (lw_led : Int32) (pr_written : Int32) (pr_within : Int32) (st_size : Int32) (tx_size : Int32) (tt_count : Int32) (tt_pieces : Int32) (tt_kinds : Int32) (lt_begins : Nat → Int32) (lt_marks : Nat → Int32) (st_word : Nat → Int32) (st_vowels : Nat → Int32) (tx_characters : Nat → Int32) (tt_begins : Nat → Int32) (tt_lengths : Nat → Int32) (tt_stemLengths : Nat → Int32) (tt_places : Nat → Int32) (tt_addresses : Nat → Int32) (tt_smalls : Nat → Int32) (tt_stems : Nat → Int32) (tt_slots : Nat → Int32) (tt_nexts : Nat → Int32) (x1 : Int32) {post : Int32 → Prop} (h : wpX5_get post tx_size tx_characters x1) : xMi l (dC, dI) vwCl [(cI, .int), (cZ, .boolean)] (sI sa sv) yX5_get wsX5_get ({ frames := 0, cells := 0, slots := 0, locals := 0 }) (xW ad cI cZ lt_count lw_begin lw_end lw_depth lw_signed lw_led pr_written pr_within st_size tx_size tt_count tt_pieces tt_kinds lt_begins lt_marks st_word st_vowels tx_characters tt_begins tt_lengths tt_stemLengths tt_places tt_addresses tt_smalls tt_stems tt_slots tt_nexts) [.ref (ad 4), .int x1] (fun (r : Int32) (u : Unit) => post r ) (fun u : Unit => (xW ad cI cZ lt_count lw_begin lw_end lw_depth lw_signed lw_led pr_written pr_within st_size tx_size tt_count tt_pieces tt_kinds lt_begins lt_marks st_word st_vowels tx_characters tt_begins tt_lengths tt_stemLengths tt_places tt_addresses tt_smalls tt_stems tt_slots tt_nexts)) := by
  intro sz
  refine Met.ofW (cc := cX5_get) (maxL := 2) (ret := (some .int)) (by decide) rfl ?_
  intro p e s m args below meth c s₁ B hml hv
  obtain ⟨rfl, hsz, hP, hK, hD0, hI⟩ := hv
  have hx := B.exec
  have hb := B.bytes
  have hr := B.returns
  have hts := atoms_spec (ws := wsX5_get) B.pre
  have hown : s.vm.findClass RX5 = some m.cls := findClass_of_methodNamed B.named
  have hlocks := B.notSynchronized
  subst hsz
  have hD := hD0.self (sz := s.heap.size)
  generalize hAe : va_A (xW ad cI cZ lt_count lw_begin lw_end lw_depth lw_signed lw_led pr_written pr_within st_size tx_size tt_count tt_pieces tt_kinds lt_begins lt_marks st_word st_vowels tx_characters tt_begins tt_lengths tt_stemLengths tt_places tt_addresses tt_smalls tt_stems tt_slots tt_nexts) s.heap.size = A at hD hI ⊢
  have hA : ∀ q : Nat, s.heap.size ≤ q → A q := fun q h => by rw [← hAe]; exact Or.inr h
  have hS : va_S A s.heap s.heap [] := va_S.rf
  have Fx : CallFix p m c cX5_get 2 s ([.ref (ad 4), .int x1] : List Value).toArray wsX5_get RX5 := ⟨hx, hb, hml, hown, hts⟩
  have hQ : ∀ (r : Int32) (u : Unit) (t : State), (fun (r : Int32) (u : Unit) => post r ) r u → va_P (dC, dI) vwCl ((fun u : Unit => (xW ad cI cZ lt_count lw_begin lw_end lw_depth lw_signed lw_led pr_written pr_within st_size tx_size tt_count tt_pieces tt_kinds lt_begins lt_marks st_word st_vowels tx_characters tt_begins tt_lengths tt_stemLengths tt_places tt_addresses tt_smalls tt_stems tt_slots tt_nexts)) u) t.heap → va_K (dC, dI) vwCl [(cI, .int), (cZ, .boolean)] t → va_D A ((fun u : Unit => (xW ad cI cZ lt_count lw_begin lw_end lw_depth lw_signed lw_led pr_written pr_within st_size tx_size tt_count tt_pieces tt_kinds lt_begins lt_marks st_word st_vowels tx_characters tt_begins tt_lengths tt_stemLengths tt_places tt_addresses tt_smalls tt_stems tt_slots tt_nexts)) u) → va_F A s t → (va_Qi (fun (r : Int32) (u : Unit) => post r ) (xB (dC, dI) vwCl [(cI, .int), (cZ, .boolean)] A (fun u : Unit => (xW ad cI cZ lt_count lw_begin lw_end lw_depth lw_signed lw_led pr_written pr_within st_size tx_size tt_count tt_pieces tt_kinds lt_begins lt_marks st_word st_vowels tx_characters tt_begins tt_lengths tt_stemLengths tt_places tt_addresses tt_smalls tt_stems tt_slots tt_nexts))) A) ([.ref (ad 4), .int x1] : List Value).toArray s (.returned (some (.int r))) t := fun r u t h1 h2 h3 h4 h5 => ⟨⟨r, u, rfl, h1, h2, h3, h4⟩, h5⟩
  generalize (va_Qi (fun (r : Int32) (u : Unit) => post r ) (xB (dC, dI) vwCl [(cI, .int), (cZ, .boolean)] A (fun u : Unit => (xW ad cI cZ lt_count lw_begin lw_end lw_depth lw_signed lw_led pr_written pr_within st_size tx_size tt_count tt_pieces tt_kinds lt_begins lt_marks st_word st_vowels tx_characters tt_begins tt_lengths tt_stemLengths tt_places tt_addresses tt_smalls tt_stems tt_slots tt_nexts))) A) = Qc at hQ ⊢
  have hl := lv_entry ([.ref (ad 4), .int x1]) (n := 2) (Nat.le_of_ble_eq_true rfl)
  rw [lg_entry_eq]
  generalize (lg_sl ([.ref (ad 4), .int x1]) ++ List.replicate (2 - (lg_sl ([.ref (ad 4), .int x1])).length) Slot.unset).toArray = ls at hl ⊢
  have hl : lv_has ls 2 [(0, .ref (ad 4)), (1, .int x1)] := hl
  refine (fun (key : ∀ (H : Heap) (locs : List Loc), va_P (dC, dI) vwCl (xW ad cI cZ lt_count lw_begin lw_end lw_depth lw_signed lw_led pr_written pr_within st_size tx_size tt_count tt_pieces tt_kinds lt_begins lt_marks st_word st_vowels tx_characters tt_begins tt_lengths tt_stemLengths tt_places tt_addresses tt_smalls tt_stems tt_slots tt_nexts) H → va_D A (xW ad cI cZ lt_count lw_begin lw_end lw_depth lw_signed lw_led pr_written pr_within st_size tx_size tt_count tt_pieces tt_kinds lt_begins lt_marks st_word st_vowels tx_characters tt_begins tt_lengths tt_stemLengths tt_places tt_addresses tt_smalls tt_stems tt_slots tt_nexts) → va_S A s.heap H locs → W p l e (headSpec wsX5_get ({ frames := 0, cells := 0, slots := 0, locals := 0 })).room s m ([.ref (ad 4), .int x1] : List Value).toArray below meth c H locs 0 0 (MQ below Qc ([.ref (ad 4), .int x1] : List Value).toArray s 0 0 A) (F0 m 0 ls [])) => key _ _ hP hD hS) ?_
  have inX5 : ∀ w ∈ wsX50, w ∈ wsX5_get := (fun _ h9 => List.mem_cons_of_mem _ (List.mem_append_right _ h9))
  intro H locs hP hD hS
  delta wpX5_get at h
  refine lv_iload_n hx hb dX5_get_0 rfl (lv_at hl 1 rfl) ?_
  refine lv_if_lt (tgt := 21) hx hb dX5_get_1 (by decide) (fun c9 => ?_) (fun c9 => ?_)
  · have h := h.1 c9
    refine lv_iconst (v := (-1)) hx hb dX5_get_21 (by decide) ?_
    exact W.iret (v := (-1)) hx hb hr (fun t ht hW => hQ (-1) () t h (by rw [ht]; exact hP) (va_K.moved hW.alike hK) hD (hS.F ht)) hS.2.2 dX5_get_22
  · have h := h.2 c9
    refine lv_iload_n hx hb dX5_get_4 rfl (lv_at hl 1 rfl) ?_
    refine lv_aload_n hx hb dX5_get_5 rfl (lv_at hl 0 rfl) ?_
    refine va_get (D := (dC, dI)) (ci := 4) (v := .int tx_size) (C := RX5) (T := TX5) (N := 2) hx hb hts inX5 hown hK hP 4 rfl rfl 1 (by decide) (hts (.fieldLink RX5 15 "MailWords$Text" "size" "I") (List.mem_of_getElem? (i := 1) rfl)) (fun _ h9 => h9) rfl dX5_get_6 ?_
    refine lv_icmp_ge (tgt := 21) hx hb dX5_get_9 (by decide) (fun c9 => ?_) (fun c9 => ?_)
    · have h := h.1 c9
      refine lv_iconst (v := (-1)) hx hb dX5_get_21 (by decide) ?_
      exact W.iret (v := (-1)) hx hb hr (fun t ht hW => hQ (-1) () t h (by rw [ht]; exact hP) (va_K.moved hW.alike hK) hD (hS.F ht)) hS.2.2 dX5_get_22
    · have h := h.2 c9
      refine lv_aload_n hx hb dX5_get_12 rfl (lv_at hl 0 rfl) ?_
      refine va_get (D := (dC, dI)) (ci := 4) (v := .ref (ad 11)) (C := RX5) (T := TX5) (N := 2) hx hb hts inX5 hown hK hP 4 rfl rfl 0 (by decide) (hts (.fieldLink RX5 9 "MailWords$Text" "characters" "[I") (List.mem_of_getElem? (i := 2) rfl)) (fun _ h9 => h9) rfl dX5_get_13 ?_
      refine lv_iload_n hx hb dX5_get_16 rfl (lv_at hl 1 rfl) ?_
      have hi9 := h.1
      have h := h.2
      refine va_iald hx hb hK hP 11 0 rfl rfl hi9 dX5_get_17 ?_
      refine lv_goto (tgt := 22) hx hb dX5_get_18 (by decide) ?_
      exact W.iret (v := (tx_characters x1.toNatClampNeg)) hx hb hr (fun t ht hW => hQ (tx_characters x1.toNatClampNeg) () t h (by rw [ht]; exact hP) (va_K.moved hW.alike hK) hD (hS.F ht)) hS.2.2 dX5_get_22
set_option maxHeartbeats 4000000 in
set_option maxRecDepth 100000 in
theorem sX5_add (l : Launch) (dC : Nat → ClassId) (dI : Nat → Nat → Nat) (ad : Nat → Nat) (cI cZ : ClassId) (sa sv : Nat → Nat) (lt_count : Int32) (lw_begin : Int32) (lw_end : Int32) (lw_depth : Int32) (lw_signed : Int32) (lw_led : Int32) (pr_written : Int32) (pr_within : Int32) (st_size : Int32) (tx_size : Int32) (tt_count : Int32) (tt_pieces : Int32) (tt_kinds : Int32) (lt_begins : Nat → Int32) (lt_marks : Nat → Int32) (st_word : Nat → Int32) (st_vowels : Nat → Int32) (tx_characters : Nat → Int32) (tt_begins : Nat → Int32) (tt_lengths : Nat → Int32) (tt_stemLengths : Nat → Int32) (tt_places : Nat → Int32) (tt_addresses : Nat → Int32) (tt_smalls : Nat → Int32) (tt_stems : Nat → Int32) (tt_slots : Nat → Int32) (tt_nexts : Nat → Int32) (x1 : Int32) {post : Int32 → (Nat → Int32) → Prop} (h : wpX5_add post tx_size tx_characters x1) : xMv l (dC, dI) vwCl [(cI, .int), (cZ, .boolean)] (sI sa sv) yX5_add wsX5_add ({ frames := 0, cells := 0, slots := 0, locals := 0 }) (xW ad cI cZ lt_count lw_begin lw_end lw_depth lw_signed lw_led pr_written pr_within st_size tx_size tt_count tt_pieces tt_kinds lt_begins lt_marks st_word st_vowels tx_characters tt_begins tt_lengths tt_stemLengths tt_places tt_addresses tt_smalls tt_stems tt_slots tt_nexts) [.ref (ad 4), .int x1] (fun u : Int32 × (Nat → Int32) => post u.1 u.2) (fun u : Int32 × (Nat → Int32) => (xW ad cI cZ lt_count lw_begin lw_end lw_depth lw_signed lw_led pr_written pr_within st_size u.1 tt_count tt_pieces tt_kinds lt_begins lt_marks st_word st_vowels u.2 tt_begins tt_lengths tt_stemLengths tt_places tt_addresses tt_smalls tt_stems tt_slots tt_nexts)) := by
  intro sz
  refine Met.ofW (cc := cX5_add) (maxL := 2) (ret := none) (by decide) rfl ?_
  intro p e s m args below meth c s₁ B hml hv
  obtain ⟨rfl, hsz, hP, hK, hD0, hI⟩ := hv
  have hx := B.exec
  have hb := B.bytes
  have hr := B.returns
  have hts := atoms_spec (ws := wsX5_add) B.pre
  have hown : s.vm.findClass RX5 = some m.cls := findClass_of_methodNamed B.named
  have hlocks := B.notSynchronized
  subst hsz
  have hD := hD0.self (sz := s.heap.size)
  generalize hAe : va_A (xW ad cI cZ lt_count lw_begin lw_end lw_depth lw_signed lw_led pr_written pr_within st_size tx_size tt_count tt_pieces tt_kinds lt_begins lt_marks st_word st_vowels tx_characters tt_begins tt_lengths tt_stemLengths tt_places tt_addresses tt_smalls tt_stems tt_slots tt_nexts) s.heap.size = A at hD hI ⊢
  have hA : ∀ q : Nat, s.heap.size ≤ q → A q := fun q h => by rw [← hAe]; exact Or.inr h
  have hS : va_S A s.heap s.heap [] := va_S.rf
  have Fx : CallFix p m c cX5_add 2 s ([.ref (ad 4), .int x1] : List Value).toArray wsX5_add RX5 := ⟨hx, hb, hml, hown, hts⟩
  have hQ : ∀ (u : Int32 × (Nat → Int32)) (t : State), (fun u : Int32 × (Nat → Int32) => post u.1 u.2) u → va_P (dC, dI) vwCl ((fun u : Int32 × (Nat → Int32) => (xW ad cI cZ lt_count lw_begin lw_end lw_depth lw_signed lw_led pr_written pr_within st_size u.1 tt_count tt_pieces tt_kinds lt_begins lt_marks st_word st_vowels u.2 tt_begins tt_lengths tt_stemLengths tt_places tt_addresses tt_smalls tt_stems tt_slots tt_nexts)) u) t.heap → va_K (dC, dI) vwCl [(cI, .int), (cZ, .boolean)] t → va_D A ((fun u : Int32 × (Nat → Int32) => (xW ad cI cZ lt_count lw_begin lw_end lw_depth lw_signed lw_led pr_written pr_within st_size u.1 tt_count tt_pieces tt_kinds lt_begins lt_marks st_word st_vowels u.2 tt_begins tt_lengths tt_stemLengths tt_places tt_addresses tt_smalls tt_stems tt_slots tt_nexts)) u) → va_F A s t → (va_Qv (fun u : Int32 × (Nat → Int32) => post u.1 u.2) (xB (dC, dI) vwCl [(cI, .int), (cZ, .boolean)] A (fun u : Int32 × (Nat → Int32) => (xW ad cI cZ lt_count lw_begin lw_end lw_depth lw_signed lw_led pr_written pr_within st_size u.1 tt_count tt_pieces tt_kinds lt_begins lt_marks st_word st_vowels u.2 tt_begins tt_lengths tt_stemLengths tt_places tt_addresses tt_smalls tt_stems tt_slots tt_nexts))) A) ([.ref (ad 4), .int x1] : List Value).toArray s (.returned none) t := fun u t h1 h2 h3 h4 h5 => ⟨⟨u, rfl, h1, h2, h3, h4⟩, h5⟩
  generalize (va_Qv (fun u : Int32 × (Nat → Int32) => post u.1 u.2) (xB (dC, dI) vwCl [(cI, .int), (cZ, .boolean)] A (fun u : Int32 × (Nat → Int32) => (xW ad cI cZ lt_count lw_begin lw_end lw_depth lw_signed lw_led pr_written pr_within st_size u.1 tt_count tt_pieces tt_kinds lt_begins lt_marks st_word st_vowels u.2 tt_begins tt_lengths tt_stemLengths tt_places tt_addresses tt_smalls tt_stems tt_slots tt_nexts))) A) = Qc at hQ ⊢
  have hl := lv_entry ([.ref (ad 4), .int x1]) (n := 2) (Nat.le_of_ble_eq_true rfl)
  rw [lg_entry_eq]
  generalize (lg_sl ([.ref (ad 4), .int x1]) ++ List.replicate (2 - (lg_sl ([.ref (ad 4), .int x1])).length) Slot.unset).toArray = ls at hl ⊢
  have hl : lv_has ls 2 [(0, .ref (ad 4)), (1, .int x1)] := hl
  refine (fun (key : ∀ (H : Heap) (locs : List Loc), va_P (dC, dI) vwCl (xW ad cI cZ lt_count lw_begin lw_end lw_depth lw_signed lw_led pr_written pr_within st_size tx_size tt_count tt_pieces tt_kinds lt_begins lt_marks st_word st_vowels tx_characters tt_begins tt_lengths tt_stemLengths tt_places tt_addresses tt_smalls tt_stems tt_slots tt_nexts) H → va_D A (xW ad cI cZ lt_count lw_begin lw_end lw_depth lw_signed lw_led pr_written pr_within st_size tx_size tt_count tt_pieces tt_kinds lt_begins lt_marks st_word st_vowels tx_characters tt_begins tt_lengths tt_stemLengths tt_places tt_addresses tt_smalls tt_stems tt_slots tt_nexts) → va_S A s.heap H locs → W p l e (headSpec wsX5_add ({ frames := 0, cells := 0, slots := 0, locals := 0 })).room s m ([.ref (ad 4), .int x1] : List Value).toArray below meth c H locs 0 0 (MQ below Qc ([.ref (ad 4), .int x1] : List Value).toArray s 0 0 A) (F0 m 0 ls [])) => key _ _ hP hD hS) ?_
  have inX5 : ∀ w ∈ wsX50, w ∈ wsX5_add := (fun _ h9 => List.mem_cons_of_mem _ (List.mem_append_right _ h9))
  intro H locs hP hD hS
  delta wpX5_add at h
  refine lv_aload_n hx hb dX5_add_0 rfl (lv_at hl 0 rfl) ?_
  refine va_get (D := (dC, dI)) (ci := 4) (v := .int tx_size) (C := RX5) (T := TX5) (N := 2) hx hb hts inX5 hown hK hP 4 rfl rfl 1 (by decide) (hts (.fieldLink RX5 15 "MailWords$Text" "size" "I") (List.mem_of_getElem? (i := 1) rfl)) (fun _ h9 => h9) rfl dX5_add_1 ?_
  refine lv_aload_n hx hb dX5_add_4 rfl (lv_at hl 0 rfl) ?_
  refine va_get (D := (dC, dI)) (ci := 4) (v := .ref (ad 11)) (C := RX5) (T := TX5) (N := 2) hx hb hts inX5 hown hK hP 4 rfl rfl 0 (by decide) (hts (.fieldLink RX5 9 "MailWords$Text" "characters" "[I") (List.mem_of_getElem? (i := 2) rfl)) (fun _ h9 => h9) rfl dX5_add_5 ?_
  refine va_alen (v := 1500) (ty := .int) hx hb hK hP 11 0 rfl rfl rfl dX5_add_8 ?_
  refine lv_icmp_ge (tgt := 32) hx hb dX5_add_9 (by decide) (fun c9 => ?_) (fun c9 => ?_)
  · have h := h.1 c9
    exact W.vret hx hb hr (fun t ht hW => hQ (tx_size, tx_characters) t h (by rw [ht]; exact hP) (va_K.moved hW.alike hK) hD (hS.F ht)) hS.2.2 dX5_add_32
  · have h := h.2 c9
    refine lv_aload_n hx hb dX5_add_12 rfl (lv_at hl 0 rfl) ?_
    refine va_get (D := (dC, dI)) (ci := 4) (v := .ref (ad 11)) (C := RX5) (T := TX5) (N := 2) hx hb hts inX5 hown hK hP 4 rfl rfl 0 (by decide) (hts (.fieldLink RX5 9 "MailWords$Text" "characters" "[I") (List.mem_of_getElem? (i := 2) rfl)) (fun _ h9 => h9) rfl dX5_add_13 ?_
    refine lv_aload_n hx hb dX5_add_16 rfl (lv_at hl 0 rfl) ?_
    refine va_get (D := (dC, dI)) (ci := 4) (v := .int tx_size) (C := RX5) (T := TX5) (N := 2) hx hb hts inX5 hown hK hP 4 rfl rfl 1 (by decide) (hts (.fieldLink RX5 15 "MailWords$Text" "size" "I") (List.mem_of_getElem? (i := 1) rfl)) (fun _ h9 => h9) rfl dX5_add_17 ?_
    refine lv_iload_n hx hb dX5_add_20 rfl (lv_at hl 1 rfl) ?_
    have hi9 := h.1
    have h := h.2
    refine va_iast hx hb hK hP hD hS 11 0 rfl rfl hi9 dX5_add_21 (fun H locs hP hD hS => ?_)
    have hP : va_P (dC, dI) vwCl (xW ad cI cZ lt_count lw_begin lw_end lw_depth lw_signed lw_led pr_written pr_within st_size tx_size tt_count tt_pieces tt_kinds lt_begins lt_marks st_word st_vowels (upd tx_characters tx_size.toNatClampNeg x1) tt_begins tt_lengths tt_stemLengths tt_places tt_addresses tt_smalls tt_stems tt_slots tt_nexts) H := hP
    have hD : va_D A (xW ad cI cZ lt_count lw_begin lw_end lw_depth lw_signed lw_led pr_written pr_within st_size tx_size tt_count tt_pieces tt_kinds lt_begins lt_marks st_word st_vowels (upd tx_characters tx_size.toNatClampNeg x1) tt_begins tt_lengths tt_stemLengths tt_places tt_addresses tt_smalls tt_stems tt_slots tt_nexts) := hD
    refine lv_aload_n hx hb dX5_add_22 rfl (lv_at hl 0 rfl) ?_
    refine lv_dup hx hb dX5_add_23 rfl ?_
    refine va_get (D := (dC, dI)) (ci := 4) (v := .int tx_size) (C := RX5) (T := TX5) (N := 2) hx hb hts inX5 hown hK hP 4 rfl rfl 1 (by decide) (hts (.fieldLink RX5 15 "MailWords$Text" "size" "I") (List.mem_of_getElem? (i := 1) rfl)) (fun _ h9 => h9) rfl dX5_add_24 ?_
    refine lv_iconst (v := 1) hx hb dX5_add_27 (by decide) ?_
    refine lv_iadd hx hb dX5_add_28 ?_
    refine lv_topi (fun tx_size_1 etx_size_1 => ?_)
    have h := h tx_size_1 etx_size_1
    refine va_put (D := (dC, dI)) (ci := 4) (v := .int tx_size_1) (ty := .int) (C := RX5) (T := TX5) (N := 2) hx hb hts inX5 tyX5 tyX5_ok nmX5 hown hK hP hD hS 4 rfl rfl 1 (by decide) (hts (.fieldLink RX5 15 "MailWords$Text" "size" "I") (List.mem_of_getElem? (i := 1) rfl)) (fun _ h9 => h9) rfl (tyX5_ok 1 (by decide)) rfl rfl (Nat.le_of_ble_eq_true rfl) dX5_add_29 (fun H locs hP hD hS => ?_)
    have hP : va_P (dC, dI) vwCl (xW ad cI cZ lt_count lw_begin lw_end lw_depth lw_signed lw_led pr_written pr_within st_size tx_size_1 tt_count tt_pieces tt_kinds lt_begins lt_marks st_word st_vowels (upd tx_characters tx_size.toNatClampNeg x1) tt_begins tt_lengths tt_stemLengths tt_places tt_addresses tt_smalls tt_stems tt_slots tt_nexts) H := hP
    have hD : va_D A (xW ad cI cZ lt_count lw_begin lw_end lw_depth lw_signed lw_led pr_written pr_within st_size tx_size_1 tt_count tt_pieces tt_kinds lt_begins lt_marks st_word st_vowels (upd tx_characters tx_size.toNatClampNeg x1) tt_begins tt_lengths tt_stemLengths tt_places tt_addresses tt_smalls tt_stems tt_slots tt_nexts) := hD
    exact W.vret hx hb hr (fun t ht hW => hQ (tx_size_1, (upd tx_characters tx_size.toNatClampNeg x1)) t h (by rw [ht]; exact hP) (va_K.moved hW.alike hK) hD (hS.F ht)) hS.2.2 dX5_add_32
set_option maxHeartbeats 4000000 in
set_option maxRecDepth 100000 in
theorem sX5_set (l : Launch) (dC : Nat → ClassId) (dI : Nat → Nat → Nat) (ad : Nat → Nat) (cI cZ : ClassId) (sa sv : Nat → Nat) (lt_count : Int32) (lw_begin : Int32) (lw_end : Int32) (lw_depth : Int32) (lw_signed : Int32) (lw_led : Int32) (pr_written : Int32) (pr_within : Int32) (st_size : Int32) (tx_size : Int32) (tt_count : Int32) (tt_pieces : Int32) (tt_kinds : Int32) (lt_begins : Nat → Int32) (lt_marks : Nat → Int32) (st_word : Nat → Int32) (st_vowels : Nat → Int32) (tx_characters : Nat → Int32) (tt_begins : Nat → Int32) (tt_lengths : Nat → Int32) (tt_stemLengths : Nat → Int32) (tt_places : Nat → Int32) (tt_addresses : Nat → Int32) (tt_smalls : Nat → Int32) (tt_stems : Nat → Int32) (tt_slots : Nat → Int32) (tt_nexts : Nat → Int32) (x1 : Int32) (x2 : Int32) {post : (Nat → Int32) → Prop} (h : wpX5_set post tx_size tx_characters x1 x2) : xMv l (dC, dI) vwCl [(cI, .int), (cZ, .boolean)] (sI sa sv) yX5_set wsX5_set ({ frames := 0, cells := 0, slots := 0, locals := 0 }) (xW ad cI cZ lt_count lw_begin lw_end lw_depth lw_signed lw_led pr_written pr_within st_size tx_size tt_count tt_pieces tt_kinds lt_begins lt_marks st_word st_vowels tx_characters tt_begins tt_lengths tt_stemLengths tt_places tt_addresses tt_smalls tt_stems tt_slots tt_nexts) [.ref (ad 4), .int x1, .int x2] (fun u : (Nat → Int32) => post u) (fun u : (Nat → Int32) => (xW ad cI cZ lt_count lw_begin lw_end lw_depth lw_signed lw_led pr_written pr_within st_size tx_size tt_count tt_pieces tt_kinds lt_begins lt_marks st_word st_vowels u tt_begins tt_lengths tt_stemLengths tt_places tt_addresses tt_smalls tt_stems tt_slots tt_nexts)) := by
  intro sz
  refine Met.ofW (cc := cX5_set) (maxL := 3) (ret := none) (by decide) rfl ?_
  intro p e s m args below meth c s₁ B hml hv
  obtain ⟨rfl, hsz, hP, hK, hD0, hI⟩ := hv
  have hx := B.exec
  have hb := B.bytes
  have hr := B.returns
  have hts := atoms_spec (ws := wsX5_set) B.pre
  have hown : s.vm.findClass RX5 = some m.cls := findClass_of_methodNamed B.named
  have hlocks := B.notSynchronized
  subst hsz
  have hD := hD0.self (sz := s.heap.size)
  generalize hAe : va_A (xW ad cI cZ lt_count lw_begin lw_end lw_depth lw_signed lw_led pr_written pr_within st_size tx_size tt_count tt_pieces tt_kinds lt_begins lt_marks st_word st_vowels tx_characters tt_begins tt_lengths tt_stemLengths tt_places tt_addresses tt_smalls tt_stems tt_slots tt_nexts) s.heap.size = A at hD hI ⊢
  have hA : ∀ q : Nat, s.heap.size ≤ q → A q := fun q h => by rw [← hAe]; exact Or.inr h
  have hS : va_S A s.heap s.heap [] := va_S.rf
  have Fx : CallFix p m c cX5_set 3 s ([.ref (ad 4), .int x1, .int x2] : List Value).toArray wsX5_set RX5 := ⟨hx, hb, hml, hown, hts⟩
  have hQ : ∀ (u : (Nat → Int32)) (t : State), (fun u : (Nat → Int32) => post u) u → va_P (dC, dI) vwCl ((fun u : (Nat → Int32) => (xW ad cI cZ lt_count lw_begin lw_end lw_depth lw_signed lw_led pr_written pr_within st_size tx_size tt_count tt_pieces tt_kinds lt_begins lt_marks st_word st_vowels u tt_begins tt_lengths tt_stemLengths tt_places tt_addresses tt_smalls tt_stems tt_slots tt_nexts)) u) t.heap → va_K (dC, dI) vwCl [(cI, .int), (cZ, .boolean)] t → va_D A ((fun u : (Nat → Int32) => (xW ad cI cZ lt_count lw_begin lw_end lw_depth lw_signed lw_led pr_written pr_within st_size tx_size tt_count tt_pieces tt_kinds lt_begins lt_marks st_word st_vowels u tt_begins tt_lengths tt_stemLengths tt_places tt_addresses tt_smalls tt_stems tt_slots tt_nexts)) u) → va_F A s t → (va_Qv (fun u : (Nat → Int32) => post u) (xB (dC, dI) vwCl [(cI, .int), (cZ, .boolean)] A (fun u : (Nat → Int32) => (xW ad cI cZ lt_count lw_begin lw_end lw_depth lw_signed lw_led pr_written pr_within st_size tx_size tt_count tt_pieces tt_kinds lt_begins lt_marks st_word st_vowels u tt_begins tt_lengths tt_stemLengths tt_places tt_addresses tt_smalls tt_stems tt_slots tt_nexts))) A) ([.ref (ad 4), .int x1, .int x2] : List Value).toArray s (.returned none) t := fun u t h1 h2 h3 h4 h5 => ⟨⟨u, rfl, h1, h2, h3, h4⟩, h5⟩
  generalize (va_Qv (fun u : (Nat → Int32) => post u) (xB (dC, dI) vwCl [(cI, .int), (cZ, .boolean)] A (fun u : (Nat → Int32) => (xW ad cI cZ lt_count lw_begin lw_end lw_depth lw_signed lw_led pr_written pr_within st_size tx_size tt_count tt_pieces tt_kinds lt_begins lt_marks st_word st_vowels u tt_begins tt_lengths tt_stemLengths tt_places tt_addresses tt_smalls tt_stems tt_slots tt_nexts))) A) = Qc at hQ ⊢
  have hl := lv_entry ([.ref (ad 4), .int x1, .int x2]) (n := 3) (Nat.le_of_ble_eq_true rfl)
  rw [lg_entry_eq]
  generalize (lg_sl ([.ref (ad 4), .int x1, .int x2]) ++ List.replicate (3 - (lg_sl ([.ref (ad 4), .int x1, .int x2])).length) Slot.unset).toArray = ls at hl ⊢
  have hl : lv_has ls 3 [(0, .ref (ad 4)), (1, .int x1), (2, .int x2)] := hl
  refine (fun (key : ∀ (H : Heap) (locs : List Loc), va_P (dC, dI) vwCl (xW ad cI cZ lt_count lw_begin lw_end lw_depth lw_signed lw_led pr_written pr_within st_size tx_size tt_count tt_pieces tt_kinds lt_begins lt_marks st_word st_vowels tx_characters tt_begins tt_lengths tt_stemLengths tt_places tt_addresses tt_smalls tt_stems tt_slots tt_nexts) H → va_D A (xW ad cI cZ lt_count lw_begin lw_end lw_depth lw_signed lw_led pr_written pr_within st_size tx_size tt_count tt_pieces tt_kinds lt_begins lt_marks st_word st_vowels tx_characters tt_begins tt_lengths tt_stemLengths tt_places tt_addresses tt_smalls tt_stems tt_slots tt_nexts) → va_S A s.heap H locs → W p l e (headSpec wsX5_set ({ frames := 0, cells := 0, slots := 0, locals := 0 })).room s m ([.ref (ad 4), .int x1, .int x2] : List Value).toArray below meth c H locs 0 0 (MQ below Qc ([.ref (ad 4), .int x1, .int x2] : List Value).toArray s 0 0 A) (F0 m 0 ls [])) => key _ _ hP hD hS) ?_
  have inX5 : ∀ w ∈ wsX50, w ∈ wsX5_set := (fun _ h9 => List.mem_cons_of_mem _ (List.mem_append_right _ h9))
  intro H locs hP hD hS
  delta wpX5_set at h
  refine lv_iload_n hx hb dX5_set_0 rfl (lv_at hl 1 rfl) ?_
  refine lv_if_lt (tgt := 19) hx hb dX5_set_1 (by decide) (fun c9 => ?_) (fun c9 => ?_)
  · have h := h.1 c9
    exact W.vret hx hb hr (fun t ht hW => hQ tx_characters t h (by rw [ht]; exact hP) (va_K.moved hW.alike hK) hD (hS.F ht)) hS.2.2 dX5_set_19
  · have h := h.2 c9
    refine lv_iload_n hx hb dX5_set_4 rfl (lv_at hl 1 rfl) ?_
    refine lv_aload_n hx hb dX5_set_5 rfl (lv_at hl 0 rfl) ?_
    refine va_get (D := (dC, dI)) (ci := 4) (v := .int tx_size) (C := RX5) (T := TX5) (N := 2) hx hb hts inX5 hown hK hP 4 rfl rfl 1 (by decide) (hts (.fieldLink RX5 15 "MailWords$Text" "size" "I") (List.mem_of_getElem? (i := 1) rfl)) (fun _ h9 => h9) rfl dX5_set_6 ?_
    refine lv_icmp_ge (tgt := 19) hx hb dX5_set_9 (by decide) (fun c9 => ?_) (fun c9 => ?_)
    · have h := h.1 c9
      exact W.vret hx hb hr (fun t ht hW => hQ tx_characters t h (by rw [ht]; exact hP) (va_K.moved hW.alike hK) hD (hS.F ht)) hS.2.2 dX5_set_19
    · have h := h.2 c9
      refine lv_aload_n hx hb dX5_set_12 rfl (lv_at hl 0 rfl) ?_
      refine va_get (D := (dC, dI)) (ci := 4) (v := .ref (ad 11)) (C := RX5) (T := TX5) (N := 2) hx hb hts inX5 hown hK hP 4 rfl rfl 0 (by decide) (hts (.fieldLink RX5 9 "MailWords$Text" "characters" "[I") (List.mem_of_getElem? (i := 2) rfl)) (fun _ h9 => h9) rfl dX5_set_13 ?_
      refine lv_iload_n hx hb dX5_set_16 rfl (lv_at hl 1 rfl) ?_
      refine lv_iload_n hx hb dX5_set_17 rfl (lv_at hl 2 rfl) ?_
      have hi9 := h.1
      have h := h.2
      refine va_iast hx hb hK hP hD hS 11 0 rfl rfl hi9 dX5_set_18 (fun H locs hP hD hS => ?_)
      have hP : va_P (dC, dI) vwCl (xW ad cI cZ lt_count lw_begin lw_end lw_depth lw_signed lw_led pr_written pr_within st_size tx_size tt_count tt_pieces tt_kinds lt_begins lt_marks st_word st_vowels (upd tx_characters x1.toNatClampNeg x2) tt_begins tt_lengths tt_stemLengths tt_places tt_addresses tt_smalls tt_stems tt_slots tt_nexts) H := hP
      have hD : va_D A (xW ad cI cZ lt_count lw_begin lw_end lw_depth lw_signed lw_led pr_written pr_within st_size tx_size tt_count tt_pieces tt_kinds lt_begins lt_marks st_word st_vowels (upd tx_characters x1.toNatClampNeg x2) tt_begins tt_lengths tt_stemLengths tt_places tt_addresses tt_smalls tt_stems tt_slots tt_nexts) := hD
      exact W.vret hx hb hr (fun t ht hW => hQ (upd tx_characters x1.toNatClampNeg x2) t h (by rw [ht]; exact hP) (va_K.moved hW.alike hK) hD (hS.F ht)) hS.2.2 dX5_set_19
set_option maxHeartbeats 4000000 in
set_option maxRecDepth 100000 in
theorem sX5_shorten (l : Launch) (dC : Nat → ClassId) (dI : Nat → Nat → Nat) (ad : Nat → Nat) (cI cZ : ClassId) (sa sv : Nat → Nat) (lt_count : Int32) (lw_begin : Int32) (lw_end : Int32) (lw_depth : Int32) (lw_signed : Int32) (lw_led : Int32) (pr_written : Int32) (pr_within : Int32) (st_size : Int32) (tx_size : Int32) (tt_count : Int32) (tt_pieces : Int32) (tt_kinds : Int32) (lt_begins : Nat → Int32) (lt_marks : Nat → Int32) (st_word : Nat → Int32) (st_vowels : Nat → Int32) (tx_characters : Nat → Int32) (tt_begins : Nat → Int32) (tt_lengths : Nat → Int32) (tt_stemLengths : Nat → Int32) (tt_places : Nat → Int32) (tt_addresses : Nat → Int32) (tt_smalls : Nat → Int32) (tt_stems : Nat → Int32) (tt_slots : Nat → Int32) (tt_nexts : Nat → Int32) (x1 : Int32) {post : Int32 → Prop} (h : wpX5_shorten post tx_size x1) : xMv l (dC, dI) vwCl [(cI, .int), (cZ, .boolean)] (sI sa sv) yX5_shorten wsX5_shorten ({ frames := 0, cells := 0, slots := 0, locals := 0 }) (xW ad cI cZ lt_count lw_begin lw_end lw_depth lw_signed lw_led pr_written pr_within st_size tx_size tt_count tt_pieces tt_kinds lt_begins lt_marks st_word st_vowels tx_characters tt_begins tt_lengths tt_stemLengths tt_places tt_addresses tt_smalls tt_stems tt_slots tt_nexts) [.ref (ad 4), .int x1] (fun u : Int32 => post u) (fun u : Int32 => (xW ad cI cZ lt_count lw_begin lw_end lw_depth lw_signed lw_led pr_written pr_within st_size u tt_count tt_pieces tt_kinds lt_begins lt_marks st_word st_vowels tx_characters tt_begins tt_lengths tt_stemLengths tt_places tt_addresses tt_smalls tt_stems tt_slots tt_nexts)) := by
  intro sz
  refine Met.ofW (cc := cX5_shorten) (maxL := 2) (ret := none) (by decide) rfl ?_
  intro p e s m args below meth c s₁ B hml hv
  obtain ⟨rfl, hsz, hP, hK, hD0, hI⟩ := hv
  have hx := B.exec
  have hb := B.bytes
  have hr := B.returns
  have hts := atoms_spec (ws := wsX5_shorten) B.pre
  have hown : s.vm.findClass RX5 = some m.cls := findClass_of_methodNamed B.named
  have hlocks := B.notSynchronized
  subst hsz
  have hD := hD0.self (sz := s.heap.size)
  generalize hAe : va_A (xW ad cI cZ lt_count lw_begin lw_end lw_depth lw_signed lw_led pr_written pr_within st_size tx_size tt_count tt_pieces tt_kinds lt_begins lt_marks st_word st_vowels tx_characters tt_begins tt_lengths tt_stemLengths tt_places tt_addresses tt_smalls tt_stems tt_slots tt_nexts) s.heap.size = A at hD hI ⊢
  have hA : ∀ q : Nat, s.heap.size ≤ q → A q := fun q h => by rw [← hAe]; exact Or.inr h
  have hS : va_S A s.heap s.heap [] := va_S.rf
  have Fx : CallFix p m c cX5_shorten 2 s ([.ref (ad 4), .int x1] : List Value).toArray wsX5_shorten RX5 := ⟨hx, hb, hml, hown, hts⟩
  have hQ : ∀ (u : Int32) (t : State), (fun u : Int32 => post u) u → va_P (dC, dI) vwCl ((fun u : Int32 => (xW ad cI cZ lt_count lw_begin lw_end lw_depth lw_signed lw_led pr_written pr_within st_size u tt_count tt_pieces tt_kinds lt_begins lt_marks st_word st_vowels tx_characters tt_begins tt_lengths tt_stemLengths tt_places tt_addresses tt_smalls tt_stems tt_slots tt_nexts)) u) t.heap → va_K (dC, dI) vwCl [(cI, .int), (cZ, .boolean)] t → va_D A ((fun u : Int32 => (xW ad cI cZ lt_count lw_begin lw_end lw_depth lw_signed lw_led pr_written pr_within st_size u tt_count tt_pieces tt_kinds lt_begins lt_marks st_word st_vowels tx_characters tt_begins tt_lengths tt_stemLengths tt_places tt_addresses tt_smalls tt_stems tt_slots tt_nexts)) u) → va_F A s t → (va_Qv (fun u : Int32 => post u) (xB (dC, dI) vwCl [(cI, .int), (cZ, .boolean)] A (fun u : Int32 => (xW ad cI cZ lt_count lw_begin lw_end lw_depth lw_signed lw_led pr_written pr_within st_size u tt_count tt_pieces tt_kinds lt_begins lt_marks st_word st_vowels tx_characters tt_begins tt_lengths tt_stemLengths tt_places tt_addresses tt_smalls tt_stems tt_slots tt_nexts))) A) ([.ref (ad 4), .int x1] : List Value).toArray s (.returned none) t := fun u t h1 h2 h3 h4 h5 => ⟨⟨u, rfl, h1, h2, h3, h4⟩, h5⟩
  generalize (va_Qv (fun u : Int32 => post u) (xB (dC, dI) vwCl [(cI, .int), (cZ, .boolean)] A (fun u : Int32 => (xW ad cI cZ lt_count lw_begin lw_end lw_depth lw_signed lw_led pr_written pr_within st_size u tt_count tt_pieces tt_kinds lt_begins lt_marks st_word st_vowels tx_characters tt_begins tt_lengths tt_stemLengths tt_places tt_addresses tt_smalls tt_stems tt_slots tt_nexts))) A) = Qc at hQ ⊢
  have hl := lv_entry ([.ref (ad 4), .int x1]) (n := 2) (Nat.le_of_ble_eq_true rfl)
  rw [lg_entry_eq]
  generalize (lg_sl ([.ref (ad 4), .int x1]) ++ List.replicate (2 - (lg_sl ([.ref (ad 4), .int x1])).length) Slot.unset).toArray = ls at hl ⊢
  have hl : lv_has ls 2 [(0, .ref (ad 4)), (1, .int x1)] := hl
  refine (fun (key : ∀ (H : Heap) (locs : List Loc), va_P (dC, dI) vwCl (xW ad cI cZ lt_count lw_begin lw_end lw_depth lw_signed lw_led pr_written pr_within st_size tx_size tt_count tt_pieces tt_kinds lt_begins lt_marks st_word st_vowels tx_characters tt_begins tt_lengths tt_stemLengths tt_places tt_addresses tt_smalls tt_stems tt_slots tt_nexts) H → va_D A (xW ad cI cZ lt_count lw_begin lw_end lw_depth lw_signed lw_led pr_written pr_within st_size tx_size tt_count tt_pieces tt_kinds lt_begins lt_marks st_word st_vowels tx_characters tt_begins tt_lengths tt_stemLengths tt_places tt_addresses tt_smalls tt_stems tt_slots tt_nexts) → va_S A s.heap H locs → W p l e (headSpec wsX5_shorten ({ frames := 0, cells := 0, slots := 0, locals := 0 })).room s m ([.ref (ad 4), .int x1] : List Value).toArray below meth c H locs 0 0 (MQ below Qc ([.ref (ad 4), .int x1] : List Value).toArray s 0 0 A) (F0 m 0 ls [])) => key _ _ hP hD hS) ?_
  have inX5 : ∀ w ∈ wsX50, w ∈ wsX5_shorten := (fun _ h9 => List.mem_cons_of_mem _ (List.mem_append_right _ h9))
  intro H locs hP hD hS
  delta wpX5_shorten at h
  refine lv_iload_n hx hb dX5_shorten_0 rfl (lv_at hl 1 rfl) ?_
  refine lv_if_lt (tgt := 17) hx hb dX5_shorten_1 (by decide) (fun c9 => ?_) (fun c9 => ?_)
  · have h := h.1 c9
    exact W.vret hx hb hr (fun t ht hW => hQ tx_size t h (by rw [ht]; exact hP) (va_K.moved hW.alike hK) hD (hS.F ht)) hS.2.2 dX5_shorten_17
  · have h := h.2 c9
    refine lv_iload_n hx hb dX5_shorten_4 rfl (lv_at hl 1 rfl) ?_
    refine lv_aload_n hx hb dX5_shorten_5 rfl (lv_at hl 0 rfl) ?_
    refine va_get (D := (dC, dI)) (ci := 4) (v := .int tx_size) (C := RX5) (T := TX5) (N := 2) hx hb hts inX5 hown hK hP 4 rfl rfl 1 (by decide) (hts (.fieldLink RX5 15 "MailWords$Text" "size" "I") (List.mem_of_getElem? (i := 1) rfl)) (fun _ h9 => h9) rfl dX5_shorten_6 ?_
    refine lv_icmp_ge (tgt := 17) hx hb dX5_shorten_9 (by decide) (fun c9 => ?_) (fun c9 => ?_)
    · have h := h.1 c9
      exact W.vret hx hb hr (fun t ht hW => hQ tx_size t h (by rw [ht]; exact hP) (va_K.moved hW.alike hK) hD (hS.F ht)) hS.2.2 dX5_shorten_17
    · have h := h.2 c9
      refine lv_aload_n hx hb dX5_shorten_12 rfl (lv_at hl 0 rfl) ?_
      refine lv_iload_n hx hb dX5_shorten_13 rfl (lv_at hl 1 rfl) ?_
      refine va_put (D := (dC, dI)) (ci := 4) (v := .int x1) (ty := .int) (C := RX5) (T := TX5) (N := 2) hx hb hts inX5 tyX5 tyX5_ok nmX5 hown hK hP hD hS 4 rfl rfl 1 (by decide) (hts (.fieldLink RX5 15 "MailWords$Text" "size" "I") (List.mem_of_getElem? (i := 1) rfl)) (fun _ h9 => h9) rfl (tyX5_ok 1 (by decide)) rfl rfl (Nat.le_of_ble_eq_true rfl) dX5_shorten_14 (fun H locs hP hD hS => ?_)
      have hP : va_P (dC, dI) vwCl (xW ad cI cZ lt_count lw_begin lw_end lw_depth lw_signed lw_led pr_written pr_within st_size x1 tt_count tt_pieces tt_kinds lt_begins lt_marks st_word st_vowels tx_characters tt_begins tt_lengths tt_stemLengths tt_places tt_addresses tt_smalls tt_stems tt_slots tt_nexts) H := hP
      have hD : va_D A (xW ad cI cZ lt_count lw_begin lw_end lw_depth lw_signed lw_led pr_written pr_within st_size x1 tt_count tt_pieces tt_kinds lt_begins lt_marks st_word st_vowels tx_characters tt_begins tt_lengths tt_stemLengths tt_places tt_addresses tt_smalls tt_stems tt_slots tt_nexts) := hD
      exact W.vret hx hb hr (fun t ht hW => hQ x1 t h (by rw [ht]; exact hP) (va_K.moved hW.alike hK) hD (hS.F ht)) hS.2.2 dX5_shorten_17
set_option maxHeartbeats 4000000 in
set_option maxRecDepth 100000 in
theorem sJ0_coder_7d493 (l : Launch) (dC : Nat → ClassId) (dI : Nat → Nat → Nat) (ad : Nat → Nat) (cI cZ : ClassId) (sa sv : Nat → Nat) (lt_count : Int32) (lw_begin : Int32) (lw_end : Int32) (lw_depth : Int32) (lw_signed : Int32) (lw_led : Int32) (pr_written : Int32) (pr_within : Int32) (st_size : Int32) (tx_size : Int32) (tt_count : Int32) (tt_pieces : Int32) (tt_kinds : Int32) (lt_begins : Nat → Int32) (lt_marks : Nat → Int32) (st_word : Nat → Int32) (st_vowels : Nat → Int32) (tx_characters : Nat → Int32) (tt_begins : Nat → Int32) (tt_lengths : Nat → Int32) (tt_stemLengths : Nat → Int32) (tt_places : Nat → Int32) (tt_addresses : Nat → Int32) (tt_smalls : Nat → Int32) (tt_stems : Nat → Int32) (tt_slots : Nat → Int32) (tt_nexts : Nat → Int32) (x0 : Nat) {post : Int32 → Prop} (h : wpJ0_coder_7d493 post x0) : xMi l (dC, dI) vwCl [(cI, .int), (cZ, .boolean)] (sI sa sv) yJ0_coder_7d493 wsJ0_coder_7d493 ({ frames := 0, cells := 0, slots := 0, locals := 0 }) (xW ad cI cZ lt_count lw_begin lw_end lw_depth lw_signed lw_led pr_written pr_within st_size tx_size tt_count tt_pieces tt_kinds lt_begins lt_marks st_word st_vowels tx_characters tt_begins tt_lengths tt_stemLengths tt_places tt_addresses tt_smalls tt_stems tt_slots tt_nexts) [.ref (sa x0)] (fun (r : Int32) (u : Unit) => post r ) (fun u : Unit => (xW ad cI cZ lt_count lw_begin lw_end lw_depth lw_signed lw_led pr_written pr_within st_size tx_size tt_count tt_pieces tt_kinds lt_begins lt_marks st_word st_vowels tx_characters tt_begins tt_lengths tt_stemLengths tt_places tt_addresses tt_smalls tt_stems tt_slots tt_nexts)) := by
  intro sz
  refine Met.ofW (cc := cJ0_coder_7d493) (maxL := 1) (ret := (some .byte)) (by decide) rfl ?_
  intro p e s m args below meth c s₁ B hml hv
  obtain ⟨rfl, hsz, hP, hK, hD0, hI⟩ := hv
  have hx := B.exec
  have hb := B.bytes
  have hr := B.returns
  have hts := atoms_spec (ws := wsJ0_coder_7d493) B.pre
  have hown : s.vm.findClass RJ0 = some m.cls := findClass_of_methodNamed B.named
  have hlocks := B.notSynchronized
  subst hsz
  have hD := hD0.self (sz := s.heap.size)
  generalize hAe : va_A (xW ad cI cZ lt_count lw_begin lw_end lw_depth lw_signed lw_led pr_written pr_within st_size tx_size tt_count tt_pieces tt_kinds lt_begins lt_marks st_word st_vowels tx_characters tt_begins tt_lengths tt_stemLengths tt_places tt_addresses tt_smalls tt_stems tt_slots tt_nexts) s.heap.size = A at hD hI ⊢
  have hA : ∀ q : Nat, s.heap.size ≤ q → A q := fun q h => by rw [← hAe]; exact Or.inr h
  have hS : va_S A s.heap s.heap [] := va_S.rf
  have Fx : CallFix p m c cJ0_coder_7d493 1 s ([.ref (sa x0)] : List Value).toArray wsJ0_coder_7d493 RJ0 := ⟨hx, hb, hml, hown, hts⟩
  have hQ : ∀ (r : Int32) (u : Unit) (t : State), (fun (r : Int32) (u : Unit) => post r ) r u → va_P (dC, dI) vwCl ((fun u : Unit => (xW ad cI cZ lt_count lw_begin lw_end lw_depth lw_signed lw_led pr_written pr_within st_size tx_size tt_count tt_pieces tt_kinds lt_begins lt_marks st_word st_vowels tx_characters tt_begins tt_lengths tt_stemLengths tt_places tt_addresses tt_smalls tt_stems tt_slots tt_nexts)) u) t.heap → va_K (dC, dI) vwCl [(cI, .int), (cZ, .boolean)] t → va_D A ((fun u : Unit => (xW ad cI cZ lt_count lw_begin lw_end lw_depth lw_signed lw_led pr_written pr_within st_size tx_size tt_count tt_pieces tt_kinds lt_begins lt_marks st_word st_vowels tx_characters tt_begins tt_lengths tt_stemLengths tt_places tt_addresses tt_smalls tt_stems tt_slots tt_nexts)) u) → va_F A s t → (va_Qi (fun (r : Int32) (u : Unit) => post r ) (xB (dC, dI) vwCl [(cI, .int), (cZ, .boolean)] A (fun u : Unit => (xW ad cI cZ lt_count lw_begin lw_end lw_depth lw_signed lw_led pr_written pr_within st_size tx_size tt_count tt_pieces tt_kinds lt_begins lt_marks st_word st_vowels tx_characters tt_begins tt_lengths tt_stemLengths tt_places tt_addresses tt_smalls tt_stems tt_slots tt_nexts))) A) ([.ref (sa x0)] : List Value).toArray s (.returned (some (.int r))) t := fun r u t h1 h2 h3 h4 h5 => ⟨⟨r, u, rfl, h1, h2, h3, h4⟩, h5⟩
  generalize (va_Qi (fun (r : Int32) (u : Unit) => post r ) (xB (dC, dI) vwCl [(cI, .int), (cZ, .boolean)] A (fun u : Unit => (xW ad cI cZ lt_count lw_begin lw_end lw_depth lw_signed lw_led pr_written pr_within st_size tx_size tt_count tt_pieces tt_kinds lt_begins lt_marks st_word st_vowels tx_characters tt_begins tt_lengths tt_stemLengths tt_places tt_addresses tt_smalls tt_stems tt_slots tt_nexts))) A) = Qc at hQ ⊢
  have hl := lv_entry ([.ref (sa x0)]) (n := 1) (Nat.le_of_ble_eq_true rfl)
  rw [lg_entry_eq]
  generalize (lg_sl ([.ref (sa x0)]) ++ List.replicate (1 - (lg_sl ([.ref (sa x0)])).length) Slot.unset).toArray = ls at hl ⊢
  have hl : lv_has ls 1 [(0, .ref (sa x0))] := hl
  refine (fun (key : ∀ (H : Heap) (locs : List Loc), va_P (dC, dI) vwCl (xW ad cI cZ lt_count lw_begin lw_end lw_depth lw_signed lw_led pr_written pr_within st_size tx_size tt_count tt_pieces tt_kinds lt_begins lt_marks st_word st_vowels tx_characters tt_begins tt_lengths tt_stemLengths tt_places tt_addresses tt_smalls tt_stems tt_slots tt_nexts) H → va_D A (xW ad cI cZ lt_count lw_begin lw_end lw_depth lw_signed lw_led pr_written pr_within st_size tx_size tt_count tt_pieces tt_kinds lt_begins lt_marks st_word st_vowels tx_characters tt_begins tt_lengths tt_stemLengths tt_places tt_addresses tt_smalls tt_stems tt_slots tt_nexts) → va_S A s.heap H locs → W p l e (headSpec wsJ0_coder_7d493 ({ frames := 0, cells := 0, slots := 0, locals := 0 })).room s m ([.ref (sa x0)] : List Value).toArray below meth c H locs 0 0 (MQ below Qc ([.ref (sa x0)] : List Value).toArray s 0 0 A) (F0 m 0 ls [])) => key _ _ hP hD hS) ?_
  intro H locs hP hD hS
  delta wpJ0_coder_7d493 at h
  refine va_gets hx hb (sI_cs hI) hS hown (hts (.fieldLink RJ0 38 "java/lang/String" "COMPACT_STRINGS" "Z") (List.mem_of_getElem? (i := 1) rfl)) (fun _ h9 => h9) dJ0_coder_7d493_0 ?_
  refine lv_if_eq (tgt := 13) hx hb dJ0_coder_7d493_3 (by decide) (fun c9 => ?_) (fun c9 => ?_)
  · have h := h.1 c9
    refine lv_iconst (v := 1) hx hb dJ0_coder_7d493_13 (by decide) ?_
    exact W.zret (v := 1) hx hb hr rfl (fun t ht hW => hQ 1 () t h (by rw [ht]; exact hP) (va_K.moved hW.alike hK) hD (hS.F ht)) hS.2.2 dJ0_coder_7d493_14
  · have h := h.2 c9
    refine lv_aload_n hx hb dJ0_coder_7d493_6 rfl (lv_at hl 0 rfl) ?_
    have hs9 := h.1
    have h := h.2
    refine vk_getf hx hb (sI_cod hI hs9) hS hown (hts (.fieldLink RJ0 15 "java/lang/String" "coder" "B") (List.mem_of_getElem? (i := 2) rfl)) (fun _ h9 => h9) dJ0_coder_7d493_7 ?_
    refine lv_goto (tgt := 14) hx hb dJ0_coder_7d493_10 (by decide) ?_
    exact W.zret (v := 0) hx hb hr rfl (fun t ht hW => hQ 0 () t h (by rw [ht]; exact hP) (va_K.moved hW.alike hK) hD (hS.F ht)) hS.2.2 dJ0_coder_7d493_14
set_option maxHeartbeats 4000000 in
set_option maxRecDepth 100000 in
theorem sJ0_length_8abf5 (l : Launch) (dC : Nat → ClassId) (dI : Nat → Nat → Nat) (ad : Nat → Nat) (cI cZ : ClassId) (sa sv : Nat → Nat) (lt_count : Int32) (lw_begin : Int32) (lw_end : Int32) (lw_depth : Int32) (lw_signed : Int32) (lw_led : Int32) (pr_written : Int32) (pr_within : Int32) (st_size : Int32) (tx_size : Int32) (tt_count : Int32) (tt_pieces : Int32) (tt_kinds : Int32) (lt_begins : Nat → Int32) (lt_marks : Nat → Int32) (st_word : Nat → Int32) (st_vowels : Nat → Int32) (tx_characters : Nat → Int32) (tt_begins : Nat → Int32) (tt_lengths : Nat → Int32) (tt_stemLengths : Nat → Int32) (tt_places : Nat → Int32) (tt_addresses : Nat → Int32) (tt_smalls : Nat → Int32) (tt_stems : Nat → Int32) (tt_slots : Nat → Int32) (tt_nexts : Nat → Int32) (x0 : Nat) {post : Int32 → Prop} (h : wpJ0_length_8abf5 post x0) : xMi l (dC, dI) vwCl [(cI, .int), (cZ, .boolean)] (sI sa sv) yJ0_length_8abf5 wsJ0_length_8abf5 ({ frames := 1, cells := 0, slots := 0, locals := 20 }) (xW ad cI cZ lt_count lw_begin lw_end lw_depth lw_signed lw_led pr_written pr_within st_size tx_size tt_count tt_pieces tt_kinds lt_begins lt_marks st_word st_vowels tx_characters tt_begins tt_lengths tt_stemLengths tt_places tt_addresses tt_smalls tt_stems tt_slots tt_nexts) [.ref (sa x0)] (fun (r : Int32) (u : Unit) => post r ) (fun u : Unit => (xW ad cI cZ lt_count lw_begin lw_end lw_depth lw_signed lw_led pr_written pr_within st_size tx_size tt_count tt_pieces tt_kinds lt_begins lt_marks st_word st_vowels tx_characters tt_begins tt_lengths tt_stemLengths tt_places tt_addresses tt_smalls tt_stems tt_slots tt_nexts)) := by
  intro sz
  refine Met.ofW (cc := cJ0_length_8abf5) (maxL := 1) (ret := (some .int)) (by decide) rfl ?_
  intro p e s m args below meth c s₁ B hml hv
  obtain ⟨rfl, hsz, hP, hK, hD0, hI⟩ := hv
  have hx := B.exec
  have hb := B.bytes
  have hr := B.returns
  have hts := atoms_spec (ws := wsJ0_length_8abf5) B.pre
  have hown : s.vm.findClass RJ0 = some m.cls := findClass_of_methodNamed B.named
  have hlocks := B.notSynchronized
  subst hsz
  have hD := hD0.self (sz := s.heap.size)
  generalize hAe : va_A (xW ad cI cZ lt_count lw_begin lw_end lw_depth lw_signed lw_led pr_written pr_within st_size tx_size tt_count tt_pieces tt_kinds lt_begins lt_marks st_word st_vowels tx_characters tt_begins tt_lengths tt_stemLengths tt_places tt_addresses tt_smalls tt_stems tt_slots tt_nexts) s.heap.size = A at hD hI ⊢
  have hA : ∀ q : Nat, s.heap.size ≤ q → A q := fun q h => by rw [← hAe]; exact Or.inr h
  have hS : va_S A s.heap s.heap [] := va_S.rf
  have Fx : CallFix p m c cJ0_length_8abf5 1 s ([.ref (sa x0)] : List Value).toArray wsJ0_length_8abf5 RJ0 := ⟨hx, hb, hml, hown, hts⟩
  have hQ : ∀ (r : Int32) (u : Unit) (t : State), (fun (r : Int32) (u : Unit) => post r ) r u → va_P (dC, dI) vwCl ((fun u : Unit => (xW ad cI cZ lt_count lw_begin lw_end lw_depth lw_signed lw_led pr_written pr_within st_size tx_size tt_count tt_pieces tt_kinds lt_begins lt_marks st_word st_vowels tx_characters tt_begins tt_lengths tt_stemLengths tt_places tt_addresses tt_smalls tt_stems tt_slots tt_nexts)) u) t.heap → va_K (dC, dI) vwCl [(cI, .int), (cZ, .boolean)] t → va_D A ((fun u : Unit => (xW ad cI cZ lt_count lw_begin lw_end lw_depth lw_signed lw_led pr_written pr_within st_size tx_size tt_count tt_pieces tt_kinds lt_begins lt_marks st_word st_vowels tx_characters tt_begins tt_lengths tt_stemLengths tt_places tt_addresses tt_smalls tt_stems tt_slots tt_nexts)) u) → va_F A s t → (va_Qi (fun (r : Int32) (u : Unit) => post r ) (xB (dC, dI) vwCl [(cI, .int), (cZ, .boolean)] A (fun u : Unit => (xW ad cI cZ lt_count lw_begin lw_end lw_depth lw_signed lw_led pr_written pr_within st_size tx_size tt_count tt_pieces tt_kinds lt_begins lt_marks st_word st_vowels tx_characters tt_begins tt_lengths tt_stemLengths tt_places tt_addresses tt_smalls tt_stems tt_slots tt_nexts))) A) ([.ref (sa x0)] : List Value).toArray s (.returned (some (.int r))) t := fun r u t h1 h2 h3 h4 h5 => ⟨⟨r, u, rfl, h1, h2, h3, h4⟩, h5⟩
  generalize (va_Qi (fun (r : Int32) (u : Unit) => post r ) (xB (dC, dI) vwCl [(cI, .int), (cZ, .boolean)] A (fun u : Unit => (xW ad cI cZ lt_count lw_begin lw_end lw_depth lw_signed lw_led pr_written pr_within st_size tx_size tt_count tt_pieces tt_kinds lt_begins lt_marks st_word st_vowels tx_characters tt_begins tt_lengths tt_stemLengths tt_places tt_addresses tt_smalls tt_stems tt_slots tt_nexts))) A) = Qc at hQ ⊢
  have hl := lv_entry ([.ref (sa x0)]) (n := 1) (Nat.le_of_ble_eq_true rfl)
  rw [lg_entry_eq]
  generalize (lg_sl ([.ref (sa x0)]) ++ List.replicate (1 - (lg_sl ([.ref (sa x0)])).length) Slot.unset).toArray = ls at hl ⊢
  have hl : lv_has ls 1 [(0, .ref (sa x0))] := hl
  refine (fun (key : ∀ (H : Heap) (locs : List Loc), va_P (dC, dI) vwCl (xW ad cI cZ lt_count lw_begin lw_end lw_depth lw_signed lw_led pr_written pr_within st_size tx_size tt_count tt_pieces tt_kinds lt_begins lt_marks st_word st_vowels tx_characters tt_begins tt_lengths tt_stemLengths tt_places tt_addresses tt_smalls tt_stems tt_slots tt_nexts) H → va_D A (xW ad cI cZ lt_count lw_begin lw_end lw_depth lw_signed lw_led pr_written pr_within st_size tx_size tt_count tt_pieces tt_kinds lt_begins lt_marks st_word st_vowels tx_characters tt_begins tt_lengths tt_stemLengths tt_places tt_addresses tt_smalls tt_stems tt_slots tt_nexts) → va_S A s.heap H locs → W p l e (headSpec wsJ0_length_8abf5 ({ frames := 1, cells := 0, slots := 0, locals := 20 })).room s m ([.ref (sa x0)] : List Value).toArray below meth c H locs 0 0 (MQ below Qc ([.ref (sa x0)] : List Value).toArray s 0 0 A) (F0 m 0 ls [])) => key _ _ hP hD hS) ?_
  intro H locs hP hD hS
  delta wpJ0_length_8abf5 at h
  refine lv_aload_n hx hb dJ0_length_8abf5_0 rfl (lv_at hl 0 rfl) ?_
  have hs9 := h.1
  have h := h.2
  refine vk_getf hx hb (sI_val hI hs9) hS hown (hts (.fieldLink RJ0 9 "java/lang/String" "value" "[B") (List.mem_of_getElem? (i := 1) rfl)) (fun _ h9 => h9) dJ0_length_8abf5_1 ?_
  have hs9 := h.1
  have h := h.2
  refine va_tlen (v := Int32.ofNat (sB x0).length) hx hb (sI_arr hI hs9) hS rfl dJ0_length_8abf5_4 ?_
  refine lv_aload_n hx hb dJ0_length_8abf5_5 rfl (lv_at hl 0 rfl) ?_
  have hs9 := h.1
  have h := h.2
  refine xc_vi (As := []) (rest := [.int (Int32.ofNat (sB x0).length)]) xG Fx (sJ0_coder_7d493 l dC dI ad cI cZ sa sv lt_count lw_begin lw_end lw_depth lw_signed lw_led pr_written pr_within st_size tx_size tt_count tt_pieces tt_kinds lt_begins lt_marks st_word st_vowels tx_characters tt_begins tt_lengths tt_stemLengths tt_places tt_addresses tt_smalls tt_stems tt_slots tt_nexts x0 h) (cwV 0 hts gJ0_length_8abf5_J0_coder_7d493 rfl rfl rfl hdJ0_coder_7d493 ⟨Nat.le_of_ble_eq_true rfl, Nat.le_of_ble_eq_true rfl⟩) (sI_recv hI hS hs9) hK hP hD hS hA hI rfl hl.1 rfl (Nat.le_of_ble_eq_true rfl) dJ0_length_8abf5_6 ⟨Nat.zero_le _, Nat.zero_le _⟩ (fun r_1 u H locs h hP hD hS => ?_)
  refine lv_ishr hx hb dJ0_length_8abf5_9 ?_
  exact W.iret (v := ((Int32.ofNat (sB x0).length) >>> (r_1 &&& 31))) hx hb hr (fun t ht hW => hQ ((Int32.ofNat (sB x0).length) >>> (r_1 &&& 31)) () t h (by rw [ht]; exact hP) (va_K.moved hW.alike hK) hD (hS.F ht)) hS.2.2 dJ0_length_8abf5_10
set_option maxHeartbeats 4000000 in
set_option maxRecDepth 100000 in
theorem sJ0_isLatin1_aae02 (l : Launch) (dC : Nat → ClassId) (dI : Nat → Nat → Nat) (ad : Nat → Nat) (cI cZ : ClassId) (sa sv : Nat → Nat) (lt_count : Int32) (lw_begin : Int32) (lw_end : Int32) (lw_depth : Int32) (lw_signed : Int32) (lw_led : Int32) (pr_written : Int32) (pr_within : Int32) (st_size : Int32) (tx_size : Int32) (tt_count : Int32) (tt_pieces : Int32) (tt_kinds : Int32) (lt_begins : Nat → Int32) (lt_marks : Nat → Int32) (st_word : Nat → Int32) (st_vowels : Nat → Int32) (tx_characters : Nat → Int32) (tt_begins : Nat → Int32) (tt_lengths : Nat → Int32) (tt_stemLengths : Nat → Int32) (tt_places : Nat → Int32) (tt_addresses : Nat → Int32) (tt_smalls : Nat → Int32) (tt_stems : Nat → Int32) (tt_slots : Nat → Int32) (tt_nexts : Nat → Int32) (x0 : Nat) {post : Int32 → Prop} (h : wpJ0_isLatin1_aae02 post x0) : xMi l (dC, dI) vwCl [(cI, .int), (cZ, .boolean)] (sI sa sv) yJ0_isLatin1_aae02 wsJ0_isLatin1_aae02 ({ frames := 0, cells := 0, slots := 0, locals := 0 }) (xW ad cI cZ lt_count lw_begin lw_end lw_depth lw_signed lw_led pr_written pr_within st_size tx_size tt_count tt_pieces tt_kinds lt_begins lt_marks st_word st_vowels tx_characters tt_begins tt_lengths tt_stemLengths tt_places tt_addresses tt_smalls tt_stems tt_slots tt_nexts) [.ref (sa x0)] (fun (r : Int32) (u : Unit) => post r ) (fun u : Unit => (xW ad cI cZ lt_count lw_begin lw_end lw_depth lw_signed lw_led pr_written pr_within st_size tx_size tt_count tt_pieces tt_kinds lt_begins lt_marks st_word st_vowels tx_characters tt_begins tt_lengths tt_stemLengths tt_places tt_addresses tt_smalls tt_stems tt_slots tt_nexts)) := by
  intro sz
  refine Met.ofW (cc := cJ0_isLatin1_aae02) (maxL := 1) (ret := (some .boolean)) (by decide) rfl ?_
  intro p e s m args below meth c s₁ B hml hv
  obtain ⟨rfl, hsz, hP, hK, hD0, hI⟩ := hv
  have hx := B.exec
  have hb := B.bytes
  have hr := B.returns
  have hts := atoms_spec (ws := wsJ0_isLatin1_aae02) B.pre
  have hown : s.vm.findClass RJ0 = some m.cls := findClass_of_methodNamed B.named
  have hlocks := B.notSynchronized
  subst hsz
  have hD := hD0.self (sz := s.heap.size)
  generalize hAe : va_A (xW ad cI cZ lt_count lw_begin lw_end lw_depth lw_signed lw_led pr_written pr_within st_size tx_size tt_count tt_pieces tt_kinds lt_begins lt_marks st_word st_vowels tx_characters tt_begins tt_lengths tt_stemLengths tt_places tt_addresses tt_smalls tt_stems tt_slots tt_nexts) s.heap.size = A at hD hI ⊢
  have hA : ∀ q : Nat, s.heap.size ≤ q → A q := fun q h => by rw [← hAe]; exact Or.inr h
  have hS : va_S A s.heap s.heap [] := va_S.rf
  have Fx : CallFix p m c cJ0_isLatin1_aae02 1 s ([.ref (sa x0)] : List Value).toArray wsJ0_isLatin1_aae02 RJ0 := ⟨hx, hb, hml, hown, hts⟩
  have hQ : ∀ (r : Int32) (u : Unit) (t : State), (fun (r : Int32) (u : Unit) => post r ) r u → va_P (dC, dI) vwCl ((fun u : Unit => (xW ad cI cZ lt_count lw_begin lw_end lw_depth lw_signed lw_led pr_written pr_within st_size tx_size tt_count tt_pieces tt_kinds lt_begins lt_marks st_word st_vowels tx_characters tt_begins tt_lengths tt_stemLengths tt_places tt_addresses tt_smalls tt_stems tt_slots tt_nexts)) u) t.heap → va_K (dC, dI) vwCl [(cI, .int), (cZ, .boolean)] t → va_D A ((fun u : Unit => (xW ad cI cZ lt_count lw_begin lw_end lw_depth lw_signed lw_led pr_written pr_within st_size tx_size tt_count tt_pieces tt_kinds lt_begins lt_marks st_word st_vowels tx_characters tt_begins tt_lengths tt_stemLengths tt_places tt_addresses tt_smalls tt_stems tt_slots tt_nexts)) u) → va_F A s t → (va_Qi (fun (r : Int32) (u : Unit) => post r ) (xB (dC, dI) vwCl [(cI, .int), (cZ, .boolean)] A (fun u : Unit => (xW ad cI cZ lt_count lw_begin lw_end lw_depth lw_signed lw_led pr_written pr_within st_size tx_size tt_count tt_pieces tt_kinds lt_begins lt_marks st_word st_vowels tx_characters tt_begins tt_lengths tt_stemLengths tt_places tt_addresses tt_smalls tt_stems tt_slots tt_nexts))) A) ([.ref (sa x0)] : List Value).toArray s (.returned (some (.int r))) t := fun r u t h1 h2 h3 h4 h5 => ⟨⟨r, u, rfl, h1, h2, h3, h4⟩, h5⟩
  generalize (va_Qi (fun (r : Int32) (u : Unit) => post r ) (xB (dC, dI) vwCl [(cI, .int), (cZ, .boolean)] A (fun u : Unit => (xW ad cI cZ lt_count lw_begin lw_end lw_depth lw_signed lw_led pr_written pr_within st_size tx_size tt_count tt_pieces tt_kinds lt_begins lt_marks st_word st_vowels tx_characters tt_begins tt_lengths tt_stemLengths tt_places tt_addresses tt_smalls tt_stems tt_slots tt_nexts))) A) = Qc at hQ ⊢
  have hl := lv_entry ([.ref (sa x0)]) (n := 1) (Nat.le_of_ble_eq_true rfl)
  rw [lg_entry_eq]
  generalize (lg_sl ([.ref (sa x0)]) ++ List.replicate (1 - (lg_sl ([.ref (sa x0)])).length) Slot.unset).toArray = ls at hl ⊢
  have hl : lv_has ls 1 [(0, .ref (sa x0))] := hl
  refine (fun (key : ∀ (H : Heap) (locs : List Loc), va_P (dC, dI) vwCl (xW ad cI cZ lt_count lw_begin lw_end lw_depth lw_signed lw_led pr_written pr_within st_size tx_size tt_count tt_pieces tt_kinds lt_begins lt_marks st_word st_vowels tx_characters tt_begins tt_lengths tt_stemLengths tt_places tt_addresses tt_smalls tt_stems tt_slots tt_nexts) H → va_D A (xW ad cI cZ lt_count lw_begin lw_end lw_depth lw_signed lw_led pr_written pr_within st_size tx_size tt_count tt_pieces tt_kinds lt_begins lt_marks st_word st_vowels tx_characters tt_begins tt_lengths tt_stemLengths tt_places tt_addresses tt_smalls tt_stems tt_slots tt_nexts) → va_S A s.heap H locs → W p l e (headSpec wsJ0_isLatin1_aae02 ({ frames := 0, cells := 0, slots := 0, locals := 0 })).room s m ([.ref (sa x0)] : List Value).toArray below meth c H locs 0 0 (MQ below Qc ([.ref (sa x0)] : List Value).toArray s 0 0 A) (F0 m 0 ls [])) => key _ _ hP hD hS) ?_
  intro H locs hP hD hS
  delta wpJ0_isLatin1_aae02 at h
  refine va_gets hx hb (sI_cs hI) hS hown (hts (.fieldLink RJ0 38 "java/lang/String" "COMPACT_STRINGS" "Z") (List.mem_of_getElem? (i := 1) rfl)) (fun _ h9 => h9) dJ0_isLatin1_aae02_0 ?_
  refine lv_if_eq (tgt := 17) hx hb dJ0_isLatin1_aae02_3 (by decide) (fun c9 => ?_) (fun c9 => ?_)
  · have h := h.1 c9
    refine lv_iconst (v := 0) hx hb dJ0_isLatin1_aae02_17 (by decide) ?_
    exact W.zret (v := 0) hx hb hr (bN_nar bN0) (fun t ht hW => hQ 0 () t h (by rw [ht]; exact hP) (va_K.moved hW.alike hK) hD (hS.F ht)) hS.2.2 dJ0_isLatin1_aae02_18
  · have h := h.2 c9
    refine lv_aload_n hx hb dJ0_isLatin1_aae02_6 rfl (lv_at hl 0 rfl) ?_
    have hs9 := h.1
    have h := h.2
    refine vk_getf hx hb (sI_cod hI hs9) hS hown (hts (.fieldLink RJ0 15 "java/lang/String" "coder" "B") (List.mem_of_getElem? (i := 2) rfl)) (fun _ h9 => h9) dJ0_isLatin1_aae02_7 ?_
    refine lv_if_ne (tgt := 17) hx hb dJ0_isLatin1_aae02_10 (by decide) (fun c9 => ?_) (fun c9 => ?_)
    · have h := h.1 c9
      refine lv_iconst (v := 0) hx hb dJ0_isLatin1_aae02_17 (by decide) ?_
      exact W.zret (v := 0) hx hb hr (bN_nar bN0) (fun t ht hW => hQ 0 () t h (by rw [ht]; exact hP) (va_K.moved hW.alike hK) hD (hS.F ht)) hS.2.2 dJ0_isLatin1_aae02_18
    · have h := h.2 c9
      refine lv_iconst (v := 1) hx hb dJ0_isLatin1_aae02_13 (by decide) ?_
      refine lv_goto (tgt := 18) hx hb dJ0_isLatin1_aae02_14 (by decide) ?_
      exact W.zret (v := 1) hx hb hr (bN_nar bN1) (fun t ht hW => hQ 1 () t h (by rw [ht]; exact hP) (va_K.moved hW.alike hK) hD (hS.F ht)) hS.2.2 dJ0_isLatin1_aae02_18
set_option maxHeartbeats 4000000 in
set_option maxRecDepth 100000 in
theorem sJ3_checkIndex_8e157_nul (l : Launch) (dC : Nat → ClassId) (dI : Nat → Nat → Nat) (ad : Nat → Nat) (cI cZ : ClassId) (sa sv : Nat → Nat) (lt_count : Int32) (lw_begin : Int32) (lw_end : Int32) (lw_depth : Int32) (lw_signed : Int32) (lw_led : Int32) (pr_written : Int32) (pr_within : Int32) (st_size : Int32) (tx_size : Int32) (tt_count : Int32) (tt_pieces : Int32) (tt_kinds : Int32) (lt_begins : Nat → Int32) (lt_marks : Nat → Int32) (st_word : Nat → Int32) (st_vowels : Nat → Int32) (tx_characters : Nat → Int32) (tt_begins : Nat → Int32) (tt_lengths : Nat → Int32) (tt_stemLengths : Nat → Int32) (tt_places : Nat → Int32) (tt_addresses : Nat → Int32) (tt_smalls : Nat → Int32) (tt_stems : Nat → Int32) (tt_slots : Nat → Int32) (tt_nexts : Nat → Int32) (x0 : Int32) (x1 : Int32) {post : Int32 → Prop} (h : wpJ3_checkIndex_8e157 post x0 x1) : xMi l (dC, dI) vwCl [(cI, .int), (cZ, .boolean)] (sI sa sv) yJ3_checkIndex_8e157 wsJ3_checkIndex_8e157 ({ frames := 0, cells := 0, slots := 0, locals := 0 }) (xW ad cI cZ lt_count lw_begin lw_end lw_depth lw_signed lw_led pr_written pr_within st_size tx_size tt_count tt_pieces tt_kinds lt_begins lt_marks st_word st_vowels tx_characters tt_begins tt_lengths tt_stemLengths tt_places tt_addresses tt_smalls tt_stems tt_slots tt_nexts) [.int x0, .int x1, .null] (fun (r : Int32) (u : Unit) => post r ) (fun u : Unit => (xW ad cI cZ lt_count lw_begin lw_end lw_depth lw_signed lw_led pr_written pr_within st_size tx_size tt_count tt_pieces tt_kinds lt_begins lt_marks st_word st_vowels tx_characters tt_begins tt_lengths tt_stemLengths tt_places tt_addresses tt_smalls tt_stems tt_slots tt_nexts)) := by
  intro sz
  refine Met.ofW (cc := cJ3_checkIndex_8e157) (maxL := 3) (ret := (some .int)) (by decide) rfl ?_
  intro p e s m args below meth c s₁ B hml hv
  obtain ⟨rfl, hsz, hP, hK, hD0, hI⟩ := hv
  have hx := B.exec
  have hb := B.bytes
  have hr := B.returns
  have hts := atoms_spec (ws := wsJ3_checkIndex_8e157) B.pre
  have hown : s.vm.findClass RJ3 = some m.cls := findClass_of_methodNamed B.named
  have hlocks := B.notSynchronized
  subst hsz
  have hD := hD0.self (sz := s.heap.size)
  generalize hAe : va_A (xW ad cI cZ lt_count lw_begin lw_end lw_depth lw_signed lw_led pr_written pr_within st_size tx_size tt_count tt_pieces tt_kinds lt_begins lt_marks st_word st_vowels tx_characters tt_begins tt_lengths tt_stemLengths tt_places tt_addresses tt_smalls tt_stems tt_slots tt_nexts) s.heap.size = A at hD hI ⊢
  have hA : ∀ q : Nat, s.heap.size ≤ q → A q := fun q h => by rw [← hAe]; exact Or.inr h
  have hS : va_S A s.heap s.heap [] := va_S.rf
  have Fx : CallFix p m c cJ3_checkIndex_8e157 3 s ([.int x0, .int x1, .null] : List Value).toArray wsJ3_checkIndex_8e157 RJ3 := ⟨hx, hb, hml, hown, hts⟩
  have hQ : ∀ (r : Int32) (u : Unit) (t : State), (fun (r : Int32) (u : Unit) => post r ) r u → va_P (dC, dI) vwCl ((fun u : Unit => (xW ad cI cZ lt_count lw_begin lw_end lw_depth lw_signed lw_led pr_written pr_within st_size tx_size tt_count tt_pieces tt_kinds lt_begins lt_marks st_word st_vowels tx_characters tt_begins tt_lengths tt_stemLengths tt_places tt_addresses tt_smalls tt_stems tt_slots tt_nexts)) u) t.heap → va_K (dC, dI) vwCl [(cI, .int), (cZ, .boolean)] t → va_D A ((fun u : Unit => (xW ad cI cZ lt_count lw_begin lw_end lw_depth lw_signed lw_led pr_written pr_within st_size tx_size tt_count tt_pieces tt_kinds lt_begins lt_marks st_word st_vowels tx_characters tt_begins tt_lengths tt_stemLengths tt_places tt_addresses tt_smalls tt_stems tt_slots tt_nexts)) u) → va_F A s t → (va_Qi (fun (r : Int32) (u : Unit) => post r ) (xB (dC, dI) vwCl [(cI, .int), (cZ, .boolean)] A (fun u : Unit => (xW ad cI cZ lt_count lw_begin lw_end lw_depth lw_signed lw_led pr_written pr_within st_size tx_size tt_count tt_pieces tt_kinds lt_begins lt_marks st_word st_vowels tx_characters tt_begins tt_lengths tt_stemLengths tt_places tt_addresses tt_smalls tt_stems tt_slots tt_nexts))) A) ([.int x0, .int x1, .null] : List Value).toArray s (.returned (some (.int r))) t := fun r u t h1 h2 h3 h4 h5 => ⟨⟨r, u, rfl, h1, h2, h3, h4⟩, h5⟩
  generalize (va_Qi (fun (r : Int32) (u : Unit) => post r ) (xB (dC, dI) vwCl [(cI, .int), (cZ, .boolean)] A (fun u : Unit => (xW ad cI cZ lt_count lw_begin lw_end lw_depth lw_signed lw_led pr_written pr_within st_size tx_size tt_count tt_pieces tt_kinds lt_begins lt_marks st_word st_vowels tx_characters tt_begins tt_lengths tt_stemLengths tt_places tt_addresses tt_smalls tt_stems tt_slots tt_nexts))) A) = Qc at hQ ⊢
  have hl := lv_entry ([.int x0, .int x1, .null]) (n := 3) (Nat.le_of_ble_eq_true rfl)
  rw [lg_entry_eq]
  generalize (lg_sl ([.int x0, .int x1, .null]) ++ List.replicate (3 - (lg_sl ([.int x0, .int x1, .null])).length) Slot.unset).toArray = ls at hl ⊢
  have hl : lv_has ls 3 [(0, .int x0), (1, .int x1), (2, .null)] := hl
  refine (fun (key : ∀ (H : Heap) (locs : List Loc), va_P (dC, dI) vwCl (xW ad cI cZ lt_count lw_begin lw_end lw_depth lw_signed lw_led pr_written pr_within st_size tx_size tt_count tt_pieces tt_kinds lt_begins lt_marks st_word st_vowels tx_characters tt_begins tt_lengths tt_stemLengths tt_places tt_addresses tt_smalls tt_stems tt_slots tt_nexts) H → va_D A (xW ad cI cZ lt_count lw_begin lw_end lw_depth lw_signed lw_led pr_written pr_within st_size tx_size tt_count tt_pieces tt_kinds lt_begins lt_marks st_word st_vowels tx_characters tt_begins tt_lengths tt_stemLengths tt_places tt_addresses tt_smalls tt_stems tt_slots tt_nexts) → va_S A s.heap H locs → W p l e (headSpec wsJ3_checkIndex_8e157 ({ frames := 0, cells := 0, slots := 0, locals := 0 })).room s m ([.int x0, .int x1, .null] : List Value).toArray below meth c H locs 0 0 (MQ below Qc ([.int x0, .int x1, .null] : List Value).toArray s 0 0 A) (F0 m 0 ls [])) => key _ _ hP hD hS) ?_
  intro H locs hP hD hS
  delta wpJ3_checkIndex_8e157 at h
  refine lv_iload_n hx hb dJ3_checkIndex_8e157_0 rfl (lv_at hl 0 rfl) ?_
  refine lv_if_lt (tgt := 9) hx hb dJ3_checkIndex_8e157_1 (by decide) (fun c9 => ?_) (fun c9 => ?_)
  · have h := h.1 c9
    exact absurd h (fun z => z)
  · have h := h.2 c9
    refine lv_iload_n hx hb dJ3_checkIndex_8e157_4 rfl (lv_at hl 0 rfl) ?_
    refine lv_iload_n hx hb dJ3_checkIndex_8e157_5 rfl (lv_at hl 1 rfl) ?_
    refine lv_icmp_lt (tgt := 16) hx hb dJ3_checkIndex_8e157_6 (by decide) (fun c9 => ?_) (fun c9 => ?_)
    · have h := h.1 c9
      refine lv_iload_n hx hb dJ3_checkIndex_8e157_16 rfl (lv_at hl 0 rfl) ?_
      exact W.iret (v := x0) hx hb hr (fun t ht hW => hQ x0 () t h (by rw [ht]; exact hP) (va_K.moved hW.alike hK) hD (hS.F ht)) hS.2.2 dJ3_checkIndex_8e157_17
    · have h := h.2 c9
      exact absurd h (fun z => z)
set_option maxHeartbeats 4000000 in
set_option maxRecDepth 100000 in
theorem sJ3_checkIndex_8e157_anyref (l : Launch) (dC : Nat → ClassId) (dI : Nat → Nat → Nat) (ad : Nat → Nat) (cI cZ : ClassId) (sa sv : Nat → Nat) (lt_count : Int32) (lw_begin : Int32) (lw_end : Int32) (lw_depth : Int32) (lw_signed : Int32) (lw_led : Int32) (pr_written : Int32) (pr_within : Int32) (st_size : Int32) (tx_size : Int32) (tt_count : Int32) (tt_pieces : Int32) (tt_kinds : Int32) (lt_begins : Nat → Int32) (lt_marks : Nat → Int32) (st_word : Nat → Int32) (st_vowels : Nat → Int32) (tx_characters : Nat → Int32) (tt_begins : Nat → Int32) (tt_lengths : Nat → Int32) (tt_stemLengths : Nat → Int32) (tt_places : Nat → Int32) (tt_addresses : Nat → Int32) (tt_smalls : Nat → Int32) (tt_stems : Nat → Int32) (tt_slots : Nat → Int32) (tt_nexts : Nat → Int32) (x0 : Int32) (x1 : Int32) (x2 : Nat) {post : Int32 → Prop} (h : wpJ3_checkIndex_8e157 post x0 x1) : xMi l (dC, dI) vwCl [(cI, .int), (cZ, .boolean)] (sI sa sv) yJ3_checkIndex_8e157 wsJ3_checkIndex_8e157 ({ frames := 0, cells := 0, slots := 0, locals := 0 }) (xW ad cI cZ lt_count lw_begin lw_end lw_depth lw_signed lw_led pr_written pr_within st_size tx_size tt_count tt_pieces tt_kinds lt_begins lt_marks st_word st_vowels tx_characters tt_begins tt_lengths tt_stemLengths tt_places tt_addresses tt_smalls tt_stems tt_slots tt_nexts) [.int x0, .int x1, .ref x2] (fun (r : Int32) (u : Unit) => post r ) (fun u : Unit => (xW ad cI cZ lt_count lw_begin lw_end lw_depth lw_signed lw_led pr_written pr_within st_size tx_size tt_count tt_pieces tt_kinds lt_begins lt_marks st_word st_vowels tx_characters tt_begins tt_lengths tt_stemLengths tt_places tt_addresses tt_smalls tt_stems tt_slots tt_nexts)) := by
  intro sz
  refine Met.ofW (cc := cJ3_checkIndex_8e157) (maxL := 3) (ret := (some .int)) (by decide) rfl ?_
  intro p e s m args below meth c s₁ B hml hv
  obtain ⟨rfl, hsz, hP, hK, hD0, hI⟩ := hv
  have hx := B.exec
  have hb := B.bytes
  have hr := B.returns
  have hts := atoms_spec (ws := wsJ3_checkIndex_8e157) B.pre
  have hown : s.vm.findClass RJ3 = some m.cls := findClass_of_methodNamed B.named
  have hlocks := B.notSynchronized
  subst hsz
  have hD := hD0.self (sz := s.heap.size)
  generalize hAe : va_A (xW ad cI cZ lt_count lw_begin lw_end lw_depth lw_signed lw_led pr_written pr_within st_size tx_size tt_count tt_pieces tt_kinds lt_begins lt_marks st_word st_vowels tx_characters tt_begins tt_lengths tt_stemLengths tt_places tt_addresses tt_smalls tt_stems tt_slots tt_nexts) s.heap.size = A at hD hI ⊢
  have hA : ∀ q : Nat, s.heap.size ≤ q → A q := fun q h => by rw [← hAe]; exact Or.inr h
  have hS : va_S A s.heap s.heap [] := va_S.rf
  have Fx : CallFix p m c cJ3_checkIndex_8e157 3 s ([.int x0, .int x1, .ref x2] : List Value).toArray wsJ3_checkIndex_8e157 RJ3 := ⟨hx, hb, hml, hown, hts⟩
  have hQ : ∀ (r : Int32) (u : Unit) (t : State), (fun (r : Int32) (u : Unit) => post r ) r u → va_P (dC, dI) vwCl ((fun u : Unit => (xW ad cI cZ lt_count lw_begin lw_end lw_depth lw_signed lw_led pr_written pr_within st_size tx_size tt_count tt_pieces tt_kinds lt_begins lt_marks st_word st_vowels tx_characters tt_begins tt_lengths tt_stemLengths tt_places tt_addresses tt_smalls tt_stems tt_slots tt_nexts)) u) t.heap → va_K (dC, dI) vwCl [(cI, .int), (cZ, .boolean)] t → va_D A ((fun u : Unit => (xW ad cI cZ lt_count lw_begin lw_end lw_depth lw_signed lw_led pr_written pr_within st_size tx_size tt_count tt_pieces tt_kinds lt_begins lt_marks st_word st_vowels tx_characters tt_begins tt_lengths tt_stemLengths tt_places tt_addresses tt_smalls tt_stems tt_slots tt_nexts)) u) → va_F A s t → (va_Qi (fun (r : Int32) (u : Unit) => post r ) (xB (dC, dI) vwCl [(cI, .int), (cZ, .boolean)] A (fun u : Unit => (xW ad cI cZ lt_count lw_begin lw_end lw_depth lw_signed lw_led pr_written pr_within st_size tx_size tt_count tt_pieces tt_kinds lt_begins lt_marks st_word st_vowels tx_characters tt_begins tt_lengths tt_stemLengths tt_places tt_addresses tt_smalls tt_stems tt_slots tt_nexts))) A) ([.int x0, .int x1, .ref x2] : List Value).toArray s (.returned (some (.int r))) t := fun r u t h1 h2 h3 h4 h5 => ⟨⟨r, u, rfl, h1, h2, h3, h4⟩, h5⟩
  generalize (va_Qi (fun (r : Int32) (u : Unit) => post r ) (xB (dC, dI) vwCl [(cI, .int), (cZ, .boolean)] A (fun u : Unit => (xW ad cI cZ lt_count lw_begin lw_end lw_depth lw_signed lw_led pr_written pr_within st_size tx_size tt_count tt_pieces tt_kinds lt_begins lt_marks st_word st_vowels tx_characters tt_begins tt_lengths tt_stemLengths tt_places tt_addresses tt_smalls tt_stems tt_slots tt_nexts))) A) = Qc at hQ ⊢
  have hl := lv_entry ([.int x0, .int x1, .ref x2]) (n := 3) (Nat.le_of_ble_eq_true rfl)
  rw [lg_entry_eq]
  generalize (lg_sl ([.int x0, .int x1, .ref x2]) ++ List.replicate (3 - (lg_sl ([.int x0, .int x1, .ref x2])).length) Slot.unset).toArray = ls at hl ⊢
  have hl : lv_has ls 3 [(0, .int x0), (1, .int x1), (2, .ref x2)] := hl
  refine (fun (key : ∀ (H : Heap) (locs : List Loc), va_P (dC, dI) vwCl (xW ad cI cZ lt_count lw_begin lw_end lw_depth lw_signed lw_led pr_written pr_within st_size tx_size tt_count tt_pieces tt_kinds lt_begins lt_marks st_word st_vowels tx_characters tt_begins tt_lengths tt_stemLengths tt_places tt_addresses tt_smalls tt_stems tt_slots tt_nexts) H → va_D A (xW ad cI cZ lt_count lw_begin lw_end lw_depth lw_signed lw_led pr_written pr_within st_size tx_size tt_count tt_pieces tt_kinds lt_begins lt_marks st_word st_vowels tx_characters tt_begins tt_lengths tt_stemLengths tt_places tt_addresses tt_smalls tt_stems tt_slots tt_nexts) → va_S A s.heap H locs → W p l e (headSpec wsJ3_checkIndex_8e157 ({ frames := 0, cells := 0, slots := 0, locals := 0 })).room s m ([.int x0, .int x1, .ref x2] : List Value).toArray below meth c H locs 0 0 (MQ below Qc ([.int x0, .int x1, .ref x2] : List Value).toArray s 0 0 A) (F0 m 0 ls [])) => key _ _ hP hD hS) ?_
  intro H locs hP hD hS
  delta wpJ3_checkIndex_8e157 at h
  refine lv_iload_n hx hb dJ3_checkIndex_8e157_0 rfl (lv_at hl 0 rfl) ?_
  refine lv_if_lt (tgt := 9) hx hb dJ3_checkIndex_8e157_1 (by decide) (fun c9 => ?_) (fun c9 => ?_)
  · have h := h.1 c9
    exact absurd h (fun z => z)
  · have h := h.2 c9
    refine lv_iload_n hx hb dJ3_checkIndex_8e157_4 rfl (lv_at hl 0 rfl) ?_
    refine lv_iload_n hx hb dJ3_checkIndex_8e157_5 rfl (lv_at hl 1 rfl) ?_
    refine lv_icmp_lt (tgt := 16) hx hb dJ3_checkIndex_8e157_6 (by decide) (fun c9 => ?_) (fun c9 => ?_)
    · have h := h.1 c9
      refine lv_iload_n hx hb dJ3_checkIndex_8e157_16 rfl (lv_at hl 0 rfl) ?_
      exact W.iret (v := x0) hx hb hr (fun t ht hW => hQ x0 () t h (by rw [ht]; exact hP) (va_K.moved hW.alike hK) hD (hS.F ht)) hS.2.2 dJ3_checkIndex_8e157_17
    · have h := h.2 c9
      exact absurd h (fun z => z)
set_option maxHeartbeats 4000000 in
set_option maxRecDepth 100000 in
theorem sJ0_checkIndex_df160 (l : Launch) (dC : Nat → ClassId) (dI : Nat → Nat → Nat) (ad : Nat → Nat) (cI cZ : ClassId) (sa sv : Nat → Nat) (lt_count : Int32) (lw_begin : Int32) (lw_end : Int32) (lw_depth : Int32) (lw_signed : Int32) (lw_led : Int32) (pr_written : Int32) (pr_within : Int32) (st_size : Int32) (tx_size : Int32) (tt_count : Int32) (tt_pieces : Int32) (tt_kinds : Int32) (lt_begins : Nat → Int32) (lt_marks : Nat → Int32) (st_word : Nat → Int32) (st_vowels : Nat → Int32) (tx_characters : Nat → Int32) (tt_begins : Nat → Int32) (tt_lengths : Nat → Int32) (tt_stemLengths : Nat → Int32) (tt_places : Nat → Int32) (tt_addresses : Nat → Int32) (tt_smalls : Nat → Int32) (tt_stems : Nat → Int32) (tt_slots : Nat → Int32) (tt_nexts : Nat → Int32) (x0 : Int32) (x1 : Int32) {post : Prop} (h : wpJ0_checkIndex_df160 post x0 x1) : xMv l (dC, dI) vwCl [(cI, .int), (cZ, .boolean)] (sI sa sv) yJ0_checkIndex_df160 wsJ0_checkIndex_df160 ({ frames := 1, cells := 0, slots := 0, locals := 22 }) (xW ad cI cZ lt_count lw_begin lw_end lw_depth lw_signed lw_led pr_written pr_within st_size tx_size tt_count tt_pieces tt_kinds lt_begins lt_marks st_word st_vowels tx_characters tt_begins tt_lengths tt_stemLengths tt_places tt_addresses tt_smalls tt_stems tt_slots tt_nexts) [.int x0, .int x1] (fun u : Unit => post ) (fun u : Unit => (xW ad cI cZ lt_count lw_begin lw_end lw_depth lw_signed lw_led pr_written pr_within st_size tx_size tt_count tt_pieces tt_kinds lt_begins lt_marks st_word st_vowels tx_characters tt_begins tt_lengths tt_stemLengths tt_places tt_addresses tt_smalls tt_stems tt_slots tt_nexts)) := by
  intro sz
  refine Met.ofW (cc := cJ0_checkIndex_df160) (maxL := 2) (ret := none) (by decide) rfl ?_
  intro p e s m args below meth c s₁ B hml hv
  obtain ⟨rfl, hsz, hP, hK, hD0, hI⟩ := hv
  have hx := B.exec
  have hb := B.bytes
  have hr := B.returns
  have hts := atoms_spec (ws := wsJ0_checkIndex_df160) B.pre
  have hown : s.vm.findClass RJ0 = some m.cls := findClass_of_methodNamed B.named
  have hlocks := B.notSynchronized
  subst hsz
  have hD := hD0.self (sz := s.heap.size)
  generalize hAe : va_A (xW ad cI cZ lt_count lw_begin lw_end lw_depth lw_signed lw_led pr_written pr_within st_size tx_size tt_count tt_pieces tt_kinds lt_begins lt_marks st_word st_vowels tx_characters tt_begins tt_lengths tt_stemLengths tt_places tt_addresses tt_smalls tt_stems tt_slots tt_nexts) s.heap.size = A at hD hI ⊢
  have hA : ∀ q : Nat, s.heap.size ≤ q → A q := fun q h => by rw [← hAe]; exact Or.inr h
  have hS : va_S A s.heap s.heap [] := va_S.rf
  have Fx : CallFix p m c cJ0_checkIndex_df160 2 s ([.int x0, .int x1] : List Value).toArray wsJ0_checkIndex_df160 RJ0 := ⟨hx, hb, hml, hown, hts⟩
  have hQ : ∀ (u : Unit) (t : State), (fun u : Unit => post ) u → va_P (dC, dI) vwCl ((fun u : Unit => (xW ad cI cZ lt_count lw_begin lw_end lw_depth lw_signed lw_led pr_written pr_within st_size tx_size tt_count tt_pieces tt_kinds lt_begins lt_marks st_word st_vowels tx_characters tt_begins tt_lengths tt_stemLengths tt_places tt_addresses tt_smalls tt_stems tt_slots tt_nexts)) u) t.heap → va_K (dC, dI) vwCl [(cI, .int), (cZ, .boolean)] t → va_D A ((fun u : Unit => (xW ad cI cZ lt_count lw_begin lw_end lw_depth lw_signed lw_led pr_written pr_within st_size tx_size tt_count tt_pieces tt_kinds lt_begins lt_marks st_word st_vowels tx_characters tt_begins tt_lengths tt_stemLengths tt_places tt_addresses tt_smalls tt_stems tt_slots tt_nexts)) u) → va_F A s t → (va_Qv (fun u : Unit => post ) (xB (dC, dI) vwCl [(cI, .int), (cZ, .boolean)] A (fun u : Unit => (xW ad cI cZ lt_count lw_begin lw_end lw_depth lw_signed lw_led pr_written pr_within st_size tx_size tt_count tt_pieces tt_kinds lt_begins lt_marks st_word st_vowels tx_characters tt_begins tt_lengths tt_stemLengths tt_places tt_addresses tt_smalls tt_stems tt_slots tt_nexts))) A) ([.int x0, .int x1] : List Value).toArray s (.returned none) t := fun u t h1 h2 h3 h4 h5 => ⟨⟨u, rfl, h1, h2, h3, h4⟩, h5⟩
  generalize (va_Qv (fun u : Unit => post ) (xB (dC, dI) vwCl [(cI, .int), (cZ, .boolean)] A (fun u : Unit => (xW ad cI cZ lt_count lw_begin lw_end lw_depth lw_signed lw_led pr_written pr_within st_size tx_size tt_count tt_pieces tt_kinds lt_begins lt_marks st_word st_vowels tx_characters tt_begins tt_lengths tt_stemLengths tt_places tt_addresses tt_smalls tt_stems tt_slots tt_nexts))) A) = Qc at hQ ⊢
  have hl := lv_entry ([.int x0, .int x1]) (n := 2) (Nat.le_of_ble_eq_true rfl)
  rw [lg_entry_eq]
  generalize (lg_sl ([.int x0, .int x1]) ++ List.replicate (2 - (lg_sl ([.int x0, .int x1])).length) Slot.unset).toArray = ls at hl ⊢
  have hl : lv_has ls 2 [(0, .int x0), (1, .int x1)] := hl
  refine (fun (key : ∀ (H : Heap) (locs : List Loc), va_P (dC, dI) vwCl (xW ad cI cZ lt_count lw_begin lw_end lw_depth lw_signed lw_led pr_written pr_within st_size tx_size tt_count tt_pieces tt_kinds lt_begins lt_marks st_word st_vowels tx_characters tt_begins tt_lengths tt_stemLengths tt_places tt_addresses tt_smalls tt_stems tt_slots tt_nexts) H → va_D A (xW ad cI cZ lt_count lw_begin lw_end lw_depth lw_signed lw_led pr_written pr_within st_size tx_size tt_count tt_pieces tt_kinds lt_begins lt_marks st_word st_vowels tx_characters tt_begins tt_lengths tt_stemLengths tt_places tt_addresses tt_smalls tt_stems tt_slots tt_nexts) → va_S A s.heap H locs → W p l e (headSpec wsJ0_checkIndex_df160 ({ frames := 1, cells := 0, slots := 0, locals := 22 })).room s m ([.int x0, .int x1] : List Value).toArray below meth c H locs 0 0 (MQ below Qc ([.int x0, .int x1] : List Value).toArray s 0 0 A) (F0 m 0 ls [])) => key _ _ hP hD hS) ?_
  intro H locs hP hD hS
  delta wpJ0_checkIndex_df160 at h
  refine lv_iload_n hx hb dJ0_checkIndex_df160_0 rfl (lv_at hl 0 rfl) ?_
  refine lv_iload_n hx hb dJ0_checkIndex_df160_1 rfl (lv_at hl 1 rfl) ?_
  rcases hI.2.2 with hz | ⟨t9, hz⟩
  · refine va_gets hx hb hz hS hown (hts (.fieldLink RJ0 1053 "jdk/internal/util/Preconditions" "SIOOBE_FORMATTER" "Ljava/util/function/BiFunction;") (List.mem_of_getElem? (i := 1) rfl)) (fun _ h9 => h9) dJ0_checkIndex_df160_2 ?_
    refine xc_si (As := [.int x0, .int x1, .null]) (rest := []) xG Fx (sJ3_checkIndex_8e157_nul l dC dI ad cI cZ sa sv lt_count lw_begin lw_end lw_depth lw_signed lw_led pr_written pr_within st_size tx_size tt_count tt_pieces tt_kinds lt_begins lt_marks st_word st_vowels tx_characters tt_begins tt_lengths tt_stemLengths tt_places tt_addresses tt_smalls tt_stems tt_slots tt_nexts x0 x1 h) (va_cwS 3 hts gJ0_checkIndex_df160_J3_checkIndex_8e157 rfl rfl rfl hdJ3_checkIndex_8e157 ⟨Nat.le_of_ble_eq_true rfl, Nat.le_of_ble_eq_true rfl⟩) hK hP hD hS hA hI rfl hl.1 rfl (Nat.le_of_ble_eq_true rfl) dJ0_checkIndex_df160_5 ⟨Nat.zero_le _, Nat.zero_le _⟩ (fun r_1 u H locs h hP hD hS => ?_)
    refine lv_pop hx hb dJ0_checkIndex_df160_8 rfl ?_
    exact W.vret hx hb hr (fun t ht hW => hQ () t h (by rw [ht]; exact hP) (va_K.moved hW.alike hK) hD (hS.F ht)) hS.2.2 dJ0_checkIndex_df160_9
  · refine va_gets hx hb hz hS hown (hts (.fieldLink RJ0 1053 "jdk/internal/util/Preconditions" "SIOOBE_FORMATTER" "Ljava/util/function/BiFunction;") (List.mem_of_getElem? (i := 1) rfl)) (fun _ h9 => h9) dJ0_checkIndex_df160_2 ?_
    refine xc_si (As := [.int x0, .int x1, .ref t9]) (rest := []) xG Fx (sJ3_checkIndex_8e157_anyref l dC dI ad cI cZ sa sv lt_count lw_begin lw_end lw_depth lw_signed lw_led pr_written pr_within st_size tx_size tt_count tt_pieces tt_kinds lt_begins lt_marks st_word st_vowels tx_characters tt_begins tt_lengths tt_stemLengths tt_places tt_addresses tt_smalls tt_stems tt_slots tt_nexts x0 x1 t9 h) (va_cwS 3 hts gJ0_checkIndex_df160_J3_checkIndex_8e157 rfl rfl rfl hdJ3_checkIndex_8e157 ⟨Nat.le_of_ble_eq_true rfl, Nat.le_of_ble_eq_true rfl⟩) hK hP hD hS hA hI rfl hl.1 rfl (Nat.le_of_ble_eq_true rfl) dJ0_checkIndex_df160_5 ⟨Nat.zero_le _, Nat.zero_le _⟩ (fun r_2 u H locs h hP hD hS => ?_)
    refine lv_pop hx hb dJ0_checkIndex_df160_8 rfl ?_
    exact W.vret hx hb hr (fun t ht hW => hQ () t h (by rw [ht]; exact hP) (va_K.moved hW.alike hK) hD (hS.F ht)) hS.2.2 dJ0_checkIndex_df160_9
set_option maxHeartbeats 4000000 in
set_option maxRecDepth 100000 in
theorem sJ1_charAt_3b067 (l : Launch) (dC : Nat → ClassId) (dI : Nat → Nat → Nat) (ad : Nat → Nat) (cI cZ : ClassId) (sa sv : Nat → Nat) (lt_count : Int32) (lw_begin : Int32) (lw_end : Int32) (lw_depth : Int32) (lw_signed : Int32) (lw_led : Int32) (pr_written : Int32) (pr_within : Int32) (st_size : Int32) (tx_size : Int32) (tt_count : Int32) (tt_pieces : Int32) (tt_kinds : Int32) (lt_begins : Nat → Int32) (lt_marks : Nat → Int32) (st_word : Nat → Int32) (st_vowels : Nat → Int32) (tx_characters : Nat → Int32) (tt_begins : Nat → Int32) (tt_lengths : Nat → Int32) (tt_stemLengths : Nat → Int32) (tt_places : Nat → Int32) (tt_addresses : Nat → Int32) (tt_smalls : Nat → Int32) (tt_stems : Nat → Int32) (tt_slots : Nat → Int32) (tt_nexts : Nat → Int32) (x0 : Nat) (x1 : Int32) {post : Int32 → Prop} (h : wpJ1_charAt_3b067 post x0 x1) : xMi l (dC, dI) vwCl [(cI, .int), (cZ, .boolean)] (sI sa sv) yJ1_charAt_3b067 wsJ1_charAt_3b067 ({ frames := 2, cells := 0, slots := 0, locals := 43 }) (xW ad cI cZ lt_count lw_begin lw_end lw_depth lw_signed lw_led pr_written pr_within st_size tx_size tt_count tt_pieces tt_kinds lt_begins lt_marks st_word st_vowels tx_characters tt_begins tt_lengths tt_stemLengths tt_places tt_addresses tt_smalls tt_stems tt_slots tt_nexts) [.ref (sv x0), .int x1] (fun (r : Int32) (u : Unit) => post r ) (fun u : Unit => (xW ad cI cZ lt_count lw_begin lw_end lw_depth lw_signed lw_led pr_written pr_within st_size tx_size tt_count tt_pieces tt_kinds lt_begins lt_marks st_word st_vowels tx_characters tt_begins tt_lengths tt_stemLengths tt_places tt_addresses tt_smalls tt_stems tt_slots tt_nexts)) := by
  intro sz
  refine Met.ofW (cc := cJ1_charAt_3b067) (maxL := 2) (ret := (some .char)) (by decide) rfl ?_
  intro p e s m args below meth c s₁ B hml hv
  obtain ⟨rfl, hsz, hP, hK, hD0, hI⟩ := hv
  have hx := B.exec
  have hb := B.bytes
  have hr := B.returns
  have hts := atoms_spec (ws := wsJ1_charAt_3b067) B.pre
  have hown : s.vm.findClass RJ1 = some m.cls := findClass_of_methodNamed B.named
  have hlocks := B.notSynchronized
  subst hsz
  have hD := hD0.self (sz := s.heap.size)
  generalize hAe : va_A (xW ad cI cZ lt_count lw_begin lw_end lw_depth lw_signed lw_led pr_written pr_within st_size tx_size tt_count tt_pieces tt_kinds lt_begins lt_marks st_word st_vowels tx_characters tt_begins tt_lengths tt_stemLengths tt_places tt_addresses tt_smalls tt_stems tt_slots tt_nexts) s.heap.size = A at hD hI ⊢
  have hA : ∀ q : Nat, s.heap.size ≤ q → A q := fun q h => by rw [← hAe]; exact Or.inr h
  have hS : va_S A s.heap s.heap [] := va_S.rf
  have Fx : CallFix p m c cJ1_charAt_3b067 2 s ([.ref (sv x0), .int x1] : List Value).toArray wsJ1_charAt_3b067 RJ1 := ⟨hx, hb, hml, hown, hts⟩
  have hQ : ∀ (r : Int32) (u : Unit) (t : State), (fun (r : Int32) (u : Unit) => post r ) r u → va_P (dC, dI) vwCl ((fun u : Unit => (xW ad cI cZ lt_count lw_begin lw_end lw_depth lw_signed lw_led pr_written pr_within st_size tx_size tt_count tt_pieces tt_kinds lt_begins lt_marks st_word st_vowels tx_characters tt_begins tt_lengths tt_stemLengths tt_places tt_addresses tt_smalls tt_stems tt_slots tt_nexts)) u) t.heap → va_K (dC, dI) vwCl [(cI, .int), (cZ, .boolean)] t → va_D A ((fun u : Unit => (xW ad cI cZ lt_count lw_begin lw_end lw_depth lw_signed lw_led pr_written pr_within st_size tx_size tt_count tt_pieces tt_kinds lt_begins lt_marks st_word st_vowels tx_characters tt_begins tt_lengths tt_stemLengths tt_places tt_addresses tt_smalls tt_stems tt_slots tt_nexts)) u) → va_F A s t → (va_Qi (fun (r : Int32) (u : Unit) => post r ) (xB (dC, dI) vwCl [(cI, .int), (cZ, .boolean)] A (fun u : Unit => (xW ad cI cZ lt_count lw_begin lw_end lw_depth lw_signed lw_led pr_written pr_within st_size tx_size tt_count tt_pieces tt_kinds lt_begins lt_marks st_word st_vowels tx_characters tt_begins tt_lengths tt_stemLengths tt_places tt_addresses tt_smalls tt_stems tt_slots tt_nexts))) A) ([.ref (sv x0), .int x1] : List Value).toArray s (.returned (some (.int r))) t := fun r u t h1 h2 h3 h4 h5 => ⟨⟨r, u, rfl, h1, h2, h3, h4⟩, h5⟩
  generalize (va_Qi (fun (r : Int32) (u : Unit) => post r ) (xB (dC, dI) vwCl [(cI, .int), (cZ, .boolean)] A (fun u : Unit => (xW ad cI cZ lt_count lw_begin lw_end lw_depth lw_signed lw_led pr_written pr_within st_size tx_size tt_count tt_pieces tt_kinds lt_begins lt_marks st_word st_vowels tx_characters tt_begins tt_lengths tt_stemLengths tt_places tt_addresses tt_smalls tt_stems tt_slots tt_nexts))) A) = Qc at hQ ⊢
  have hl := lv_entry ([.ref (sv x0), .int x1]) (n := 2) (Nat.le_of_ble_eq_true rfl)
  rw [lg_entry_eq]
  generalize (lg_sl ([.ref (sv x0), .int x1]) ++ List.replicate (2 - (lg_sl ([.ref (sv x0), .int x1])).length) Slot.unset).toArray = ls at hl ⊢
  have hl : lv_has ls 2 [(0, .ref (sv x0)), (1, .int x1)] := hl
  refine (fun (key : ∀ (H : Heap) (locs : List Loc), va_P (dC, dI) vwCl (xW ad cI cZ lt_count lw_begin lw_end lw_depth lw_signed lw_led pr_written pr_within st_size tx_size tt_count tt_pieces tt_kinds lt_begins lt_marks st_word st_vowels tx_characters tt_begins tt_lengths tt_stemLengths tt_places tt_addresses tt_smalls tt_stems tt_slots tt_nexts) H → va_D A (xW ad cI cZ lt_count lw_begin lw_end lw_depth lw_signed lw_led pr_written pr_within st_size tx_size tt_count tt_pieces tt_kinds lt_begins lt_marks st_word st_vowels tx_characters tt_begins tt_lengths tt_stemLengths tt_places tt_addresses tt_smalls tt_stems tt_slots tt_nexts) → va_S A s.heap H locs → W p l e (headSpec wsJ1_charAt_3b067 ({ frames := 2, cells := 0, slots := 0, locals := 43 })).room s m ([.ref (sv x0), .int x1] : List Value).toArray below meth c H locs 0 0 (MQ below Qc ([.ref (sv x0), .int x1] : List Value).toArray s 0 0 A) (F0 m 0 ls [])) => key _ _ hP hD hS) ?_
  intro H locs hP hD hS
  delta wpJ1_charAt_3b067 at h
  refine lv_iload_n hx hb dJ1_charAt_3b067_0 rfl (lv_at hl 1 rfl) ?_
  refine lv_aload_n hx hb dJ1_charAt_3b067_1 rfl (lv_at hl 0 rfl) ?_
  have hs9 := h.1
  have h := h.2
  refine va_tlen (v := Int32.ofNat (sB x0).length) hx hb (sI_arr hI hs9) hS rfl dJ1_charAt_3b067_2 ?_
  refine xc_sv (As := [.int x1, .int (Int32.ofNat (sB x0).length)]) (rest := []) xG Fx (sJ0_checkIndex_df160 l dC dI ad cI cZ sa sv lt_count lw_begin lw_end lw_depth lw_signed lw_led pr_written pr_within st_size tx_size tt_count tt_pieces tt_kinds lt_begins lt_marks st_word st_vowels tx_characters tt_begins tt_lengths tt_stemLengths tt_places tt_addresses tt_smalls tt_stems tt_slots tt_nexts x1 (Int32.ofNat (sB x0).length) h) (va_cwS 2 hts gJ1_charAt_3b067_J0_checkIndex_df160 rfl rfl rfl hdJ0_checkIndex_df160 ⟨Nat.le_of_ble_eq_true rfl, Nat.le_of_ble_eq_true rfl⟩) hK hP hD hS hA hI rfl hl.1 rfl (Nat.le_of_ble_eq_true rfl) dJ1_charAt_3b067_3 ⟨Nat.zero_le _, Nat.zero_le _⟩ (fun u H locs h hP hD hS => ?_)
  refine lv_aload_n hx hb dJ1_charAt_3b067_6 rfl (lv_at hl 0 rfl) ?_
  refine lv_iload_n hx hb dJ1_charAt_3b067_7 rfl (lv_at hl 1 rfl) ?_
  have hs9 := h.1
  have hi9 := h.2.1
  have h := h.2.2
  refine va_tb (v := .int ((sB x0).getD x1.toNatClampNeg 0)) hx hb (sI_arr hI hs9) hS hi9 rfl dJ1_charAt_3b067_8 ?_
  refine lv_sipush (v := 255) hx hb dJ1_charAt_3b067_9 (by decide) ?_
  refine lv_iand hx hb dJ1_charAt_3b067_12 ?_
  refine lv_i2c hx hb dJ1_charAt_3b067_13 rfl ?_
  exact W.zret (v := (((Int32.toUInt32 (((sB x0).getD x1.toNatClampNeg 0) &&& 255)) % 65536).toInt32)) hx hb hr (pk_nc _) (fun t ht hW => hQ (((Int32.toUInt32 (((sB x0).getD x1.toNatClampNeg 0) &&& 255)) % 65536).toInt32) () t h (by rw [ht]; exact hP) (va_K.moved hW.alike hK) hD (hS.F ht)) hS.2.2 dJ1_charAt_3b067_14
