set_option maxHeartbeats 4000000 in
set_option maxRecDepth 100000 in
theorem sX4_endOfY (l : Launch) (dC : Nat → ClassId) (dI : Nat → Nat → Nat) (ad : Nat → Nat) (cI cZ : ClassId) (sa sv : Nat → Nat) (lt_count : Int32) (lw_begin : Int32) (lw_end : Int32) (lw_depth : Int32) (lw_signed : Int32) (lw_led : Int32) (pr_written : Int32) (pr_within : Int32) (st_size : Int32) (tx_size : Int32) (tt_count : Int32) (tt_pieces : Int32) (tt_kinds : Int32) (lt_begins : Nat → Int32) (lt_marks : Nat → Int32) (st_word : Nat → Int32) (st_vowels : Nat → Int32) (tx_characters : Nat → Int32) (tt_begins : Nat → Int32) (tt_lengths : Nat → Int32) (tt_stemLengths : Nat → Int32) (tt_places : Nat → Int32) (tt_addresses : Nat → Int32) (tt_smalls : Nat → Int32) (tt_stems : Nat → Int32) (tt_slots : Nat → Int32) (tt_nexts : Nat → Int32)  {post : Int32 → (Nat → Int32) → (Nat → Int32) → Prop} (h : wpX4_endOfY post st_size st_word st_vowels) : xMv l (dC, dI) vwCl [(cI, .int), (cZ, .boolean)] (sI sa sv) yX4_endOfY wsX4_endOfY ({ frames := 5, cells := 0, slots := 0, locals := 108 }) (xW ad cI cZ lt_count lw_begin lw_end lw_depth lw_signed lw_led pr_written pr_within st_size tx_size tt_count tt_pieces tt_kinds lt_begins lt_marks st_word st_vowels tx_characters tt_begins tt_lengths tt_stemLengths tt_places tt_addresses tt_smalls tt_stems tt_slots tt_nexts) [.ref (ad 3)] (fun u : Int32 × (Nat → Int32) × (Nat → Int32) => post u.1 u.2.1 u.2.2) (fun u : Int32 × (Nat → Int32) × (Nat → Int32) => (xW ad cI cZ lt_count lw_begin lw_end lw_depth lw_signed lw_led pr_written pr_within u.1 tx_size tt_count tt_pieces tt_kinds lt_begins lt_marks u.2.1 u.2.2 tx_characters tt_begins tt_lengths tt_stemLengths tt_places tt_addresses tt_smalls tt_stems tt_slots tt_nexts)) := by
  intro sz
  refine Met.ofW (cc := cX4_endOfY) (maxL := 1) (ret := none) (by decide) rfl ?_
  intro p e s m args below meth c s₁ B hml hv
  obtain ⟨rfl, hsz, hP, hK, hD0, hI⟩ := hv
  have hx := B.exec
  have hb := B.bytes
  have hr := B.returns
  have hts := atoms_spec (ws := wsX4_endOfY) B.pre
  have hown : s.vm.findClass RX4 = some m.cls := findClass_of_methodNamed B.named
  have hlocks := B.notSynchronized
  subst hsz
  have hD := hD0.self (sz := s.heap.size)
  generalize hAe : va_A (xW ad cI cZ lt_count lw_begin lw_end lw_depth lw_signed lw_led pr_written pr_within st_size tx_size tt_count tt_pieces tt_kinds lt_begins lt_marks st_word st_vowels tx_characters tt_begins tt_lengths tt_stemLengths tt_places tt_addresses tt_smalls tt_stems tt_slots tt_nexts) s.heap.size = A at hD hI ⊢
  have hA : ∀ q : Nat, s.heap.size ≤ q → A q := fun q h => by rw [← hAe]; exact Or.inr h
  have hS : va_S A s.heap s.heap [] := va_S.rf
  have Fx : CallFix p m c cX4_endOfY 1 s ([.ref (ad 3)] : List Value).toArray wsX4_endOfY RX4 := ⟨hx, hb, hml, hown, hts⟩
  have hQ : ∀ (u : Int32 × (Nat → Int32) × (Nat → Int32)) (t : State), (fun u : Int32 × (Nat → Int32) × (Nat → Int32) => post u.1 u.2.1 u.2.2) u → va_P (dC, dI) vwCl ((fun u : Int32 × (Nat → Int32) × (Nat → Int32) => (xW ad cI cZ lt_count lw_begin lw_end lw_depth lw_signed lw_led pr_written pr_within u.1 tx_size tt_count tt_pieces tt_kinds lt_begins lt_marks u.2.1 u.2.2 tx_characters tt_begins tt_lengths tt_stemLengths tt_places tt_addresses tt_smalls tt_stems tt_slots tt_nexts)) u) t.heap → va_K (dC, dI) vwCl [(cI, .int), (cZ, .boolean)] t → va_D A ((fun u : Int32 × (Nat → Int32) × (Nat → Int32) => (xW ad cI cZ lt_count lw_begin lw_end lw_depth lw_signed lw_led pr_written pr_within u.1 tx_size tt_count tt_pieces tt_kinds lt_begins lt_marks u.2.1 u.2.2 tx_characters tt_begins tt_lengths tt_stemLengths tt_places tt_addresses tt_smalls tt_stems tt_slots tt_nexts)) u) → va_F A s t → (va_Qv (fun u : Int32 × (Nat → Int32) × (Nat → Int32) => post u.1 u.2.1 u.2.2) (xB (dC, dI) vwCl [(cI, .int), (cZ, .boolean)] A (fun u : Int32 × (Nat → Int32) × (Nat → Int32) => (xW ad cI cZ lt_count lw_begin lw_end lw_depth lw_signed lw_led pr_written pr_within u.1 tx_size tt_count tt_pieces tt_kinds lt_begins lt_marks u.2.1 u.2.2 tx_characters tt_begins tt_lengths tt_stemLengths tt_places tt_addresses tt_smalls tt_stems tt_slots tt_nexts))) A) ([.ref (ad 3)] : List Value).toArray s (.returned none) t := fun u t h1 h2 h3 h4 h5 => ⟨⟨u, rfl, h1, h2, h3, h4⟩, h5⟩
  generalize (va_Qv (fun u : Int32 × (Nat → Int32) × (Nat → Int32) => post u.1 u.2.1 u.2.2) (xB (dC, dI) vwCl [(cI, .int), (cZ, .boolean)] A (fun u : Int32 × (Nat → Int32) × (Nat → Int32) => (xW ad cI cZ lt_count lw_begin lw_end lw_depth lw_signed lw_led pr_written pr_within u.1 tx_size tt_count tt_pieces tt_kinds lt_begins lt_marks u.2.1 u.2.2 tx_characters tt_begins tt_lengths tt_stemLengths tt_places tt_addresses tt_smalls tt_stems tt_slots tt_nexts))) A) = Qc at hQ ⊢
  have hl := lv_entry ([.ref (ad 3)]) (n := 1) (Nat.le_of_ble_eq_true rfl)
  rw [lg_entry_eq]
  generalize (lg_sl ([.ref (ad 3)]) ++ List.replicate (1 - (lg_sl ([.ref (ad 3)])).length) Slot.unset).toArray = ls at hl ⊢
  have hl : lv_has ls 1 [(0, .ref (ad 3))] := hl
  refine (fun (key : ∀ (H : Heap) (locs : List Loc), va_P (dC, dI) vwCl (xW ad cI cZ lt_count lw_begin lw_end lw_depth lw_signed lw_led pr_written pr_within st_size tx_size tt_count tt_pieces tt_kinds lt_begins lt_marks st_word st_vowels tx_characters tt_begins tt_lengths tt_stemLengths tt_places tt_addresses tt_smalls tt_stems tt_slots tt_nexts) H → va_D A (xW ad cI cZ lt_count lw_begin lw_end lw_depth lw_signed lw_led pr_written pr_within st_size tx_size tt_count tt_pieces tt_kinds lt_begins lt_marks st_word st_vowels tx_characters tt_begins tt_lengths tt_stemLengths tt_places tt_addresses tt_smalls tt_stems tt_slots tt_nexts) → va_S A s.heap H locs → W p l e (headSpec wsX4_endOfY ({ frames := 5, cells := 0, slots := 0, locals := 108 })).room s m ([.ref (ad 3)] : List Value).toArray below meth c H locs 0 0 (MQ below Qc ([.ref (ad 3)] : List Value).toArray s 0 0 A) (F0 m 0 ls [])) => key _ _ hP hD hS) ?_
  have inX4 : ∀ w ∈ wsX40, w ∈ wsX4_endOfY := (fun _ h9 => List.mem_cons_of_mem _ (List.mem_append_right _ h9))
  intro H locs hP hD hS
  delta wpX4_endOfY at h
  refine lv_aload_n hx hb dX4_endOfY_0 rfl (lv_at hl 0 rfl) ?_
  refine va_ldcS hx hb hown (show vk_R RX4 129 "y" (sa 52) s from sI_ref hI (i := 52) (by decide)) dX4_endOfY_1 ?_
  refine xc_vi (As := [.ref (sa 52)]) (rest := []) xG Fx (sX4_ends l dC dI ad cI cZ sa sv lt_count lw_begin lw_end lw_depth lw_signed lw_led pr_written pr_within st_size tx_size tt_count tt_pieces tt_kinds lt_begins lt_marks st_word st_vowels tx_characters tt_begins tt_lengths tt_stemLengths tt_places tt_addresses tt_smalls tt_stems tt_slots tt_nexts 52 h) (cwV 1 hts gX4_endOfY_X4_ends rfl rfl rfl hdX4_ends ⟨Nat.le_of_ble_eq_true rfl, Nat.le_of_ble_eq_true rfl⟩) (va_recv hK hP (ci := 3) (q0 := 3) rfl rfl) hK hP hD hS hA hI rfl hl.1 rfl (Nat.le_of_ble_eq_true rfl) dX4_endOfY_3 ⟨Nat.zero_le _, Nat.zero_le _⟩ (fun r_1 u H locs h hP hD hS => ?_)
  refine lv_if_eq (tgt := 34) hx hb dX4_endOfY_6 (by decide) (fun c9 => ?_) (fun c9 => ?_)
  · have h := h.1 c9
    exact W.vret hx hb hr (fun t ht hW => hQ (st_size, st_word, st_vowels) t h (by rw [ht]; exact hP) (va_K.moved hW.alike hK) hD (hS.F ht)) hS.2.2 dX4_endOfY_34
  · have h := h.2 c9
    refine lv_aload_n hx hb dX4_endOfY_9 rfl (lv_at hl 0 rfl) ?_
    refine lv_aload_n hx hb dX4_endOfY_10 rfl (lv_at hl 0 rfl) ?_
    refine va_get (D := (dC, dI)) (ci := 3) (v := .int st_size) (C := RX4) (T := TX4) (N := 3) hx hb hts inX4 hown hK hP 3 rfl rfl 2 (by decide) (hts (.fieldLink RX4 19 "MailWords$Stemmer" "size" "I") (List.mem_of_getElem? (i := 1) rfl)) (fun _ h9 => h9) rfl dX4_endOfY_11 ?_
    refine lv_iconst (v := 1) hx hb dX4_endOfY_14 (by decide) ?_
    refine lv_isub hx hb dX4_endOfY_15 ?_
    refine xc_vi (As := [.int (st_size - 1)]) (rest := []) xG Fx (sX4_hasVowel l dC dI ad cI cZ sa sv lt_count lw_begin lw_end lw_depth lw_signed lw_led pr_written pr_within st_size tx_size tt_count tt_pieces tt_kinds lt_begins lt_marks st_word st_vowels tx_characters tt_begins tt_lengths tt_stemLengths tt_places tt_addresses tt_smalls tt_stems tt_slots tt_nexts (st_size - 1) h) (cwV 1 hts gX4_endOfY_X4_hasVowel rfl rfl rfl hdX4_hasVowel ⟨Nat.le_of_ble_eq_true rfl, Nat.le_of_ble_eq_true rfl⟩) (va_recv hK hP (ci := 3) (q0 := 3) rfl rfl) hK hP hD hS hA hI rfl hl.1 rfl (Nat.le_of_ble_eq_true rfl) dX4_endOfY_16 ⟨Nat.zero_le _, Nat.zero_le _⟩ (fun r_2 u H locs h hP hD hS => ?_)
    refine lv_if_eq (tgt := 34) hx hb dX4_endOfY_19 (by decide) (fun c9 => ?_) (fun c9 => ?_)
    · have h := h.1 c9
      exact W.vret hx hb hr (fun t ht hW => hQ (st_size, st_word, st_vowels) t h (by rw [ht]; exact hP) (va_K.moved hW.alike hK) hD (hS.F ht)) hS.2.2 dX4_endOfY_34
    · have h := h.2 c9
      refine lv_aload_n hx hb dX4_endOfY_22 rfl (lv_at hl 0 rfl) ?_
      refine lv_aload_n hx hb dX4_endOfY_23 rfl (lv_at hl 0 rfl) ?_
      refine va_get (D := (dC, dI)) (ci := 3) (v := .int st_size) (C := RX4) (T := TX4) (N := 3) hx hb hts inX4 hown hK hP 3 rfl rfl 2 (by decide) (hts (.fieldLink RX4 19 "MailWords$Stemmer" "size" "I") (List.mem_of_getElem? (i := 1) rfl)) (fun _ h9 => h9) rfl dX4_endOfY_24 ?_
      refine lv_iconst (v := 1) hx hb dX4_endOfY_27 (by decide) ?_
      refine lv_isub hx hb dX4_endOfY_28 ?_
      refine va_ldcS hx hb hown (show vk_R RX4 131 "i" (sa 53) s from sI_ref hI (i := 53) (by decide)) dX4_endOfY_29 ?_
      refine xc_vv (As := [.int (st_size - 1), .ref (sa 53)]) (rest := []) xG Fx (sX4_become l dC dI ad cI cZ sa sv lt_count lw_begin lw_end lw_depth lw_signed lw_led pr_written pr_within st_size tx_size tt_count tt_pieces tt_kinds lt_begins lt_marks st_word st_vowels tx_characters tt_begins tt_lengths tt_stemLengths tt_places tt_addresses tt_smalls tt_stems tt_slots tt_nexts (st_size - 1) 53 h) (cwV 2 hts gX4_endOfY_X4_become rfl rfl rfl hdX4_become ⟨Nat.le_of_ble_eq_true rfl, Nat.le_of_ble_eq_true rfl⟩) (va_recv hK hP (ci := 3) (q0 := 3) rfl rfl) hK hP hD hS hA hI rfl hl.1 rfl (Nat.le_of_ble_eq_true rfl) dX4_endOfY_31 ⟨Nat.zero_le _, Nat.zero_le _⟩ (fun u H locs h hP hD hS => ?_)
      obtain ⟨st_size_4, st_word_5, st_vowels_6⟩ := u
      have hP : va_P (dC, dI) vwCl (xW ad cI cZ lt_count lw_begin lw_end lw_depth lw_signed lw_led pr_written pr_within st_size_4 tx_size tt_count tt_pieces tt_kinds lt_begins lt_marks st_word_5 st_vowels_6 tx_characters tt_begins tt_lengths tt_stemLengths tt_places tt_addresses tt_smalls tt_stems tt_slots tt_nexts) H := hP
      have hD : va_D A (xW ad cI cZ lt_count lw_begin lw_end lw_depth lw_signed lw_led pr_written pr_within st_size_4 tx_size tt_count tt_pieces tt_kinds lt_begins lt_marks st_word_5 st_vowels_6 tx_characters tt_begins tt_lengths tt_stemLengths tt_places tt_addresses tt_smalls tt_stems tt_slots tt_nexts) := hD
      exact W.vret hx hb hr (fun t ht hW => hQ (st_size_4, st_word_5, st_vowels_6) t h (by rw [ht]; exact hP) (va_K.moved hW.alike hK) hD (hS.F ht)) hS.2.2 dX4_endOfY_34
set_option maxHeartbeats 4000000 in
set_option maxRecDepth 100000 in
theorem sX4_secondStep (l : Launch) (dC : Nat → ClassId) (dI : Nat → Nat → Nat) (ad : Nat → Nat) (cI cZ : ClassId) (sa sv : Nat → Nat) (lt_count : Int32) (lw_begin : Int32) (lw_end : Int32) (lw_depth : Int32) (lw_signed : Int32) (lw_led : Int32) (pr_written : Int32) (pr_within : Int32) (st_size : Int32) (tx_size : Int32) (tt_count : Int32) (tt_pieces : Int32) (tt_kinds : Int32) (lt_begins : Nat → Int32) (lt_marks : Nat → Int32) (st_word : Nat → Int32) (st_vowels : Nat → Int32) (tx_characters : Nat → Int32) (tt_begins : Nat → Int32) (tt_lengths : Nat → Int32) (tt_stemLengths : Nat → Int32) (tt_places : Nat → Int32) (tt_addresses : Nat → Int32) (tt_smalls : Nat → Int32) (tt_stems : Nat → Int32) (tt_slots : Nat → Int32) (tt_nexts : Nat → Int32)  {post : Int32 → Int32 → (Nat → Int32) → (Nat → Int32) → Prop} (h : wpX4_secondStep post st_size st_word st_vowels) : xMi l (dC, dI) vwCl [(cI, .int), (cZ, .boolean)] (sI sa sv) yX4_secondStep wsX4_secondStep ({ frames := 6, cells := 0, slots := 0, locals := 132 }) (xW ad cI cZ lt_count lw_begin lw_end lw_depth lw_signed lw_led pr_written pr_within st_size tx_size tt_count tt_pieces tt_kinds lt_begins lt_marks st_word st_vowels tx_characters tt_begins tt_lengths tt_stemLengths tt_places tt_addresses tt_smalls tt_stems tt_slots tt_nexts) [.ref (ad 3)] (fun (r : Int32) (u : Int32 × (Nat → Int32) × (Nat → Int32)) => post r u.1 u.2.1 u.2.2) (fun u : Int32 × (Nat → Int32) × (Nat → Int32) => (xW ad cI cZ lt_count lw_begin lw_end lw_depth lw_signed lw_led pr_written pr_within u.1 tx_size tt_count tt_pieces tt_kinds lt_begins lt_marks u.2.1 u.2.2 tx_characters tt_begins tt_lengths tt_stemLengths tt_places tt_addresses tt_smalls tt_stems tt_slots tt_nexts)) := by
  intro sz
  refine Met.ofW (cc := cX4_secondStep) (maxL := 1) (ret := (some .boolean)) (by decide) rfl ?_
  intro p e s m args below meth c s₁ B hml hv
  obtain ⟨rfl, hsz, hP, hK, hD0, hI⟩ := hv
  have hx := B.exec
  have hb := B.bytes
  have hr := B.returns
  have hts := atoms_spec (ws := wsX4_secondStep) B.pre
  have hown : s.vm.findClass RX4 = some m.cls := findClass_of_methodNamed B.named
  have hlocks := B.notSynchronized
  subst hsz
  have hD := hD0.self (sz := s.heap.size)
  generalize hAe : va_A (xW ad cI cZ lt_count lw_begin lw_end lw_depth lw_signed lw_led pr_written pr_within st_size tx_size tt_count tt_pieces tt_kinds lt_begins lt_marks st_word st_vowels tx_characters tt_begins tt_lengths tt_stemLengths tt_places tt_addresses tt_smalls tt_stems tt_slots tt_nexts) s.heap.size = A at hD hI ⊢
  have hA : ∀ q : Nat, s.heap.size ≤ q → A q := fun q h => by rw [← hAe]; exact Or.inr h
  have hS : va_S A s.heap s.heap [] := va_S.rf
  have Fx : CallFix p m c cX4_secondStep 1 s ([.ref (ad 3)] : List Value).toArray wsX4_secondStep RX4 := ⟨hx, hb, hml, hown, hts⟩
  have hQ : ∀ (r : Int32) (u : Int32 × (Nat → Int32) × (Nat → Int32)) (t : State), (fun (r : Int32) (u : Int32 × (Nat → Int32) × (Nat → Int32)) => post r u.1 u.2.1 u.2.2) r u → va_P (dC, dI) vwCl ((fun u : Int32 × (Nat → Int32) × (Nat → Int32) => (xW ad cI cZ lt_count lw_begin lw_end lw_depth lw_signed lw_led pr_written pr_within u.1 tx_size tt_count tt_pieces tt_kinds lt_begins lt_marks u.2.1 u.2.2 tx_characters tt_begins tt_lengths tt_stemLengths tt_places tt_addresses tt_smalls tt_stems tt_slots tt_nexts)) u) t.heap → va_K (dC, dI) vwCl [(cI, .int), (cZ, .boolean)] t → va_D A ((fun u : Int32 × (Nat → Int32) × (Nat → Int32) => (xW ad cI cZ lt_count lw_begin lw_end lw_depth lw_signed lw_led pr_written pr_within u.1 tx_size tt_count tt_pieces tt_kinds lt_begins lt_marks u.2.1 u.2.2 tx_characters tt_begins tt_lengths tt_stemLengths tt_places tt_addresses tt_smalls tt_stems tt_slots tt_nexts)) u) → va_F A s t → (va_Qi (fun (r : Int32) (u : Int32 × (Nat → Int32) × (Nat → Int32)) => post r u.1 u.2.1 u.2.2) (xB (dC, dI) vwCl [(cI, .int), (cZ, .boolean)] A (fun u : Int32 × (Nat → Int32) × (Nat → Int32) => (xW ad cI cZ lt_count lw_begin lw_end lw_depth lw_signed lw_led pr_written pr_within u.1 tx_size tt_count tt_pieces tt_kinds lt_begins lt_marks u.2.1 u.2.2 tx_characters tt_begins tt_lengths tt_stemLengths tt_places tt_addresses tt_smalls tt_stems tt_slots tt_nexts))) A) ([.ref (ad 3)] : List Value).toArray s (.returned (some (.int r))) t := fun r u t h1 h2 h3 h4 h5 => ⟨⟨r, u, rfl, h1, h2, h3, h4⟩, h5⟩
  generalize (va_Qi (fun (r : Int32) (u : Int32 × (Nat → Int32) × (Nat → Int32)) => post r u.1 u.2.1 u.2.2) (xB (dC, dI) vwCl [(cI, .int), (cZ, .boolean)] A (fun u : Int32 × (Nat → Int32) × (Nat → Int32) => (xW ad cI cZ lt_count lw_begin lw_end lw_depth lw_signed lw_led pr_written pr_within u.1 tx_size tt_count tt_pieces tt_kinds lt_begins lt_marks u.2.1 u.2.2 tx_characters tt_begins tt_lengths tt_stemLengths tt_places tt_addresses tt_smalls tt_stems tt_slots tt_nexts))) A) = Qc at hQ ⊢
  have hl := lv_entry ([.ref (ad 3)]) (n := 1) (Nat.le_of_ble_eq_true rfl)
  rw [lg_entry_eq]
  generalize (lg_sl ([.ref (ad 3)]) ++ List.replicate (1 - (lg_sl ([.ref (ad 3)])).length) Slot.unset).toArray = ls at hl ⊢
  have hl : lv_has ls 1 [(0, .ref (ad 3))] := hl
  refine (fun (key : ∀ (H : Heap) (locs : List Loc), va_P (dC, dI) vwCl (xW ad cI cZ lt_count lw_begin lw_end lw_depth lw_signed lw_led pr_written pr_within st_size tx_size tt_count tt_pieces tt_kinds lt_begins lt_marks st_word st_vowels tx_characters tt_begins tt_lengths tt_stemLengths tt_places tt_addresses tt_smalls tt_stems tt_slots tt_nexts) H → va_D A (xW ad cI cZ lt_count lw_begin lw_end lw_depth lw_signed lw_led pr_written pr_within st_size tx_size tt_count tt_pieces tt_kinds lt_begins lt_marks st_word st_vowels tx_characters tt_begins tt_lengths tt_stemLengths tt_places tt_addresses tt_smalls tt_stems tt_slots tt_nexts) → va_S A s.heap H locs → W p l e (headSpec wsX4_secondStep ({ frames := 6, cells := 0, slots := 0, locals := 132 })).room s m ([.ref (ad 3)] : List Value).toArray below meth c H locs 0 0 (MQ below Qc ([.ref (ad 3)] : List Value).toArray s 0 0 A) (F0 m 0 ls [])) => key _ _ hP hD hS) ?_
  intro H locs hP hD hS
  delta wpX4_secondStep at h
  refine lv_aload_n hx hb dX4_secondStep_0 rfl (lv_at hl 0 rfl) ?_
  refine va_ldcS hx hb hown (show vk_R RX4 133 "ational" (sa 54) s from sI_ref hI (i := 54) (by decide)) dX4_secondStep_1 ?_
  refine va_ldcS hx hb hown (show vk_R RX4 135 "ate" (sa 55) s from sI_ref hI (i := 55) (by decide)) dX4_secondStep_3 ?_
  refine lv_iconst (v := 0) hx hb dX4_secondStep_5 (by decide) ?_
  refine xc_vi (As := [.ref (sa 54), .ref (sa 55), .int 0]) (rest := []) xG Fx (sX4_tries l dC dI ad cI cZ sa sv lt_count lw_begin lw_end lw_depth lw_signed lw_led pr_written pr_within st_size tx_size tt_count tt_pieces tt_kinds lt_begins lt_marks st_word st_vowels tx_characters tt_begins tt_lengths tt_stemLengths tt_places tt_addresses tt_smalls tt_stems tt_slots tt_nexts 54 55 0 h) (cwV 3 hts gX4_secondStep_X4_tries rfl rfl rfl hdX4_tries ⟨Nat.le_of_ble_eq_true rfl, Nat.le_of_ble_eq_true rfl⟩) (va_recv hK hP (ci := 3) (q0 := 3) rfl rfl) hK hP hD hS hA hI rfl hl.1 rfl (Nat.le_of_ble_eq_true rfl) dX4_secondStep_6 ⟨Nat.zero_le _, Nat.zero_le _⟩ (fun r_1 u H locs h hP hD hS => ?_)
  obtain ⟨st_size_2, st_word_3, st_vowels_4⟩ := u
  have hP : va_P (dC, dI) vwCl (xW ad cI cZ lt_count lw_begin lw_end lw_depth lw_signed lw_led pr_written pr_within st_size_2 tx_size tt_count tt_pieces tt_kinds lt_begins lt_marks st_word_3 st_vowels_4 tx_characters tt_begins tt_lengths tt_stemLengths tt_places tt_addresses tt_smalls tt_stems tt_slots tt_nexts) H := hP
  have hD : va_D A (xW ad cI cZ lt_count lw_begin lw_end lw_depth lw_signed lw_led pr_written pr_within st_size_2 tx_size tt_count tt_pieces tt_kinds lt_begins lt_marks st_word_3 st_vowels_4 tx_characters tt_begins tt_lengths tt_stemLengths tt_places tt_addresses tt_smalls tt_stems tt_slots tt_nexts) := hD
  refine lv_if_ne (tgt := 240) hx hb dX4_secondStep_9 (by decide) (fun c9 => ?_) (fun c9 => ?_)
  · have h := h.1 c9
    refine lv_iconst (v := 1) hx hb dX4_secondStep_240 (by decide) ?_
    refine lv_goto (tgt := 245) hx hb dX4_secondStep_241 (by decide) ?_
    exact W.zret (v := 1) hx hb hr (bN_nar bN1) (fun t ht hW => hQ 1 (st_size_2, st_word_3, st_vowels_4) t h (by rw [ht]; exact hP) (va_K.moved hW.alike hK) hD (hS.F ht)) hS.2.2 dX4_secondStep_245
  · have h := h.2 c9
    refine lv_aload_n hx hb dX4_secondStep_12 rfl (lv_at hl 0 rfl) ?_
    refine va_ldcS hx hb hown (show vk_R RX4 137 "tional" (sa 56) s from sI_ref hI (i := 56) (by decide)) dX4_secondStep_13 ?_
    refine va_ldcS hx hb hown (show vk_R RX4 139 "tion" (sa 57) s from sI_ref hI (i := 57) (by decide)) dX4_secondStep_15 ?_
    refine lv_iconst (v := 0) hx hb dX4_secondStep_17 (by decide) ?_
    refine xc_vi (As := [.ref (sa 56), .ref (sa 57), .int 0]) (rest := []) xG Fx (sX4_tries l dC dI ad cI cZ sa sv lt_count lw_begin lw_end lw_depth lw_signed lw_led pr_written pr_within st_size_2 tx_size tt_count tt_pieces tt_kinds lt_begins lt_marks st_word_3 st_vowels_4 tx_characters tt_begins tt_lengths tt_stemLengths tt_places tt_addresses tt_smalls tt_stems tt_slots tt_nexts 56 57 0 h) (cwV 3 hts gX4_secondStep_X4_tries rfl rfl rfl hdX4_tries ⟨Nat.le_of_ble_eq_true rfl, Nat.le_of_ble_eq_true rfl⟩) (va_recv hK hP (ci := 3) (q0 := 3) rfl rfl) hK hP hD hS hA hI rfl hl.1 rfl (Nat.le_of_ble_eq_true rfl) dX4_secondStep_18 ⟨Nat.zero_le _, Nat.zero_le _⟩ (fun r_5 u H locs h hP hD hS => ?_)
    obtain ⟨st_size_6, st_word_7, st_vowels_8⟩ := u
    have hP : va_P (dC, dI) vwCl (xW ad cI cZ lt_count lw_begin lw_end lw_depth lw_signed lw_led pr_written pr_within st_size_6 tx_size tt_count tt_pieces tt_kinds lt_begins lt_marks st_word_7 st_vowels_8 tx_characters tt_begins tt_lengths tt_stemLengths tt_places tt_addresses tt_smalls tt_stems tt_slots tt_nexts) H := hP
    have hD : va_D A (xW ad cI cZ lt_count lw_begin lw_end lw_depth lw_signed lw_led pr_written pr_within st_size_6 tx_size tt_count tt_pieces tt_kinds lt_begins lt_marks st_word_7 st_vowels_8 tx_characters tt_begins tt_lengths tt_stemLengths tt_places tt_addresses tt_smalls tt_stems tt_slots tt_nexts) := hD
    refine lv_if_ne (tgt := 240) hx hb dX4_secondStep_21 (by decide) (fun c9 => ?_) (fun c9 => ?_)
    · have h := h.1 c9
      refine lv_iconst (v := 1) hx hb dX4_secondStep_240 (by decide) ?_
      refine lv_goto (tgt := 245) hx hb dX4_secondStep_241 (by decide) ?_
      exact W.zret (v := 1) hx hb hr (bN_nar bN1) (fun t ht hW => hQ 1 (st_size_6, st_word_7, st_vowels_8) t h (by rw [ht]; exact hP) (va_K.moved hW.alike hK) hD (hS.F ht)) hS.2.2 dX4_secondStep_245
    · have h := h.2 c9
      refine lv_aload_n hx hb dX4_secondStep_24 rfl (lv_at hl 0 rfl) ?_
      refine va_ldcS hx hb hown (show vk_R RX4 141 "enci" (sa 58) s from sI_ref hI (i := 58) (by decide)) dX4_secondStep_25 ?_
      refine va_ldcS hx hb hown (show vk_R RX4 143 "ence" (sa 59) s from sI_ref hI (i := 59) (by decide)) dX4_secondStep_27 ?_
      refine lv_iconst (v := 0) hx hb dX4_secondStep_29 (by decide) ?_
      refine xc_vi (As := [.ref (sa 58), .ref (sa 59), .int 0]) (rest := []) xG Fx (sX4_tries l dC dI ad cI cZ sa sv lt_count lw_begin lw_end lw_depth lw_signed lw_led pr_written pr_within st_size_6 tx_size tt_count tt_pieces tt_kinds lt_begins lt_marks st_word_7 st_vowels_8 tx_characters tt_begins tt_lengths tt_stemLengths tt_places tt_addresses tt_smalls tt_stems tt_slots tt_nexts 58 59 0 h) (cwV 3 hts gX4_secondStep_X4_tries rfl rfl rfl hdX4_tries ⟨Nat.le_of_ble_eq_true rfl, Nat.le_of_ble_eq_true rfl⟩) (va_recv hK hP (ci := 3) (q0 := 3) rfl rfl) hK hP hD hS hA hI rfl hl.1 rfl (Nat.le_of_ble_eq_true rfl) dX4_secondStep_30 ⟨Nat.zero_le _, Nat.zero_le _⟩ (fun r_9 u H locs h hP hD hS => ?_)
      obtain ⟨st_size_10, st_word_11, st_vowels_12⟩ := u
      have hP : va_P (dC, dI) vwCl (xW ad cI cZ lt_count lw_begin lw_end lw_depth lw_signed lw_led pr_written pr_within st_size_10 tx_size tt_count tt_pieces tt_kinds lt_begins lt_marks st_word_11 st_vowels_12 tx_characters tt_begins tt_lengths tt_stemLengths tt_places tt_addresses tt_smalls tt_stems tt_slots tt_nexts) H := hP
      have hD : va_D A (xW ad cI cZ lt_count lw_begin lw_end lw_depth lw_signed lw_led pr_written pr_within st_size_10 tx_size tt_count tt_pieces tt_kinds lt_begins lt_marks st_word_11 st_vowels_12 tx_characters tt_begins tt_lengths tt_stemLengths tt_places tt_addresses tt_smalls tt_stems tt_slots tt_nexts) := hD
      refine lv_if_ne (tgt := 240) hx hb dX4_secondStep_33 (by decide) (fun c9 => ?_) (fun c9 => ?_)
      · have h := h.1 c9
        refine lv_iconst (v := 1) hx hb dX4_secondStep_240 (by decide) ?_
        refine lv_goto (tgt := 245) hx hb dX4_secondStep_241 (by decide) ?_
        exact W.zret (v := 1) hx hb hr (bN_nar bN1) (fun t ht hW => hQ 1 (st_size_10, st_word_11, st_vowels_12) t h (by rw [ht]; exact hP) (va_K.moved hW.alike hK) hD (hS.F ht)) hS.2.2 dX4_secondStep_245
      · have h := h.2 c9
        refine lv_aload_n hx hb dX4_secondStep_36 rfl (lv_at hl 0 rfl) ?_
        refine va_ldcS hx hb hown (show vk_R RX4 145 "anci" (sa 60) s from sI_ref hI (i := 60) (by decide)) dX4_secondStep_37 ?_
        refine va_ldcS hx hb hown (show vk_R RX4 147 "ance" (sa 61) s from sI_ref hI (i := 61) (by decide)) dX4_secondStep_39 ?_
        refine lv_iconst (v := 0) hx hb dX4_secondStep_41 (by decide) ?_
        refine xc_vi (As := [.ref (sa 60), .ref (sa 61), .int 0]) (rest := []) xG Fx (sX4_tries l dC dI ad cI cZ sa sv lt_count lw_begin lw_end lw_depth lw_signed lw_led pr_written pr_within st_size_10 tx_size tt_count tt_pieces tt_kinds lt_begins lt_marks st_word_11 st_vowels_12 tx_characters tt_begins tt_lengths tt_stemLengths tt_places tt_addresses tt_smalls tt_stems tt_slots tt_nexts 60 61 0 h) (cwV 3 hts gX4_secondStep_X4_tries rfl rfl rfl hdX4_tries ⟨Nat.le_of_ble_eq_true rfl, Nat.le_of_ble_eq_true rfl⟩) (va_recv hK hP (ci := 3) (q0 := 3) rfl rfl) hK hP hD hS hA hI rfl hl.1 rfl (Nat.le_of_ble_eq_true rfl) dX4_secondStep_42 ⟨Nat.zero_le _, Nat.zero_le _⟩ (fun r_13 u H locs h hP hD hS => ?_)
        obtain ⟨st_size_14, st_word_15, st_vowels_16⟩ := u
        have hP : va_P (dC, dI) vwCl (xW ad cI cZ lt_count lw_begin lw_end lw_depth lw_signed lw_led pr_written pr_within st_size_14 tx_size tt_count tt_pieces tt_kinds lt_begins lt_marks st_word_15 st_vowels_16 tx_characters tt_begins tt_lengths tt_stemLengths tt_places tt_addresses tt_smalls tt_stems tt_slots tt_nexts) H := hP
        have hD : va_D A (xW ad cI cZ lt_count lw_begin lw_end lw_depth lw_signed lw_led pr_written pr_within st_size_14 tx_size tt_count tt_pieces tt_kinds lt_begins lt_marks st_word_15 st_vowels_16 tx_characters tt_begins tt_lengths tt_stemLengths tt_places tt_addresses tt_smalls tt_stems tt_slots tt_nexts) := hD
        refine lv_if_ne (tgt := 240) hx hb dX4_secondStep_45 (by decide) (fun c9 => ?_) (fun c9 => ?_)
        · have h := h.1 c9
          refine lv_iconst (v := 1) hx hb dX4_secondStep_240 (by decide) ?_
          refine lv_goto (tgt := 245) hx hb dX4_secondStep_241 (by decide) ?_
          exact W.zret (v := 1) hx hb hr (bN_nar bN1) (fun t ht hW => hQ 1 (st_size_14, st_word_15, st_vowels_16) t h (by rw [ht]; exact hP) (va_K.moved hW.alike hK) hD (hS.F ht)) hS.2.2 dX4_secondStep_245
        · have h := h.2 c9
          refine lv_aload_n hx hb dX4_secondStep_48 rfl (lv_at hl 0 rfl) ?_
          refine va_ldcS hx hb hown (show vk_R RX4 149 "izer" (sa 62) s from sI_ref hI (i := 62) (by decide)) dX4_secondStep_49 ?_
          refine va_ldcS hx hb hown (show vk_R RX4 151 "ize" (sa 63) s from sI_ref hI (i := 63) (by decide)) dX4_secondStep_51 ?_
          refine lv_iconst (v := 0) hx hb dX4_secondStep_53 (by decide) ?_
          refine xc_vi (As := [.ref (sa 62), .ref (sa 63), .int 0]) (rest := []) xG Fx (sX4_tries l dC dI ad cI cZ sa sv lt_count lw_begin lw_end lw_depth lw_signed lw_led pr_written pr_within st_size_14 tx_size tt_count tt_pieces tt_kinds lt_begins lt_marks st_word_15 st_vowels_16 tx_characters tt_begins tt_lengths tt_stemLengths tt_places tt_addresses tt_smalls tt_stems tt_slots tt_nexts 62 63 0 h) (cwV 3 hts gX4_secondStep_X4_tries rfl rfl rfl hdX4_tries ⟨Nat.le_of_ble_eq_true rfl, Nat.le_of_ble_eq_true rfl⟩) (va_recv hK hP (ci := 3) (q0 := 3) rfl rfl) hK hP hD hS hA hI rfl hl.1 rfl (Nat.le_of_ble_eq_true rfl) dX4_secondStep_54 ⟨Nat.zero_le _, Nat.zero_le _⟩ (fun r_17 u H locs h hP hD hS => ?_)
          obtain ⟨st_size_18, st_word_19, st_vowels_20⟩ := u
          have hP : va_P (dC, dI) vwCl (xW ad cI cZ lt_count lw_begin lw_end lw_depth lw_signed lw_led pr_written pr_within st_size_18 tx_size tt_count tt_pieces tt_kinds lt_begins lt_marks st_word_19 st_vowels_20 tx_characters tt_begins tt_lengths tt_stemLengths tt_places tt_addresses tt_smalls tt_stems tt_slots tt_nexts) H := hP
          have hD : va_D A (xW ad cI cZ lt_count lw_begin lw_end lw_depth lw_signed lw_led pr_written pr_within st_size_18 tx_size tt_count tt_pieces tt_kinds lt_begins lt_marks st_word_19 st_vowels_20 tx_characters tt_begins tt_lengths tt_stemLengths tt_places tt_addresses tt_smalls tt_stems tt_slots tt_nexts) := hD
          refine lv_if_ne (tgt := 240) hx hb dX4_secondStep_57 (by decide) (fun c9 => ?_) (fun c9 => ?_)
          · have h := h.1 c9
            refine lv_iconst (v := 1) hx hb dX4_secondStep_240 (by decide) ?_
            refine lv_goto (tgt := 245) hx hb dX4_secondStep_241 (by decide) ?_
            exact W.zret (v := 1) hx hb hr (bN_nar bN1) (fun t ht hW => hQ 1 (st_size_18, st_word_19, st_vowels_20) t h (by rw [ht]; exact hP) (va_K.moved hW.alike hK) hD (hS.F ht)) hS.2.2 dX4_secondStep_245
          · have h := h.2 c9
            refine lv_aload_n hx hb dX4_secondStep_60 rfl (lv_at hl 0 rfl) ?_
            refine va_ldcS hx hb hown (show vk_R RX4 153 "abli" (sa 64) s from sI_ref hI (i := 64) (by decide)) dX4_secondStep_61 ?_
            refine va_ldcS hx hb hown (show vk_R RX4 155 "able" (sa 65) s from sI_ref hI (i := 65) (by decide)) dX4_secondStep_63 ?_
            refine lv_iconst (v := 0) hx hb dX4_secondStep_65 (by decide) ?_
            refine xc_vi (As := [.ref (sa 64), .ref (sa 65), .int 0]) (rest := []) xG Fx (sX4_tries l dC dI ad cI cZ sa sv lt_count lw_begin lw_end lw_depth lw_signed lw_led pr_written pr_within st_size_18 tx_size tt_count tt_pieces tt_kinds lt_begins lt_marks st_word_19 st_vowels_20 tx_characters tt_begins tt_lengths tt_stemLengths tt_places tt_addresses tt_smalls tt_stems tt_slots tt_nexts 64 65 0 h) (cwV 3 hts gX4_secondStep_X4_tries rfl rfl rfl hdX4_tries ⟨Nat.le_of_ble_eq_true rfl, Nat.le_of_ble_eq_true rfl⟩) (va_recv hK hP (ci := 3) (q0 := 3) rfl rfl) hK hP hD hS hA hI rfl hl.1 rfl (Nat.le_of_ble_eq_true rfl) dX4_secondStep_66 ⟨Nat.zero_le _, Nat.zero_le _⟩ (fun r_21 u H locs h hP hD hS => ?_)
            obtain ⟨st_size_22, st_word_23, st_vowels_24⟩ := u
            have hP : va_P (dC, dI) vwCl (xW ad cI cZ lt_count lw_begin lw_end lw_depth lw_signed lw_led pr_written pr_within st_size_22 tx_size tt_count tt_pieces tt_kinds lt_begins lt_marks st_word_23 st_vowels_24 tx_characters tt_begins tt_lengths tt_stemLengths tt_places tt_addresses tt_smalls tt_stems tt_slots tt_nexts) H := hP
            have hD : va_D A (xW ad cI cZ lt_count lw_begin lw_end lw_depth lw_signed lw_led pr_written pr_within st_size_22 tx_size tt_count tt_pieces tt_kinds lt_begins lt_marks st_word_23 st_vowels_24 tx_characters tt_begins tt_lengths tt_stemLengths tt_places tt_addresses tt_smalls tt_stems tt_slots tt_nexts) := hD
            refine lv_if_ne (tgt := 240) hx hb dX4_secondStep_69 (by decide) (fun c9 => ?_) (fun c9 => ?_)
            · have h := h.1 c9
              refine lv_iconst (v := 1) hx hb dX4_secondStep_240 (by decide) ?_
              refine lv_goto (tgt := 245) hx hb dX4_secondStep_241 (by decide) ?_
              exact W.zret (v := 1) hx hb hr (bN_nar bN1) (fun t ht hW => hQ 1 (st_size_22, st_word_23, st_vowels_24) t h (by rw [ht]; exact hP) (va_K.moved hW.alike hK) hD (hS.F ht)) hS.2.2 dX4_secondStep_245
            · have h := h.2 c9
              refine lv_aload_n hx hb dX4_secondStep_72 rfl (lv_at hl 0 rfl) ?_
              refine va_ldcS hx hb hown (show vk_R RX4 157 "alli" (sa 66) s from sI_ref hI (i := 66) (by decide)) dX4_secondStep_73 ?_
              refine va_ldcS hx hb hown (show vk_R RX4 159 "al" (sa 67) s from sI_ref hI (i := 67) (by decide)) dX4_secondStep_75 ?_
              refine lv_iconst (v := 0) hx hb dX4_secondStep_77 (by decide) ?_
              refine xc_vi (As := [.ref (sa 66), .ref (sa 67), .int 0]) (rest := []) xG Fx (sX4_tries l dC dI ad cI cZ sa sv lt_count lw_begin lw_end lw_depth lw_signed lw_led pr_written pr_within st_size_22 tx_size tt_count tt_pieces tt_kinds lt_begins lt_marks st_word_23 st_vowels_24 tx_characters tt_begins tt_lengths tt_stemLengths tt_places tt_addresses tt_smalls tt_stems tt_slots tt_nexts 66 67 0 h) (cwV 3 hts gX4_secondStep_X4_tries rfl rfl rfl hdX4_tries ⟨Nat.le_of_ble_eq_true rfl, Nat.le_of_ble_eq_true rfl⟩) (va_recv hK hP (ci := 3) (q0 := 3) rfl rfl) hK hP hD hS hA hI rfl hl.1 rfl (Nat.le_of_ble_eq_true rfl) dX4_secondStep_78 ⟨Nat.zero_le _, Nat.zero_le _⟩ (fun r_25 u H locs h hP hD hS => ?_)
              obtain ⟨st_size_26, st_word_27, st_vowels_28⟩ := u
              have hP : va_P (dC, dI) vwCl (xW ad cI cZ lt_count lw_begin lw_end lw_depth lw_signed lw_led pr_written pr_within st_size_26 tx_size tt_count tt_pieces tt_kinds lt_begins lt_marks st_word_27 st_vowels_28 tx_characters tt_begins tt_lengths tt_stemLengths tt_places tt_addresses tt_smalls tt_stems tt_slots tt_nexts) H := hP
              have hD : va_D A (xW ad cI cZ lt_count lw_begin lw_end lw_depth lw_signed lw_led pr_written pr_within st_size_26 tx_size tt_count tt_pieces tt_kinds lt_begins lt_marks st_word_27 st_vowels_28 tx_characters tt_begins tt_lengths tt_stemLengths tt_places tt_addresses tt_smalls tt_stems tt_slots tt_nexts) := hD
              refine lv_if_ne (tgt := 240) hx hb dX4_secondStep_81 (by decide) (fun c9 => ?_) (fun c9 => ?_)
              · have h := h.1 c9
                refine lv_iconst (v := 1) hx hb dX4_secondStep_240 (by decide) ?_
                refine lv_goto (tgt := 245) hx hb dX4_secondStep_241 (by decide) ?_
                exact W.zret (v := 1) hx hb hr (bN_nar bN1) (fun t ht hW => hQ 1 (st_size_26, st_word_27, st_vowels_28) t h (by rw [ht]; exact hP) (va_K.moved hW.alike hK) hD (hS.F ht)) hS.2.2 dX4_secondStep_245
              · have h := h.2 c9
                refine lv_aload_n hx hb dX4_secondStep_84 rfl (lv_at hl 0 rfl) ?_
                refine va_ldcS hx hb hown (show vk_R RX4 161 "entli" (sa 68) s from sI_ref hI (i := 68) (by decide)) dX4_secondStep_85 ?_
                refine va_ldcS hx hb hown (show vk_R RX4 163 "ent" (sa 69) s from sI_ref hI (i := 69) (by decide)) dX4_secondStep_87 ?_
                refine lv_iconst (v := 0) hx hb dX4_secondStep_89 (by decide) ?_
                refine xc_vi (As := [.ref (sa 68), .ref (sa 69), .int 0]) (rest := []) xG Fx (sX4_tries l dC dI ad cI cZ sa sv lt_count lw_begin lw_end lw_depth lw_signed lw_led pr_written pr_within st_size_26 tx_size tt_count tt_pieces tt_kinds lt_begins lt_marks st_word_27 st_vowels_28 tx_characters tt_begins tt_lengths tt_stemLengths tt_places tt_addresses tt_smalls tt_stems tt_slots tt_nexts 68 69 0 h) (cwV 3 hts gX4_secondStep_X4_tries rfl rfl rfl hdX4_tries ⟨Nat.le_of_ble_eq_true rfl, Nat.le_of_ble_eq_true rfl⟩) (va_recv hK hP (ci := 3) (q0 := 3) rfl rfl) hK hP hD hS hA hI rfl hl.1 rfl (Nat.le_of_ble_eq_true rfl) dX4_secondStep_90 ⟨Nat.zero_le _, Nat.zero_le _⟩ (fun r_29 u H locs h hP hD hS => ?_)
                obtain ⟨st_size_30, st_word_31, st_vowels_32⟩ := u
                have hP : va_P (dC, dI) vwCl (xW ad cI cZ lt_count lw_begin lw_end lw_depth lw_signed lw_led pr_written pr_within st_size_30 tx_size tt_count tt_pieces tt_kinds lt_begins lt_marks st_word_31 st_vowels_32 tx_characters tt_begins tt_lengths tt_stemLengths tt_places tt_addresses tt_smalls tt_stems tt_slots tt_nexts) H := hP
                have hD : va_D A (xW ad cI cZ lt_count lw_begin lw_end lw_depth lw_signed lw_led pr_written pr_within st_size_30 tx_size tt_count tt_pieces tt_kinds lt_begins lt_marks st_word_31 st_vowels_32 tx_characters tt_begins tt_lengths tt_stemLengths tt_places tt_addresses tt_smalls tt_stems tt_slots tt_nexts) := hD
                refine lv_if_ne (tgt := 240) hx hb dX4_secondStep_93 (by decide) (fun c9 => ?_) (fun c9 => ?_)
                · have h := h.1 c9
                  refine lv_iconst (v := 1) hx hb dX4_secondStep_240 (by decide) ?_
                  refine lv_goto (tgt := 245) hx hb dX4_secondStep_241 (by decide) ?_
                  exact W.zret (v := 1) hx hb hr (bN_nar bN1) (fun t ht hW => hQ 1 (st_size_30, st_word_31, st_vowels_32) t h (by rw [ht]; exact hP) (va_K.moved hW.alike hK) hD (hS.F ht)) hS.2.2 dX4_secondStep_245
                · have h := h.2 c9
                  refine lv_aload_n hx hb dX4_secondStep_96 rfl (lv_at hl 0 rfl) ?_
                  refine va_ldcS hx hb hown (show vk_R RX4 165 "eli" (sa 70) s from sI_ref hI (i := 70) (by decide)) dX4_secondStep_97 ?_
                  refine va_ldcS hx hb hown (show vk_R RX4 167 "e" (sa 71) s from sI_ref hI (i := 71) (by decide)) dX4_secondStep_99 ?_
                  refine lv_iconst (v := 0) hx hb dX4_secondStep_101 (by decide) ?_
                  refine xc_vi (As := [.ref (sa 70), .ref (sa 71), .int 0]) (rest := []) xG Fx (sX4_tries l dC dI ad cI cZ sa sv lt_count lw_begin lw_end lw_depth lw_signed lw_led pr_written pr_within st_size_30 tx_size tt_count tt_pieces tt_kinds lt_begins lt_marks st_word_31 st_vowels_32 tx_characters tt_begins tt_lengths tt_stemLengths tt_places tt_addresses tt_smalls tt_stems tt_slots tt_nexts 70 71 0 h) (cwV 3 hts gX4_secondStep_X4_tries rfl rfl rfl hdX4_tries ⟨Nat.le_of_ble_eq_true rfl, Nat.le_of_ble_eq_true rfl⟩) (va_recv hK hP (ci := 3) (q0 := 3) rfl rfl) hK hP hD hS hA hI rfl hl.1 rfl (Nat.le_of_ble_eq_true rfl) dX4_secondStep_102 ⟨Nat.zero_le _, Nat.zero_le _⟩ (fun r_33 u H locs h hP hD hS => ?_)
                  obtain ⟨st_size_34, st_word_35, st_vowels_36⟩ := u
                  have hP : va_P (dC, dI) vwCl (xW ad cI cZ lt_count lw_begin lw_end lw_depth lw_signed lw_led pr_written pr_within st_size_34 tx_size tt_count tt_pieces tt_kinds lt_begins lt_marks st_word_35 st_vowels_36 tx_characters tt_begins tt_lengths tt_stemLengths tt_places tt_addresses tt_smalls tt_stems tt_slots tt_nexts) H := hP
                  have hD : va_D A (xW ad cI cZ lt_count lw_begin lw_end lw_depth lw_signed lw_led pr_written pr_within st_size_34 tx_size tt_count tt_pieces tt_kinds lt_begins lt_marks st_word_35 st_vowels_36 tx_characters tt_begins tt_lengths tt_stemLengths tt_places tt_addresses tt_smalls tt_stems tt_slots tt_nexts) := hD
                  refine lv_if_ne (tgt := 240) hx hb dX4_secondStep_105 (by decide) (fun c9 => ?_) (fun c9 => ?_)
                  · have h := h.1 c9
                    refine lv_iconst (v := 1) hx hb dX4_secondStep_240 (by decide) ?_
                    refine lv_goto (tgt := 245) hx hb dX4_secondStep_241 (by decide) ?_
                    exact W.zret (v := 1) hx hb hr (bN_nar bN1) (fun t ht hW => hQ 1 (st_size_34, st_word_35, st_vowels_36) t h (by rw [ht]; exact hP) (va_K.moved hW.alike hK) hD (hS.F ht)) hS.2.2 dX4_secondStep_245
                  · have h := h.2 c9
                    refine lv_aload_n hx hb dX4_secondStep_108 rfl (lv_at hl 0 rfl) ?_
                    refine va_ldcS hx hb hown (show vk_R RX4 169 "ousli" (sa 72) s from sI_ref hI (i := 72) (by decide)) dX4_secondStep_109 ?_
                    refine va_ldcS hx hb hown (show vk_R RX4 171 "ous" (sa 73) s from sI_ref hI (i := 73) (by decide)) dX4_secondStep_111 ?_
                    refine lv_iconst (v := 0) hx hb dX4_secondStep_113 (by decide) ?_
                    refine xc_vi (As := [.ref (sa 72), .ref (sa 73), .int 0]) (rest := []) xG Fx (sX4_tries l dC dI ad cI cZ sa sv lt_count lw_begin lw_end lw_depth lw_signed lw_led pr_written pr_within st_size_34 tx_size tt_count tt_pieces tt_kinds lt_begins lt_marks st_word_35 st_vowels_36 tx_characters tt_begins tt_lengths tt_stemLengths tt_places tt_addresses tt_smalls tt_stems tt_slots tt_nexts 72 73 0 h) (cwV 3 hts gX4_secondStep_X4_tries rfl rfl rfl hdX4_tries ⟨Nat.le_of_ble_eq_true rfl, Nat.le_of_ble_eq_true rfl⟩) (va_recv hK hP (ci := 3) (q0 := 3) rfl rfl) hK hP hD hS hA hI rfl hl.1 rfl (Nat.le_of_ble_eq_true rfl) dX4_secondStep_114 ⟨Nat.zero_le _, Nat.zero_le _⟩ (fun r_37 u H locs h hP hD hS => ?_)
                    obtain ⟨st_size_38, st_word_39, st_vowels_40⟩ := u
                    have hP : va_P (dC, dI) vwCl (xW ad cI cZ lt_count lw_begin lw_end lw_depth lw_signed lw_led pr_written pr_within st_size_38 tx_size tt_count tt_pieces tt_kinds lt_begins lt_marks st_word_39 st_vowels_40 tx_characters tt_begins tt_lengths tt_stemLengths tt_places tt_addresses tt_smalls tt_stems tt_slots tt_nexts) H := hP
                    have hD : va_D A (xW ad cI cZ lt_count lw_begin lw_end lw_depth lw_signed lw_led pr_written pr_within st_size_38 tx_size tt_count tt_pieces tt_kinds lt_begins lt_marks st_word_39 st_vowels_40 tx_characters tt_begins tt_lengths tt_stemLengths tt_places tt_addresses tt_smalls tt_stems tt_slots tt_nexts) := hD
                    refine lv_if_ne (tgt := 240) hx hb dX4_secondStep_117 (by decide) (fun c9 => ?_) (fun c9 => ?_)
                    · have h := h.1 c9
                      refine lv_iconst (v := 1) hx hb dX4_secondStep_240 (by decide) ?_
                      refine lv_goto (tgt := 245) hx hb dX4_secondStep_241 (by decide) ?_
                      exact W.zret (v := 1) hx hb hr (bN_nar bN1) (fun t ht hW => hQ 1 (st_size_38, st_word_39, st_vowels_40) t h (by rw [ht]; exact hP) (va_K.moved hW.alike hK) hD (hS.F ht)) hS.2.2 dX4_secondStep_245
                    · have h := h.2 c9
                      refine lv_aload_n hx hb dX4_secondStep_120 rfl (lv_at hl 0 rfl) ?_
                      refine va_ldcS hx hb hown (show vk_R RX4 173 "ization" (sa 74) s from sI_ref hI (i := 74) (by decide)) dX4_secondStep_121 ?_
                      refine va_ldcS hx hb hown (show vk_R RX4 151 "ize" (sa 63) s from sI_ref hI (i := 63) (by decide)) dX4_secondStep_123 ?_
                      refine lv_iconst (v := 0) hx hb dX4_secondStep_125 (by decide) ?_
                      refine xc_vi (As := [.ref (sa 74), .ref (sa 63), .int 0]) (rest := []) xG Fx (sX4_tries l dC dI ad cI cZ sa sv lt_count lw_begin lw_end lw_depth lw_signed lw_led pr_written pr_within st_size_38 tx_size tt_count tt_pieces tt_kinds lt_begins lt_marks st_word_39 st_vowels_40 tx_characters tt_begins tt_lengths tt_stemLengths tt_places tt_addresses tt_smalls tt_stems tt_slots tt_nexts 74 63 0 h) (cwV 3 hts gX4_secondStep_X4_tries rfl rfl rfl hdX4_tries ⟨Nat.le_of_ble_eq_true rfl, Nat.le_of_ble_eq_true rfl⟩) (va_recv hK hP (ci := 3) (q0 := 3) rfl rfl) hK hP hD hS hA hI rfl hl.1 rfl (Nat.le_of_ble_eq_true rfl) dX4_secondStep_126 ⟨Nat.zero_le _, Nat.zero_le _⟩ (fun r_41 u H locs h hP hD hS => ?_)
                      obtain ⟨st_size_42, st_word_43, st_vowels_44⟩ := u
                      have hP : va_P (dC, dI) vwCl (xW ad cI cZ lt_count lw_begin lw_end lw_depth lw_signed lw_led pr_written pr_within st_size_42 tx_size tt_count tt_pieces tt_kinds lt_begins lt_marks st_word_43 st_vowels_44 tx_characters tt_begins tt_lengths tt_stemLengths tt_places tt_addresses tt_smalls tt_stems tt_slots tt_nexts) H := hP
                      have hD : va_D A (xW ad cI cZ lt_count lw_begin lw_end lw_depth lw_signed lw_led pr_written pr_within st_size_42 tx_size tt_count tt_pieces tt_kinds lt_begins lt_marks st_word_43 st_vowels_44 tx_characters tt_begins tt_lengths tt_stemLengths tt_places tt_addresses tt_smalls tt_stems tt_slots tt_nexts) := hD
                      refine lv_if_ne (tgt := 240) hx hb dX4_secondStep_129 (by decide) (fun c9 => ?_) (fun c9 => ?_)
                      · have h := h.1 c9
                        refine lv_iconst (v := 1) hx hb dX4_secondStep_240 (by decide) ?_
                        refine lv_goto (tgt := 245) hx hb dX4_secondStep_241 (by decide) ?_
                        exact W.zret (v := 1) hx hb hr (bN_nar bN1) (fun t ht hW => hQ 1 (st_size_42, st_word_43, st_vowels_44) t h (by rw [ht]; exact hP) (va_K.moved hW.alike hK) hD (hS.F ht)) hS.2.2 dX4_secondStep_245
                      · have h := h.2 c9
                        refine lv_aload_n hx hb dX4_secondStep_132 rfl (lv_at hl 0 rfl) ?_
                        refine va_ldcS hx hb hown (show vk_R RX4 175 "ation" (sa 75) s from sI_ref hI (i := 75) (by decide)) dX4_secondStep_133 ?_
                        refine va_ldcS hx hb hown (show vk_R RX4 135 "ate" (sa 55) s from sI_ref hI (i := 55) (by decide)) dX4_secondStep_135 ?_
                        refine lv_iconst (v := 0) hx hb dX4_secondStep_137 (by decide) ?_
                        refine xc_vi (As := [.ref (sa 75), .ref (sa 55), .int 0]) (rest := []) xG Fx (sX4_tries l dC dI ad cI cZ sa sv lt_count lw_begin lw_end lw_depth lw_signed lw_led pr_written pr_within st_size_42 tx_size tt_count tt_pieces tt_kinds lt_begins lt_marks st_word_43 st_vowels_44 tx_characters tt_begins tt_lengths tt_stemLengths tt_places tt_addresses tt_smalls tt_stems tt_slots tt_nexts 75 55 0 h) (cwV 3 hts gX4_secondStep_X4_tries rfl rfl rfl hdX4_tries ⟨Nat.le_of_ble_eq_true rfl, Nat.le_of_ble_eq_true rfl⟩) (va_recv hK hP (ci := 3) (q0 := 3) rfl rfl) hK hP hD hS hA hI rfl hl.1 rfl (Nat.le_of_ble_eq_true rfl) dX4_secondStep_138 ⟨Nat.zero_le _, Nat.zero_le _⟩ (fun r_45 u H locs h hP hD hS => ?_)
                        obtain ⟨st_size_46, st_word_47, st_vowels_48⟩ := u
                        have hP : va_P (dC, dI) vwCl (xW ad cI cZ lt_count lw_begin lw_end lw_depth lw_signed lw_led pr_written pr_within st_size_46 tx_size tt_count tt_pieces tt_kinds lt_begins lt_marks st_word_47 st_vowels_48 tx_characters tt_begins tt_lengths tt_stemLengths tt_places tt_addresses tt_smalls tt_stems tt_slots tt_nexts) H := hP
                        have hD : va_D A (xW ad cI cZ lt_count lw_begin lw_end lw_depth lw_signed lw_led pr_written pr_within st_size_46 tx_size tt_count tt_pieces tt_kinds lt_begins lt_marks st_word_47 st_vowels_48 tx_characters tt_begins tt_lengths tt_stemLengths tt_places tt_addresses tt_smalls tt_stems tt_slots tt_nexts) := hD
                        refine lv_if_ne (tgt := 240) hx hb dX4_secondStep_141 (by decide) (fun c9 => ?_) (fun c9 => ?_)
                        · have h := h.1 c9
                          refine lv_iconst (v := 1) hx hb dX4_secondStep_240 (by decide) ?_
                          refine lv_goto (tgt := 245) hx hb dX4_secondStep_241 (by decide) ?_
                          exact W.zret (v := 1) hx hb hr (bN_nar bN1) (fun t ht hW => hQ 1 (st_size_46, st_word_47, st_vowels_48) t h (by rw [ht]; exact hP) (va_K.moved hW.alike hK) hD (hS.F ht)) hS.2.2 dX4_secondStep_245
                        · have h := h.2 c9
                          refine lv_aload_n hx hb dX4_secondStep_144 rfl (lv_at hl 0 rfl) ?_
                          refine va_ldcS hx hb hown (show vk_R RX4 177 "ator" (sa 76) s from sI_ref hI (i := 76) (by decide)) dX4_secondStep_145 ?_
                          refine va_ldcS hx hb hown (show vk_R RX4 135 "ate" (sa 55) s from sI_ref hI (i := 55) (by decide)) dX4_secondStep_147 ?_
                          refine lv_iconst (v := 0) hx hb dX4_secondStep_149 (by decide) ?_
                          refine xc_vi (As := [.ref (sa 76), .ref (sa 55), .int 0]) (rest := []) xG Fx (sX4_tries l dC dI ad cI cZ sa sv lt_count lw_begin lw_end lw_depth lw_signed lw_led pr_written pr_within st_size_46 tx_size tt_count tt_pieces tt_kinds lt_begins lt_marks st_word_47 st_vowels_48 tx_characters tt_begins tt_lengths tt_stemLengths tt_places tt_addresses tt_smalls tt_stems tt_slots tt_nexts 76 55 0 h) (cwV 3 hts gX4_secondStep_X4_tries rfl rfl rfl hdX4_tries ⟨Nat.le_of_ble_eq_true rfl, Nat.le_of_ble_eq_true rfl⟩) (va_recv hK hP (ci := 3) (q0 := 3) rfl rfl) hK hP hD hS hA hI rfl hl.1 rfl (Nat.le_of_ble_eq_true rfl) dX4_secondStep_150 ⟨Nat.zero_le _, Nat.zero_le _⟩ (fun r_49 u H locs h hP hD hS => ?_)
                          obtain ⟨st_size_50, st_word_51, st_vowels_52⟩ := u
                          have hP : va_P (dC, dI) vwCl (xW ad cI cZ lt_count lw_begin lw_end lw_depth lw_signed lw_led pr_written pr_within st_size_50 tx_size tt_count tt_pieces tt_kinds lt_begins lt_marks st_word_51 st_vowels_52 tx_characters tt_begins tt_lengths tt_stemLengths tt_places tt_addresses tt_smalls tt_stems tt_slots tt_nexts) H := hP
                          have hD : va_D A (xW ad cI cZ lt_count lw_begin lw_end lw_depth lw_signed lw_led pr_written pr_within st_size_50 tx_size tt_count tt_pieces tt_kinds lt_begins lt_marks st_word_51 st_vowels_52 tx_characters tt_begins tt_lengths tt_stemLengths tt_places tt_addresses tt_smalls tt_stems tt_slots tt_nexts) := hD
                          refine lv_if_ne (tgt := 240) hx hb dX4_secondStep_153 (by decide) (fun c9 => ?_) (fun c9 => ?_)
                          · have h := h.1 c9
                            refine lv_iconst (v := 1) hx hb dX4_secondStep_240 (by decide) ?_
                            refine lv_goto (tgt := 245) hx hb dX4_secondStep_241 (by decide) ?_
                            exact W.zret (v := 1) hx hb hr (bN_nar bN1) (fun t ht hW => hQ 1 (st_size_50, st_word_51, st_vowels_52) t h (by rw [ht]; exact hP) (va_K.moved hW.alike hK) hD (hS.F ht)) hS.2.2 dX4_secondStep_245
                          · have h := h.2 c9
                            refine lv_aload_n hx hb dX4_secondStep_156 rfl (lv_at hl 0 rfl) ?_
                            refine va_ldcS hx hb hown (show vk_R RX4 179 "alism" (sa 77) s from sI_ref hI (i := 77) (by decide)) dX4_secondStep_157 ?_
                            refine va_ldcS hx hb hown (show vk_R RX4 159 "al" (sa 67) s from sI_ref hI (i := 67) (by decide)) dX4_secondStep_159 ?_
                            refine lv_iconst (v := 0) hx hb dX4_secondStep_161 (by decide) ?_
                            refine xc_vi (As := [.ref (sa 77), .ref (sa 67), .int 0]) (rest := []) xG Fx (sX4_tries l dC dI ad cI cZ sa sv lt_count lw_begin lw_end lw_depth lw_signed lw_led pr_written pr_within st_size_50 tx_size tt_count tt_pieces tt_kinds lt_begins lt_marks st_word_51 st_vowels_52 tx_characters tt_begins tt_lengths tt_stemLengths tt_places tt_addresses tt_smalls tt_stems tt_slots tt_nexts 77 67 0 h) (cwV 3 hts gX4_secondStep_X4_tries rfl rfl rfl hdX4_tries ⟨Nat.le_of_ble_eq_true rfl, Nat.le_of_ble_eq_true rfl⟩) (va_recv hK hP (ci := 3) (q0 := 3) rfl rfl) hK hP hD hS hA hI rfl hl.1 rfl (Nat.le_of_ble_eq_true rfl) dX4_secondStep_162 ⟨Nat.zero_le _, Nat.zero_le _⟩ (fun r_53 u H locs h hP hD hS => ?_)
                            obtain ⟨st_size_54, st_word_55, st_vowels_56⟩ := u
                            have hP : va_P (dC, dI) vwCl (xW ad cI cZ lt_count lw_begin lw_end lw_depth lw_signed lw_led pr_written pr_within st_size_54 tx_size tt_count tt_pieces tt_kinds lt_begins lt_marks st_word_55 st_vowels_56 tx_characters tt_begins tt_lengths tt_stemLengths tt_places tt_addresses tt_smalls tt_stems tt_slots tt_nexts) H := hP
                            have hD : va_D A (xW ad cI cZ lt_count lw_begin lw_end lw_depth lw_signed lw_led pr_written pr_within st_size_54 tx_size tt_count tt_pieces tt_kinds lt_begins lt_marks st_word_55 st_vowels_56 tx_characters tt_begins tt_lengths tt_stemLengths tt_places tt_addresses tt_smalls tt_stems tt_slots tt_nexts) := hD
                            refine lv_if_ne (tgt := 240) hx hb dX4_secondStep_165 (by decide) (fun c9 => ?_) (fun c9 => ?_)
                            · have h := h.1 c9
                              refine lv_iconst (v := 1) hx hb dX4_secondStep_240 (by decide) ?_
                              refine lv_goto (tgt := 245) hx hb dX4_secondStep_241 (by decide) ?_
                              exact W.zret (v := 1) hx hb hr (bN_nar bN1) (fun t ht hW => hQ 1 (st_size_54, st_word_55, st_vowels_56) t h (by rw [ht]; exact hP) (va_K.moved hW.alike hK) hD (hS.F ht)) hS.2.2 dX4_secondStep_245
                            · have h := h.2 c9
                              refine lv_aload_n hx hb dX4_secondStep_168 rfl (lv_at hl 0 rfl) ?_
                              refine va_ldcS hx hb hown (show vk_R RX4 181 "iveness" (sa 78) s from sI_ref hI (i := 78) (by decide)) dX4_secondStep_169 ?_
                              refine va_ldcS hx hb hown (show vk_R RX4 183 "ive" (sa 79) s from sI_ref hI (i := 79) (by decide)) dX4_secondStep_171 ?_
                              refine lv_iconst (v := 0) hx hb dX4_secondStep_173 (by decide) ?_
                              refine xc_vi (As := [.ref (sa 78), .ref (sa 79), .int 0]) (rest := []) xG Fx (sX4_tries l dC dI ad cI cZ sa sv lt_count lw_begin lw_end lw_depth lw_signed lw_led pr_written pr_within st_size_54 tx_size tt_count tt_pieces tt_kinds lt_begins lt_marks st_word_55 st_vowels_56 tx_characters tt_begins tt_lengths tt_stemLengths tt_places tt_addresses tt_smalls tt_stems tt_slots tt_nexts 78 79 0 h) (cwV 3 hts gX4_secondStep_X4_tries rfl rfl rfl hdX4_tries ⟨Nat.le_of_ble_eq_true rfl, Nat.le_of_ble_eq_true rfl⟩) (va_recv hK hP (ci := 3) (q0 := 3) rfl rfl) hK hP hD hS hA hI rfl hl.1 rfl (Nat.le_of_ble_eq_true rfl) dX4_secondStep_174 ⟨Nat.zero_le _, Nat.zero_le _⟩ (fun r_57 u H locs h hP hD hS => ?_)
                              obtain ⟨st_size_58, st_word_59, st_vowels_60⟩ := u
                              have hP : va_P (dC, dI) vwCl (xW ad cI cZ lt_count lw_begin lw_end lw_depth lw_signed lw_led pr_written pr_within st_size_58 tx_size tt_count tt_pieces tt_kinds lt_begins lt_marks st_word_59 st_vowels_60 tx_characters tt_begins tt_lengths tt_stemLengths tt_places tt_addresses tt_smalls tt_stems tt_slots tt_nexts) H := hP
                              have hD : va_D A (xW ad cI cZ lt_count lw_begin lw_end lw_depth lw_signed lw_led pr_written pr_within st_size_58 tx_size tt_count tt_pieces tt_kinds lt_begins lt_marks st_word_59 st_vowels_60 tx_characters tt_begins tt_lengths tt_stemLengths tt_places tt_addresses tt_smalls tt_stems tt_slots tt_nexts) := hD
                              refine lv_if_ne (tgt := 240) hx hb dX4_secondStep_177 (by decide) (fun c9 => ?_) (fun c9 => ?_)
                              · have h := h.1 c9
                                refine lv_iconst (v := 1) hx hb dX4_secondStep_240 (by decide) ?_
                                refine lv_goto (tgt := 245) hx hb dX4_secondStep_241 (by decide) ?_
                                exact W.zret (v := 1) hx hb hr (bN_nar bN1) (fun t ht hW => hQ 1 (st_size_58, st_word_59, st_vowels_60) t h (by rw [ht]; exact hP) (va_K.moved hW.alike hK) hD (hS.F ht)) hS.2.2 dX4_secondStep_245
                              · have h := h.2 c9
                                refine lv_aload_n hx hb dX4_secondStep_180 rfl (lv_at hl 0 rfl) ?_
                                refine va_ldcS hx hb hown (show vk_R RX4 185 "fulness" (sa 80) s from sI_ref hI (i := 80) (by decide)) dX4_secondStep_181 ?_
                                refine va_ldcS hx hb hown (show vk_R RX4 187 "ful" (sa 81) s from sI_ref hI (i := 81) (by decide)) dX4_secondStep_183 ?_
                                refine lv_iconst (v := 0) hx hb dX4_secondStep_185 (by decide) ?_
                                refine xc_vi (As := [.ref (sa 80), .ref (sa 81), .int 0]) (rest := []) xG Fx (sX4_tries l dC dI ad cI cZ sa sv lt_count lw_begin lw_end lw_depth lw_signed lw_led pr_written pr_within st_size_58 tx_size tt_count tt_pieces tt_kinds lt_begins lt_marks st_word_59 st_vowels_60 tx_characters tt_begins tt_lengths tt_stemLengths tt_places tt_addresses tt_smalls tt_stems tt_slots tt_nexts 80 81 0 h) (cwV 3 hts gX4_secondStep_X4_tries rfl rfl rfl hdX4_tries ⟨Nat.le_of_ble_eq_true rfl, Nat.le_of_ble_eq_true rfl⟩) (va_recv hK hP (ci := 3) (q0 := 3) rfl rfl) hK hP hD hS hA hI rfl hl.1 rfl (Nat.le_of_ble_eq_true rfl) dX4_secondStep_186 ⟨Nat.zero_le _, Nat.zero_le _⟩ (fun r_61 u H locs h hP hD hS => ?_)
                                obtain ⟨st_size_62, st_word_63, st_vowels_64⟩ := u
                                have hP : va_P (dC, dI) vwCl (xW ad cI cZ lt_count lw_begin lw_end lw_depth lw_signed lw_led pr_written pr_within st_size_62 tx_size tt_count tt_pieces tt_kinds lt_begins lt_marks st_word_63 st_vowels_64 tx_characters tt_begins tt_lengths tt_stemLengths tt_places tt_addresses tt_smalls tt_stems tt_slots tt_nexts) H := hP
                                have hD : va_D A (xW ad cI cZ lt_count lw_begin lw_end lw_depth lw_signed lw_led pr_written pr_within st_size_62 tx_size tt_count tt_pieces tt_kinds lt_begins lt_marks st_word_63 st_vowels_64 tx_characters tt_begins tt_lengths tt_stemLengths tt_places tt_addresses tt_smalls tt_stems tt_slots tt_nexts) := hD
                                refine lv_if_ne (tgt := 240) hx hb dX4_secondStep_189 (by decide) (fun c9 => ?_) (fun c9 => ?_)
                                · have h := h.1 c9
                                  refine lv_iconst (v := 1) hx hb dX4_secondStep_240 (by decide) ?_
                                  refine lv_goto (tgt := 245) hx hb dX4_secondStep_241 (by decide) ?_
                                  exact W.zret (v := 1) hx hb hr (bN_nar bN1) (fun t ht hW => hQ 1 (st_size_62, st_word_63, st_vowels_64) t h (by rw [ht]; exact hP) (va_K.moved hW.alike hK) hD (hS.F ht)) hS.2.2 dX4_secondStep_245
                                · have h := h.2 c9
                                  refine lv_aload_n hx hb dX4_secondStep_192 rfl (lv_at hl 0 rfl) ?_
                                  refine va_ldcS hx hb hown (show vk_R RX4 189 "ousness" (sa 82) s from sI_ref hI (i := 82) (by decide)) dX4_secondStep_193 ?_
                                  refine va_ldcS hx hb hown (show vk_R RX4 171 "ous" (sa 73) s from sI_ref hI (i := 73) (by decide)) dX4_secondStep_195 ?_
                                  refine lv_iconst (v := 0) hx hb dX4_secondStep_197 (by decide) ?_
                                  refine xc_vi (As := [.ref (sa 82), .ref (sa 73), .int 0]) (rest := []) xG Fx (sX4_tries l dC dI ad cI cZ sa sv lt_count lw_begin lw_end lw_depth lw_signed lw_led pr_written pr_within st_size_62 tx_size tt_count tt_pieces tt_kinds lt_begins lt_marks st_word_63 st_vowels_64 tx_characters tt_begins tt_lengths tt_stemLengths tt_places tt_addresses tt_smalls tt_stems tt_slots tt_nexts 82 73 0 h) (cwV 3 hts gX4_secondStep_X4_tries rfl rfl rfl hdX4_tries ⟨Nat.le_of_ble_eq_true rfl, Nat.le_of_ble_eq_true rfl⟩) (va_recv hK hP (ci := 3) (q0 := 3) rfl rfl) hK hP hD hS hA hI rfl hl.1 rfl (Nat.le_of_ble_eq_true rfl) dX4_secondStep_198 ⟨Nat.zero_le _, Nat.zero_le _⟩ (fun r_65 u H locs h hP hD hS => ?_)
                                  obtain ⟨st_size_66, st_word_67, st_vowels_68⟩ := u
                                  have hP : va_P (dC, dI) vwCl (xW ad cI cZ lt_count lw_begin lw_end lw_depth lw_signed lw_led pr_written pr_within st_size_66 tx_size tt_count tt_pieces tt_kinds lt_begins lt_marks st_word_67 st_vowels_68 tx_characters tt_begins tt_lengths tt_stemLengths tt_places tt_addresses tt_smalls tt_stems tt_slots tt_nexts) H := hP
                                  have hD : va_D A (xW ad cI cZ lt_count lw_begin lw_end lw_depth lw_signed lw_led pr_written pr_within st_size_66 tx_size tt_count tt_pieces tt_kinds lt_begins lt_marks st_word_67 st_vowels_68 tx_characters tt_begins tt_lengths tt_stemLengths tt_places tt_addresses tt_smalls tt_stems tt_slots tt_nexts) := hD
                                  refine lv_if_ne (tgt := 240) hx hb dX4_secondStep_201 (by decide) (fun c9 => ?_) (fun c9 => ?_)
                                  · have h := h.1 c9
                                    refine lv_iconst (v := 1) hx hb dX4_secondStep_240 (by decide) ?_
                                    refine lv_goto (tgt := 245) hx hb dX4_secondStep_241 (by decide) ?_
                                    exact W.zret (v := 1) hx hb hr (bN_nar bN1) (fun t ht hW => hQ 1 (st_size_66, st_word_67, st_vowels_68) t h (by rw [ht]; exact hP) (va_K.moved hW.alike hK) hD (hS.F ht)) hS.2.2 dX4_secondStep_245
                                  · have h := h.2 c9
                                    refine lv_aload_n hx hb dX4_secondStep_204 rfl (lv_at hl 0 rfl) ?_
                                    refine va_ldcS hx hb hown (show vk_R RX4 191 "aliti" (sa 83) s from sI_ref hI (i := 83) (by decide)) dX4_secondStep_205 ?_
                                    refine va_ldcS hx hb hown (show vk_R RX4 159 "al" (sa 67) s from sI_ref hI (i := 67) (by decide)) dX4_secondStep_207 ?_
                                    refine lv_iconst (v := 0) hx hb dX4_secondStep_209 (by decide) ?_
                                    refine xc_vi (As := [.ref (sa 83), .ref (sa 67), .int 0]) (rest := []) xG Fx (sX4_tries l dC dI ad cI cZ sa sv lt_count lw_begin lw_end lw_depth lw_signed lw_led pr_written pr_within st_size_66 tx_size tt_count tt_pieces tt_kinds lt_begins lt_marks st_word_67 st_vowels_68 tx_characters tt_begins tt_lengths tt_stemLengths tt_places tt_addresses tt_smalls tt_stems tt_slots tt_nexts 83 67 0 h) (cwV 3 hts gX4_secondStep_X4_tries rfl rfl rfl hdX4_tries ⟨Nat.le_of_ble_eq_true rfl, Nat.le_of_ble_eq_true rfl⟩) (va_recv hK hP (ci := 3) (q0 := 3) rfl rfl) hK hP hD hS hA hI rfl hl.1 rfl (Nat.le_of_ble_eq_true rfl) dX4_secondStep_210 ⟨Nat.zero_le _, Nat.zero_le _⟩ (fun r_69 u H locs h hP hD hS => ?_)
                                    obtain ⟨st_size_70, st_word_71, st_vowels_72⟩ := u
                                    have hP : va_P (dC, dI) vwCl (xW ad cI cZ lt_count lw_begin lw_end lw_depth lw_signed lw_led pr_written pr_within st_size_70 tx_size tt_count tt_pieces tt_kinds lt_begins lt_marks st_word_71 st_vowels_72 tx_characters tt_begins tt_lengths tt_stemLengths tt_places tt_addresses tt_smalls tt_stems tt_slots tt_nexts) H := hP
                                    have hD : va_D A (xW ad cI cZ lt_count lw_begin lw_end lw_depth lw_signed lw_led pr_written pr_within st_size_70 tx_size tt_count tt_pieces tt_kinds lt_begins lt_marks st_word_71 st_vowels_72 tx_characters tt_begins tt_lengths tt_stemLengths tt_places tt_addresses tt_smalls tt_stems tt_slots tt_nexts) := hD
                                    refine lv_if_ne (tgt := 240) hx hb dX4_secondStep_213 (by decide) (fun c9 => ?_) (fun c9 => ?_)
                                    · have h := h.1 c9
                                      refine lv_iconst (v := 1) hx hb dX4_secondStep_240 (by decide) ?_
                                      refine lv_goto (tgt := 245) hx hb dX4_secondStep_241 (by decide) ?_
                                      exact W.zret (v := 1) hx hb hr (bN_nar bN1) (fun t ht hW => hQ 1 (st_size_70, st_word_71, st_vowels_72) t h (by rw [ht]; exact hP) (va_K.moved hW.alike hK) hD (hS.F ht)) hS.2.2 dX4_secondStep_245
                                    · have h := h.2 c9
                                      refine lv_aload_n hx hb dX4_secondStep_216 rfl (lv_at hl 0 rfl) ?_
                                      refine va_ldcS hx hb hown (show vk_R RX4 193 "iviti" (sa 84) s from sI_ref hI (i := 84) (by decide)) dX4_secondStep_217 ?_
                                      refine va_ldcS hx hb hown (show vk_R RX4 183 "ive" (sa 79) s from sI_ref hI (i := 79) (by decide)) dX4_secondStep_219 ?_
                                      refine lv_iconst (v := 0) hx hb dX4_secondStep_221 (by decide) ?_
                                      refine xc_vi (As := [.ref (sa 84), .ref (sa 79), .int 0]) (rest := []) xG Fx (sX4_tries l dC dI ad cI cZ sa sv lt_count lw_begin lw_end lw_depth lw_signed lw_led pr_written pr_within st_size_70 tx_size tt_count tt_pieces tt_kinds lt_begins lt_marks st_word_71 st_vowels_72 tx_characters tt_begins tt_lengths tt_stemLengths tt_places tt_addresses tt_smalls tt_stems tt_slots tt_nexts 84 79 0 h) (cwV 3 hts gX4_secondStep_X4_tries rfl rfl rfl hdX4_tries ⟨Nat.le_of_ble_eq_true rfl, Nat.le_of_ble_eq_true rfl⟩) (va_recv hK hP (ci := 3) (q0 := 3) rfl rfl) hK hP hD hS hA hI rfl hl.1 rfl (Nat.le_of_ble_eq_true rfl) dX4_secondStep_222 ⟨Nat.zero_le _, Nat.zero_le _⟩ (fun r_73 u H locs h hP hD hS => ?_)
                                      obtain ⟨st_size_74, st_word_75, st_vowels_76⟩ := u
                                      have hP : va_P (dC, dI) vwCl (xW ad cI cZ lt_count lw_begin lw_end lw_depth lw_signed lw_led pr_written pr_within st_size_74 tx_size tt_count tt_pieces tt_kinds lt_begins lt_marks st_word_75 st_vowels_76 tx_characters tt_begins tt_lengths tt_stemLengths tt_places tt_addresses tt_smalls tt_stems tt_slots tt_nexts) H := hP
                                      have hD : va_D A (xW ad cI cZ lt_count lw_begin lw_end lw_depth lw_signed lw_led pr_written pr_within st_size_74 tx_size tt_count tt_pieces tt_kinds lt_begins lt_marks st_word_75 st_vowels_76 tx_characters tt_begins tt_lengths tt_stemLengths tt_places tt_addresses tt_smalls tt_stems tt_slots tt_nexts) := hD
                                      refine lv_if_ne (tgt := 240) hx hb dX4_secondStep_225 (by decide) (fun c9 => ?_) (fun c9 => ?_)
                                      · have h := h.1 c9
                                        refine lv_iconst (v := 1) hx hb dX4_secondStep_240 (by decide) ?_
                                        refine lv_goto (tgt := 245) hx hb dX4_secondStep_241 (by decide) ?_
                                        exact W.zret (v := 1) hx hb hr (bN_nar bN1) (fun t ht hW => hQ 1 (st_size_74, st_word_75, st_vowels_76) t h (by rw [ht]; exact hP) (va_K.moved hW.alike hK) hD (hS.F ht)) hS.2.2 dX4_secondStep_245
                                      · have h := h.2 c9
                                        refine lv_aload_n hx hb dX4_secondStep_228 rfl (lv_at hl 0 rfl) ?_
                                        refine va_ldcS hx hb hown (show vk_R RX4 195 "biliti" (sa 85) s from sI_ref hI (i := 85) (by decide)) dX4_secondStep_229 ?_
                                        refine va_ldcS hx hb hown (show vk_R RX4 197 "ble" (sa 86) s from sI_ref hI (i := 86) (by decide)) dX4_secondStep_231 ?_
                                        refine lv_iconst (v := 0) hx hb dX4_secondStep_233 (by decide) ?_
                                        refine xc_vi (As := [.ref (sa 85), .ref (sa 86), .int 0]) (rest := []) xG Fx (sX4_tries l dC dI ad cI cZ sa sv lt_count lw_begin lw_end lw_depth lw_signed lw_led pr_written pr_within st_size_74 tx_size tt_count tt_pieces tt_kinds lt_begins lt_marks st_word_75 st_vowels_76 tx_characters tt_begins tt_lengths tt_stemLengths tt_places tt_addresses tt_smalls tt_stems tt_slots tt_nexts 85 86 0 h) (cwV 3 hts gX4_secondStep_X4_tries rfl rfl rfl hdX4_tries ⟨Nat.le_of_ble_eq_true rfl, Nat.le_of_ble_eq_true rfl⟩) (va_recv hK hP (ci := 3) (q0 := 3) rfl rfl) hK hP hD hS hA hI rfl hl.1 rfl (Nat.le_of_ble_eq_true rfl) dX4_secondStep_234 ⟨Nat.zero_le _, Nat.zero_le _⟩ (fun r_77 u H locs h hP hD hS => ?_)
                                        obtain ⟨st_size_78, st_word_79, st_vowels_80⟩ := u
                                        have hP : va_P (dC, dI) vwCl (xW ad cI cZ lt_count lw_begin lw_end lw_depth lw_signed lw_led pr_written pr_within st_size_78 tx_size tt_count tt_pieces tt_kinds lt_begins lt_marks st_word_79 st_vowels_80 tx_characters tt_begins tt_lengths tt_stemLengths tt_places tt_addresses tt_smalls tt_stems tt_slots tt_nexts) H := hP
                                        have hD : va_D A (xW ad cI cZ lt_count lw_begin lw_end lw_depth lw_signed lw_led pr_written pr_within st_size_78 tx_size tt_count tt_pieces tt_kinds lt_begins lt_marks st_word_79 st_vowels_80 tx_characters tt_begins tt_lengths tt_stemLengths tt_places tt_addresses tt_smalls tt_stems tt_slots tt_nexts) := hD
                                        refine lv_if_eq (tgt := 244) hx hb dX4_secondStep_237 (by decide) (fun c9 => ?_) (fun c9 => ?_)
                                        · have h := h.1 c9
                                          refine lv_iconst (v := 0) hx hb dX4_secondStep_244 (by decide) ?_
                                          exact W.zret (v := 0) hx hb hr (bN_nar bN0) (fun t ht hW => hQ 0 (st_size_78, st_word_79, st_vowels_80) t h (by rw [ht]; exact hP) (va_K.moved hW.alike hK) hD (hS.F ht)) hS.2.2 dX4_secondStep_245
                                        · have h := h.2 c9
                                          refine lv_iconst (v := 1) hx hb dX4_secondStep_240 (by decide) ?_
                                          refine lv_goto (tgt := 245) hx hb dX4_secondStep_241 (by decide) ?_
                                          exact W.zret (v := 1) hx hb hr (bN_nar bN1) (fun t ht hW => hQ 1 (st_size_78, st_word_79, st_vowels_80) t h (by rw [ht]; exact hP) (va_K.moved hW.alike hK) hD (hS.F ht)) hS.2.2 dX4_secondStep_245
set_option maxHeartbeats 4000000 in
set_option maxRecDepth 100000 in
theorem sX4_thirdStep (l : Launch) (dC : Nat → ClassId) (dI : Nat → Nat → Nat) (ad : Nat → Nat) (cI cZ : ClassId) (sa sv : Nat → Nat) (lt_count : Int32) (lw_begin : Int32) (lw_end : Int32) (lw_depth : Int32) (lw_signed : Int32) (lw_led : Int32) (pr_written : Int32) (pr_within : Int32) (st_size : Int32) (tx_size : Int32) (tt_count : Int32) (tt_pieces : Int32) (tt_kinds : Int32) (lt_begins : Nat → Int32) (lt_marks : Nat → Int32) (st_word : Nat → Int32) (st_vowels : Nat → Int32) (tx_characters : Nat → Int32) (tt_begins : Nat → Int32) (tt_lengths : Nat → Int32) (tt_stemLengths : Nat → Int32) (tt_places : Nat → Int32) (tt_addresses : Nat → Int32) (tt_smalls : Nat → Int32) (tt_stems : Nat → Int32) (tt_slots : Nat → Int32) (tt_nexts : Nat → Int32)  {post : Int32 → Int32 → (Nat → Int32) → (Nat → Int32) → Prop} (h : wpX4_thirdStep post st_size st_word st_vowels) : xMi l (dC, dI) vwCl [(cI, .int), (cZ, .boolean)] (sI sa sv) yX4_thirdStep wsX4_thirdStep ({ frames := 6, cells := 0, slots := 0, locals := 132 }) (xW ad cI cZ lt_count lw_begin lw_end lw_depth lw_signed lw_led pr_written pr_within st_size tx_size tt_count tt_pieces tt_kinds lt_begins lt_marks st_word st_vowels tx_characters tt_begins tt_lengths tt_stemLengths tt_places tt_addresses tt_smalls tt_stems tt_slots tt_nexts) [.ref (ad 3)] (fun (r : Int32) (u : Int32 × (Nat → Int32) × (Nat → Int32)) => post r u.1 u.2.1 u.2.2) (fun u : Int32 × (Nat → Int32) × (Nat → Int32) => (xW ad cI cZ lt_count lw_begin lw_end lw_depth lw_signed lw_led pr_written pr_within u.1 tx_size tt_count tt_pieces tt_kinds lt_begins lt_marks u.2.1 u.2.2 tx_characters tt_begins tt_lengths tt_stemLengths tt_places tt_addresses tt_smalls tt_stems tt_slots tt_nexts)) := by
  intro sz
  refine Met.ofW (cc := cX4_thirdStep) (maxL := 1) (ret := (some .boolean)) (by decide) rfl ?_
  intro p e s m args below meth c s₁ B hml hv
  obtain ⟨rfl, hsz, hP, hK, hD0, hI⟩ := hv
  have hx := B.exec
  have hb := B.bytes
  have hr := B.returns
  have hts := atoms_spec (ws := wsX4_thirdStep) B.pre
  have hown : s.vm.findClass RX4 = some m.cls := findClass_of_methodNamed B.named
  have hlocks := B.notSynchronized
  subst hsz
  have hD := hD0.self (sz := s.heap.size)
  generalize hAe : va_A (xW ad cI cZ lt_count lw_begin lw_end lw_depth lw_signed lw_led pr_written pr_within st_size tx_size tt_count tt_pieces tt_kinds lt_begins lt_marks st_word st_vowels tx_characters tt_begins tt_lengths tt_stemLengths tt_places tt_addresses tt_smalls tt_stems tt_slots tt_nexts) s.heap.size = A at hD hI ⊢
  have hA : ∀ q : Nat, s.heap.size ≤ q → A q := fun q h => by rw [← hAe]; exact Or.inr h
  have hS : va_S A s.heap s.heap [] := va_S.rf
  have Fx : CallFix p m c cX4_thirdStep 1 s ([.ref (ad 3)] : List Value).toArray wsX4_thirdStep RX4 := ⟨hx, hb, hml, hown, hts⟩
  have hQ : ∀ (r : Int32) (u : Int32 × (Nat → Int32) × (Nat → Int32)) (t : State), (fun (r : Int32) (u : Int32 × (Nat → Int32) × (Nat → Int32)) => post r u.1 u.2.1 u.2.2) r u → va_P (dC, dI) vwCl ((fun u : Int32 × (Nat → Int32) × (Nat → Int32) => (xW ad cI cZ lt_count lw_begin lw_end lw_depth lw_signed lw_led pr_written pr_within u.1 tx_size tt_count tt_pieces tt_kinds lt_begins lt_marks u.2.1 u.2.2 tx_characters tt_begins tt_lengths tt_stemLengths tt_places tt_addresses tt_smalls tt_stems tt_slots tt_nexts)) u) t.heap → va_K (dC, dI) vwCl [(cI, .int), (cZ, .boolean)] t → va_D A ((fun u : Int32 × (Nat → Int32) × (Nat → Int32) => (xW ad cI cZ lt_count lw_begin lw_end lw_depth lw_signed lw_led pr_written pr_within u.1 tx_size tt_count tt_pieces tt_kinds lt_begins lt_marks u.2.1 u.2.2 tx_characters tt_begins tt_lengths tt_stemLengths tt_places tt_addresses tt_smalls tt_stems tt_slots tt_nexts)) u) → va_F A s t → (va_Qi (fun (r : Int32) (u : Int32 × (Nat → Int32) × (Nat → Int32)) => post r u.1 u.2.1 u.2.2) (xB (dC, dI) vwCl [(cI, .int), (cZ, .boolean)] A (fun u : Int32 × (Nat → Int32) × (Nat → Int32) => (xW ad cI cZ lt_count lw_begin lw_end lw_depth lw_signed lw_led pr_written pr_within u.1 tx_size tt_count tt_pieces tt_kinds lt_begins lt_marks u.2.1 u.2.2 tx_characters tt_begins tt_lengths tt_stemLengths tt_places tt_addresses tt_smalls tt_stems tt_slots tt_nexts))) A) ([.ref (ad 3)] : List Value).toArray s (.returned (some (.int r))) t := fun r u t h1 h2 h3 h4 h5 => ⟨⟨r, u, rfl, h1, h2, h3, h4⟩, h5⟩
  generalize (va_Qi (fun (r : Int32) (u : Int32 × (Nat → Int32) × (Nat → Int32)) => post r u.1 u.2.1 u.2.2) (xB (dC, dI) vwCl [(cI, .int), (cZ, .boolean)] A (fun u : Int32 × (Nat → Int32) × (Nat → Int32) => (xW ad cI cZ lt_count lw_begin lw_end lw_depth lw_signed lw_led pr_written pr_within u.1 tx_size tt_count tt_pieces tt_kinds lt_begins lt_marks u.2.1 u.2.2 tx_characters tt_begins tt_lengths tt_stemLengths tt_places tt_addresses tt_smalls tt_stems tt_slots tt_nexts))) A) = Qc at hQ ⊢
  have hl := lv_entry ([.ref (ad 3)]) (n := 1) (Nat.le_of_ble_eq_true rfl)
  rw [lg_entry_eq]
  generalize (lg_sl ([.ref (ad 3)]) ++ List.replicate (1 - (lg_sl ([.ref (ad 3)])).length) Slot.unset).toArray = ls at hl ⊢
  have hl : lv_has ls 1 [(0, .ref (ad 3))] := hl
  refine (fun (key : ∀ (H : Heap) (locs : List Loc), va_P (dC, dI) vwCl (xW ad cI cZ lt_count lw_begin lw_end lw_depth lw_signed lw_led pr_written pr_within st_size tx_size tt_count tt_pieces tt_kinds lt_begins lt_marks st_word st_vowels tx_characters tt_begins tt_lengths tt_stemLengths tt_places tt_addresses tt_smalls tt_stems tt_slots tt_nexts) H → va_D A (xW ad cI cZ lt_count lw_begin lw_end lw_depth lw_signed lw_led pr_written pr_within st_size tx_size tt_count tt_pieces tt_kinds lt_begins lt_marks st_word st_vowels tx_characters tt_begins tt_lengths tt_stemLengths tt_places tt_addresses tt_smalls tt_stems tt_slots tt_nexts) → va_S A s.heap H locs → W p l e (headSpec wsX4_thirdStep ({ frames := 6, cells := 0, slots := 0, locals := 132 })).room s m ([.ref (ad 3)] : List Value).toArray below meth c H locs 0 0 (MQ below Qc ([.ref (ad 3)] : List Value).toArray s 0 0 A) (F0 m 0 ls [])) => key _ _ hP hD hS) ?_
  intro H locs hP hD hS
  delta wpX4_thirdStep at h
  refine lv_aload_n hx hb dX4_thirdStep_0 rfl (lv_at hl 0 rfl) ?_
  refine va_ldcS hx hb hown (show vk_R RX4 199 "icate" (sa 87) s from sI_ref hI (i := 87) (by decide)) dX4_thirdStep_1 ?_
  refine va_ldcS hx hb hown (show vk_R RX4 201 "ic" (sa 88) s from sI_ref hI (i := 88) (by decide)) dX4_thirdStep_3 ?_
  refine lv_iconst (v := 0) hx hb dX4_thirdStep_5 (by decide) ?_
  refine xc_vi (As := [.ref (sa 87), .ref (sa 88), .int 0]) (rest := []) xG Fx (sX4_tries l dC dI ad cI cZ sa sv lt_count lw_begin lw_end lw_depth lw_signed lw_led pr_written pr_within st_size tx_size tt_count tt_pieces tt_kinds lt_begins lt_marks st_word st_vowels tx_characters tt_begins tt_lengths tt_stemLengths tt_places tt_addresses tt_smalls tt_stems tt_slots tt_nexts 87 88 0 h) (cwV 3 hts gX4_thirdStep_X4_tries rfl rfl rfl hdX4_tries ⟨Nat.le_of_ble_eq_true rfl, Nat.le_of_ble_eq_true rfl⟩) (va_recv hK hP (ci := 3) (q0 := 3) rfl rfl) hK hP hD hS hA hI rfl hl.1 rfl (Nat.le_of_ble_eq_true rfl) dX4_thirdStep_6 ⟨Nat.zero_le _, Nat.zero_le _⟩ (fun r_1 u H locs h hP hD hS => ?_)
  obtain ⟨st_size_2, st_word_3, st_vowels_4⟩ := u
  have hP : va_P (dC, dI) vwCl (xW ad cI cZ lt_count lw_begin lw_end lw_depth lw_signed lw_led pr_written pr_within st_size_2 tx_size tt_count tt_pieces tt_kinds lt_begins lt_marks st_word_3 st_vowels_4 tx_characters tt_begins tt_lengths tt_stemLengths tt_places tt_addresses tt_smalls tt_stems tt_slots tt_nexts) H := hP
  have hD : va_D A (xW ad cI cZ lt_count lw_begin lw_end lw_depth lw_signed lw_led pr_written pr_within st_size_2 tx_size tt_count tt_pieces tt_kinds lt_begins lt_marks st_word_3 st_vowels_4 tx_characters tt_begins tt_lengths tt_stemLengths tt_places tt_addresses tt_smalls tt_stems tt_slots tt_nexts) := hD
  refine lv_if_ne (tgt := 84) hx hb dX4_thirdStep_9 (by decide) (fun c9 => ?_) (fun c9 => ?_)
  · have h := h.1 c9
    refine lv_iconst (v := 1) hx hb dX4_thirdStep_84 (by decide) ?_
    refine lv_goto (tgt := 89) hx hb dX4_thirdStep_85 (by decide) ?_
    exact W.zret (v := 1) hx hb hr (bN_nar bN1) (fun t ht hW => hQ 1 (st_size_2, st_word_3, st_vowels_4) t h (by rw [ht]; exact hP) (va_K.moved hW.alike hK) hD (hS.F ht)) hS.2.2 dX4_thirdStep_89
  · have h := h.2 c9
    refine lv_aload_n hx hb dX4_thirdStep_12 rfl (lv_at hl 0 rfl) ?_
    refine va_ldcS hx hb hown (show vk_R RX4 203 "iciti" (sa 89) s from sI_ref hI (i := 89) (by decide)) dX4_thirdStep_13 ?_
    refine va_ldcS hx hb hown (show vk_R RX4 201 "ic" (sa 88) s from sI_ref hI (i := 88) (by decide)) dX4_thirdStep_15 ?_
    refine lv_iconst (v := 0) hx hb dX4_thirdStep_17 (by decide) ?_
    refine xc_vi (As := [.ref (sa 89), .ref (sa 88), .int 0]) (rest := []) xG Fx (sX4_tries l dC dI ad cI cZ sa sv lt_count lw_begin lw_end lw_depth lw_signed lw_led pr_written pr_within st_size_2 tx_size tt_count tt_pieces tt_kinds lt_begins lt_marks st_word_3 st_vowels_4 tx_characters tt_begins tt_lengths tt_stemLengths tt_places tt_addresses tt_smalls tt_stems tt_slots tt_nexts 89 88 0 h) (cwV 3 hts gX4_thirdStep_X4_tries rfl rfl rfl hdX4_tries ⟨Nat.le_of_ble_eq_true rfl, Nat.le_of_ble_eq_true rfl⟩) (va_recv hK hP (ci := 3) (q0 := 3) rfl rfl) hK hP hD hS hA hI rfl hl.1 rfl (Nat.le_of_ble_eq_true rfl) dX4_thirdStep_18 ⟨Nat.zero_le _, Nat.zero_le _⟩ (fun r_5 u H locs h hP hD hS => ?_)
    obtain ⟨st_size_6, st_word_7, st_vowels_8⟩ := u
    have hP : va_P (dC, dI) vwCl (xW ad cI cZ lt_count lw_begin lw_end lw_depth lw_signed lw_led pr_written pr_within st_size_6 tx_size tt_count tt_pieces tt_kinds lt_begins lt_marks st_word_7 st_vowels_8 tx_characters tt_begins tt_lengths tt_stemLengths tt_places tt_addresses tt_smalls tt_stems tt_slots tt_nexts) H := hP
    have hD : va_D A (xW ad cI cZ lt_count lw_begin lw_end lw_depth lw_signed lw_led pr_written pr_within st_size_6 tx_size tt_count tt_pieces tt_kinds lt_begins lt_marks st_word_7 st_vowels_8 tx_characters tt_begins tt_lengths tt_stemLengths tt_places tt_addresses tt_smalls tt_stems tt_slots tt_nexts) := hD
    refine lv_if_ne (tgt := 84) hx hb dX4_thirdStep_21 (by decide) (fun c9 => ?_) (fun c9 => ?_)
    · have h := h.1 c9
      refine lv_iconst (v := 1) hx hb dX4_thirdStep_84 (by decide) ?_
      refine lv_goto (tgt := 89) hx hb dX4_thirdStep_85 (by decide) ?_
      exact W.zret (v := 1) hx hb hr (bN_nar bN1) (fun t ht hW => hQ 1 (st_size_6, st_word_7, st_vowels_8) t h (by rw [ht]; exact hP) (va_K.moved hW.alike hK) hD (hS.F ht)) hS.2.2 dX4_thirdStep_89
    · have h := h.2 c9
      refine lv_aload_n hx hb dX4_thirdStep_24 rfl (lv_at hl 0 rfl) ?_
      refine va_ldcS hx hb hown (show vk_R RX4 205 "ical" (sa 90) s from sI_ref hI (i := 90) (by decide)) dX4_thirdStep_25 ?_
      refine va_ldcS hx hb hown (show vk_R RX4 201 "ic" (sa 88) s from sI_ref hI (i := 88) (by decide)) dX4_thirdStep_27 ?_
      refine lv_iconst (v := 0) hx hb dX4_thirdStep_29 (by decide) ?_
      refine xc_vi (As := [.ref (sa 90), .ref (sa 88), .int 0]) (rest := []) xG Fx (sX4_tries l dC dI ad cI cZ sa sv lt_count lw_begin lw_end lw_depth lw_signed lw_led pr_written pr_within st_size_6 tx_size tt_count tt_pieces tt_kinds lt_begins lt_marks st_word_7 st_vowels_8 tx_characters tt_begins tt_lengths tt_stemLengths tt_places tt_addresses tt_smalls tt_stems tt_slots tt_nexts 90 88 0 h) (cwV 3 hts gX4_thirdStep_X4_tries rfl rfl rfl hdX4_tries ⟨Nat.le_of_ble_eq_true rfl, Nat.le_of_ble_eq_true rfl⟩) (va_recv hK hP (ci := 3) (q0 := 3) rfl rfl) hK hP hD hS hA hI rfl hl.1 rfl (Nat.le_of_ble_eq_true rfl) dX4_thirdStep_30 ⟨Nat.zero_le _, Nat.zero_le _⟩ (fun r_9 u H locs h hP hD hS => ?_)
      obtain ⟨st_size_10, st_word_11, st_vowels_12⟩ := u
      have hP : va_P (dC, dI) vwCl (xW ad cI cZ lt_count lw_begin lw_end lw_depth lw_signed lw_led pr_written pr_within st_size_10 tx_size tt_count tt_pieces tt_kinds lt_begins lt_marks st_word_11 st_vowels_12 tx_characters tt_begins tt_lengths tt_stemLengths tt_places tt_addresses tt_smalls tt_stems tt_slots tt_nexts) H := hP
      have hD : va_D A (xW ad cI cZ lt_count lw_begin lw_end lw_depth lw_signed lw_led pr_written pr_within st_size_10 tx_size tt_count tt_pieces tt_kinds lt_begins lt_marks st_word_11 st_vowels_12 tx_characters tt_begins tt_lengths tt_stemLengths tt_places tt_addresses tt_smalls tt_stems tt_slots tt_nexts) := hD
      refine lv_if_ne (tgt := 84) hx hb dX4_thirdStep_33 (by decide) (fun c9 => ?_) (fun c9 => ?_)
      · have h := h.1 c9
        refine lv_iconst (v := 1) hx hb dX4_thirdStep_84 (by decide) ?_
        refine lv_goto (tgt := 89) hx hb dX4_thirdStep_85 (by decide) ?_
        exact W.zret (v := 1) hx hb hr (bN_nar bN1) (fun t ht hW => hQ 1 (st_size_10, st_word_11, st_vowels_12) t h (by rw [ht]; exact hP) (va_K.moved hW.alike hK) hD (hS.F ht)) hS.2.2 dX4_thirdStep_89
      · have h := h.2 c9
        refine lv_aload_n hx hb dX4_thirdStep_36 rfl (lv_at hl 0 rfl) ?_
        refine va_ldcS hx hb hown (show vk_R RX4 207 "ative" (sa 91) s from sI_ref hI (i := 91) (by decide)) dX4_thirdStep_37 ?_
        refine va_ldcS hx hb hown (show vk_R RX4 92 "" (sa 40) s from sI_ref hI (i := 40) (by decide)) dX4_thirdStep_39 ?_
        refine lv_iconst (v := 0) hx hb dX4_thirdStep_41 (by decide) ?_
        refine xc_vi (As := [.ref (sa 91), .ref (sa 40), .int 0]) (rest := []) xG Fx (sX4_tries l dC dI ad cI cZ sa sv lt_count lw_begin lw_end lw_depth lw_signed lw_led pr_written pr_within st_size_10 tx_size tt_count tt_pieces tt_kinds lt_begins lt_marks st_word_11 st_vowels_12 tx_characters tt_begins tt_lengths tt_stemLengths tt_places tt_addresses tt_smalls tt_stems tt_slots tt_nexts 91 40 0 h) (cwV 3 hts gX4_thirdStep_X4_tries rfl rfl rfl hdX4_tries ⟨Nat.le_of_ble_eq_true rfl, Nat.le_of_ble_eq_true rfl⟩) (va_recv hK hP (ci := 3) (q0 := 3) rfl rfl) hK hP hD hS hA hI rfl hl.1 rfl (Nat.le_of_ble_eq_true rfl) dX4_thirdStep_42 ⟨Nat.zero_le _, Nat.zero_le _⟩ (fun r_13 u H locs h hP hD hS => ?_)
        obtain ⟨st_size_14, st_word_15, st_vowels_16⟩ := u
        have hP : va_P (dC, dI) vwCl (xW ad cI cZ lt_count lw_begin lw_end lw_depth lw_signed lw_led pr_written pr_within st_size_14 tx_size tt_count tt_pieces tt_kinds lt_begins lt_marks st_word_15 st_vowels_16 tx_characters tt_begins tt_lengths tt_stemLengths tt_places tt_addresses tt_smalls tt_stems tt_slots tt_nexts) H := hP
        have hD : va_D A (xW ad cI cZ lt_count lw_begin lw_end lw_depth lw_signed lw_led pr_written pr_within st_size_14 tx_size tt_count tt_pieces tt_kinds lt_begins lt_marks st_word_15 st_vowels_16 tx_characters tt_begins tt_lengths tt_stemLengths tt_places tt_addresses tt_smalls tt_stems tt_slots tt_nexts) := hD
        refine lv_if_ne (tgt := 84) hx hb dX4_thirdStep_45 (by decide) (fun c9 => ?_) (fun c9 => ?_)
        · have h := h.1 c9
          refine lv_iconst (v := 1) hx hb dX4_thirdStep_84 (by decide) ?_
          refine lv_goto (tgt := 89) hx hb dX4_thirdStep_85 (by decide) ?_
          exact W.zret (v := 1) hx hb hr (bN_nar bN1) (fun t ht hW => hQ 1 (st_size_14, st_word_15, st_vowels_16) t h (by rw [ht]; exact hP) (va_K.moved hW.alike hK) hD (hS.F ht)) hS.2.2 dX4_thirdStep_89
        · have h := h.2 c9
          refine lv_aload_n hx hb dX4_thirdStep_48 rfl (lv_at hl 0 rfl) ?_
          refine va_ldcS hx hb hown (show vk_R RX4 187 "ful" (sa 81) s from sI_ref hI (i := 81) (by decide)) dX4_thirdStep_49 ?_
          refine va_ldcS hx hb hown (show vk_R RX4 92 "" (sa 40) s from sI_ref hI (i := 40) (by decide)) dX4_thirdStep_51 ?_
          refine lv_iconst (v := 0) hx hb dX4_thirdStep_53 (by decide) ?_
          refine xc_vi (As := [.ref (sa 81), .ref (sa 40), .int 0]) (rest := []) xG Fx (sX4_tries l dC dI ad cI cZ sa sv lt_count lw_begin lw_end lw_depth lw_signed lw_led pr_written pr_within st_size_14 tx_size tt_count tt_pieces tt_kinds lt_begins lt_marks st_word_15 st_vowels_16 tx_characters tt_begins tt_lengths tt_stemLengths tt_places tt_addresses tt_smalls tt_stems tt_slots tt_nexts 81 40 0 h) (cwV 3 hts gX4_thirdStep_X4_tries rfl rfl rfl hdX4_tries ⟨Nat.le_of_ble_eq_true rfl, Nat.le_of_ble_eq_true rfl⟩) (va_recv hK hP (ci := 3) (q0 := 3) rfl rfl) hK hP hD hS hA hI rfl hl.1 rfl (Nat.le_of_ble_eq_true rfl) dX4_thirdStep_54 ⟨Nat.zero_le _, Nat.zero_le _⟩ (fun r_17 u H locs h hP hD hS => ?_)
          obtain ⟨st_size_18, st_word_19, st_vowels_20⟩ := u
          have hP : va_P (dC, dI) vwCl (xW ad cI cZ lt_count lw_begin lw_end lw_depth lw_signed lw_led pr_written pr_within st_size_18 tx_size tt_count tt_pieces tt_kinds lt_begins lt_marks st_word_19 st_vowels_20 tx_characters tt_begins tt_lengths tt_stemLengths tt_places tt_addresses tt_smalls tt_stems tt_slots tt_nexts) H := hP
          have hD : va_D A (xW ad cI cZ lt_count lw_begin lw_end lw_depth lw_signed lw_led pr_written pr_within st_size_18 tx_size tt_count tt_pieces tt_kinds lt_begins lt_marks st_word_19 st_vowels_20 tx_characters tt_begins tt_lengths tt_stemLengths tt_places tt_addresses tt_smalls tt_stems tt_slots tt_nexts) := hD
          refine lv_if_ne (tgt := 84) hx hb dX4_thirdStep_57 (by decide) (fun c9 => ?_) (fun c9 => ?_)
          · have h := h.1 c9
            refine lv_iconst (v := 1) hx hb dX4_thirdStep_84 (by decide) ?_
            refine lv_goto (tgt := 89) hx hb dX4_thirdStep_85 (by decide) ?_
            exact W.zret (v := 1) hx hb hr (bN_nar bN1) (fun t ht hW => hQ 1 (st_size_18, st_word_19, st_vowels_20) t h (by rw [ht]; exact hP) (va_K.moved hW.alike hK) hD (hS.F ht)) hS.2.2 dX4_thirdStep_89
          · have h := h.2 c9
            refine lv_aload_n hx hb dX4_thirdStep_60 rfl (lv_at hl 0 rfl) ?_
            refine va_ldcS hx hb hown (show vk_R RX4 209 "ness" (sa 92) s from sI_ref hI (i := 92) (by decide)) dX4_thirdStep_61 ?_
            refine va_ldcS hx hb hown (show vk_R RX4 92 "" (sa 40) s from sI_ref hI (i := 40) (by decide)) dX4_thirdStep_63 ?_
            refine lv_iconst (v := 0) hx hb dX4_thirdStep_65 (by decide) ?_
            refine xc_vi (As := [.ref (sa 92), .ref (sa 40), .int 0]) (rest := []) xG Fx (sX4_tries l dC dI ad cI cZ sa sv lt_count lw_begin lw_end lw_depth lw_signed lw_led pr_written pr_within st_size_18 tx_size tt_count tt_pieces tt_kinds lt_begins lt_marks st_word_19 st_vowels_20 tx_characters tt_begins tt_lengths tt_stemLengths tt_places tt_addresses tt_smalls tt_stems tt_slots tt_nexts 92 40 0 h) (cwV 3 hts gX4_thirdStep_X4_tries rfl rfl rfl hdX4_tries ⟨Nat.le_of_ble_eq_true rfl, Nat.le_of_ble_eq_true rfl⟩) (va_recv hK hP (ci := 3) (q0 := 3) rfl rfl) hK hP hD hS hA hI rfl hl.1 rfl (Nat.le_of_ble_eq_true rfl) dX4_thirdStep_66 ⟨Nat.zero_le _, Nat.zero_le _⟩ (fun r_21 u H locs h hP hD hS => ?_)
            obtain ⟨st_size_22, st_word_23, st_vowels_24⟩ := u
            have hP : va_P (dC, dI) vwCl (xW ad cI cZ lt_count lw_begin lw_end lw_depth lw_signed lw_led pr_written pr_within st_size_22 tx_size tt_count tt_pieces tt_kinds lt_begins lt_marks st_word_23 st_vowels_24 tx_characters tt_begins tt_lengths tt_stemLengths tt_places tt_addresses tt_smalls tt_stems tt_slots tt_nexts) H := hP
            have hD : va_D A (xW ad cI cZ lt_count lw_begin lw_end lw_depth lw_signed lw_led pr_written pr_within st_size_22 tx_size tt_count tt_pieces tt_kinds lt_begins lt_marks st_word_23 st_vowels_24 tx_characters tt_begins tt_lengths tt_stemLengths tt_places tt_addresses tt_smalls tt_stems tt_slots tt_nexts) := hD
            refine lv_if_ne (tgt := 84) hx hb dX4_thirdStep_69 (by decide) (fun c9 => ?_) (fun c9 => ?_)
            · have h := h.1 c9
              refine lv_iconst (v := 1) hx hb dX4_thirdStep_84 (by decide) ?_
              refine lv_goto (tgt := 89) hx hb dX4_thirdStep_85 (by decide) ?_
              exact W.zret (v := 1) hx hb hr (bN_nar bN1) (fun t ht hW => hQ 1 (st_size_22, st_word_23, st_vowels_24) t h (by rw [ht]; exact hP) (va_K.moved hW.alike hK) hD (hS.F ht)) hS.2.2 dX4_thirdStep_89
            · have h := h.2 c9
              refine lv_aload_n hx hb dX4_thirdStep_72 rfl (lv_at hl 0 rfl) ?_
              refine va_ldcS hx hb hown (show vk_R RX4 211 "alize" (sa 93) s from sI_ref hI (i := 93) (by decide)) dX4_thirdStep_73 ?_
              refine va_ldcS hx hb hown (show vk_R RX4 159 "al" (sa 67) s from sI_ref hI (i := 67) (by decide)) dX4_thirdStep_75 ?_
              refine lv_iconst (v := 0) hx hb dX4_thirdStep_77 (by decide) ?_
              refine xc_vi (As := [.ref (sa 93), .ref (sa 67), .int 0]) (rest := []) xG Fx (sX4_tries l dC dI ad cI cZ sa sv lt_count lw_begin lw_end lw_depth lw_signed lw_led pr_written pr_within st_size_22 tx_size tt_count tt_pieces tt_kinds lt_begins lt_marks st_word_23 st_vowels_24 tx_characters tt_begins tt_lengths tt_stemLengths tt_places tt_addresses tt_smalls tt_stems tt_slots tt_nexts 93 67 0 h) (cwV 3 hts gX4_thirdStep_X4_tries rfl rfl rfl hdX4_tries ⟨Nat.le_of_ble_eq_true rfl, Nat.le_of_ble_eq_true rfl⟩) (va_recv hK hP (ci := 3) (q0 := 3) rfl rfl) hK hP hD hS hA hI rfl hl.1 rfl (Nat.le_of_ble_eq_true rfl) dX4_thirdStep_78 ⟨Nat.zero_le _, Nat.zero_le _⟩ (fun r_25 u H locs h hP hD hS => ?_)
              obtain ⟨st_size_26, st_word_27, st_vowels_28⟩ := u
              have hP : va_P (dC, dI) vwCl (xW ad cI cZ lt_count lw_begin lw_end lw_depth lw_signed lw_led pr_written pr_within st_size_26 tx_size tt_count tt_pieces tt_kinds lt_begins lt_marks st_word_27 st_vowels_28 tx_characters tt_begins tt_lengths tt_stemLengths tt_places tt_addresses tt_smalls tt_stems tt_slots tt_nexts) H := hP
              have hD : va_D A (xW ad cI cZ lt_count lw_begin lw_end lw_depth lw_signed lw_led pr_written pr_within st_size_26 tx_size tt_count tt_pieces tt_kinds lt_begins lt_marks st_word_27 st_vowels_28 tx_characters tt_begins tt_lengths tt_stemLengths tt_places tt_addresses tt_smalls tt_stems tt_slots tt_nexts) := hD
              refine lv_if_eq (tgt := 88) hx hb dX4_thirdStep_81 (by decide) (fun c9 => ?_) (fun c9 => ?_)
              · have h := h.1 c9
                refine lv_iconst (v := 0) hx hb dX4_thirdStep_88 (by decide) ?_
                exact W.zret (v := 0) hx hb hr (bN_nar bN0) (fun t ht hW => hQ 0 (st_size_26, st_word_27, st_vowels_28) t h (by rw [ht]; exact hP) (va_K.moved hW.alike hK) hD (hS.F ht)) hS.2.2 dX4_thirdStep_89
              · have h := h.2 c9
                refine lv_iconst (v := 1) hx hb dX4_thirdStep_84 (by decide) ?_
                refine lv_goto (tgt := 89) hx hb dX4_thirdStep_85 (by decide) ?_
                exact W.zret (v := 1) hx hb hr (bN_nar bN1) (fun t ht hW => hQ 1 (st_size_26, st_word_27, st_vowels_28) t h (by rw [ht]; exact hP) (va_K.moved hW.alike hK) hD (hS.F ht)) hS.2.2 dX4_thirdStep_89
set_option maxHeartbeats 4000000 in
set_option maxRecDepth 100000 in
theorem sX4_fourthStep (l : Launch) (dC : Nat → ClassId) (dI : Nat → Nat → Nat) (ad : Nat → Nat) (cI cZ : ClassId) (sa sv : Nat → Nat) (lt_count : Int32) (lw_begin : Int32) (lw_end : Int32) (lw_depth : Int32) (lw_signed : Int32) (lw_led : Int32) (pr_written : Int32) (pr_within : Int32) (st_size : Int32) (tx_size : Int32) (tt_count : Int32) (tt_pieces : Int32) (tt_kinds : Int32) (lt_begins : Nat → Int32) (lt_marks : Nat → Int32) (st_word : Nat → Int32) (st_vowels : Nat → Int32) (tx_characters : Nat → Int32) (tt_begins : Nat → Int32) (tt_lengths : Nat → Int32) (tt_stemLengths : Nat → Int32) (tt_places : Nat → Int32) (tt_addresses : Nat → Int32) (tt_smalls : Nat → Int32) (tt_stems : Nat → Int32) (tt_slots : Nat → Int32) (tt_nexts : Nat → Int32)  {post : Int32 → Int32 → (Nat → Int32) → (Nat → Int32) → Prop} (h : wpX4_fourthStep post st_size st_word st_vowels) : xMi l (dC, dI) vwCl [(cI, .int), (cZ, .boolean)] (sI sa sv) yX4_fourthStep wsX4_fourthStep ({ frames := 6, cells := 0, slots := 0, locals := 132 }) (xW ad cI cZ lt_count lw_begin lw_end lw_depth lw_signed lw_led pr_written pr_within st_size tx_size tt_count tt_pieces tt_kinds lt_begins lt_marks st_word st_vowels tx_characters tt_begins tt_lengths tt_stemLengths tt_places tt_addresses tt_smalls tt_stems tt_slots tt_nexts) [.ref (ad 3)] (fun (r : Int32) (u : Int32 × (Nat → Int32) × (Nat → Int32)) => post r u.1 u.2.1 u.2.2) (fun u : Int32 × (Nat → Int32) × (Nat → Int32) => (xW ad cI cZ lt_count lw_begin lw_end lw_depth lw_signed lw_led pr_written pr_within u.1 tx_size tt_count tt_pieces tt_kinds lt_begins lt_marks u.2.1 u.2.2 tx_characters tt_begins tt_lengths tt_stemLengths tt_places tt_addresses tt_smalls tt_stems tt_slots tt_nexts)) := by
  intro sz
  refine Met.ofW (cc := cX4_fourthStep) (maxL := 1) (ret := (some .boolean)) (by decide) rfl ?_
  intro p e s m args below meth c s₁ B hml hv
  obtain ⟨rfl, hsz, hP, hK, hD0, hI⟩ := hv
  have hx := B.exec
  have hb := B.bytes
  have hr := B.returns
  have hts := atoms_spec (ws := wsX4_fourthStep) B.pre
  have hown : s.vm.findClass RX4 = some m.cls := findClass_of_methodNamed B.named
  have hlocks := B.notSynchronized
  subst hsz
  have hD := hD0.self (sz := s.heap.size)
  generalize hAe : va_A (xW ad cI cZ lt_count lw_begin lw_end lw_depth lw_signed lw_led pr_written pr_within st_size tx_size tt_count tt_pieces tt_kinds lt_begins lt_marks st_word st_vowels tx_characters tt_begins tt_lengths tt_stemLengths tt_places tt_addresses tt_smalls tt_stems tt_slots tt_nexts) s.heap.size = A at hD hI ⊢
  have hA : ∀ q : Nat, s.heap.size ≤ q → A q := fun q h => by rw [← hAe]; exact Or.inr h
  have hS : va_S A s.heap s.heap [] := va_S.rf
  have Fx : CallFix p m c cX4_fourthStep 1 s ([.ref (ad 3)] : List Value).toArray wsX4_fourthStep RX4 := ⟨hx, hb, hml, hown, hts⟩
  have hQ : ∀ (r : Int32) (u : Int32 × (Nat → Int32) × (Nat → Int32)) (t : State), (fun (r : Int32) (u : Int32 × (Nat → Int32) × (Nat → Int32)) => post r u.1 u.2.1 u.2.2) r u → va_P (dC, dI) vwCl ((fun u : Int32 × (Nat → Int32) × (Nat → Int32) => (xW ad cI cZ lt_count lw_begin lw_end lw_depth lw_signed lw_led pr_written pr_within u.1 tx_size tt_count tt_pieces tt_kinds lt_begins lt_marks u.2.1 u.2.2 tx_characters tt_begins tt_lengths tt_stemLengths tt_places tt_addresses tt_smalls tt_stems tt_slots tt_nexts)) u) t.heap → va_K (dC, dI) vwCl [(cI, .int), (cZ, .boolean)] t → va_D A ((fun u : Int32 × (Nat → Int32) × (Nat → Int32) => (xW ad cI cZ lt_count lw_begin lw_end lw_depth lw_signed lw_led pr_written pr_within u.1 tx_size tt_count tt_pieces tt_kinds lt_begins lt_marks u.2.1 u.2.2 tx_characters tt_begins tt_lengths tt_stemLengths tt_places tt_addresses tt_smalls tt_stems tt_slots tt_nexts)) u) → va_F A s t → (va_Qi (fun (r : Int32) (u : Int32 × (Nat → Int32) × (Nat → Int32)) => post r u.1 u.2.1 u.2.2) (xB (dC, dI) vwCl [(cI, .int), (cZ, .boolean)] A (fun u : Int32 × (Nat → Int32) × (Nat → Int32) => (xW ad cI cZ lt_count lw_begin lw_end lw_depth lw_signed lw_led pr_written pr_within u.1 tx_size tt_count tt_pieces tt_kinds lt_begins lt_marks u.2.1 u.2.2 tx_characters tt_begins tt_lengths tt_stemLengths tt_places tt_addresses tt_smalls tt_stems tt_slots tt_nexts))) A) ([.ref (ad 3)] : List Value).toArray s (.returned (some (.int r))) t := fun r u t h1 h2 h3 h4 h5 => ⟨⟨r, u, rfl, h1, h2, h3, h4⟩, h5⟩
  generalize (va_Qi (fun (r : Int32) (u : Int32 × (Nat → Int32) × (Nat → Int32)) => post r u.1 u.2.1 u.2.2) (xB (dC, dI) vwCl [(cI, .int), (cZ, .boolean)] A (fun u : Int32 × (Nat → Int32) × (Nat → Int32) => (xW ad cI cZ lt_count lw_begin lw_end lw_depth lw_signed lw_led pr_written pr_within u.1 tx_size tt_count tt_pieces tt_kinds lt_begins lt_marks u.2.1 u.2.2 tx_characters tt_begins tt_lengths tt_stemLengths tt_places tt_addresses tt_smalls tt_stems tt_slots tt_nexts))) A) = Qc at hQ ⊢
  have hl := lv_entry ([.ref (ad 3)]) (n := 1) (Nat.le_of_ble_eq_true rfl)
  rw [lg_entry_eq]
  generalize (lg_sl ([.ref (ad 3)]) ++ List.replicate (1 - (lg_sl ([.ref (ad 3)])).length) Slot.unset).toArray = ls at hl ⊢
  have hl : lv_has ls 1 [(0, .ref (ad 3))] := hl
  refine (fun (key : ∀ (H : Heap) (locs : List Loc), va_P (dC, dI) vwCl (xW ad cI cZ lt_count lw_begin lw_end lw_depth lw_signed lw_led pr_written pr_within st_size tx_size tt_count tt_pieces tt_kinds lt_begins lt_marks st_word st_vowels tx_characters tt_begins tt_lengths tt_stemLengths tt_places tt_addresses tt_smalls tt_stems tt_slots tt_nexts) H → va_D A (xW ad cI cZ lt_count lw_begin lw_end lw_depth lw_signed lw_led pr_written pr_within st_size tx_size tt_count tt_pieces tt_kinds lt_begins lt_marks st_word st_vowels tx_characters tt_begins tt_lengths tt_stemLengths tt_places tt_addresses tt_smalls tt_stems tt_slots tt_nexts) → va_S A s.heap H locs → W p l e (headSpec wsX4_fourthStep ({ frames := 6, cells := 0, slots := 0, locals := 132 })).room s m ([.ref (ad 3)] : List Value).toArray below meth c H locs 0 0 (MQ below Qc ([.ref (ad 3)] : List Value).toArray s 0 0 A) (F0 m 0 ls [])) => key _ _ hP hD hS) ?_
  have inX4 : ∀ w ∈ wsX40, w ∈ wsX4_fourthStep := (fun _ h9 => List.mem_cons_of_mem _ (List.mem_append_right _ h9))
  have J41 : ∀ (st_size : Int32) (st_word : Nat → Int32) (st_vowels : Nat → Int32) (H : Heap) (locs : List Loc) (ls : Array Slot), lv_has ls 1 [(0, .ref (ad 3))] → va_P (dC, dI) vwCl (xW ad cI cZ lt_count lw_begin lw_end lw_depth lw_signed lw_led pr_written pr_within st_size tx_size tt_count tt_pieces tt_kinds lt_begins lt_marks st_word st_vowels tx_characters tt_begins tt_lengths tt_stemLengths tt_places tt_addresses tt_smalls tt_stems tt_slots tt_nexts) H → va_D A (xW ad cI cZ lt_count lw_begin lw_end lw_depth lw_signed lw_led pr_written pr_within st_size tx_size tt_count tt_pieces tt_kinds lt_begins lt_marks st_word st_vowels tx_characters tt_begins tt_lengths tt_stemLengths tt_places tt_addresses tt_smalls tt_stems tt_slots tt_nexts) → va_S A s.heap H locs → wjX4_fourthStep_41 post st_size st_word st_vowels → W p l e (headSpec wsX4_fourthStep ({ frames := 6, cells := 0, slots := 0, locals := 132 })).room s m ([.ref (ad 3)] : List Value).toArray below meth c H locs 0 0 (MQ below Qc ([.ref (ad 3)] : List Value).toArray s 0 0 A) (F0 m 41 ls []) := by
    intro st_size st_word st_vowels H locs ls hl hP hD hS h
    delta wjX4_fourthStep_41 at h
    refine lv_aload_n hx hb dX4_fourthStep_41 rfl (lv_at hl 0 rfl) ?_
    refine va_ldcS hx hb hown (show vk_R RX4 213 "ion" (sa 94) s from sI_ref hI (i := 94) (by decide)) dX4_fourthStep_42 ?_
    refine va_ldcS hx hb hown (show vk_R RX4 92 "" (sa 40) s from sI_ref hI (i := 40) (by decide)) dX4_fourthStep_44 ?_
    refine lv_iconst (v := 1) hx hb dX4_fourthStep_46 (by decide) ?_
    refine xc_vi (As := [.ref (sa 94), .ref (sa 40), .int 1]) (rest := []) xG Fx (sX4_tries l dC dI ad cI cZ sa sv lt_count lw_begin lw_end lw_depth lw_signed lw_led pr_written pr_within st_size tx_size tt_count tt_pieces tt_kinds lt_begins lt_marks st_word st_vowels tx_characters tt_begins tt_lengths tt_stemLengths tt_places tt_addresses tt_smalls tt_stems tt_slots tt_nexts 94 40 1 h) (cwV 3 hts gX4_fourthStep_X4_tries rfl rfl rfl hdX4_tries ⟨Nat.le_of_ble_eq_true rfl, Nat.le_of_ble_eq_true rfl⟩) (va_recv hK hP (ci := 3) (q0 := 3) rfl rfl) hK hP hD hS hA hI rfl hl.1 rfl (Nat.le_of_ble_eq_true rfl) dX4_fourthStep_47 ⟨Nat.zero_le _, Nat.zero_le _⟩ (fun r_1 u H locs h hP hD hS => ?_)
    obtain ⟨st_size_2, st_word_3, st_vowels_4⟩ := u
    have hP : va_P (dC, dI) vwCl (xW ad cI cZ lt_count lw_begin lw_end lw_depth lw_signed lw_led pr_written pr_within st_size_2 tx_size tt_count tt_pieces tt_kinds lt_begins lt_marks st_word_3 st_vowels_4 tx_characters tt_begins tt_lengths tt_stemLengths tt_places tt_addresses tt_smalls tt_stems tt_slots tt_nexts) H := hP
    have hD : va_D A (xW ad cI cZ lt_count lw_begin lw_end lw_depth lw_signed lw_led pr_written pr_within st_size_2 tx_size tt_count tt_pieces tt_kinds lt_begins lt_marks st_word_3 st_vowels_4 tx_characters tt_begins tt_lengths tt_stemLengths tt_places tt_addresses tt_smalls tt_stems tt_slots tt_nexts) := hD
    refine lv_if_ne (tgt := 269) hx hb dX4_fourthStep_50 (by decide) (fun c9 => ?_) (fun c9 => ?_)
    · have h := h.1 c9
      refine lv_iconst (v := 1) hx hb dX4_fourthStep_269 (by decide) ?_
      refine lv_goto (tgt := 274) hx hb dX4_fourthStep_270 (by decide) ?_
      exact W.zret (v := 1) hx hb hr (bN_nar bN1) (fun t ht hW => hQ 1 (st_size_2, st_word_3, st_vowels_4) t h (by rw [ht]; exact hP) (va_K.moved hW.alike hK) hD (hS.F ht)) hS.2.2 dX4_fourthStep_274
    · have h := h.2 c9
      refine lv_aload_n hx hb dX4_fourthStep_53 rfl (lv_at hl 0 rfl) ?_
      refine va_ldcS hx hb hown (show vk_R RX4 159 "al" (sa 67) s from sI_ref hI (i := 67) (by decide)) dX4_fourthStep_54 ?_
      refine va_ldcS hx hb hown (show vk_R RX4 92 "" (sa 40) s from sI_ref hI (i := 40) (by decide)) dX4_fourthStep_56 ?_
      refine lv_iconst (v := 1) hx hb dX4_fourthStep_58 (by decide) ?_
      refine xc_vi (As := [.ref (sa 67), .ref (sa 40), .int 1]) (rest := []) xG Fx (sX4_tries l dC dI ad cI cZ sa sv lt_count lw_begin lw_end lw_depth lw_signed lw_led pr_written pr_within st_size_2 tx_size tt_count tt_pieces tt_kinds lt_begins lt_marks st_word_3 st_vowels_4 tx_characters tt_begins tt_lengths tt_stemLengths tt_places tt_addresses tt_smalls tt_stems tt_slots tt_nexts 67 40 1 h) (cwV 3 hts gX4_fourthStep_X4_tries rfl rfl rfl hdX4_tries ⟨Nat.le_of_ble_eq_true rfl, Nat.le_of_ble_eq_true rfl⟩) (va_recv hK hP (ci := 3) (q0 := 3) rfl rfl) hK hP hD hS hA hI rfl hl.1 rfl (Nat.le_of_ble_eq_true rfl) dX4_fourthStep_59 ⟨Nat.zero_le _, Nat.zero_le _⟩ (fun r_5 u H locs h hP hD hS => ?_)
      obtain ⟨st_size_6, st_word_7, st_vowels_8⟩ := u
      have hP : va_P (dC, dI) vwCl (xW ad cI cZ lt_count lw_begin lw_end lw_depth lw_signed lw_led pr_written pr_within st_size_6 tx_size tt_count tt_pieces tt_kinds lt_begins lt_marks st_word_7 st_vowels_8 tx_characters tt_begins tt_lengths tt_stemLengths tt_places tt_addresses tt_smalls tt_stems tt_slots tt_nexts) H := hP
      have hD : va_D A (xW ad cI cZ lt_count lw_begin lw_end lw_depth lw_signed lw_led pr_written pr_within st_size_6 tx_size tt_count tt_pieces tt_kinds lt_begins lt_marks st_word_7 st_vowels_8 tx_characters tt_begins tt_lengths tt_stemLengths tt_places tt_addresses tt_smalls tt_stems tt_slots tt_nexts) := hD
      refine lv_if_ne (tgt := 269) hx hb dX4_fourthStep_62 (by decide) (fun c9 => ?_) (fun c9 => ?_)
      · have h := h.1 c9
        refine lv_iconst (v := 1) hx hb dX4_fourthStep_269 (by decide) ?_
        refine lv_goto (tgt := 274) hx hb dX4_fourthStep_270 (by decide) ?_
        exact W.zret (v := 1) hx hb hr (bN_nar bN1) (fun t ht hW => hQ 1 (st_size_6, st_word_7, st_vowels_8) t h (by rw [ht]; exact hP) (va_K.moved hW.alike hK) hD (hS.F ht)) hS.2.2 dX4_fourthStep_274
      · have h := h.2 c9
        refine lv_aload_n hx hb dX4_fourthStep_65 rfl (lv_at hl 0 rfl) ?_
        refine va_ldcS hx hb hown (show vk_R RX4 147 "ance" (sa 61) s from sI_ref hI (i := 61) (by decide)) dX4_fourthStep_66 ?_
        refine va_ldcS hx hb hown (show vk_R RX4 92 "" (sa 40) s from sI_ref hI (i := 40) (by decide)) dX4_fourthStep_68 ?_
        refine lv_iconst (v := 1) hx hb dX4_fourthStep_70 (by decide) ?_
        refine xc_vi (As := [.ref (sa 61), .ref (sa 40), .int 1]) (rest := []) xG Fx (sX4_tries l dC dI ad cI cZ sa sv lt_count lw_begin lw_end lw_depth lw_signed lw_led pr_written pr_within st_size_6 tx_size tt_count tt_pieces tt_kinds lt_begins lt_marks st_word_7 st_vowels_8 tx_characters tt_begins tt_lengths tt_stemLengths tt_places tt_addresses tt_smalls tt_stems tt_slots tt_nexts 61 40 1 h) (cwV 3 hts gX4_fourthStep_X4_tries rfl rfl rfl hdX4_tries ⟨Nat.le_of_ble_eq_true rfl, Nat.le_of_ble_eq_true rfl⟩) (va_recv hK hP (ci := 3) (q0 := 3) rfl rfl) hK hP hD hS hA hI rfl hl.1 rfl (Nat.le_of_ble_eq_true rfl) dX4_fourthStep_71 ⟨Nat.zero_le _, Nat.zero_le _⟩ (fun r_9 u H locs h hP hD hS => ?_)
        obtain ⟨st_size_10, st_word_11, st_vowels_12⟩ := u
        have hP : va_P (dC, dI) vwCl (xW ad cI cZ lt_count lw_begin lw_end lw_depth lw_signed lw_led pr_written pr_within st_size_10 tx_size tt_count tt_pieces tt_kinds lt_begins lt_marks st_word_11 st_vowels_12 tx_characters tt_begins tt_lengths tt_stemLengths tt_places tt_addresses tt_smalls tt_stems tt_slots tt_nexts) H := hP
        have hD : va_D A (xW ad cI cZ lt_count lw_begin lw_end lw_depth lw_signed lw_led pr_written pr_within st_size_10 tx_size tt_count tt_pieces tt_kinds lt_begins lt_marks st_word_11 st_vowels_12 tx_characters tt_begins tt_lengths tt_stemLengths tt_places tt_addresses tt_smalls tt_stems tt_slots tt_nexts) := hD
        refine lv_if_ne (tgt := 269) hx hb dX4_fourthStep_74 (by decide) (fun c9 => ?_) (fun c9 => ?_)
        · have h := h.1 c9
          refine lv_iconst (v := 1) hx hb dX4_fourthStep_269 (by decide) ?_
          refine lv_goto (tgt := 274) hx hb dX4_fourthStep_270 (by decide) ?_
          exact W.zret (v := 1) hx hb hr (bN_nar bN1) (fun t ht hW => hQ 1 (st_size_10, st_word_11, st_vowels_12) t h (by rw [ht]; exact hP) (va_K.moved hW.alike hK) hD (hS.F ht)) hS.2.2 dX4_fourthStep_274
        · have h := h.2 c9
          refine lv_aload_n hx hb dX4_fourthStep_77 rfl (lv_at hl 0 rfl) ?_
          refine va_ldcS hx hb hown (show vk_R RX4 143 "ence" (sa 59) s from sI_ref hI (i := 59) (by decide)) dX4_fourthStep_78 ?_
          refine va_ldcS hx hb hown (show vk_R RX4 92 "" (sa 40) s from sI_ref hI (i := 40) (by decide)) dX4_fourthStep_80 ?_
          refine lv_iconst (v := 1) hx hb dX4_fourthStep_82 (by decide) ?_
          refine xc_vi (As := [.ref (sa 59), .ref (sa 40), .int 1]) (rest := []) xG Fx (sX4_tries l dC dI ad cI cZ sa sv lt_count lw_begin lw_end lw_depth lw_signed lw_led pr_written pr_within st_size_10 tx_size tt_count tt_pieces tt_kinds lt_begins lt_marks st_word_11 st_vowels_12 tx_characters tt_begins tt_lengths tt_stemLengths tt_places tt_addresses tt_smalls tt_stems tt_slots tt_nexts 59 40 1 h) (cwV 3 hts gX4_fourthStep_X4_tries rfl rfl rfl hdX4_tries ⟨Nat.le_of_ble_eq_true rfl, Nat.le_of_ble_eq_true rfl⟩) (va_recv hK hP (ci := 3) (q0 := 3) rfl rfl) hK hP hD hS hA hI rfl hl.1 rfl (Nat.le_of_ble_eq_true rfl) dX4_fourthStep_83 ⟨Nat.zero_le _, Nat.zero_le _⟩ (fun r_13 u H locs h hP hD hS => ?_)
          obtain ⟨st_size_14, st_word_15, st_vowels_16⟩ := u
          have hP : va_P (dC, dI) vwCl (xW ad cI cZ lt_count lw_begin lw_end lw_depth lw_signed lw_led pr_written pr_within st_size_14 tx_size tt_count tt_pieces tt_kinds lt_begins lt_marks st_word_15 st_vowels_16 tx_characters tt_begins tt_lengths tt_stemLengths tt_places tt_addresses tt_smalls tt_stems tt_slots tt_nexts) H := hP
          have hD : va_D A (xW ad cI cZ lt_count lw_begin lw_end lw_depth lw_signed lw_led pr_written pr_within st_size_14 tx_size tt_count tt_pieces tt_kinds lt_begins lt_marks st_word_15 st_vowels_16 tx_characters tt_begins tt_lengths tt_stemLengths tt_places tt_addresses tt_smalls tt_stems tt_slots tt_nexts) := hD
          refine lv_if_ne (tgt := 269) hx hb dX4_fourthStep_86 (by decide) (fun c9 => ?_) (fun c9 => ?_)
          · have h := h.1 c9
            refine lv_iconst (v := 1) hx hb dX4_fourthStep_269 (by decide) ?_
            refine lv_goto (tgt := 274) hx hb dX4_fourthStep_270 (by decide) ?_
            exact W.zret (v := 1) hx hb hr (bN_nar bN1) (fun t ht hW => hQ 1 (st_size_14, st_word_15, st_vowels_16) t h (by rw [ht]; exact hP) (va_K.moved hW.alike hK) hD (hS.F ht)) hS.2.2 dX4_fourthStep_274
          · have h := h.2 c9
            refine lv_aload_n hx hb dX4_fourthStep_89 rfl (lv_at hl 0 rfl) ?_
            refine va_ldcS hx hb hown (show vk_R RX4 215 "er" (sa 95) s from sI_ref hI (i := 95) (by decide)) dX4_fourthStep_90 ?_
            refine va_ldcS hx hb hown (show vk_R RX4 92 "" (sa 40) s from sI_ref hI (i := 40) (by decide)) dX4_fourthStep_92 ?_
            refine lv_iconst (v := 1) hx hb dX4_fourthStep_94 (by decide) ?_
            refine xc_vi (As := [.ref (sa 95), .ref (sa 40), .int 1]) (rest := []) xG Fx (sX4_tries l dC dI ad cI cZ sa sv lt_count lw_begin lw_end lw_depth lw_signed lw_led pr_written pr_within st_size_14 tx_size tt_count tt_pieces tt_kinds lt_begins lt_marks st_word_15 st_vowels_16 tx_characters tt_begins tt_lengths tt_stemLengths tt_places tt_addresses tt_smalls tt_stems tt_slots tt_nexts 95 40 1 h) (cwV 3 hts gX4_fourthStep_X4_tries rfl rfl rfl hdX4_tries ⟨Nat.le_of_ble_eq_true rfl, Nat.le_of_ble_eq_true rfl⟩) (va_recv hK hP (ci := 3) (q0 := 3) rfl rfl) hK hP hD hS hA hI rfl hl.1 rfl (Nat.le_of_ble_eq_true rfl) dX4_fourthStep_95 ⟨Nat.zero_le _, Nat.zero_le _⟩ (fun r_17 u H locs h hP hD hS => ?_)
            obtain ⟨st_size_18, st_word_19, st_vowels_20⟩ := u
            have hP : va_P (dC, dI) vwCl (xW ad cI cZ lt_count lw_begin lw_end lw_depth lw_signed lw_led pr_written pr_within st_size_18 tx_size tt_count tt_pieces tt_kinds lt_begins lt_marks st_word_19 st_vowels_20 tx_characters tt_begins tt_lengths tt_stemLengths tt_places tt_addresses tt_smalls tt_stems tt_slots tt_nexts) H := hP
            have hD : va_D A (xW ad cI cZ lt_count lw_begin lw_end lw_depth lw_signed lw_led pr_written pr_within st_size_18 tx_size tt_count tt_pieces tt_kinds lt_begins lt_marks st_word_19 st_vowels_20 tx_characters tt_begins tt_lengths tt_stemLengths tt_places tt_addresses tt_smalls tt_stems tt_slots tt_nexts) := hD
            refine lv_if_ne (tgt := 269) hx hb dX4_fourthStep_98 (by decide) (fun c9 => ?_) (fun c9 => ?_)
            · have h := h.1 c9
              refine lv_iconst (v := 1) hx hb dX4_fourthStep_269 (by decide) ?_
              refine lv_goto (tgt := 274) hx hb dX4_fourthStep_270 (by decide) ?_
              exact W.zret (v := 1) hx hb hr (bN_nar bN1) (fun t ht hW => hQ 1 (st_size_18, st_word_19, st_vowels_20) t h (by rw [ht]; exact hP) (va_K.moved hW.alike hK) hD (hS.F ht)) hS.2.2 dX4_fourthStep_274
            · have h := h.2 c9
              refine lv_aload_n hx hb dX4_fourthStep_101 rfl (lv_at hl 0 rfl) ?_
              refine va_ldcS hx hb hown (show vk_R RX4 201 "ic" (sa 88) s from sI_ref hI (i := 88) (by decide)) dX4_fourthStep_102 ?_
              refine va_ldcS hx hb hown (show vk_R RX4 92 "" (sa 40) s from sI_ref hI (i := 40) (by decide)) dX4_fourthStep_104 ?_
              refine lv_iconst (v := 1) hx hb dX4_fourthStep_106 (by decide) ?_
              refine xc_vi (As := [.ref (sa 88), .ref (sa 40), .int 1]) (rest := []) xG Fx (sX4_tries l dC dI ad cI cZ sa sv lt_count lw_begin lw_end lw_depth lw_signed lw_led pr_written pr_within st_size_18 tx_size tt_count tt_pieces tt_kinds lt_begins lt_marks st_word_19 st_vowels_20 tx_characters tt_begins tt_lengths tt_stemLengths tt_places tt_addresses tt_smalls tt_stems tt_slots tt_nexts 88 40 1 h) (cwV 3 hts gX4_fourthStep_X4_tries rfl rfl rfl hdX4_tries ⟨Nat.le_of_ble_eq_true rfl, Nat.le_of_ble_eq_true rfl⟩) (va_recv hK hP (ci := 3) (q0 := 3) rfl rfl) hK hP hD hS hA hI rfl hl.1 rfl (Nat.le_of_ble_eq_true rfl) dX4_fourthStep_107 ⟨Nat.zero_le _, Nat.zero_le _⟩ (fun r_21 u H locs h hP hD hS => ?_)
              obtain ⟨st_size_22, st_word_23, st_vowels_24⟩ := u
              have hP : va_P (dC, dI) vwCl (xW ad cI cZ lt_count lw_begin lw_end lw_depth lw_signed lw_led pr_written pr_within st_size_22 tx_size tt_count tt_pieces tt_kinds lt_begins lt_marks st_word_23 st_vowels_24 tx_characters tt_begins tt_lengths tt_stemLengths tt_places tt_addresses tt_smalls tt_stems tt_slots tt_nexts) H := hP
              have hD : va_D A (xW ad cI cZ lt_count lw_begin lw_end lw_depth lw_signed lw_led pr_written pr_within st_size_22 tx_size tt_count tt_pieces tt_kinds lt_begins lt_marks st_word_23 st_vowels_24 tx_characters tt_begins tt_lengths tt_stemLengths tt_places tt_addresses tt_smalls tt_stems tt_slots tt_nexts) := hD
              refine lv_if_ne (tgt := 269) hx hb dX4_fourthStep_110 (by decide) (fun c9 => ?_) (fun c9 => ?_)
              · have h := h.1 c9
                refine lv_iconst (v := 1) hx hb dX4_fourthStep_269 (by decide) ?_
                refine lv_goto (tgt := 274) hx hb dX4_fourthStep_270 (by decide) ?_
                exact W.zret (v := 1) hx hb hr (bN_nar bN1) (fun t ht hW => hQ 1 (st_size_22, st_word_23, st_vowels_24) t h (by rw [ht]; exact hP) (va_K.moved hW.alike hK) hD (hS.F ht)) hS.2.2 dX4_fourthStep_274
              · have h := h.2 c9
                refine lv_aload_n hx hb dX4_fourthStep_113 rfl (lv_at hl 0 rfl) ?_
                refine va_ldcS hx hb hown (show vk_R RX4 155 "able" (sa 65) s from sI_ref hI (i := 65) (by decide)) dX4_fourthStep_114 ?_
                refine va_ldcS hx hb hown (show vk_R RX4 92 "" (sa 40) s from sI_ref hI (i := 40) (by decide)) dX4_fourthStep_116 ?_
                refine lv_iconst (v := 1) hx hb dX4_fourthStep_118 (by decide) ?_
                refine xc_vi (As := [.ref (sa 65), .ref (sa 40), .int 1]) (rest := []) xG Fx (sX4_tries l dC dI ad cI cZ sa sv lt_count lw_begin lw_end lw_depth lw_signed lw_led pr_written pr_within st_size_22 tx_size tt_count tt_pieces tt_kinds lt_begins lt_marks st_word_23 st_vowels_24 tx_characters tt_begins tt_lengths tt_stemLengths tt_places tt_addresses tt_smalls tt_stems tt_slots tt_nexts 65 40 1 h) (cwV 3 hts gX4_fourthStep_X4_tries rfl rfl rfl hdX4_tries ⟨Nat.le_of_ble_eq_true rfl, Nat.le_of_ble_eq_true rfl⟩) (va_recv hK hP (ci := 3) (q0 := 3) rfl rfl) hK hP hD hS hA hI rfl hl.1 rfl (Nat.le_of_ble_eq_true rfl) dX4_fourthStep_119 ⟨Nat.zero_le _, Nat.zero_le _⟩ (fun r_25 u H locs h hP hD hS => ?_)
                obtain ⟨st_size_26, st_word_27, st_vowels_28⟩ := u
                have hP : va_P (dC, dI) vwCl (xW ad cI cZ lt_count lw_begin lw_end lw_depth lw_signed lw_led pr_written pr_within st_size_26 tx_size tt_count tt_pieces tt_kinds lt_begins lt_marks st_word_27 st_vowels_28 tx_characters tt_begins tt_lengths tt_stemLengths tt_places tt_addresses tt_smalls tt_stems tt_slots tt_nexts) H := hP
                have hD : va_D A (xW ad cI cZ lt_count lw_begin lw_end lw_depth lw_signed lw_led pr_written pr_within st_size_26 tx_size tt_count tt_pieces tt_kinds lt_begins lt_marks st_word_27 st_vowels_28 tx_characters tt_begins tt_lengths tt_stemLengths tt_places tt_addresses tt_smalls tt_stems tt_slots tt_nexts) := hD
                refine lv_if_ne (tgt := 269) hx hb dX4_fourthStep_122 (by decide) (fun c9 => ?_) (fun c9 => ?_)
                · have h := h.1 c9
                  refine lv_iconst (v := 1) hx hb dX4_fourthStep_269 (by decide) ?_
                  refine lv_goto (tgt := 274) hx hb dX4_fourthStep_270 (by decide) ?_
                  exact W.zret (v := 1) hx hb hr (bN_nar bN1) (fun t ht hW => hQ 1 (st_size_26, st_word_27, st_vowels_28) t h (by rw [ht]; exact hP) (va_K.moved hW.alike hK) hD (hS.F ht)) hS.2.2 dX4_fourthStep_274
                · have h := h.2 c9
                  refine lv_aload_n hx hb dX4_fourthStep_125 rfl (lv_at hl 0 rfl) ?_
                  refine va_ldcS hx hb hown (show vk_R RX4 217 "ible" (sa 96) s from sI_ref hI (i := 96) (by decide)) dX4_fourthStep_126 ?_
                  refine va_ldcS hx hb hown (show vk_R RX4 92 "" (sa 40) s from sI_ref hI (i := 40) (by decide)) dX4_fourthStep_128 ?_
                  refine lv_iconst (v := 1) hx hb dX4_fourthStep_130 (by decide) ?_
                  refine xc_vi (As := [.ref (sa 96), .ref (sa 40), .int 1]) (rest := []) xG Fx (sX4_tries l dC dI ad cI cZ sa sv lt_count lw_begin lw_end lw_depth lw_signed lw_led pr_written pr_within st_size_26 tx_size tt_count tt_pieces tt_kinds lt_begins lt_marks st_word_27 st_vowels_28 tx_characters tt_begins tt_lengths tt_stemLengths tt_places tt_addresses tt_smalls tt_stems tt_slots tt_nexts 96 40 1 h) (cwV 3 hts gX4_fourthStep_X4_tries rfl rfl rfl hdX4_tries ⟨Nat.le_of_ble_eq_true rfl, Nat.le_of_ble_eq_true rfl⟩) (va_recv hK hP (ci := 3) (q0 := 3) rfl rfl) hK hP hD hS hA hI rfl hl.1 rfl (Nat.le_of_ble_eq_true rfl) dX4_fourthStep_131 ⟨Nat.zero_le _, Nat.zero_le _⟩ (fun r_29 u H locs h hP hD hS => ?_)
                  obtain ⟨st_size_30, st_word_31, st_vowels_32⟩ := u
                  have hP : va_P (dC, dI) vwCl (xW ad cI cZ lt_count lw_begin lw_end lw_depth lw_signed lw_led pr_written pr_within st_size_30 tx_size tt_count tt_pieces tt_kinds lt_begins lt_marks st_word_31 st_vowels_32 tx_characters tt_begins tt_lengths tt_stemLengths tt_places tt_addresses tt_smalls tt_stems tt_slots tt_nexts) H := hP
                  have hD : va_D A (xW ad cI cZ lt_count lw_begin lw_end lw_depth lw_signed lw_led pr_written pr_within st_size_30 tx_size tt_count tt_pieces tt_kinds lt_begins lt_marks st_word_31 st_vowels_32 tx_characters tt_begins tt_lengths tt_stemLengths tt_places tt_addresses tt_smalls tt_stems tt_slots tt_nexts) := hD
                  refine lv_if_ne (tgt := 269) hx hb dX4_fourthStep_134 (by decide) (fun c9 => ?_) (fun c9 => ?_)
                  · have h := h.1 c9
                    refine lv_iconst (v := 1) hx hb dX4_fourthStep_269 (by decide) ?_
                    refine lv_goto (tgt := 274) hx hb dX4_fourthStep_270 (by decide) ?_
                    exact W.zret (v := 1) hx hb hr (bN_nar bN1) (fun t ht hW => hQ 1 (st_size_30, st_word_31, st_vowels_32) t h (by rw [ht]; exact hP) (va_K.moved hW.alike hK) hD (hS.F ht)) hS.2.2 dX4_fourthStep_274
                  · have h := h.2 c9
                    refine lv_aload_n hx hb dX4_fourthStep_137 rfl (lv_at hl 0 rfl) ?_
                    refine va_ldcS hx hb hown (show vk_R RX4 219 "ant" (sa 97) s from sI_ref hI (i := 97) (by decide)) dX4_fourthStep_138 ?_
                    refine va_ldcS hx hb hown (show vk_R RX4 92 "" (sa 40) s from sI_ref hI (i := 40) (by decide)) dX4_fourthStep_140 ?_
                    refine lv_iconst (v := 1) hx hb dX4_fourthStep_142 (by decide) ?_
                    refine xc_vi (As := [.ref (sa 97), .ref (sa 40), .int 1]) (rest := []) xG Fx (sX4_tries l dC dI ad cI cZ sa sv lt_count lw_begin lw_end lw_depth lw_signed lw_led pr_written pr_within st_size_30 tx_size tt_count tt_pieces tt_kinds lt_begins lt_marks st_word_31 st_vowels_32 tx_characters tt_begins tt_lengths tt_stemLengths tt_places tt_addresses tt_smalls tt_stems tt_slots tt_nexts 97 40 1 h) (cwV 3 hts gX4_fourthStep_X4_tries rfl rfl rfl hdX4_tries ⟨Nat.le_of_ble_eq_true rfl, Nat.le_of_ble_eq_true rfl⟩) (va_recv hK hP (ci := 3) (q0 := 3) rfl rfl) hK hP hD hS hA hI rfl hl.1 rfl (Nat.le_of_ble_eq_true rfl) dX4_fourthStep_143 ⟨Nat.zero_le _, Nat.zero_le _⟩ (fun r_33 u H locs h hP hD hS => ?_)
                    obtain ⟨st_size_34, st_word_35, st_vowels_36⟩ := u
                    have hP : va_P (dC, dI) vwCl (xW ad cI cZ lt_count lw_begin lw_end lw_depth lw_signed lw_led pr_written pr_within st_size_34 tx_size tt_count tt_pieces tt_kinds lt_begins lt_marks st_word_35 st_vowels_36 tx_characters tt_begins tt_lengths tt_stemLengths tt_places tt_addresses tt_smalls tt_stems tt_slots tt_nexts) H := hP
                    have hD : va_D A (xW ad cI cZ lt_count lw_begin lw_end lw_depth lw_signed lw_led pr_written pr_within st_size_34 tx_size tt_count tt_pieces tt_kinds lt_begins lt_marks st_word_35 st_vowels_36 tx_characters tt_begins tt_lengths tt_stemLengths tt_places tt_addresses tt_smalls tt_stems tt_slots tt_nexts) := hD
                    refine lv_if_ne (tgt := 269) hx hb dX4_fourthStep_146 (by decide) (fun c9 => ?_) (fun c9 => ?_)
                    · have h := h.1 c9
                      refine lv_iconst (v := 1) hx hb dX4_fourthStep_269 (by decide) ?_
                      refine lv_goto (tgt := 274) hx hb dX4_fourthStep_270 (by decide) ?_
                      exact W.zret (v := 1) hx hb hr (bN_nar bN1) (fun t ht hW => hQ 1 (st_size_34, st_word_35, st_vowels_36) t h (by rw [ht]; exact hP) (va_K.moved hW.alike hK) hD (hS.F ht)) hS.2.2 dX4_fourthStep_274
                    · have h := h.2 c9
                      refine lv_aload_n hx hb dX4_fourthStep_149 rfl (lv_at hl 0 rfl) ?_
                      refine va_ldcS hx hb hown (show vk_R RX4 221 "ement" (sa 98) s from sI_ref hI (i := 98) (by decide)) dX4_fourthStep_150 ?_
                      refine va_ldcS hx hb hown (show vk_R RX4 92 "" (sa 40) s from sI_ref hI (i := 40) (by decide)) dX4_fourthStep_152 ?_
                      refine lv_iconst (v := 1) hx hb dX4_fourthStep_154 (by decide) ?_
                      refine xc_vi (As := [.ref (sa 98), .ref (sa 40), .int 1]) (rest := []) xG Fx (sX4_tries l dC dI ad cI cZ sa sv lt_count lw_begin lw_end lw_depth lw_signed lw_led pr_written pr_within st_size_34 tx_size tt_count tt_pieces tt_kinds lt_begins lt_marks st_word_35 st_vowels_36 tx_characters tt_begins tt_lengths tt_stemLengths tt_places tt_addresses tt_smalls tt_stems tt_slots tt_nexts 98 40 1 h) (cwV 3 hts gX4_fourthStep_X4_tries rfl rfl rfl hdX4_tries ⟨Nat.le_of_ble_eq_true rfl, Nat.le_of_ble_eq_true rfl⟩) (va_recv hK hP (ci := 3) (q0 := 3) rfl rfl) hK hP hD hS hA hI rfl hl.1 rfl (Nat.le_of_ble_eq_true rfl) dX4_fourthStep_155 ⟨Nat.zero_le _, Nat.zero_le _⟩ (fun r_37 u H locs h hP hD hS => ?_)
                      obtain ⟨st_size_38, st_word_39, st_vowels_40⟩ := u
                      have hP : va_P (dC, dI) vwCl (xW ad cI cZ lt_count lw_begin lw_end lw_depth lw_signed lw_led pr_written pr_within st_size_38 tx_size tt_count tt_pieces tt_kinds lt_begins lt_marks st_word_39 st_vowels_40 tx_characters tt_begins tt_lengths tt_stemLengths tt_places tt_addresses tt_smalls tt_stems tt_slots tt_nexts) H := hP
                      have hD : va_D A (xW ad cI cZ lt_count lw_begin lw_end lw_depth lw_signed lw_led pr_written pr_within st_size_38 tx_size tt_count tt_pieces tt_kinds lt_begins lt_marks st_word_39 st_vowels_40 tx_characters tt_begins tt_lengths tt_stemLengths tt_places tt_addresses tt_smalls tt_stems tt_slots tt_nexts) := hD
                      refine lv_if_ne (tgt := 269) hx hb dX4_fourthStep_158 (by decide) (fun c9 => ?_) (fun c9 => ?_)
                      · have h := h.1 c9
                        refine lv_iconst (v := 1) hx hb dX4_fourthStep_269 (by decide) ?_
                        refine lv_goto (tgt := 274) hx hb dX4_fourthStep_270 (by decide) ?_
                        exact W.zret (v := 1) hx hb hr (bN_nar bN1) (fun t ht hW => hQ 1 (st_size_38, st_word_39, st_vowels_40) t h (by rw [ht]; exact hP) (va_K.moved hW.alike hK) hD (hS.F ht)) hS.2.2 dX4_fourthStep_274
                      · have h := h.2 c9
                        refine lv_aload_n hx hb dX4_fourthStep_161 rfl (lv_at hl 0 rfl) ?_
                        refine va_ldcS hx hb hown (show vk_R RX4 223 "ment" (sa 99) s from sI_ref hI (i := 99) (by decide)) dX4_fourthStep_162 ?_
                        refine va_ldcS hx hb hown (show vk_R RX4 92 "" (sa 40) s from sI_ref hI (i := 40) (by decide)) dX4_fourthStep_164 ?_
                        refine lv_iconst (v := 1) hx hb dX4_fourthStep_166 (by decide) ?_
                        refine xc_vi (As := [.ref (sa 99), .ref (sa 40), .int 1]) (rest := []) xG Fx (sX4_tries l dC dI ad cI cZ sa sv lt_count lw_begin lw_end lw_depth lw_signed lw_led pr_written pr_within st_size_38 tx_size tt_count tt_pieces tt_kinds lt_begins lt_marks st_word_39 st_vowels_40 tx_characters tt_begins tt_lengths tt_stemLengths tt_places tt_addresses tt_smalls tt_stems tt_slots tt_nexts 99 40 1 h) (cwV 3 hts gX4_fourthStep_X4_tries rfl rfl rfl hdX4_tries ⟨Nat.le_of_ble_eq_true rfl, Nat.le_of_ble_eq_true rfl⟩) (va_recv hK hP (ci := 3) (q0 := 3) rfl rfl) hK hP hD hS hA hI rfl hl.1 rfl (Nat.le_of_ble_eq_true rfl) dX4_fourthStep_167 ⟨Nat.zero_le _, Nat.zero_le _⟩ (fun r_41 u H locs h hP hD hS => ?_)
                        obtain ⟨st_size_42, st_word_43, st_vowels_44⟩ := u
                        have hP : va_P (dC, dI) vwCl (xW ad cI cZ lt_count lw_begin lw_end lw_depth lw_signed lw_led pr_written pr_within st_size_42 tx_size tt_count tt_pieces tt_kinds lt_begins lt_marks st_word_43 st_vowels_44 tx_characters tt_begins tt_lengths tt_stemLengths tt_places tt_addresses tt_smalls tt_stems tt_slots tt_nexts) H := hP
                        have hD : va_D A (xW ad cI cZ lt_count lw_begin lw_end lw_depth lw_signed lw_led pr_written pr_within st_size_42 tx_size tt_count tt_pieces tt_kinds lt_begins lt_marks st_word_43 st_vowels_44 tx_characters tt_begins tt_lengths tt_stemLengths tt_places tt_addresses tt_smalls tt_stems tt_slots tt_nexts) := hD
                        refine lv_if_ne (tgt := 269) hx hb dX4_fourthStep_170 (by decide) (fun c9 => ?_) (fun c9 => ?_)
                        · have h := h.1 c9
                          refine lv_iconst (v := 1) hx hb dX4_fourthStep_269 (by decide) ?_
                          refine lv_goto (tgt := 274) hx hb dX4_fourthStep_270 (by decide) ?_
                          exact W.zret (v := 1) hx hb hr (bN_nar bN1) (fun t ht hW => hQ 1 (st_size_42, st_word_43, st_vowels_44) t h (by rw [ht]; exact hP) (va_K.moved hW.alike hK) hD (hS.F ht)) hS.2.2 dX4_fourthStep_274
                        · have h := h.2 c9
                          refine lv_aload_n hx hb dX4_fourthStep_173 rfl (lv_at hl 0 rfl) ?_
                          refine va_ldcS hx hb hown (show vk_R RX4 163 "ent" (sa 69) s from sI_ref hI (i := 69) (by decide)) dX4_fourthStep_174 ?_
                          refine va_ldcS hx hb hown (show vk_R RX4 92 "" (sa 40) s from sI_ref hI (i := 40) (by decide)) dX4_fourthStep_176 ?_
                          refine lv_iconst (v := 1) hx hb dX4_fourthStep_178 (by decide) ?_
                          refine xc_vi (As := [.ref (sa 69), .ref (sa 40), .int 1]) (rest := []) xG Fx (sX4_tries l dC dI ad cI cZ sa sv lt_count lw_begin lw_end lw_depth lw_signed lw_led pr_written pr_within st_size_42 tx_size tt_count tt_pieces tt_kinds lt_begins lt_marks st_word_43 st_vowels_44 tx_characters tt_begins tt_lengths tt_stemLengths tt_places tt_addresses tt_smalls tt_stems tt_slots tt_nexts 69 40 1 h) (cwV 3 hts gX4_fourthStep_X4_tries rfl rfl rfl hdX4_tries ⟨Nat.le_of_ble_eq_true rfl, Nat.le_of_ble_eq_true rfl⟩) (va_recv hK hP (ci := 3) (q0 := 3) rfl rfl) hK hP hD hS hA hI rfl hl.1 rfl (Nat.le_of_ble_eq_true rfl) dX4_fourthStep_179 ⟨Nat.zero_le _, Nat.zero_le _⟩ (fun r_45 u H locs h hP hD hS => ?_)
                          obtain ⟨st_size_46, st_word_47, st_vowels_48⟩ := u
                          have hP : va_P (dC, dI) vwCl (xW ad cI cZ lt_count lw_begin lw_end lw_depth lw_signed lw_led pr_written pr_within st_size_46 tx_size tt_count tt_pieces tt_kinds lt_begins lt_marks st_word_47 st_vowels_48 tx_characters tt_begins tt_lengths tt_stemLengths tt_places tt_addresses tt_smalls tt_stems tt_slots tt_nexts) H := hP
                          have hD : va_D A (xW ad cI cZ lt_count lw_begin lw_end lw_depth lw_signed lw_led pr_written pr_within st_size_46 tx_size tt_count tt_pieces tt_kinds lt_begins lt_marks st_word_47 st_vowels_48 tx_characters tt_begins tt_lengths tt_stemLengths tt_places tt_addresses tt_smalls tt_stems tt_slots tt_nexts) := hD
                          refine lv_if_ne (tgt := 269) hx hb dX4_fourthStep_182 (by decide) (fun c9 => ?_) (fun c9 => ?_)
                          · have h := h.1 c9
                            refine lv_iconst (v := 1) hx hb dX4_fourthStep_269 (by decide) ?_
                            refine lv_goto (tgt := 274) hx hb dX4_fourthStep_270 (by decide) ?_
                            exact W.zret (v := 1) hx hb hr (bN_nar bN1) (fun t ht hW => hQ 1 (st_size_46, st_word_47, st_vowels_48) t h (by rw [ht]; exact hP) (va_K.moved hW.alike hK) hD (hS.F ht)) hS.2.2 dX4_fourthStep_274
                          · have h := h.2 c9
                            refine lv_aload_n hx hb dX4_fourthStep_185 rfl (lv_at hl 0 rfl) ?_
                            refine va_ldcS hx hb hown (show vk_R RX4 225 "ou" (sa 100) s from sI_ref hI (i := 100) (by decide)) dX4_fourthStep_186 ?_
                            refine va_ldcS hx hb hown (show vk_R RX4 92 "" (sa 40) s from sI_ref hI (i := 40) (by decide)) dX4_fourthStep_188 ?_
                            refine lv_iconst (v := 1) hx hb dX4_fourthStep_190 (by decide) ?_
                            refine xc_vi (As := [.ref (sa 100), .ref (sa 40), .int 1]) (rest := []) xG Fx (sX4_tries l dC dI ad cI cZ sa sv lt_count lw_begin lw_end lw_depth lw_signed lw_led pr_written pr_within st_size_46 tx_size tt_count tt_pieces tt_kinds lt_begins lt_marks st_word_47 st_vowels_48 tx_characters tt_begins tt_lengths tt_stemLengths tt_places tt_addresses tt_smalls tt_stems tt_slots tt_nexts 100 40 1 h) (cwV 3 hts gX4_fourthStep_X4_tries rfl rfl rfl hdX4_tries ⟨Nat.le_of_ble_eq_true rfl, Nat.le_of_ble_eq_true rfl⟩) (va_recv hK hP (ci := 3) (q0 := 3) rfl rfl) hK hP hD hS hA hI rfl hl.1 rfl (Nat.le_of_ble_eq_true rfl) dX4_fourthStep_191 ⟨Nat.zero_le _, Nat.zero_le _⟩ (fun r_49 u H locs h hP hD hS => ?_)
                            obtain ⟨st_size_50, st_word_51, st_vowels_52⟩ := u
                            have hP : va_P (dC, dI) vwCl (xW ad cI cZ lt_count lw_begin lw_end lw_depth lw_signed lw_led pr_written pr_within st_size_50 tx_size tt_count tt_pieces tt_kinds lt_begins lt_marks st_word_51 st_vowels_52 tx_characters tt_begins tt_lengths tt_stemLengths tt_places tt_addresses tt_smalls tt_stems tt_slots tt_nexts) H := hP
                            have hD : va_D A (xW ad cI cZ lt_count lw_begin lw_end lw_depth lw_signed lw_led pr_written pr_within st_size_50 tx_size tt_count tt_pieces tt_kinds lt_begins lt_marks st_word_51 st_vowels_52 tx_characters tt_begins tt_lengths tt_stemLengths tt_places tt_addresses tt_smalls tt_stems tt_slots tt_nexts) := hD
                            refine lv_if_ne (tgt := 269) hx hb dX4_fourthStep_194 (by decide) (fun c9 => ?_) (fun c9 => ?_)
                            · have h := h.1 c9
                              refine lv_iconst (v := 1) hx hb dX4_fourthStep_269 (by decide) ?_
                              refine lv_goto (tgt := 274) hx hb dX4_fourthStep_270 (by decide) ?_
                              exact W.zret (v := 1) hx hb hr (bN_nar bN1) (fun t ht hW => hQ 1 (st_size_50, st_word_51, st_vowels_52) t h (by rw [ht]; exact hP) (va_K.moved hW.alike hK) hD (hS.F ht)) hS.2.2 dX4_fourthStep_274
                            · have h := h.2 c9
                              refine lv_aload_n hx hb dX4_fourthStep_197 rfl (lv_at hl 0 rfl) ?_
                              refine va_ldcS hx hb hown (show vk_R RX4 227 "ism" (sa 101) s from sI_ref hI (i := 101) (by decide)) dX4_fourthStep_198 ?_
                              refine va_ldcS hx hb hown (show vk_R RX4 92 "" (sa 40) s from sI_ref hI (i := 40) (by decide)) dX4_fourthStep_200 ?_
                              refine lv_iconst (v := 1) hx hb dX4_fourthStep_202 (by decide) ?_
                              refine xc_vi (As := [.ref (sa 101), .ref (sa 40), .int 1]) (rest := []) xG Fx (sX4_tries l dC dI ad cI cZ sa sv lt_count lw_begin lw_end lw_depth lw_signed lw_led pr_written pr_within st_size_50 tx_size tt_count tt_pieces tt_kinds lt_begins lt_marks st_word_51 st_vowels_52 tx_characters tt_begins tt_lengths tt_stemLengths tt_places tt_addresses tt_smalls tt_stems tt_slots tt_nexts 101 40 1 h) (cwV 3 hts gX4_fourthStep_X4_tries rfl rfl rfl hdX4_tries ⟨Nat.le_of_ble_eq_true rfl, Nat.le_of_ble_eq_true rfl⟩) (va_recv hK hP (ci := 3) (q0 := 3) rfl rfl) hK hP hD hS hA hI rfl hl.1 rfl (Nat.le_of_ble_eq_true rfl) dX4_fourthStep_203 ⟨Nat.zero_le _, Nat.zero_le _⟩ (fun r_53 u H locs h hP hD hS => ?_)
                              obtain ⟨st_size_54, st_word_55, st_vowels_56⟩ := u
                              have hP : va_P (dC, dI) vwCl (xW ad cI cZ lt_count lw_begin lw_end lw_depth lw_signed lw_led pr_written pr_within st_size_54 tx_size tt_count tt_pieces tt_kinds lt_begins lt_marks st_word_55 st_vowels_56 tx_characters tt_begins tt_lengths tt_stemLengths tt_places tt_addresses tt_smalls tt_stems tt_slots tt_nexts) H := hP
                              have hD : va_D A (xW ad cI cZ lt_count lw_begin lw_end lw_depth lw_signed lw_led pr_written pr_within st_size_54 tx_size tt_count tt_pieces tt_kinds lt_begins lt_marks st_word_55 st_vowels_56 tx_characters tt_begins tt_lengths tt_stemLengths tt_places tt_addresses tt_smalls tt_stems tt_slots tt_nexts) := hD
                              refine lv_if_ne (tgt := 269) hx hb dX4_fourthStep_206 (by decide) (fun c9 => ?_) (fun c9 => ?_)
                              · have h := h.1 c9
                                refine lv_iconst (v := 1) hx hb dX4_fourthStep_269 (by decide) ?_
                                refine lv_goto (tgt := 274) hx hb dX4_fourthStep_270 (by decide) ?_
                                exact W.zret (v := 1) hx hb hr (bN_nar bN1) (fun t ht hW => hQ 1 (st_size_54, st_word_55, st_vowels_56) t h (by rw [ht]; exact hP) (va_K.moved hW.alike hK) hD (hS.F ht)) hS.2.2 dX4_fourthStep_274
                              · have h := h.2 c9
                                refine lv_aload_n hx hb dX4_fourthStep_209 rfl (lv_at hl 0 rfl) ?_
                                refine va_ldcS hx hb hown (show vk_R RX4 135 "ate" (sa 55) s from sI_ref hI (i := 55) (by decide)) dX4_fourthStep_210 ?_
                                refine va_ldcS hx hb hown (show vk_R RX4 92 "" (sa 40) s from sI_ref hI (i := 40) (by decide)) dX4_fourthStep_212 ?_
                                refine lv_iconst (v := 1) hx hb dX4_fourthStep_214 (by decide) ?_
                                refine xc_vi (As := [.ref (sa 55), .ref (sa 40), .int 1]) (rest := []) xG Fx (sX4_tries l dC dI ad cI cZ sa sv lt_count lw_begin lw_end lw_depth lw_signed lw_led pr_written pr_within st_size_54 tx_size tt_count tt_pieces tt_kinds lt_begins lt_marks st_word_55 st_vowels_56 tx_characters tt_begins tt_lengths tt_stemLengths tt_places tt_addresses tt_smalls tt_stems tt_slots tt_nexts 55 40 1 h) (cwV 3 hts gX4_fourthStep_X4_tries rfl rfl rfl hdX4_tries ⟨Nat.le_of_ble_eq_true rfl, Nat.le_of_ble_eq_true rfl⟩) (va_recv hK hP (ci := 3) (q0 := 3) rfl rfl) hK hP hD hS hA hI rfl hl.1 rfl (Nat.le_of_ble_eq_true rfl) dX4_fourthStep_215 ⟨Nat.zero_le _, Nat.zero_le _⟩ (fun r_57 u H locs h hP hD hS => ?_)
                                obtain ⟨st_size_58, st_word_59, st_vowels_60⟩ := u
                                have hP : va_P (dC, dI) vwCl (xW ad cI cZ lt_count lw_begin lw_end lw_depth lw_signed lw_led pr_written pr_within st_size_58 tx_size tt_count tt_pieces tt_kinds lt_begins lt_marks st_word_59 st_vowels_60 tx_characters tt_begins tt_lengths tt_stemLengths tt_places tt_addresses tt_smalls tt_stems tt_slots tt_nexts) H := hP
                                have hD : va_D A (xW ad cI cZ lt_count lw_begin lw_end lw_depth lw_signed lw_led pr_written pr_within st_size_58 tx_size tt_count tt_pieces tt_kinds lt_begins lt_marks st_word_59 st_vowels_60 tx_characters tt_begins tt_lengths tt_stemLengths tt_places tt_addresses tt_smalls tt_stems tt_slots tt_nexts) := hD
                                refine lv_if_ne (tgt := 269) hx hb dX4_fourthStep_218 (by decide) (fun c9 => ?_) (fun c9 => ?_)
                                · have h := h.1 c9
                                  refine lv_iconst (v := 1) hx hb dX4_fourthStep_269 (by decide) ?_
                                  refine lv_goto (tgt := 274) hx hb dX4_fourthStep_270 (by decide) ?_
                                  exact W.zret (v := 1) hx hb hr (bN_nar bN1) (fun t ht hW => hQ 1 (st_size_58, st_word_59, st_vowels_60) t h (by rw [ht]; exact hP) (va_K.moved hW.alike hK) hD (hS.F ht)) hS.2.2 dX4_fourthStep_274
                                · have h := h.2 c9
                                  refine lv_aload_n hx hb dX4_fourthStep_221 rfl (lv_at hl 0 rfl) ?_
                                  refine va_ldcS hx hb hown (show vk_R RX4 229 "iti" (sa 102) s from sI_ref hI (i := 102) (by decide)) dX4_fourthStep_222 ?_
                                  refine va_ldcS hx hb hown (show vk_R RX4 92 "" (sa 40) s from sI_ref hI (i := 40) (by decide)) dX4_fourthStep_224 ?_
                                  refine lv_iconst (v := 1) hx hb dX4_fourthStep_226 (by decide) ?_
                                  refine xc_vi (As := [.ref (sa 102), .ref (sa 40), .int 1]) (rest := []) xG Fx (sX4_tries l dC dI ad cI cZ sa sv lt_count lw_begin lw_end lw_depth lw_signed lw_led pr_written pr_within st_size_58 tx_size tt_count tt_pieces tt_kinds lt_begins lt_marks st_word_59 st_vowels_60 tx_characters tt_begins tt_lengths tt_stemLengths tt_places tt_addresses tt_smalls tt_stems tt_slots tt_nexts 102 40 1 h) (cwV 3 hts gX4_fourthStep_X4_tries rfl rfl rfl hdX4_tries ⟨Nat.le_of_ble_eq_true rfl, Nat.le_of_ble_eq_true rfl⟩) (va_recv hK hP (ci := 3) (q0 := 3) rfl rfl) hK hP hD hS hA hI rfl hl.1 rfl (Nat.le_of_ble_eq_true rfl) dX4_fourthStep_227 ⟨Nat.zero_le _, Nat.zero_le _⟩ (fun r_61 u H locs h hP hD hS => ?_)
                                  obtain ⟨st_size_62, st_word_63, st_vowels_64⟩ := u
                                  have hP : va_P (dC, dI) vwCl (xW ad cI cZ lt_count lw_begin lw_end lw_depth lw_signed lw_led pr_written pr_within st_size_62 tx_size tt_count tt_pieces tt_kinds lt_begins lt_marks st_word_63 st_vowels_64 tx_characters tt_begins tt_lengths tt_stemLengths tt_places tt_addresses tt_smalls tt_stems tt_slots tt_nexts) H := hP
                                  have hD : va_D A (xW ad cI cZ lt_count lw_begin lw_end lw_depth lw_signed lw_led pr_written pr_within st_size_62 tx_size tt_count tt_pieces tt_kinds lt_begins lt_marks st_word_63 st_vowels_64 tx_characters tt_begins tt_lengths tt_stemLengths tt_places tt_addresses tt_smalls tt_stems tt_slots tt_nexts) := hD
                                  refine lv_if_ne (tgt := 269) hx hb dX4_fourthStep_230 (by decide) (fun c9 => ?_) (fun c9 => ?_)
                                  · have h := h.1 c9
                                    refine lv_iconst (v := 1) hx hb dX4_fourthStep_269 (by decide) ?_
                                    refine lv_goto (tgt := 274) hx hb dX4_fourthStep_270 (by decide) ?_
                                    exact W.zret (v := 1) hx hb hr (bN_nar bN1) (fun t ht hW => hQ 1 (st_size_62, st_word_63, st_vowels_64) t h (by rw [ht]; exact hP) (va_K.moved hW.alike hK) hD (hS.F ht)) hS.2.2 dX4_fourthStep_274
                                  · have h := h.2 c9
                                    refine lv_aload_n hx hb dX4_fourthStep_233 rfl (lv_at hl 0 rfl) ?_
                                    refine va_ldcS hx hb hown (show vk_R RX4 171 "ous" (sa 73) s from sI_ref hI (i := 73) (by decide)) dX4_fourthStep_234 ?_
                                    refine va_ldcS hx hb hown (show vk_R RX4 92 "" (sa 40) s from sI_ref hI (i := 40) (by decide)) dX4_fourthStep_236 ?_
                                    refine lv_iconst (v := 1) hx hb dX4_fourthStep_238 (by decide) ?_
                                    refine xc_vi (As := [.ref (sa 73), .ref (sa 40), .int 1]) (rest := []) xG Fx (sX4_tries l dC dI ad cI cZ sa sv lt_count lw_begin lw_end lw_depth lw_signed lw_led pr_written pr_within st_size_62 tx_size tt_count tt_pieces tt_kinds lt_begins lt_marks st_word_63 st_vowels_64 tx_characters tt_begins tt_lengths tt_stemLengths tt_places tt_addresses tt_smalls tt_stems tt_slots tt_nexts 73 40 1 h) (cwV 3 hts gX4_fourthStep_X4_tries rfl rfl rfl hdX4_tries ⟨Nat.le_of_ble_eq_true rfl, Nat.le_of_ble_eq_true rfl⟩) (va_recv hK hP (ci := 3) (q0 := 3) rfl rfl) hK hP hD hS hA hI rfl hl.1 rfl (Nat.le_of_ble_eq_true rfl) dX4_fourthStep_239 ⟨Nat.zero_le _, Nat.zero_le _⟩ (fun r_65 u H locs h hP hD hS => ?_)
                                    obtain ⟨st_size_66, st_word_67, st_vowels_68⟩ := u
                                    have hP : va_P (dC, dI) vwCl (xW ad cI cZ lt_count lw_begin lw_end lw_depth lw_signed lw_led pr_written pr_within st_size_66 tx_size tt_count tt_pieces tt_kinds lt_begins lt_marks st_word_67 st_vowels_68 tx_characters tt_begins tt_lengths tt_stemLengths tt_places tt_addresses tt_smalls tt_stems tt_slots tt_nexts) H := hP
                                    have hD : va_D A (xW ad cI cZ lt_count lw_begin lw_end lw_depth lw_signed lw_led pr_written pr_within st_size_66 tx_size tt_count tt_pieces tt_kinds lt_begins lt_marks st_word_67 st_vowels_68 tx_characters tt_begins tt_lengths tt_stemLengths tt_places tt_addresses tt_smalls tt_stems tt_slots tt_nexts) := hD
                                    refine lv_if_ne (tgt := 269) hx hb dX4_fourthStep_242 (by decide) (fun c9 => ?_) (fun c9 => ?_)
                                    · have h := h.1 c9
                                      refine lv_iconst (v := 1) hx hb dX4_fourthStep_269 (by decide) ?_
                                      refine lv_goto (tgt := 274) hx hb dX4_fourthStep_270 (by decide) ?_
                                      exact W.zret (v := 1) hx hb hr (bN_nar bN1) (fun t ht hW => hQ 1 (st_size_66, st_word_67, st_vowels_68) t h (by rw [ht]; exact hP) (va_K.moved hW.alike hK) hD (hS.F ht)) hS.2.2 dX4_fourthStep_274
                                    · have h := h.2 c9
                                      refine lv_aload_n hx hb dX4_fourthStep_245 rfl (lv_at hl 0 rfl) ?_
                                      refine va_ldcS hx hb hown (show vk_R RX4 183 "ive" (sa 79) s from sI_ref hI (i := 79) (by decide)) dX4_fourthStep_246 ?_
                                      refine va_ldcS hx hb hown (show vk_R RX4 92 "" (sa 40) s from sI_ref hI (i := 40) (by decide)) dX4_fourthStep_248 ?_
                                      refine lv_iconst (v := 1) hx hb dX4_fourthStep_250 (by decide) ?_
                                      refine xc_vi (As := [.ref (sa 79), .ref (sa 40), .int 1]) (rest := []) xG Fx (sX4_tries l dC dI ad cI cZ sa sv lt_count lw_begin lw_end lw_depth lw_signed lw_led pr_written pr_within st_size_66 tx_size tt_count tt_pieces tt_kinds lt_begins lt_marks st_word_67 st_vowels_68 tx_characters tt_begins tt_lengths tt_stemLengths tt_places tt_addresses tt_smalls tt_stems tt_slots tt_nexts 79 40 1 h) (cwV 3 hts gX4_fourthStep_X4_tries rfl rfl rfl hdX4_tries ⟨Nat.le_of_ble_eq_true rfl, Nat.le_of_ble_eq_true rfl⟩) (va_recv hK hP (ci := 3) (q0 := 3) rfl rfl) hK hP hD hS hA hI rfl hl.1 rfl (Nat.le_of_ble_eq_true rfl) dX4_fourthStep_251 ⟨Nat.zero_le _, Nat.zero_le _⟩ (fun r_69 u H locs h hP hD hS => ?_)
                                      obtain ⟨st_size_70, st_word_71, st_vowels_72⟩ := u
                                      have hP : va_P (dC, dI) vwCl (xW ad cI cZ lt_count lw_begin lw_end lw_depth lw_signed lw_led pr_written pr_within st_size_70 tx_size tt_count tt_pieces tt_kinds lt_begins lt_marks st_word_71 st_vowels_72 tx_characters tt_begins tt_lengths tt_stemLengths tt_places tt_addresses tt_smalls tt_stems tt_slots tt_nexts) H := hP
                                      have hD : va_D A (xW ad cI cZ lt_count lw_begin lw_end lw_depth lw_signed lw_led pr_written pr_within st_size_70 tx_size tt_count tt_pieces tt_kinds lt_begins lt_marks st_word_71 st_vowels_72 tx_characters tt_begins tt_lengths tt_stemLengths tt_places tt_addresses tt_smalls tt_stems tt_slots tt_nexts) := hD
                                      refine lv_if_ne (tgt := 269) hx hb dX4_fourthStep_254 (by decide) (fun c9 => ?_) (fun c9 => ?_)
                                      · have h := h.1 c9
                                        refine lv_iconst (v := 1) hx hb dX4_fourthStep_269 (by decide) ?_
                                        refine lv_goto (tgt := 274) hx hb dX4_fourthStep_270 (by decide) ?_
                                        exact W.zret (v := 1) hx hb hr (bN_nar bN1) (fun t ht hW => hQ 1 (st_size_70, st_word_71, st_vowels_72) t h (by rw [ht]; exact hP) (va_K.moved hW.alike hK) hD (hS.F ht)) hS.2.2 dX4_fourthStep_274
                                      · have h := h.2 c9
                                        refine lv_aload_n hx hb dX4_fourthStep_257 rfl (lv_at hl 0 rfl) ?_
                                        refine va_ldcS hx hb hown (show vk_R RX4 151 "ize" (sa 63) s from sI_ref hI (i := 63) (by decide)) dX4_fourthStep_258 ?_
                                        refine va_ldcS hx hb hown (show vk_R RX4 92 "" (sa 40) s from sI_ref hI (i := 40) (by decide)) dX4_fourthStep_260 ?_
                                        refine lv_iconst (v := 1) hx hb dX4_fourthStep_262 (by decide) ?_
                                        refine xc_vi (As := [.ref (sa 63), .ref (sa 40), .int 1]) (rest := []) xG Fx (sX4_tries l dC dI ad cI cZ sa sv lt_count lw_begin lw_end lw_depth lw_signed lw_led pr_written pr_within st_size_70 tx_size tt_count tt_pieces tt_kinds lt_begins lt_marks st_word_71 st_vowels_72 tx_characters tt_begins tt_lengths tt_stemLengths tt_places tt_addresses tt_smalls tt_stems tt_slots tt_nexts 63 40 1 h) (cwV 3 hts gX4_fourthStep_X4_tries rfl rfl rfl hdX4_tries ⟨Nat.le_of_ble_eq_true rfl, Nat.le_of_ble_eq_true rfl⟩) (va_recv hK hP (ci := 3) (q0 := 3) rfl rfl) hK hP hD hS hA hI rfl hl.1 rfl (Nat.le_of_ble_eq_true rfl) dX4_fourthStep_263 ⟨Nat.zero_le _, Nat.zero_le _⟩ (fun r_73 u H locs h hP hD hS => ?_)
                                        obtain ⟨st_size_74, st_word_75, st_vowels_76⟩ := u
                                        have hP : va_P (dC, dI) vwCl (xW ad cI cZ lt_count lw_begin lw_end lw_depth lw_signed lw_led pr_written pr_within st_size_74 tx_size tt_count tt_pieces tt_kinds lt_begins lt_marks st_word_75 st_vowels_76 tx_characters tt_begins tt_lengths tt_stemLengths tt_places tt_addresses tt_smalls tt_stems tt_slots tt_nexts) H := hP
                                        have hD : va_D A (xW ad cI cZ lt_count lw_begin lw_end lw_depth lw_signed lw_led pr_written pr_within st_size_74 tx_size tt_count tt_pieces tt_kinds lt_begins lt_marks st_word_75 st_vowels_76 tx_characters tt_begins tt_lengths tt_stemLengths tt_places tt_addresses tt_smalls tt_stems tt_slots tt_nexts) := hD
                                        refine lv_if_eq (tgt := 273) hx hb dX4_fourthStep_266 (by decide) (fun c9 => ?_) (fun c9 => ?_)
                                        · have h := h.1 c9
                                          refine lv_iconst (v := 0) hx hb dX4_fourthStep_273 (by decide) ?_
                                          exact W.zret (v := 0) hx hb hr (bN_nar bN0) (fun t ht hW => hQ 0 (st_size_74, st_word_75, st_vowels_76) t h (by rw [ht]; exact hP) (va_K.moved hW.alike hK) hD (hS.F ht)) hS.2.2 dX4_fourthStep_274
                                        · have h := h.2 c9
                                          refine lv_iconst (v := 1) hx hb dX4_fourthStep_269 (by decide) ?_
                                          refine lv_goto (tgt := 274) hx hb dX4_fourthStep_270 (by decide) ?_
                                          exact W.zret (v := 1) hx hb hr (bN_nar bN1) (fun t ht hW => hQ 1 (st_size_74, st_word_75, st_vowels_76) t h (by rw [ht]; exact hP) (va_K.moved hW.alike hK) hD (hS.F ht)) hS.2.2 dX4_fourthStep_274
  intro H locs hP hD hS
  delta wpX4_fourthStep at h
  refine lv_aload_n hx hb dX4_fourthStep_0 rfl (lv_at hl 0 rfl) ?_
  refine va_ldcS hx hb hown (show vk_R RX4 213 "ion" (sa 94) s from sI_ref hI (i := 94) (by decide)) dX4_fourthStep_1 ?_
  refine xc_vi (As := [.ref (sa 94)]) (rest := []) xG Fx (sX4_ends l dC dI ad cI cZ sa sv lt_count lw_begin lw_end lw_depth lw_signed lw_led pr_written pr_within st_size tx_size tt_count tt_pieces tt_kinds lt_begins lt_marks st_word st_vowels tx_characters tt_begins tt_lengths tt_stemLengths tt_places tt_addresses tt_smalls tt_stems tt_slots tt_nexts 94 h) (cwV 1 hts gX4_fourthStep_X4_ends rfl rfl rfl hdX4_ends ⟨Nat.le_of_ble_eq_true rfl, Nat.le_of_ble_eq_true rfl⟩) (va_recv hK hP (ci := 3) (q0 := 3) rfl rfl) hK hP hD hS hA hI rfl hl.1 rfl (Nat.le_of_ble_eq_true rfl) dX4_fourthStep_3 ⟨Nat.zero_le _, Nat.zero_le _⟩ (fun r_77 u H locs h hP hD hS => ?_)
  refine lv_if_eq (tgt := 41) hx hb dX4_fourthStep_6 (by decide) (fun c9 => ?_) (fun c9 => ?_)
  · have h := h.1 c9
    exact J41 st_size st_word st_vowels H locs ls (lv_sub hl [0] rfl) hP hD hS h
  · have h := h.2 c9
    refine lv_aload_n hx hb dX4_fourthStep_9 rfl (lv_at hl 0 rfl) ?_
    refine lv_aload_n hx hb dX4_fourthStep_10 rfl (lv_at hl 0 rfl) ?_
    refine va_get (D := (dC, dI)) (ci := 3) (v := .int st_size) (C := RX4) (T := TX4) (N := 3) hx hb hts inX4 hown hK hP 3 rfl rfl 2 (by decide) (hts (.fieldLink RX4 19 "MailWords$Stemmer" "size" "I") (List.mem_of_getElem? (i := 1) rfl)) (fun _ h9 => h9) rfl dX4_fourthStep_11 ?_
    refine lv_iconst (v := 4) hx hb dX4_fourthStep_14 (by decide) ?_
    refine lv_isub hx hb dX4_fourthStep_15 ?_
    refine lv_bipush (v := 115) hx hb dX4_fourthStep_16 (by decide) ?_
    refine xc_vi (As := [.int (st_size - 4), .int 115]) (rest := []) xG Fx (sX4_isLetter l dC dI ad cI cZ sa sv lt_count lw_begin lw_end lw_depth lw_signed lw_led pr_written pr_within st_size tx_size tt_count tt_pieces tt_kinds lt_begins lt_marks st_word st_vowels tx_characters tt_begins tt_lengths tt_stemLengths tt_places tt_addresses tt_smalls tt_stems tt_slots tt_nexts (st_size - 4) 115 h) (cwV 2 hts gX4_fourthStep_X4_isLetter rfl rfl rfl hdX4_isLetter ⟨Nat.le_of_ble_eq_true rfl, Nat.le_of_ble_eq_true rfl⟩) (va_recv hK hP (ci := 3) (q0 := 3) rfl rfl) hK hP hD hS hA hI rfl hl.1 rfl (Nat.le_of_ble_eq_true rfl) dX4_fourthStep_18 ⟨Nat.zero_le _, Nat.zero_le _⟩ (fun r_78 u H locs h hP hD hS => ?_)
    refine lv_if_ne (tgt := 41) hx hb dX4_fourthStep_21 (by decide) (fun c9 => ?_) (fun c9 => ?_)
    · have h := h.1 c9
      exact J41 st_size st_word st_vowels H locs ls (lv_sub hl [0] rfl) hP hD hS h
    · have h := h.2 c9
      refine lv_aload_n hx hb dX4_fourthStep_24 rfl (lv_at hl 0 rfl) ?_
      refine lv_aload_n hx hb dX4_fourthStep_25 rfl (lv_at hl 0 rfl) ?_
      refine va_get (D := (dC, dI)) (ci := 3) (v := .int st_size) (C := RX4) (T := TX4) (N := 3) hx hb hts inX4 hown hK hP 3 rfl rfl 2 (by decide) (hts (.fieldLink RX4 19 "MailWords$Stemmer" "size" "I") (List.mem_of_getElem? (i := 1) rfl)) (fun _ h9 => h9) rfl dX4_fourthStep_26 ?_
      refine lv_iconst (v := 4) hx hb dX4_fourthStep_29 (by decide) ?_
      refine lv_isub hx hb dX4_fourthStep_30 ?_
      refine lv_bipush (v := 116) hx hb dX4_fourthStep_31 (by decide) ?_
      refine xc_vi (As := [.int (st_size - 4), .int 116]) (rest := []) xG Fx (sX4_isLetter l dC dI ad cI cZ sa sv lt_count lw_begin lw_end lw_depth lw_signed lw_led pr_written pr_within st_size tx_size tt_count tt_pieces tt_kinds lt_begins lt_marks st_word st_vowels tx_characters tt_begins tt_lengths tt_stemLengths tt_places tt_addresses tt_smalls tt_stems tt_slots tt_nexts (st_size - 4) 116 h) (cwV 2 hts gX4_fourthStep_X4_isLetter rfl rfl rfl hdX4_isLetter ⟨Nat.le_of_ble_eq_true rfl, Nat.le_of_ble_eq_true rfl⟩) (va_recv hK hP (ci := 3) (q0 := 3) rfl rfl) hK hP hD hS hA hI rfl hl.1 rfl (Nat.le_of_ble_eq_true rfl) dX4_fourthStep_33 ⟨Nat.zero_le _, Nat.zero_le _⟩ (fun r_79 u H locs h hP hD hS => ?_)
      refine lv_if_ne (tgt := 41) hx hb dX4_fourthStep_36 (by decide) (fun c9 => ?_) (fun c9 => ?_)
      · have h := h.1 c9
        exact J41 st_size st_word st_vowels H locs ls (lv_sub hl [0] rfl) hP hD hS h
      · have h := h.2 c9
        refine lv_iconst (v := 1) hx hb dX4_fourthStep_39 (by decide) ?_
        exact W.zret (v := 1) hx hb hr (bN_nar bN1) (fun t ht hW => hQ 1 (st_size, st_word, st_vowels) t h (by rw [ht]; exact hP) (va_K.moved hW.alike hK) hD (hS.F ht)) hS.2.2 dX4_fourthStep_40
set_option maxHeartbeats 4000000 in
set_option maxRecDepth 100000 in
theorem sX4_fifthStep (l : Launch) (dC : Nat → ClassId) (dI : Nat → Nat → Nat) (ad : Nat → Nat) (cI cZ : ClassId) (sa sv : Nat → Nat) (lt_count : Int32) (lw_begin : Int32) (lw_end : Int32) (lw_depth : Int32) (lw_signed : Int32) (lw_led : Int32) (pr_written : Int32) (pr_within : Int32) (st_size : Int32) (tx_size : Int32) (tt_count : Int32) (tt_pieces : Int32) (tt_kinds : Int32) (lt_begins : Nat → Int32) (lt_marks : Nat → Int32) (st_word : Nat → Int32) (st_vowels : Nat → Int32) (tx_characters : Nat → Int32) (tt_begins : Nat → Int32) (tt_lengths : Nat → Int32) (tt_stemLengths : Nat → Int32) (tt_places : Nat → Int32) (tt_addresses : Nat → Int32) (tt_smalls : Nat → Int32) (tt_stems : Nat → Int32) (tt_slots : Nat → Int32) (tt_nexts : Nat → Int32)  {post : Int32 → (Nat → Int32) → (Nat → Int32) → Prop} (h : wpX4_fifthStep post st_size st_word st_vowels) : xMv l (dC, dI) vwCl [(cI, .int), (cZ, .boolean)] (sI sa sv) yX4_fifthStep wsX4_fifthStep ({ frames := 5, cells := 0, slots := 0, locals := 108 }) (xW ad cI cZ lt_count lw_begin lw_end lw_depth lw_signed lw_led pr_written pr_within st_size tx_size tt_count tt_pieces tt_kinds lt_begins lt_marks st_word st_vowels tx_characters tt_begins tt_lengths tt_stemLengths tt_places tt_addresses tt_smalls tt_stems tt_slots tt_nexts) [.ref (ad 3)] (fun u : Int32 × (Nat → Int32) × (Nat → Int32) => post u.1 u.2.1 u.2.2) (fun u : Int32 × (Nat → Int32) × (Nat → Int32) => (xW ad cI cZ lt_count lw_begin lw_end lw_depth lw_signed lw_led pr_written pr_within u.1 tx_size tt_count tt_pieces tt_kinds lt_begins lt_marks u.2.1 u.2.2 tx_characters tt_begins tt_lengths tt_stemLengths tt_places tt_addresses tt_smalls tt_stems tt_slots tt_nexts)) := by
  intro sz
  refine Met.ofW (cc := cX4_fifthStep) (maxL := 2) (ret := none) (by decide) rfl ?_
  intro p e s m args below meth c s₁ B hml hv
  obtain ⟨rfl, hsz, hP, hK, hD0, hI⟩ := hv
  have hx := B.exec
  have hb := B.bytes
  have hr := B.returns
  have hts := atoms_spec (ws := wsX4_fifthStep) B.pre
  have hown : s.vm.findClass RX4 = some m.cls := findClass_of_methodNamed B.named
  have hlocks := B.notSynchronized
  subst hsz
  have hD := hD0.self (sz := s.heap.size)
  generalize hAe : va_A (xW ad cI cZ lt_count lw_begin lw_end lw_depth lw_signed lw_led pr_written pr_within st_size tx_size tt_count tt_pieces tt_kinds lt_begins lt_marks st_word st_vowels tx_characters tt_begins tt_lengths tt_stemLengths tt_places tt_addresses tt_smalls tt_stems tt_slots tt_nexts) s.heap.size = A at hD hI ⊢
  have hA : ∀ q : Nat, s.heap.size ≤ q → A q := fun q h => by rw [← hAe]; exact Or.inr h
  have hS : va_S A s.heap s.heap [] := va_S.rf
  have Fx : CallFix p m c cX4_fifthStep 2 s ([.ref (ad 3)] : List Value).toArray wsX4_fifthStep RX4 := ⟨hx, hb, hml, hown, hts⟩
  have hQ : ∀ (u : Int32 × (Nat → Int32) × (Nat → Int32)) (t : State), (fun u : Int32 × (Nat → Int32) × (Nat → Int32) => post u.1 u.2.1 u.2.2) u → va_P (dC, dI) vwCl ((fun u : Int32 × (Nat → Int32) × (Nat → Int32) => (xW ad cI cZ lt_count lw_begin lw_end lw_depth lw_signed lw_led pr_written pr_within u.1 tx_size tt_count tt_pieces tt_kinds lt_begins lt_marks u.2.1 u.2.2 tx_characters tt_begins tt_lengths tt_stemLengths tt_places tt_addresses tt_smalls tt_stems tt_slots tt_nexts)) u) t.heap → va_K (dC, dI) vwCl [(cI, .int), (cZ, .boolean)] t → va_D A ((fun u : Int32 × (Nat → Int32) × (Nat → Int32) => (xW ad cI cZ lt_count lw_begin lw_end lw_depth lw_signed lw_led pr_written pr_within u.1 tx_size tt_count tt_pieces tt_kinds lt_begins lt_marks u.2.1 u.2.2 tx_characters tt_begins tt_lengths tt_stemLengths tt_places tt_addresses tt_smalls tt_stems tt_slots tt_nexts)) u) → va_F A s t → (va_Qv (fun u : Int32 × (Nat → Int32) × (Nat → Int32) => post u.1 u.2.1 u.2.2) (xB (dC, dI) vwCl [(cI, .int), (cZ, .boolean)] A (fun u : Int32 × (Nat → Int32) × (Nat → Int32) => (xW ad cI cZ lt_count lw_begin lw_end lw_depth lw_signed lw_led pr_written pr_within u.1 tx_size tt_count tt_pieces tt_kinds lt_begins lt_marks u.2.1 u.2.2 tx_characters tt_begins tt_lengths tt_stemLengths tt_places tt_addresses tt_smalls tt_stems tt_slots tt_nexts))) A) ([.ref (ad 3)] : List Value).toArray s (.returned none) t := fun u t h1 h2 h3 h4 h5 => ⟨⟨u, rfl, h1, h2, h3, h4⟩, h5⟩
  generalize (va_Qv (fun u : Int32 × (Nat → Int32) × (Nat → Int32) => post u.1 u.2.1 u.2.2) (xB (dC, dI) vwCl [(cI, .int), (cZ, .boolean)] A (fun u : Int32 × (Nat → Int32) × (Nat → Int32) => (xW ad cI cZ lt_count lw_begin lw_end lw_depth lw_signed lw_led pr_written pr_within u.1 tx_size tt_count tt_pieces tt_kinds lt_begins lt_marks u.2.1 u.2.2 tx_characters tt_begins tt_lengths tt_stemLengths tt_places tt_addresses tt_smalls tt_stems tt_slots tt_nexts))) A) = Qc at hQ ⊢
  have hl := lv_entry ([.ref (ad 3)]) (n := 2) (Nat.le_of_ble_eq_true rfl)
  rw [lg_entry_eq]
  generalize (lg_sl ([.ref (ad 3)]) ++ List.replicate (2 - (lg_sl ([.ref (ad 3)])).length) Slot.unset).toArray = ls at hl ⊢
  have hl : lv_has ls 2 [(0, .ref (ad 3))] := hl
  refine (fun (key : ∀ (H : Heap) (locs : List Loc), va_P (dC, dI) vwCl (xW ad cI cZ lt_count lw_begin lw_end lw_depth lw_signed lw_led pr_written pr_within st_size tx_size tt_count tt_pieces tt_kinds lt_begins lt_marks st_word st_vowels tx_characters tt_begins tt_lengths tt_stemLengths tt_places tt_addresses tt_smalls tt_stems tt_slots tt_nexts) H → va_D A (xW ad cI cZ lt_count lw_begin lw_end lw_depth lw_signed lw_led pr_written pr_within st_size tx_size tt_count tt_pieces tt_kinds lt_begins lt_marks st_word st_vowels tx_characters tt_begins tt_lengths tt_stemLengths tt_places tt_addresses tt_smalls tt_stems tt_slots tt_nexts) → va_S A s.heap H locs → W p l e (headSpec wsX4_fifthStep ({ frames := 5, cells := 0, slots := 0, locals := 108 })).room s m ([.ref (ad 3)] : List Value).toArray below meth c H locs 0 0 (MQ below Qc ([.ref (ad 3)] : List Value).toArray s 0 0 A) (F0 m 0 ls [])) => key _ _ hP hD hS) ?_
  have inX4 : ∀ w ∈ wsX40, w ∈ wsX4_fifthStep := (fun _ h9 => List.mem_cons_of_mem _ (List.mem_append_right _ h9))
  have J49 : ∀ (st_size : Int32) (st_word : Nat → Int32) (st_vowels : Nat → Int32) (H : Heap) (locs : List Loc) (ls : Array Slot), lv_has ls 2 [(0, .ref (ad 3))] → va_P (dC, dI) vwCl (xW ad cI cZ lt_count lw_begin lw_end lw_depth lw_signed lw_led pr_written pr_within st_size tx_size tt_count tt_pieces tt_kinds lt_begins lt_marks st_word st_vowels tx_characters tt_begins tt_lengths tt_stemLengths tt_places tt_addresses tt_smalls tt_stems tt_slots tt_nexts) H → va_D A (xW ad cI cZ lt_count lw_begin lw_end lw_depth lw_signed lw_led pr_written pr_within st_size tx_size tt_count tt_pieces tt_kinds lt_begins lt_marks st_word st_vowels tx_characters tt_begins tt_lengths tt_stemLengths tt_places tt_addresses tt_smalls tt_stems tt_slots tt_nexts) → va_S A s.heap H locs → wjX4_fifthStep_49 post st_size st_word st_vowels → W p l e (headSpec wsX4_fifthStep ({ frames := 5, cells := 0, slots := 0, locals := 108 })).room s m ([.ref (ad 3)] : List Value).toArray below meth c H locs 0 0 (MQ below Qc ([.ref (ad 3)] : List Value).toArray s 0 0 A) (F0 m 49 ls []) := by
    intro st_size st_word st_vowels H locs ls hl hP hD hS h
    delta wjX4_fifthStep_49 at h
    refine lv_aload_n hx hb dX4_fifthStep_49 rfl (lv_at hl 0 rfl) ?_
    refine va_ldcS hx hb hown (show vk_R RX4 231 "ll" (sa 103) s from sI_ref hI (i := 103) (by decide)) dX4_fifthStep_50 ?_
    refine xc_vi (As := [.ref (sa 103)]) (rest := []) xG Fx (sX4_ends l dC dI ad cI cZ sa sv lt_count lw_begin lw_end lw_depth lw_signed lw_led pr_written pr_within st_size tx_size tt_count tt_pieces tt_kinds lt_begins lt_marks st_word st_vowels tx_characters tt_begins tt_lengths tt_stemLengths tt_places tt_addresses tt_smalls tt_stems tt_slots tt_nexts 103 h) (cwV 1 hts gX4_fifthStep_X4_ends rfl rfl rfl hdX4_ends ⟨Nat.le_of_ble_eq_true rfl, Nat.le_of_ble_eq_true rfl⟩) (va_recv hK hP (ci := 3) (q0 := 3) rfl rfl) hK hP hD hS hA hI rfl hl.1 rfl (Nat.le_of_ble_eq_true rfl) dX4_fifthStep_52 ⟨Nat.zero_le _, Nat.zero_le _⟩ (fun r_1 u H locs h hP hD hS => ?_)
    refine lv_if_eq (tgt := 84) hx hb dX4_fifthStep_55 (by decide) (fun c9 => ?_) (fun c9 => ?_)
    · have h := h.1 c9
      exact W.vret hx hb hr (fun t ht hW => hQ (st_size, st_word, st_vowels) t h (by rw [ht]; exact hP) (va_K.moved hW.alike hK) hD (hS.F ht)) hS.2.2 dX4_fifthStep_84
    · have h := h.2 c9
      refine lv_aload_n hx hb dX4_fifthStep_58 rfl (lv_at hl 0 rfl) ?_
      refine lv_aload_n hx hb dX4_fifthStep_59 rfl (lv_at hl 0 rfl) ?_
      refine va_get (D := (dC, dI)) (ci := 3) (v := .int st_size) (C := RX4) (T := TX4) (N := 3) hx hb hts inX4 hown hK hP 3 rfl rfl 2 (by decide) (hts (.fieldLink RX4 19 "MailWords$Stemmer" "size" "I") (List.mem_of_getElem? (i := 1) rfl)) (fun _ h9 => h9) rfl dX4_fifthStep_60 ?_
      refine lv_iconst (v := 1) hx hb dX4_fifthStep_63 (by decide) ?_
      refine lv_isub hx hb dX4_fifthStep_64 ?_
      refine xc_vi (As := [.int (st_size - 1)]) (rest := []) xG Fx (sX4_measure l dC dI ad cI cZ sa sv lt_count lw_begin lw_end lw_depth lw_signed lw_led pr_written pr_within st_size tx_size tt_count tt_pieces tt_kinds lt_begins lt_marks st_word st_vowels tx_characters tt_begins tt_lengths tt_stemLengths tt_places tt_addresses tt_smalls tt_stems tt_slots tt_nexts (st_size - 1) h) (cwV 1 hts gX4_fifthStep_X4_measure rfl rfl rfl hdX4_measure ⟨Nat.le_of_ble_eq_true rfl, Nat.le_of_ble_eq_true rfl⟩) (va_recv hK hP (ci := 3) (q0 := 3) rfl rfl) hK hP hD hS hA hI rfl hl.1 rfl (Nat.le_of_ble_eq_true rfl) dX4_fifthStep_65 ⟨Nat.zero_le _, Nat.zero_le _⟩ (fun r_2 u H locs h hP hD hS => ?_)
      refine lv_iconst (v := 1) hx hb dX4_fifthStep_68 (by decide) ?_
      refine lv_icmp_le (tgt := 84) hx hb dX4_fifthStep_69 (by decide) (fun c9 => ?_) (fun c9 => ?_)
      · have h := h.1 c9
        exact W.vret hx hb hr (fun t ht hW => hQ (st_size, st_word, st_vowels) t h (by rw [ht]; exact hP) (va_K.moved hW.alike hK) hD (hS.F ht)) hS.2.2 dX4_fifthStep_84
      · have h := h.2 c9
        refine lv_aload_n hx hb dX4_fifthStep_72 rfl (lv_at hl 0 rfl) ?_
        refine lv_aload_n hx hb dX4_fifthStep_73 rfl (lv_at hl 0 rfl) ?_
        refine va_get (D := (dC, dI)) (ci := 3) (v := .int st_size) (C := RX4) (T := TX4) (N := 3) hx hb hts inX4 hown hK hP 3 rfl rfl 2 (by decide) (hts (.fieldLink RX4 19 "MailWords$Stemmer" "size" "I") (List.mem_of_getElem? (i := 1) rfl)) (fun _ h9 => h9) rfl dX4_fifthStep_74 ?_
        refine lv_iconst (v := 1) hx hb dX4_fifthStep_77 (by decide) ?_
        refine lv_isub hx hb dX4_fifthStep_78 ?_
        refine va_ldcS hx hb hown (show vk_R RX4 92 "" (sa 40) s from sI_ref hI (i := 40) (by decide)) dX4_fifthStep_79 ?_
        refine xc_vv (As := [.int (st_size - 1), .ref (sa 40)]) (rest := []) xG Fx (sX4_become l dC dI ad cI cZ sa sv lt_count lw_begin lw_end lw_depth lw_signed lw_led pr_written pr_within st_size tx_size tt_count tt_pieces tt_kinds lt_begins lt_marks st_word st_vowels tx_characters tt_begins tt_lengths tt_stemLengths tt_places tt_addresses tt_smalls tt_stems tt_slots tt_nexts (st_size - 1) 40 h) (cwV 2 hts gX4_fifthStep_X4_become rfl rfl rfl hdX4_become ⟨Nat.le_of_ble_eq_true rfl, Nat.le_of_ble_eq_true rfl⟩) (va_recv hK hP (ci := 3) (q0 := 3) rfl rfl) hK hP hD hS hA hI rfl hl.1 rfl (Nat.le_of_ble_eq_true rfl) dX4_fifthStep_81 ⟨Nat.zero_le _, Nat.zero_le _⟩ (fun u H locs h hP hD hS => ?_)
        obtain ⟨st_size_4, st_word_5, st_vowels_6⟩ := u
        have hP : va_P (dC, dI) vwCl (xW ad cI cZ lt_count lw_begin lw_end lw_depth lw_signed lw_led pr_written pr_within st_size_4 tx_size tt_count tt_pieces tt_kinds lt_begins lt_marks st_word_5 st_vowels_6 tx_characters tt_begins tt_lengths tt_stemLengths tt_places tt_addresses tt_smalls tt_stems tt_slots tt_nexts) H := hP
        have hD : va_D A (xW ad cI cZ lt_count lw_begin lw_end lw_depth lw_signed lw_led pr_written pr_within st_size_4 tx_size tt_count tt_pieces tt_kinds lt_begins lt_marks st_word_5 st_vowels_6 tx_characters tt_begins tt_lengths tt_stemLengths tt_places tt_addresses tt_smalls tt_stems tt_slots tt_nexts) := hD
        exact W.vret hx hb hr (fun t ht hW => hQ (st_size_4, st_word_5, st_vowels_6) t h (by rw [ht]; exact hP) (va_K.moved hW.alike hK) hD (hS.F ht)) hS.2.2 dX4_fifthStep_84
  have J42 : ∀ (st_size : Int32) (st_word : Nat → Int32) (st_vowels : Nat → Int32) (x1 : Int32) (H : Heap) (locs : List Loc) (ls : Array Slot), lv_has ls 2 [(0, .ref (ad 3)), (1, .int x1)] → va_P (dC, dI) vwCl (xW ad cI cZ lt_count lw_begin lw_end lw_depth lw_signed lw_led pr_written pr_within st_size tx_size tt_count tt_pieces tt_kinds lt_begins lt_marks st_word st_vowels tx_characters tt_begins tt_lengths tt_stemLengths tt_places tt_addresses tt_smalls tt_stems tt_slots tt_nexts) H → va_D A (xW ad cI cZ lt_count lw_begin lw_end lw_depth lw_signed lw_led pr_written pr_within st_size tx_size tt_count tt_pieces tt_kinds lt_begins lt_marks st_word st_vowels tx_characters tt_begins tt_lengths tt_stemLengths tt_places tt_addresses tt_smalls tt_stems tt_slots tt_nexts) → va_S A s.heap H locs → wjX4_fifthStep_42 post st_size st_word st_vowels x1 → W p l e (headSpec wsX4_fifthStep ({ frames := 5, cells := 0, slots := 0, locals := 108 })).room s m ([.ref (ad 3)] : List Value).toArray below meth c H locs 0 0 (MQ below Qc ([.ref (ad 3)] : List Value).toArray s 0 0 A) (F0 m 42 ls []) := by
    intro st_size st_word st_vowels x1 H locs ls hl hP hD hS h
    delta wjX4_fifthStep_42 at h
    refine lv_aload_n hx hb dX4_fifthStep_42 rfl (lv_at hl 0 rfl) ?_
    refine lv_iload_n hx hb dX4_fifthStep_43 rfl (lv_at hl 1 rfl) ?_
    refine va_ldcS hx hb hown (show vk_R RX4 92 "" (sa 40) s from sI_ref hI (i := 40) (by decide)) dX4_fifthStep_44 ?_
    refine xc_vv (As := [.int x1, .ref (sa 40)]) (rest := []) xG Fx (sX4_become l dC dI ad cI cZ sa sv lt_count lw_begin lw_end lw_depth lw_signed lw_led pr_written pr_within st_size tx_size tt_count tt_pieces tt_kinds lt_begins lt_marks st_word st_vowels tx_characters tt_begins tt_lengths tt_stemLengths tt_places tt_addresses tt_smalls tt_stems tt_slots tt_nexts x1 40 h) (cwV 2 hts gX4_fifthStep_X4_become rfl rfl rfl hdX4_become ⟨Nat.le_of_ble_eq_true rfl, Nat.le_of_ble_eq_true rfl⟩) (va_recv hK hP (ci := 3) (q0 := 3) rfl rfl) hK hP hD hS hA hI rfl hl.1 rfl (Nat.le_of_ble_eq_true rfl) dX4_fifthStep_46 ⟨Nat.zero_le _, Nat.zero_le _⟩ (fun u H locs h hP hD hS => ?_)
    obtain ⟨st_size_8, st_word_9, st_vowels_10⟩ := u
    have hP : va_P (dC, dI) vwCl (xW ad cI cZ lt_count lw_begin lw_end lw_depth lw_signed lw_led pr_written pr_within st_size_8 tx_size tt_count tt_pieces tt_kinds lt_begins lt_marks st_word_9 st_vowels_10 tx_characters tt_begins tt_lengths tt_stemLengths tt_places tt_addresses tt_smalls tt_stems tt_slots tt_nexts) H := hP
    have hD : va_D A (xW ad cI cZ lt_count lw_begin lw_end lw_depth lw_signed lw_led pr_written pr_within st_size_8 tx_size tt_count tt_pieces tt_kinds lt_begins lt_marks st_word_9 st_vowels_10 tx_characters tt_begins tt_lengths tt_stemLengths tt_places tt_addresses tt_smalls tt_stems tt_slots tt_nexts) := hD
    exact J49 st_size_8 st_word_9 st_vowels_10 H locs ls (lv_sub hl [0] rfl) hP hD hS h
  intro H locs hP hD hS
  delta wpX4_fifthStep at h
  refine lv_aload_n hx hb dX4_fifthStep_0 rfl (lv_at hl 0 rfl) ?_
  refine va_get (D := (dC, dI)) (ci := 3) (v := .int st_size) (C := RX4) (T := TX4) (N := 3) hx hb hts inX4 hown hK hP 3 rfl rfl 2 (by decide) (hts (.fieldLink RX4 19 "MailWords$Stemmer" "size" "I") (List.mem_of_getElem? (i := 1) rfl)) (fun _ h9 => h9) rfl dX4_fifthStep_1 ?_
  refine lv_iconst (v := 1) hx hb dX4_fifthStep_4 (by decide) ?_
  refine lv_isub hx hb dX4_fifthStep_5 ?_
  refine lv_topi (fun x1_11 ex1_11 => ?_)
  have h := h x1_11 ex1_11
  refine lv_istore_n (lv' := [(1, .int x1_11), (0, .ref (ad 3))]) hx hb dX4_fifthStep_6 rfl hl (by decide) rfl (fun ls hl => ?_)
  refine lv_aload_n hx hb dX4_fifthStep_7 rfl (lv_at hl 1 rfl) ?_
  refine va_ldcS hx hb hown (show vk_R RX4 167 "e" (sa 71) s from sI_ref hI (i := 71) (by decide)) dX4_fifthStep_8 ?_
  refine xc_vi (As := [.ref (sa 71)]) (rest := []) xG Fx (sX4_ends l dC dI ad cI cZ sa sv lt_count lw_begin lw_end lw_depth lw_signed lw_led pr_written pr_within st_size tx_size tt_count tt_pieces tt_kinds lt_begins lt_marks st_word st_vowels tx_characters tt_begins tt_lengths tt_stemLengths tt_places tt_addresses tt_smalls tt_stems tt_slots tt_nexts 71 h) (cwV 1 hts gX4_fifthStep_X4_ends rfl rfl rfl hdX4_ends ⟨Nat.le_of_ble_eq_true rfl, Nat.le_of_ble_eq_true rfl⟩) (va_recv hK hP (ci := 3) (q0 := 3) rfl rfl) hK hP hD hS hA hI rfl hl.1 rfl (Nat.le_of_ble_eq_true rfl) dX4_fifthStep_10 ⟨Nat.zero_le _, Nat.zero_le _⟩ (fun r_12 u H locs h hP hD hS => ?_)
  refine lv_if_eq (tgt := 49) hx hb dX4_fifthStep_13 (by decide) (fun c9 => ?_) (fun c9 => ?_)
  · have h := h.1 c9
    exact J49 st_size st_word st_vowels H locs ls (lv_sub hl [1] rfl) hP hD hS h
  · have h := h.2 c9
    refine lv_aload_n hx hb dX4_fifthStep_16 rfl (lv_at hl 1 rfl) ?_
    refine lv_iload_n hx hb dX4_fifthStep_17 rfl (lv_at hl 0 rfl) ?_
    refine xc_vi (As := [.int x1_11]) (rest := []) xG Fx (sX4_measure l dC dI ad cI cZ sa sv lt_count lw_begin lw_end lw_depth lw_signed lw_led pr_written pr_within st_size tx_size tt_count tt_pieces tt_kinds lt_begins lt_marks st_word st_vowels tx_characters tt_begins tt_lengths tt_stemLengths tt_places tt_addresses tt_smalls tt_stems tt_slots tt_nexts x1_11 h) (cwV 1 hts gX4_fifthStep_X4_measure rfl rfl rfl hdX4_measure ⟨Nat.le_of_ble_eq_true rfl, Nat.le_of_ble_eq_true rfl⟩) (va_recv hK hP (ci := 3) (q0 := 3) rfl rfl) hK hP hD hS hA hI rfl hl.1 rfl (Nat.le_of_ble_eq_true rfl) dX4_fifthStep_18 ⟨Nat.zero_le _, Nat.zero_le _⟩ (fun r_13 u H locs h hP hD hS => ?_)
    refine lv_iconst (v := 1) hx hb dX4_fifthStep_21 (by decide) ?_
    refine lv_icmp_gt (tgt := 42) hx hb dX4_fifthStep_22 (by decide) (fun c9 => ?_) (fun c9 => ?_)
    · have h := h.1 c9
      exact J42 st_size st_word st_vowels x1_11 H locs ls (lv_sub hl [1, 0] rfl) hP hD hS h
    · have h := h.2 c9
      refine lv_aload_n hx hb dX4_fifthStep_25 rfl (lv_at hl 1 rfl) ?_
      refine lv_iload_n hx hb dX4_fifthStep_26 rfl (lv_at hl 0 rfl) ?_
      refine xc_vi (As := [.int x1_11]) (rest := []) xG Fx (sX4_measure l dC dI ad cI cZ sa sv lt_count lw_begin lw_end lw_depth lw_signed lw_led pr_written pr_within st_size tx_size tt_count tt_pieces tt_kinds lt_begins lt_marks st_word st_vowels tx_characters tt_begins tt_lengths tt_stemLengths tt_places tt_addresses tt_smalls tt_stems tt_slots tt_nexts x1_11 h) (cwV 1 hts gX4_fifthStep_X4_measure rfl rfl rfl hdX4_measure ⟨Nat.le_of_ble_eq_true rfl, Nat.le_of_ble_eq_true rfl⟩) (va_recv hK hP (ci := 3) (q0 := 3) rfl rfl) hK hP hD hS hA hI rfl hl.1 rfl (Nat.le_of_ble_eq_true rfl) dX4_fifthStep_27 ⟨Nat.zero_le _, Nat.zero_le _⟩ (fun r_14 u H locs h hP hD hS => ?_)
      refine lv_iconst (v := 1) hx hb dX4_fifthStep_30 (by decide) ?_
      refine lv_icmp_ne (tgt := 49) hx hb dX4_fifthStep_31 (by decide) (fun c9 => ?_) (fun c9 => ?_)
      · have h := h.1 c9
        exact J49 st_size st_word st_vowels H locs ls (lv_sub hl [1] rfl) hP hD hS h
      · have h := h.2 c9
        refine lv_aload_n hx hb dX4_fifthStep_34 rfl (lv_at hl 1 rfl) ?_
        refine lv_iload_n hx hb dX4_fifthStep_35 rfl (lv_at hl 0 rfl) ?_
        refine xc_vi (As := [.int x1_11]) (rest := []) xG Fx (sX4_isCvc l dC dI ad cI cZ sa sv lt_count lw_begin lw_end lw_depth lw_signed lw_led pr_written pr_within st_size tx_size tt_count tt_pieces tt_kinds lt_begins lt_marks st_word st_vowels tx_characters tt_begins tt_lengths tt_stemLengths tt_places tt_addresses tt_smalls tt_stems tt_slots tt_nexts x1_11 h) (cwV 1 hts gX4_fifthStep_X4_isCvc rfl rfl rfl hdX4_isCvc ⟨Nat.le_of_ble_eq_true rfl, Nat.le_of_ble_eq_true rfl⟩) (va_recv hK hP (ci := 3) (q0 := 3) rfl rfl) hK hP hD hS hA hI rfl hl.1 rfl (Nat.le_of_ble_eq_true rfl) dX4_fifthStep_36 ⟨Nat.zero_le _, Nat.zero_le _⟩ (fun r_15 u H locs h hP hD hS => ?_)
        refine lv_if_ne (tgt := 49) hx hb dX4_fifthStep_39 (by decide) (fun c9 => ?_) (fun c9 => ?_)
        · have h := h.1 c9
          exact J49 st_size st_word st_vowels H locs ls (lv_sub hl [1] rfl) hP hD hS h
        · have h := h.2 c9
          exact J42 st_size st_word st_vowels x1_11 H locs ls (lv_sub hl [1, 0] rfl) hP hD hS h
