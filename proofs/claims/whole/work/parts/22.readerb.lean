set_option maxHeartbeats 4000000 in
set_option maxRecDepth 100000 in
theorem sX3_behindNext (l : Launch) (dC : Nat → ClassId) (dI : Nat → Nat → Nat) (ad : Nat → Nat) (cI cZ : ClassId) (sa sv : Nat → Nat) (lt_count : Int32) (lw_begin : Int32) (lw_end : Int32) (lw_depth : Int32) (lw_signed : Int32) (lw_led : Int32) (pr_written : Int32) (pr_within : Int32) (st_size : Int32) (tx_size : Int32) (tt_count : Int32) (tt_pieces : Int32) (tt_kinds : Int32) (lt_begins : Nat → Int32) (lt_marks : Nat → Int32) (st_word : Nat → Int32) (st_vowels : Nat → Int32) (tx_characters : Nat → Int32) (tt_begins : Nat → Int32) (tt_lengths : Nat → Int32) (tt_stemLengths : Nat → Int32) (tt_places : Nat → Int32) (tt_addresses : Nat → Int32) (tt_smalls : Nat → Int32) (tt_stems : Nat → Int32) (tt_slots : Nat → Int32) (tt_nexts : Nat → Int32) (x1 : Nat) (x2 : Int32) {post : Int32 → Prop} (h : wpX3_behindNext post tx_size tx_characters x1 x2) : xMi l (dC, dI) vwCl [(cI, .int), (cZ, .boolean)] (sI sa sv) yX3_behindNext wsX3_behindNext ({ frames := 5, cells := 0, slots := 0, locals := 108 }) (xW ad cI cZ lt_count lw_begin lw_end lw_depth lw_signed lw_led pr_written pr_within st_size tx_size tt_count tt_pieces tt_kinds lt_begins lt_marks st_word st_vowels tx_characters tt_begins tt_lengths tt_stemLengths tt_places tt_addresses tt_smalls tt_stems tt_slots tt_nexts) [.ref (ad 2), .ref (sa x1), .int x2] (fun (r : Int32) (u : Unit) => post r ) (fun u : Unit => (xW ad cI cZ lt_count lw_begin lw_end lw_depth lw_signed lw_led pr_written pr_within st_size tx_size tt_count tt_pieces tt_kinds lt_begins lt_marks st_word st_vowels tx_characters tt_begins tt_lengths tt_stemLengths tt_places tt_addresses tt_smalls tt_stems tt_slots tt_nexts)) := by
  intro sz
  refine Met.ofW (cc := cX3_behindNext) (maxL := 4) (ret := (some .int)) (by decide) rfl ?_
  intro p e s m args below meth c s₁ B hml hv
  obtain ⟨rfl, hsz, hP, hK, hD0, hI⟩ := hv
  have hx := B.exec
  have hb := B.bytes
  have hr := B.returns
  have hts := atoms_spec (ws := wsX3_behindNext) B.pre
  have hown : s.vm.findClass RX3 = some m.cls := findClass_of_methodNamed B.named
  have hlocks := B.notSynchronized
  subst hsz
  have hD := hD0.self (sz := s.heap.size)
  generalize hAe : va_A (xW ad cI cZ lt_count lw_begin lw_end lw_depth lw_signed lw_led pr_written pr_within st_size tx_size tt_count tt_pieces tt_kinds lt_begins lt_marks st_word st_vowels tx_characters tt_begins tt_lengths tt_stemLengths tt_places tt_addresses tt_smalls tt_stems tt_slots tt_nexts) s.heap.size = A at hD hI ⊢
  have hA : ∀ q : Nat, s.heap.size ≤ q → A q := fun q h => by rw [← hAe]; exact Or.inr h
  have hS : va_S A s.heap s.heap [] := va_S.rf
  have Fx : CallFix p m c cX3_behindNext 4 s ([.ref (ad 2), .ref (sa x1), .int x2] : List Value).toArray wsX3_behindNext RX3 := ⟨hx, hb, hml, hown, hts⟩
  have hQ : ∀ (r : Int32) (u : Unit) (t : State), (fun (r : Int32) (u : Unit) => post r ) r u → va_P (dC, dI) vwCl ((fun u : Unit => (xW ad cI cZ lt_count lw_begin lw_end lw_depth lw_signed lw_led pr_written pr_within st_size tx_size tt_count tt_pieces tt_kinds lt_begins lt_marks st_word st_vowels tx_characters tt_begins tt_lengths tt_stemLengths tt_places tt_addresses tt_smalls tt_stems tt_slots tt_nexts)) u) t.heap → va_K (dC, dI) vwCl [(cI, .int), (cZ, .boolean)] t → va_D A ((fun u : Unit => (xW ad cI cZ lt_count lw_begin lw_end lw_depth lw_signed lw_led pr_written pr_within st_size tx_size tt_count tt_pieces tt_kinds lt_begins lt_marks st_word st_vowels tx_characters tt_begins tt_lengths tt_stemLengths tt_places tt_addresses tt_smalls tt_stems tt_slots tt_nexts)) u) → va_F A s t → (va_Qi (fun (r : Int32) (u : Unit) => post r ) (xB (dC, dI) vwCl [(cI, .int), (cZ, .boolean)] A (fun u : Unit => (xW ad cI cZ lt_count lw_begin lw_end lw_depth lw_signed lw_led pr_written pr_within st_size tx_size tt_count tt_pieces tt_kinds lt_begins lt_marks st_word st_vowels tx_characters tt_begins tt_lengths tt_stemLengths tt_places tt_addresses tt_smalls tt_stems tt_slots tt_nexts))) A) ([.ref (ad 2), .ref (sa x1), .int x2] : List Value).toArray s (.returned (some (.int r))) t := fun r u t h1 h2 h3 h4 h5 => ⟨⟨r, u, rfl, h1, h2, h3, h4⟩, h5⟩
  generalize (va_Qi (fun (r : Int32) (u : Unit) => post r ) (xB (dC, dI) vwCl [(cI, .int), (cZ, .boolean)] A (fun u : Unit => (xW ad cI cZ lt_count lw_begin lw_end lw_depth lw_signed lw_led pr_written pr_within st_size tx_size tt_count tt_pieces tt_kinds lt_begins lt_marks st_word st_vowels tx_characters tt_begins tt_lengths tt_stemLengths tt_places tt_addresses tt_smalls tt_stems tt_slots tt_nexts))) A) = Qc at hQ ⊢
  have hl := lv_entry ([.ref (ad 2), .ref (sa x1), .int x2]) (n := 4) (Nat.le_of_ble_eq_true rfl)
  rw [lg_entry_eq]
  generalize (lg_sl ([.ref (ad 2), .ref (sa x1), .int x2]) ++ List.replicate (4 - (lg_sl ([.ref (ad 2), .ref (sa x1), .int x2])).length) Slot.unset).toArray = ls at hl ⊢
  have hl : lv_has ls 4 [(0, .ref (ad 2)), (1, .ref (sa x1)), (2, .int x2)] := hl
  refine (fun (key : ∀ (H : Heap) (locs : List Loc), va_P (dC, dI) vwCl (xW ad cI cZ lt_count lw_begin lw_end lw_depth lw_signed lw_led pr_written pr_within st_size tx_size tt_count tt_pieces tt_kinds lt_begins lt_marks st_word st_vowels tx_characters tt_begins tt_lengths tt_stemLengths tt_places tt_addresses tt_smalls tt_stems tt_slots tt_nexts) H → va_D A (xW ad cI cZ lt_count lw_begin lw_end lw_depth lw_signed lw_led pr_written pr_within st_size tx_size tt_count tt_pieces tt_kinds lt_begins lt_marks st_word st_vowels tx_characters tt_begins tt_lengths tt_stemLengths tt_places tt_addresses tt_smalls tt_stems tt_slots tt_nexts) → va_S A s.heap H locs → W p l e (headSpec wsX3_behindNext ({ frames := 5, cells := 0, slots := 0, locals := 108 })).room s m ([.ref (ad 2), .ref (sa x1), .int x2] : List Value).toArray below meth c H locs 0 0 (MQ below Qc ([.ref (ad 2), .ref (sa x1), .int x2] : List Value).toArray s 0 0 A) (F0 m 0 ls [])) => key _ _ hP hD hS) ?_
  have inX3 : ∀ w ∈ wsX30, w ∈ wsX3_behindNext := (fun _ h9 => List.mem_cons_of_mem _ (List.mem_append_left _ (List.mem_append_right _ h9)))
  have L2 : ∀ (n : Nat) (x3 : Int32) (H : Heap) (locs : List Loc) (ls : Array Slot), lv_has ls 4 [(0, .ref (ad 2)), (1, .ref (sa x1)), (3, .int x3)] → va_P (dC, dI) vwCl (xW ad cI cZ lt_count lw_begin lw_end lw_depth lw_signed lw_led pr_written pr_within st_size tx_size tt_count tt_pieces tt_kinds lt_begins lt_marks st_word st_vowels tx_characters tt_begins tt_lengths tt_stemLengths tt_places tt_addresses tt_smalls tt_stems tt_slots tt_nexts) H → va_D A (xW ad cI cZ lt_count lw_begin lw_end lw_depth lw_signed lw_led pr_written pr_within st_size tx_size tt_count tt_pieces tt_kinds lt_begins lt_marks st_word st_vowels tx_characters tt_begins tt_lengths tt_stemLengths tt_places tt_addresses tt_smalls tt_stems tt_slots tt_nexts) → va_S A s.heap H locs → wlX3_behindNext_2 post tx_size tx_characters x1 x2 n x3 → W p l e (headSpec wsX3_behindNext ({ frames := 5, cells := 0, slots := 0, locals := 108 })).room s m ([.ref (ad 2), .ref (sa x1), .int x2] : List Value).toArray below meth c H locs 0 0 (MQ below Qc ([.ref (ad 2), .ref (sa x1), .int x2] : List Value).toArray s 0 0 A) (F0 m 2 ls []) := by
    intro n
    induction n with
    | zero => intro x3 H locs ls _ _ _ _ h; exact absurd h (fun z => z)
    | succ n2 ih2 =>
      intro x3 H locs ls hl hP hD hS h
      rw [wlX3_behindNext_2] at h
      refine lv_iload_n hx hb dX3_behindNext_2 rfl (lv_at hl 2 rfl) ?_
      refine lv_aload_n hx hb dX3_behindNext_3 rfl (lv_at hl 0 rfl) ?_
      refine va_get (D := (dC, dI)) (ci := 2) (v := .ref (ad 4)) (C := RX3) (T := TX3) (N := 3) hx hb hts inX3 hown hK hP 2 rfl rfl 0 (by decide) (hts (.fieldLink RX3 9 "MailWords$PageReader" "text" "LMailWords$Text;") (List.mem_of_getElem? (i := 1) rfl)) (fun _ h9 => h9) rfl dX3_behindNext_4 ?_
      refine xc_vi (As := []) (rest := [.int x3]) xG Fx (sX5_size l dC dI ad cI cZ sa sv lt_count lw_begin lw_end lw_depth lw_signed lw_led pr_written pr_within st_size tx_size tt_count tt_pieces tt_kinds lt_begins lt_marks st_word st_vowels tx_characters tt_begins tt_lengths tt_stemLengths tt_places tt_addresses tt_smalls tt_stems tt_slots tt_nexts h) (cwV 0 hts gX3_behindNext_X5_size rfl rfl rfl hdX5_size ⟨Nat.le_of_ble_eq_true rfl, Nat.le_of_ble_eq_true rfl⟩) (va_recv hK hP (ci := 4) (q0 := 4) rfl rfl) hK hP hD hS hA hI rfl hl.1 rfl (Nat.le_of_ble_eq_true rfl) dX3_behindNext_7 ⟨Nat.zero_le _, Nat.zero_le _⟩ (fun r_1 u H locs h hP hD hS => ?_)
      refine lv_icmp_ge (tgt := 38) hx hb dX3_behindNext_10 (by decide) (fun c9 => ?_) (fun c9 => ?_)
      · have h := h.1 c9
        refine lv_aload_n hx hb dX3_behindNext_38 rfl (lv_at hl 0 rfl) ?_
        refine va_get (D := (dC, dI)) (ci := 2) (v := .ref (ad 4)) (C := RX3) (T := TX3) (N := 3) hx hb hts inX3 hown hK hP 2 rfl rfl 0 (by decide) (hts (.fieldLink RX3 9 "MailWords$PageReader" "text" "LMailWords$Text;") (List.mem_of_getElem? (i := 1) rfl)) (fun _ h9 => h9) rfl dX3_behindNext_39 ?_
        refine xc_vi (As := []) (rest := []) xG Fx (sX5_size l dC dI ad cI cZ sa sv lt_count lw_begin lw_end lw_depth lw_signed lw_led pr_written pr_within st_size tx_size tt_count tt_pieces tt_kinds lt_begins lt_marks st_word st_vowels tx_characters tt_begins tt_lengths tt_stemLengths tt_places tt_addresses tt_smalls tt_stems tt_slots tt_nexts h) (cwV 0 hts gX3_behindNext_X5_size rfl rfl rfl hdX5_size ⟨Nat.le_of_ble_eq_true rfl, Nat.le_of_ble_eq_true rfl⟩) (va_recv hK hP (ci := 4) (q0 := 4) rfl rfl) hK hP hD hS hA hI rfl hl.1 rfl (Nat.le_of_ble_eq_true rfl) dX3_behindNext_42 ⟨Nat.zero_le _, Nat.zero_le _⟩ (fun r_2 u H locs h hP hD hS => ?_)
        exact W.iret (v := r_2) hx hb hr (fun t ht hW => hQ r_2 () t h (by rw [ht]; exact hP) (va_K.moved hW.alike hK) hD (hS.F ht)) hS.2.2 dX3_behindNext_45
      · have h := h.2 c9
        refine lv_aload_n hx hb dX3_behindNext_13 rfl (lv_at hl 0 rfl) ?_
        refine va_get (D := (dC, dI)) (ci := 2) (v := .ref (ad 4)) (C := RX3) (T := TX3) (N := 3) hx hb hts inX3 hown hK hP 2 rfl rfl 0 (by decide) (hts (.fieldLink RX3 9 "MailWords$PageReader" "text" "LMailWords$Text;") (List.mem_of_getElem? (i := 1) rfl)) (fun _ h9 => h9) rfl dX3_behindNext_14 ?_
        refine lv_iload_n hx hb dX3_behindNext_17 rfl (lv_at hl 2 rfl) ?_
        refine lv_aload_n hx hb dX3_behindNext_18 rfl (lv_at hl 1 rfl) ?_
        refine xc_vi (As := [.int x3, .ref (sa x1)]) (rest := []) xG Fx (sX5_holds l dC dI ad cI cZ sa sv lt_count lw_begin lw_end lw_depth lw_signed lw_led pr_written pr_within st_size tx_size tt_count tt_pieces tt_kinds lt_begins lt_marks st_word st_vowels tx_characters tt_begins tt_lengths tt_stemLengths tt_places tt_addresses tt_smalls tt_stems tt_slots tt_nexts x3 x1 h) (cwV 2 hts gX3_behindNext_X5_holds rfl rfl rfl hdX5_holds ⟨Nat.le_of_ble_eq_true rfl, Nat.le_of_ble_eq_true rfl⟩) (va_recv hK hP (ci := 4) (q0 := 4) rfl rfl) hK hP hD hS hA hI rfl hl.1 rfl (Nat.le_of_ble_eq_true rfl) dX3_behindNext_19 ⟨Nat.zero_le _, Nat.zero_le _⟩ (fun r_3 u H locs h hP hD hS => ?_)
        refine lv_if_eq (tgt := 32) hx hb dX3_behindNext_22 (by decide) (fun c9 => ?_) (fun c9 => ?_)
        · have h := h.1 c9
          obtain ⟨x3_4, ex3_4⟩ : ∃ y : Int32, y = x3 + 1 := ⟨_, rfl⟩
          have h := h x3_4 ex3_4
          refine lv_iinc (v := x3_4) (lv' := [(3, .int x3_4), (0, .ref (ad 2)), (1, .ref (sa x1))]) hx hb dX3_behindNext_32 hl (k := 2) rfl (by rw [ex3_4]; rfl) (by decide) rfl (fun ls hl => ?_)
          refine lv_goto (tgt := 2) hx hb dX3_behindNext_35 (by decide) ?_
          exact ih2 x3_4 H locs ls (lv_sub hl [1, 2, 0] rfl) hP hD hS h
        · have h := h.2 c9
          refine lv_iload_n hx hb dX3_behindNext_25 rfl (lv_at hl 2 rfl) ?_
          refine lv_aload_n hx hb dX3_behindNext_26 rfl (lv_at hl 1 rfl) ?_
          have hs9 := h.1
          have h := h.2
          refine xc_vi (As := []) (rest := [.int x3]) xG Fx (sJ0_length_8abf5 l dC dI ad cI cZ sa sv lt_count lw_begin lw_end lw_depth lw_signed lw_led pr_written pr_within st_size tx_size tt_count tt_pieces tt_kinds lt_begins lt_marks st_word st_vowels tx_characters tt_begins tt_lengths tt_stemLengths tt_places tt_addresses tt_smalls tt_stems tt_slots tt_nexts x1 h) (cwV 0 hts gX3_behindNext_J0_length_8abf5 rfl rfl rfl hdJ0_length_8abf5 ⟨Nat.le_of_ble_eq_true rfl, Nat.le_of_ble_eq_true rfl⟩) (sI_recv hI hS hs9) hK hP hD hS hA hI rfl hl.1 rfl (Nat.le_of_ble_eq_true rfl) dX3_behindNext_27 ⟨Nat.zero_le _, Nat.zero_le _⟩ (fun r_5 u H locs h hP hD hS => ?_)
          refine lv_iadd hx hb dX3_behindNext_30 ?_
          exact W.iret (v := (x3 + r_5)) hx hb hr (fun t ht hW => hQ (x3 + r_5) () t h (by rw [ht]; exact hP) (va_K.moved hW.alike hK) hD (hS.F ht)) hS.2.2 dX3_behindNext_31
  intro H locs hP hD hS
  delta wpX3_behindNext at h
  refine lv_iload_n hx hb dX3_behindNext_0 rfl (lv_at hl 2 rfl) ?_
  refine lv_istore_n (lv' := [(3, .int x2), (0, .ref (ad 2)), (1, .ref (sa x1)), (2, .int x2)]) hx hb dX3_behindNext_1 rfl hl (by decide) rfl (fun ls hl => ?_)
  obtain ⟨n, h⟩ := h
  exact L2  n x2 H locs ls (lv_sub hl [1, 2, 0] rfl) hP hD hS h
set_option maxHeartbeats 4000000 in
set_option maxRecDepth 100000 in
theorem sX3_readMark (l : Launch) (dC : Nat → ClassId) (dI : Nat → Nat → Nat) (ad : Nat → Nat) (cI cZ : ClassId) (sa sv : Nat → Nat) (lt_count : Int32) (lw_begin : Int32) (lw_end : Int32) (lw_depth : Int32) (lw_signed : Int32) (lw_led : Int32) (pr_written : Int32) (pr_within : Int32) (st_size : Int32) (tx_size : Int32) (tt_count : Int32) (tt_pieces : Int32) (tt_kinds : Int32) (lt_begins : Nat → Int32) (lt_marks : Nat → Int32) (st_word : Nat → Int32) (st_vowels : Nat → Int32) (tx_characters : Nat → Int32) (tt_begins : Nat → Int32) (tt_lengths : Nat → Int32) (tt_stemLengths : Nat → Int32) (tt_places : Nat → Int32) (tt_addresses : Nat → Int32) (tt_smalls : Nat → Int32) (tt_stems : Nat → Int32) (tt_slots : Nat → Int32) (tt_nexts : Nat → Int32) (x1 : Int32) {post : Int32 → Int32 → (Nat → Int32) → Prop} (h : wpX3_readMark post pr_written tx_size tx_characters x1) : xMi l (dC, dI) vwCl [(cI, .int), (cZ, .boolean)] (sI sa sv) yX3_readMark wsX3_readMark ({ frames := 6, cells := 0, slots := 0, locals := 131 }) (xW ad cI cZ lt_count lw_begin lw_end lw_depth lw_signed lw_led pr_written pr_within st_size tx_size tt_count tt_pieces tt_kinds lt_begins lt_marks st_word st_vowels tx_characters tt_begins tt_lengths tt_stemLengths tt_places tt_addresses tt_smalls tt_stems tt_slots tt_nexts) [.ref (ad 2), .int x1] (fun (r : Int32) (u : Int32 × (Nat → Int32)) => post r u.1 u.2) (fun u : Int32 × (Nat → Int32) => (xW ad cI cZ lt_count lw_begin lw_end lw_depth lw_signed lw_led u.1 pr_within st_size tx_size tt_count tt_pieces tt_kinds lt_begins lt_marks st_word st_vowels u.2 tt_begins tt_lengths tt_stemLengths tt_places tt_addresses tt_smalls tt_stems tt_slots tt_nexts)) := by
  intro sz
  refine Met.ofW (cc := cX3_readMark) (maxL := 2) (ret := (some .int)) (by decide) rfl ?_
  intro p e s m args below meth c s₁ B hml hv
  obtain ⟨rfl, hsz, hP, hK, hD0, hI⟩ := hv
  have hx := B.exec
  have hb := B.bytes
  have hr := B.returns
  have hts := atoms_spec (ws := wsX3_readMark) B.pre
  have hown : s.vm.findClass RX3 = some m.cls := findClass_of_methodNamed B.named
  have hlocks := B.notSynchronized
  subst hsz
  have hD := hD0.self (sz := s.heap.size)
  generalize hAe : va_A (xW ad cI cZ lt_count lw_begin lw_end lw_depth lw_signed lw_led pr_written pr_within st_size tx_size tt_count tt_pieces tt_kinds lt_begins lt_marks st_word st_vowels tx_characters tt_begins tt_lengths tt_stemLengths tt_places tt_addresses tt_smalls tt_stems tt_slots tt_nexts) s.heap.size = A at hD hI ⊢
  have hA : ∀ q : Nat, s.heap.size ≤ q → A q := fun q h => by rw [← hAe]; exact Or.inr h
  have hS : va_S A s.heap s.heap [] := va_S.rf
  have Fx : CallFix p m c cX3_readMark 2 s ([.ref (ad 2), .int x1] : List Value).toArray wsX3_readMark RX3 := ⟨hx, hb, hml, hown, hts⟩
  have hQ : ∀ (r : Int32) (u : Int32 × (Nat → Int32)) (t : State), (fun (r : Int32) (u : Int32 × (Nat → Int32)) => post r u.1 u.2) r u → va_P (dC, dI) vwCl ((fun u : Int32 × (Nat → Int32) => (xW ad cI cZ lt_count lw_begin lw_end lw_depth lw_signed lw_led u.1 pr_within st_size tx_size tt_count tt_pieces tt_kinds lt_begins lt_marks st_word st_vowels u.2 tt_begins tt_lengths tt_stemLengths tt_places tt_addresses tt_smalls tt_stems tt_slots tt_nexts)) u) t.heap → va_K (dC, dI) vwCl [(cI, .int), (cZ, .boolean)] t → va_D A ((fun u : Int32 × (Nat → Int32) => (xW ad cI cZ lt_count lw_begin lw_end lw_depth lw_signed lw_led u.1 pr_within st_size tx_size tt_count tt_pieces tt_kinds lt_begins lt_marks st_word st_vowels u.2 tt_begins tt_lengths tt_stemLengths tt_places tt_addresses tt_smalls tt_stems tt_slots tt_nexts)) u) → va_F A s t → (va_Qi (fun (r : Int32) (u : Int32 × (Nat → Int32)) => post r u.1 u.2) (xB (dC, dI) vwCl [(cI, .int), (cZ, .boolean)] A (fun u : Int32 × (Nat → Int32) => (xW ad cI cZ lt_count lw_begin lw_end lw_depth lw_signed lw_led u.1 pr_within st_size tx_size tt_count tt_pieces tt_kinds lt_begins lt_marks st_word st_vowels u.2 tt_begins tt_lengths tt_stemLengths tt_places tt_addresses tt_smalls tt_stems tt_slots tt_nexts))) A) ([.ref (ad 2), .int x1] : List Value).toArray s (.returned (some (.int r))) t := fun r u t h1 h2 h3 h4 h5 => ⟨⟨r, u, rfl, h1, h2, h3, h4⟩, h5⟩
  generalize (va_Qi (fun (r : Int32) (u : Int32 × (Nat → Int32)) => post r u.1 u.2) (xB (dC, dI) vwCl [(cI, .int), (cZ, .boolean)] A (fun u : Int32 × (Nat → Int32) => (xW ad cI cZ lt_count lw_begin lw_end lw_depth lw_signed lw_led u.1 pr_within st_size tx_size tt_count tt_pieces tt_kinds lt_begins lt_marks st_word st_vowels u.2 tt_begins tt_lengths tt_stemLengths tt_places tt_addresses tt_smalls tt_stems tt_slots tt_nexts))) A) = Qc at hQ ⊢
  have hl := lv_entry ([.ref (ad 2), .int x1]) (n := 2) (Nat.le_of_ble_eq_true rfl)
  rw [lg_entry_eq]
  generalize (lg_sl ([.ref (ad 2), .int x1]) ++ List.replicate (2 - (lg_sl ([.ref (ad 2), .int x1])).length) Slot.unset).toArray = ls at hl ⊢
  have hl : lv_has ls 2 [(0, .ref (ad 2)), (1, .int x1)] := hl
  refine (fun (key : ∀ (H : Heap) (locs : List Loc), va_P (dC, dI) vwCl (xW ad cI cZ lt_count lw_begin lw_end lw_depth lw_signed lw_led pr_written pr_within st_size tx_size tt_count tt_pieces tt_kinds lt_begins lt_marks st_word st_vowels tx_characters tt_begins tt_lengths tt_stemLengths tt_places tt_addresses tt_smalls tt_stems tt_slots tt_nexts) H → va_D A (xW ad cI cZ lt_count lw_begin lw_end lw_depth lw_signed lw_led pr_written pr_within st_size tx_size tt_count tt_pieces tt_kinds lt_begins lt_marks st_word st_vowels tx_characters tt_begins tt_lengths tt_stemLengths tt_places tt_addresses tt_smalls tt_stems tt_slots tt_nexts) → va_S A s.heap H locs → W p l e (headSpec wsX3_readMark ({ frames := 6, cells := 0, slots := 0, locals := 131 })).room s m ([.ref (ad 2), .int x1] : List Value).toArray below meth c H locs 0 0 (MQ below Qc ([.ref (ad 2), .int x1] : List Value).toArray s 0 0 A) (F0 m 0 ls [])) => key _ _ hP hD hS) ?_
  have inX3 : ∀ w ∈ wsX30, w ∈ wsX3_readMark := (fun _ h9 => List.mem_cons_of_mem _ (List.mem_append_left _ (List.mem_append_right _ h9)))
  have J53 : ∀ (pr_written : Int32) (tx_characters : Nat → Int32) (H : Heap) (locs : List Loc) (ls : Array Slot), lv_has ls 2 [(0, .ref (ad 2)), (1, .int x1)] → va_P (dC, dI) vwCl (xW ad cI cZ lt_count lw_begin lw_end lw_depth lw_signed lw_led pr_written pr_within st_size tx_size tt_count tt_pieces tt_kinds lt_begins lt_marks st_word st_vowels tx_characters tt_begins tt_lengths tt_stemLengths tt_places tt_addresses tt_smalls tt_stems tt_slots tt_nexts) H → va_D A (xW ad cI cZ lt_count lw_begin lw_end lw_depth lw_signed lw_led pr_written pr_within st_size tx_size tt_count tt_pieces tt_kinds lt_begins lt_marks st_word st_vowels tx_characters tt_begins tt_lengths tt_stemLengths tt_places tt_addresses tt_smalls tt_stems tt_slots tt_nexts) → va_S A s.heap H locs → wjX3_readMark_53 post tx_size x1 pr_written tx_characters → W p l e (headSpec wsX3_readMark ({ frames := 6, cells := 0, slots := 0, locals := 131 })).room s m ([.ref (ad 2), .int x1] : List Value).toArray below meth c H locs 0 0 (MQ below Qc ([.ref (ad 2), .int x1] : List Value).toArray s 0 0 A) (F0 m 53 ls []) := by
    intro pr_written tx_characters H locs ls hl hP hD hS h
    delta wjX3_readMark_53 at h
    refine lv_aload_n hx hb dX3_readMark_53 rfl (lv_at hl 0 rfl) ?_
    refine va_ldcS hx hb hown (show vk_R RX3 88 ">" (sa 20) s from sI_ref hI (i := 20) (by decide)) dX3_readMark_54 ?_
    refine lv_iload_n hx hb dX3_readMark_56 rfl (lv_at hl 1 rfl) ?_
    refine lv_iconst (v := 2) hx hb dX3_readMark_57 (by decide) ?_
    refine lv_iadd hx hb dX3_readMark_58 ?_
    refine xc_vi (As := [.ref (sa 20), .int (x1 + 2)]) (rest := []) xG Fx (sX3_behindNext l dC dI ad cI cZ sa sv lt_count lw_begin lw_end lw_depth lw_signed lw_led pr_written pr_within st_size tx_size tt_count tt_pieces tt_kinds lt_begins lt_marks st_word st_vowels tx_characters tt_begins tt_lengths tt_stemLengths tt_places tt_addresses tt_smalls tt_stems tt_slots tt_nexts 20 (x1 + 2) h) (cwV 2 hts gX3_readMark_X3_behindNext rfl rfl rfl hdX3_behindNext ⟨Nat.le_of_ble_eq_true rfl, Nat.le_of_ble_eq_true rfl⟩) (va_recv hK hP (ci := 2) (q0 := 2) rfl rfl) hK hP hD hS hA hI rfl hl.1 rfl (Nat.le_of_ble_eq_true rfl) dX3_readMark_59 ⟨Nat.zero_le _, Nat.zero_le _⟩ (fun r_1 u H locs h hP hD hS => ?_)
    exact W.iret (v := r_1) hx hb hr (fun t ht hW => hQ r_1 (pr_written, tx_characters) t h (by rw [ht]; exact hP) (va_K.moved hW.alike hK) hD (hS.F ht)) hS.2.2 dX3_readMark_62
  intro H locs hP hD hS
  delta wpX3_readMark at h
  refine lv_aload_n hx hb dX3_readMark_0 rfl (lv_at hl 0 rfl) ?_
  refine va_get (D := (dC, dI)) (ci := 2) (v := .ref (ad 4)) (C := RX3) (T := TX3) (N := 3) hx hb hts inX3 hown hK hP 2 rfl rfl 0 (by decide) (hts (.fieldLink RX3 9 "MailWords$PageReader" "text" "LMailWords$Text;") (List.mem_of_getElem? (i := 1) rfl)) (fun _ h9 => h9) rfl dX3_readMark_1 ?_
  refine lv_iload_n hx hb dX3_readMark_4 rfl (lv_at hl 1 rfl) ?_
  refine va_ldcS hx hb hown (show vk_R RX3 80 "<!--" (sa 18) s from sI_ref hI (i := 18) (by decide)) dX3_readMark_5 ?_
  refine xc_vi (As := [.int x1, .ref (sa 18)]) (rest := []) xG Fx (sX5_holds l dC dI ad cI cZ sa sv lt_count lw_begin lw_end lw_depth lw_signed lw_led pr_written pr_within st_size tx_size tt_count tt_pieces tt_kinds lt_begins lt_marks st_word st_vowels tx_characters tt_begins tt_lengths tt_stemLengths tt_places tt_addresses tt_smalls tt_stems tt_slots tt_nexts x1 18 h) (cwV 2 hts gX3_readMark_X5_holds rfl rfl rfl hdX5_holds ⟨Nat.le_of_ble_eq_true rfl, Nat.le_of_ble_eq_true rfl⟩) (va_recv hK hP (ci := 4) (q0 := 4) rfl rfl) hK hP hD hS hA hI rfl hl.1 rfl (Nat.le_of_ble_eq_true rfl) dX3_readMark_7 ⟨Nat.zero_le _, Nat.zero_le _⟩ (fun r_2 u H locs h hP hD hS => ?_)
  refine lv_if_eq (tgt := 23) hx hb dX3_readMark_10 (by decide) (fun c9 => ?_) (fun c9 => ?_)
  · have h := h.1 c9
    refine lv_aload_n hx hb dX3_readMark_23 rfl (lv_at hl 0 rfl) ?_
    refine va_get (D := (dC, dI)) (ci := 2) (v := .ref (ad 4)) (C := RX3) (T := TX3) (N := 3) hx hb hts inX3 hown hK hP 2 rfl rfl 0 (by decide) (hts (.fieldLink RX3 9 "MailWords$PageReader" "text" "LMailWords$Text;") (List.mem_of_getElem? (i := 1) rfl)) (fun _ h9 => h9) rfl dX3_readMark_24 ?_
    refine lv_iload_n hx hb dX3_readMark_27 rfl (lv_at hl 1 rfl) ?_
    refine lv_iconst (v := 1) hx hb dX3_readMark_28 (by decide) ?_
    refine lv_iadd hx hb dX3_readMark_29 ?_
    refine xc_vi (As := [.int (x1 + 1)]) (rest := []) xG Fx (sX5_get l dC dI ad cI cZ sa sv lt_count lw_begin lw_end lw_depth lw_signed lw_led pr_written pr_within st_size tx_size tt_count tt_pieces tt_kinds lt_begins lt_marks st_word st_vowels tx_characters tt_begins tt_lengths tt_stemLengths tt_places tt_addresses tt_smalls tt_stems tt_slots tt_nexts (x1 + 1) h) (cwV 1 hts gX3_readMark_X5_get rfl rfl rfl hdX5_get ⟨Nat.le_of_ble_eq_true rfl, Nat.le_of_ble_eq_true rfl⟩) (va_recv hK hP (ci := 4) (q0 := 4) rfl rfl) hK hP hD hS hA hI rfl hl.1 rfl (Nat.le_of_ble_eq_true rfl) dX3_readMark_30 ⟨Nat.zero_le _, Nat.zero_le _⟩ (fun r_3 u H locs h hP hD hS => ?_)
    refine lv_bipush (v := 33) hx hb dX3_readMark_33 (by decide) ?_
    refine lv_icmp_eq (tgt := 53) hx hb dX3_readMark_35 (by decide) (fun c9 => ?_) (fun c9 => ?_)
    · have h := h.1 c9
      exact J53 pr_written tx_characters H locs ls (lv_sub hl [0, 1] rfl) hP hD hS h
    · have h := h.2 c9
      refine lv_aload_n hx hb dX3_readMark_38 rfl (lv_at hl 0 rfl) ?_
      refine va_get (D := (dC, dI)) (ci := 2) (v := .ref (ad 4)) (C := RX3) (T := TX3) (N := 3) hx hb hts inX3 hown hK hP 2 rfl rfl 0 (by decide) (hts (.fieldLink RX3 9 "MailWords$PageReader" "text" "LMailWords$Text;") (List.mem_of_getElem? (i := 1) rfl)) (fun _ h9 => h9) rfl dX3_readMark_39 ?_
      refine lv_iload_n hx hb dX3_readMark_42 rfl (lv_at hl 1 rfl) ?_
      refine lv_iconst (v := 1) hx hb dX3_readMark_43 (by decide) ?_
      refine lv_iadd hx hb dX3_readMark_44 ?_
      refine xc_vi (As := [.int (x1 + 1)]) (rest := []) xG Fx (sX5_get l dC dI ad cI cZ sa sv lt_count lw_begin lw_end lw_depth lw_signed lw_led pr_written pr_within st_size tx_size tt_count tt_pieces tt_kinds lt_begins lt_marks st_word st_vowels tx_characters tt_begins tt_lengths tt_stemLengths tt_places tt_addresses tt_smalls tt_stems tt_slots tt_nexts (x1 + 1) h) (cwV 1 hts gX3_readMark_X5_get rfl rfl rfl hdX5_get ⟨Nat.le_of_ble_eq_true rfl, Nat.le_of_ble_eq_true rfl⟩) (va_recv hK hP (ci := 4) (q0 := 4) rfl rfl) hK hP hD hS hA hI rfl hl.1 rfl (Nat.le_of_ble_eq_true rfl) dX3_readMark_45 ⟨Nat.zero_le _, Nat.zero_le _⟩ (fun r_4 u H locs h hP hD hS => ?_)
      refine lv_bipush (v := 63) hx hb dX3_readMark_48 (by decide) ?_
      refine lv_icmp_ne (tgt := 63) hx hb dX3_readMark_50 (by decide) (fun c9 => ?_) (fun c9 => ?_)
      · have h := h.1 c9
        refine lv_aload_n hx hb dX3_readMark_63 rfl (lv_at hl 0 rfl) ?_
        refine lv_bipush (v := 60) hx hb dX3_readMark_64 (by decide) ?_
        refine xc_vv (As := [.int 60]) (rest := []) xG Fx (sX3_write l dC dI ad cI cZ sa sv lt_count lw_begin lw_end lw_depth lw_signed lw_led pr_written pr_within st_size tx_size tt_count tt_pieces tt_kinds lt_begins lt_marks st_word st_vowels tx_characters tt_begins tt_lengths tt_stemLengths tt_places tt_addresses tt_smalls tt_stems tt_slots tt_nexts 60 h) (cwV 1 hts gX3_readMark_X3_write rfl rfl rfl hdX3_write ⟨Nat.le_of_ble_eq_true rfl, Nat.le_of_ble_eq_true rfl⟩) (va_recv hK hP (ci := 2) (q0 := 2) rfl rfl) hK hP hD hS hA hI rfl hl.1 rfl (Nat.le_of_ble_eq_true rfl) dX3_readMark_66 ⟨Nat.zero_le _, Nat.zero_le _⟩ (fun u H locs h hP hD hS => ?_)
        obtain ⟨pr_written_6, tx_characters_7⟩ := u
        have hP : va_P (dC, dI) vwCl (xW ad cI cZ lt_count lw_begin lw_end lw_depth lw_signed lw_led pr_written_6 pr_within st_size tx_size tt_count tt_pieces tt_kinds lt_begins lt_marks st_word st_vowels tx_characters_7 tt_begins tt_lengths tt_stemLengths tt_places tt_addresses tt_smalls tt_stems tt_slots tt_nexts) H := hP
        have hD : va_D A (xW ad cI cZ lt_count lw_begin lw_end lw_depth lw_signed lw_led pr_written_6 pr_within st_size tx_size tt_count tt_pieces tt_kinds lt_begins lt_marks st_word st_vowels tx_characters_7 tt_begins tt_lengths tt_stemLengths tt_places tt_addresses tt_smalls tt_stems tt_slots tt_nexts) := hD
        refine lv_iload_n hx hb dX3_readMark_69 rfl (lv_at hl 1 rfl) ?_
        refine lv_iconst (v := 1) hx hb dX3_readMark_70 (by decide) ?_
        refine lv_iadd hx hb dX3_readMark_71 ?_
        exact W.iret (v := (x1 + 1)) hx hb hr (fun t ht hW => hQ (x1 + 1) (pr_written_6, tx_characters_7) t h (by rw [ht]; exact hP) (va_K.moved hW.alike hK) hD (hS.F ht)) hS.2.2 dX3_readMark_72
      · have h := h.2 c9
        exact J53 pr_written tx_characters H locs ls (lv_sub hl [0, 1] rfl) hP hD hS h
  · have h := h.2 c9
    refine lv_aload_n hx hb dX3_readMark_13 rfl (lv_at hl 0 rfl) ?_
    refine va_ldcS hx hb hown (show vk_R RX3 82 "-->" (sa 19) s from sI_ref hI (i := 19) (by decide)) dX3_readMark_14 ?_
    refine lv_iload_n hx hb dX3_readMark_16 rfl (lv_at hl 1 rfl) ?_
    refine lv_iconst (v := 4) hx hb dX3_readMark_17 (by decide) ?_
    refine lv_iadd hx hb dX3_readMark_18 ?_
    refine xc_vi (As := [.ref (sa 19), .int (x1 + 4)]) (rest := []) xG Fx (sX3_behindNext l dC dI ad cI cZ sa sv lt_count lw_begin lw_end lw_depth lw_signed lw_led pr_written pr_within st_size tx_size tt_count tt_pieces tt_kinds lt_begins lt_marks st_word st_vowels tx_characters tt_begins tt_lengths tt_stemLengths tt_places tt_addresses tt_smalls tt_stems tt_slots tt_nexts 19 (x1 + 4) h) (cwV 2 hts gX3_readMark_X3_behindNext rfl rfl rfl hdX3_behindNext ⟨Nat.le_of_ble_eq_true rfl, Nat.le_of_ble_eq_true rfl⟩) (va_recv hK hP (ci := 2) (q0 := 2) rfl rfl) hK hP hD hS hA hI rfl hl.1 rfl (Nat.le_of_ble_eq_true rfl) dX3_readMark_19 ⟨Nat.zero_le _, Nat.zero_le _⟩ (fun r_8 u H locs h hP hD hS => ?_)
    exact W.iret (v := r_8) hx hb hr (fun t ht hW => hQ r_8 (pr_written, tx_characters) t h (by rw [ht]; exact hP) (va_K.moved hW.alike hK) hD (hS.F ht)) hS.2.2 dX3_readMark_22
set_option maxHeartbeats 4000000 in
set_option maxRecDepth 100000 in
theorem sX3_worth (l : Launch) (dC : Nat → ClassId) (dI : Nat → Nat → Nat) (ad : Nat → Nat) (cI cZ : ClassId) (sa sv : Nat → Nat) (lt_count : Int32) (lw_begin : Int32) (lw_end : Int32) (lw_depth : Int32) (lw_signed : Int32) (lw_led : Int32) (pr_written : Int32) (pr_within : Int32) (st_size : Int32) (tx_size : Int32) (tt_count : Int32) (tt_pieces : Int32) (tt_kinds : Int32) (lt_begins : Nat → Int32) (lt_marks : Nat → Int32) (st_word : Nat → Int32) (st_vowels : Nat → Int32) (tx_characters : Nat → Int32) (tt_begins : Nat → Int32) (tt_lengths : Nat → Int32) (tt_stemLengths : Nat → Int32) (tt_places : Nat → Int32) (tt_addresses : Nat → Int32) (tt_smalls : Nat → Int32) (tt_stems : Nat → Int32) (tt_slots : Nat → Int32) (tt_nexts : Nat → Int32) (x0 : Int32) (x1 : Int32) {post : Int32 → Prop} (h : wpX3_worth post x0 x1) : xMi l (dC, dI) vwCl [(cI, .int), (cZ, .boolean)] (sI sa sv) yX3_worth wsX3_worth ({ frames := 1, cells := 0, slots := 0, locals := 20 }) (xW ad cI cZ lt_count lw_begin lw_end lw_depth lw_signed lw_led pr_written pr_within st_size tx_size tt_count tt_pieces tt_kinds lt_begins lt_marks st_word st_vowels tx_characters tt_begins tt_lengths tt_stemLengths tt_places tt_addresses tt_smalls tt_stems tt_slots tt_nexts) [.int x0, .int x1] (fun (r : Int32) (u : Unit) => post r ) (fun u : Unit => (xW ad cI cZ lt_count lw_begin lw_end lw_depth lw_signed lw_led pr_written pr_within st_size tx_size tt_count tt_pieces tt_kinds lt_begins lt_marks st_word st_vowels tx_characters tt_begins tt_lengths tt_stemLengths tt_places tt_addresses tt_smalls tt_stems tt_slots tt_nexts)) := by
  intro sz
  refine Met.ofW (cc := cX3_worth) (maxL := 2) (ret := (some .int)) (by decide) rfl ?_
  intro p e s m args below meth c s₁ B hml hv
  obtain ⟨rfl, hsz, hP, hK, hD0, hI⟩ := hv
  have hx := B.exec
  have hb := B.bytes
  have hr := B.returns
  have hts := atoms_spec (ws := wsX3_worth) B.pre
  have hown : s.vm.findClass RX3 = some m.cls := findClass_of_methodNamed B.named
  have hlocks := B.notSynchronized
  subst hsz
  have hD := hD0.self (sz := s.heap.size)
  generalize hAe : va_A (xW ad cI cZ lt_count lw_begin lw_end lw_depth lw_signed lw_led pr_written pr_within st_size tx_size tt_count tt_pieces tt_kinds lt_begins lt_marks st_word st_vowels tx_characters tt_begins tt_lengths tt_stemLengths tt_places tt_addresses tt_smalls tt_stems tt_slots tt_nexts) s.heap.size = A at hD hI ⊢
  have hA : ∀ q : Nat, s.heap.size ≤ q → A q := fun q h => by rw [← hAe]; exact Or.inr h
  have hS : va_S A s.heap s.heap [] := va_S.rf
  have Fx : CallFix p m c cX3_worth 2 s ([.int x0, .int x1] : List Value).toArray wsX3_worth RX3 := ⟨hx, hb, hml, hown, hts⟩
  have hQ : ∀ (r : Int32) (u : Unit) (t : State), (fun (r : Int32) (u : Unit) => post r ) r u → va_P (dC, dI) vwCl ((fun u : Unit => (xW ad cI cZ lt_count lw_begin lw_end lw_depth lw_signed lw_led pr_written pr_within st_size tx_size tt_count tt_pieces tt_kinds lt_begins lt_marks st_word st_vowels tx_characters tt_begins tt_lengths tt_stemLengths tt_places tt_addresses tt_smalls tt_stems tt_slots tt_nexts)) u) t.heap → va_K (dC, dI) vwCl [(cI, .int), (cZ, .boolean)] t → va_D A ((fun u : Unit => (xW ad cI cZ lt_count lw_begin lw_end lw_depth lw_signed lw_led pr_written pr_within st_size tx_size tt_count tt_pieces tt_kinds lt_begins lt_marks st_word st_vowels tx_characters tt_begins tt_lengths tt_stemLengths tt_places tt_addresses tt_smalls tt_stems tt_slots tt_nexts)) u) → va_F A s t → (va_Qi (fun (r : Int32) (u : Unit) => post r ) (xB (dC, dI) vwCl [(cI, .int), (cZ, .boolean)] A (fun u : Unit => (xW ad cI cZ lt_count lw_begin lw_end lw_depth lw_signed lw_led pr_written pr_within st_size tx_size tt_count tt_pieces tt_kinds lt_begins lt_marks st_word st_vowels tx_characters tt_begins tt_lengths tt_stemLengths tt_places tt_addresses tt_smalls tt_stems tt_slots tt_nexts))) A) ([.int x0, .int x1] : List Value).toArray s (.returned (some (.int r))) t := fun r u t h1 h2 h3 h4 h5 => ⟨⟨r, u, rfl, h1, h2, h3, h4⟩, h5⟩
  generalize (va_Qi (fun (r : Int32) (u : Unit) => post r ) (xB (dC, dI) vwCl [(cI, .int), (cZ, .boolean)] A (fun u : Unit => (xW ad cI cZ lt_count lw_begin lw_end lw_depth lw_signed lw_led pr_written pr_within st_size tx_size tt_count tt_pieces tt_kinds lt_begins lt_marks st_word st_vowels tx_characters tt_begins tt_lengths tt_stemLengths tt_places tt_addresses tt_smalls tt_stems tt_slots tt_nexts))) A) = Qc at hQ ⊢
  have hl := lv_entry ([.int x0, .int x1]) (n := 2) (Nat.le_of_ble_eq_true rfl)
  rw [lg_entry_eq]
  generalize (lg_sl ([.int x0, .int x1]) ++ List.replicate (2 - (lg_sl ([.int x0, .int x1])).length) Slot.unset).toArray = ls at hl ⊢
  have hl : lv_has ls 2 [(0, .int x0), (1, .int x1)] := hl
  refine (fun (key : ∀ (H : Heap) (locs : List Loc), va_P (dC, dI) vwCl (xW ad cI cZ lt_count lw_begin lw_end lw_depth lw_signed lw_led pr_written pr_within st_size tx_size tt_count tt_pieces tt_kinds lt_begins lt_marks st_word st_vowels tx_characters tt_begins tt_lengths tt_stemLengths tt_places tt_addresses tt_smalls tt_stems tt_slots tt_nexts) H → va_D A (xW ad cI cZ lt_count lw_begin lw_end lw_depth lw_signed lw_led pr_written pr_within st_size tx_size tt_count tt_pieces tt_kinds lt_begins lt_marks st_word st_vowels tx_characters tt_begins tt_lengths tt_stemLengths tt_places tt_addresses tt_smalls tt_stems tt_slots tt_nexts) → va_S A s.heap H locs → W p l e (headSpec wsX3_worth ({ frames := 1, cells := 0, slots := 0, locals := 20 })).room s m ([.int x0, .int x1] : List Value).toArray below meth c H locs 0 0 (MQ below Qc ([.int x0, .int x1] : List Value).toArray s 0 0 A) (F0 m 0 ls [])) => key _ _ hP hD hS) ?_
  have J38 : ∀ (H : Heap) (locs : List Loc) (ls : Array Slot), lv_has ls 2 [(0, .int x0), (1, .int x1)] → va_P (dC, dI) vwCl (xW ad cI cZ lt_count lw_begin lw_end lw_depth lw_signed lw_led pr_written pr_within st_size tx_size tt_count tt_pieces tt_kinds lt_begins lt_marks st_word st_vowels tx_characters tt_begins tt_lengths tt_stemLengths tt_places tt_addresses tt_smalls tt_stems tt_slots tt_nexts) H → va_D A (xW ad cI cZ lt_count lw_begin lw_end lw_depth lw_signed lw_led pr_written pr_within st_size tx_size tt_count tt_pieces tt_kinds lt_begins lt_marks st_word st_vowels tx_characters tt_begins tt_lengths tt_stemLengths tt_places tt_addresses tt_smalls tt_stems tt_slots tt_nexts) → va_S A s.heap H locs → wjX3_worth_38 post x0 x1  → W p l e (headSpec wsX3_worth ({ frames := 1, cells := 0, slots := 0, locals := 20 })).room s m ([.int x0, .int x1] : List Value).toArray below meth c H locs 0 0 (MQ below Qc ([.int x0, .int x1] : List Value).toArray s 0 0 A) (F0 m 38 ls []) := by
    intro  H locs ls hl hP hD hS h
    delta wjX3_worth_38 at h
    refine lv_iload_n hx hb dX3_worth_38 rfl (lv_at hl 1 rfl) ?_
    refine lv_bipush (v := 16) hx hb dX3_worth_39 (by decide) ?_
    refine lv_icmp_ne (tgt := 66) hx hb dX3_worth_41 (by decide) (fun c9 => ?_) (fun c9 => ?_)
    · have h := h.1 c9
      refine lv_iconst (v := (-1)) hx hb dX3_worth_66 (by decide) ?_
      exact W.iret (v := (-1)) hx hb hr (fun t ht hW => hQ (-1) () t h (by rw [ht]; exact hP) (va_K.moved hW.alike hK) hD (hS.F ht)) hS.2.2 dX3_worth_67
    · have h := h.2 c9
      refine lv_iload_n hx hb dX3_worth_44 rfl (lv_at hl 0 rfl) ?_
      refine lv_bipush (v := 65) hx hb dX3_worth_45 (by decide) ?_
      refine lv_icmp_lt (tgt := 66) hx hb dX3_worth_47 (by decide) (fun c9 => ?_) (fun c9 => ?_)
      · have h := h.1 c9
        refine lv_iconst (v := (-1)) hx hb dX3_worth_66 (by decide) ?_
        exact W.iret (v := (-1)) hx hb hr (fun t ht hW => hQ (-1) () t h (by rw [ht]; exact hP) (va_K.moved hW.alike hK) hD (hS.F ht)) hS.2.2 dX3_worth_67
      · have h := h.2 c9
        refine lv_iload_n hx hb dX3_worth_50 rfl (lv_at hl 0 rfl) ?_
        refine lv_bipush (v := 70) hx hb dX3_worth_51 (by decide) ?_
        refine lv_icmp_gt (tgt := 66) hx hb dX3_worth_53 (by decide) (fun c9 => ?_) (fun c9 => ?_)
        · have h := h.1 c9
          refine lv_iconst (v := (-1)) hx hb dX3_worth_66 (by decide) ?_
          exact W.iret (v := (-1)) hx hb hr (fun t ht hW => hQ (-1) () t h (by rw [ht]; exact hP) (va_K.moved hW.alike hK) hD (hS.F ht)) hS.2.2 dX3_worth_67
        · have h := h.2 c9
          refine lv_iload_n hx hb dX3_worth_56 rfl (lv_at hl 0 rfl) ?_
          refine lv_bipush (v := 65) hx hb dX3_worth_57 (by decide) ?_
          refine lv_isub hx hb dX3_worth_59 ?_
          refine lv_bipush (v := 10) hx hb dX3_worth_60 (by decide) ?_
          refine lv_iadd hx hb dX3_worth_62 ?_
          refine lv_goto (tgt := 67) hx hb dX3_worth_63 (by decide) ?_
          exact W.iret (v := ((x0 - 65) + 10)) hx hb hr (fun t ht hW => hQ ((x0 - 65) + 10) () t h (by rw [ht]; exact hP) (va_K.moved hW.alike hK) hD (hS.F ht)) hS.2.2 dX3_worth_67
  intro H locs hP hD hS
  delta wpX3_worth at h
  refine lv_iload_n hx hb dX3_worth_0 rfl (lv_at hl 0 rfl) ?_
  refine xc_si (As := [.int x0]) (rest := []) xG Fx (sX0_isDigit l dC dI ad cI cZ sa sv lt_count lw_begin lw_end lw_depth lw_signed lw_led pr_written pr_within st_size tx_size tt_count tt_pieces tt_kinds lt_begins lt_marks st_word st_vowels tx_characters tt_begins tt_lengths tt_stemLengths tt_places tt_addresses tt_smalls tt_stems tt_slots tt_nexts x0 h) (va_cwS 1 hts gX3_worth_X0_isDigit rfl rfl rfl hdX0_isDigit ⟨Nat.le_of_ble_eq_true rfl, Nat.le_of_ble_eq_true rfl⟩) hK hP hD hS hA hI rfl hl.1 rfl (Nat.le_of_ble_eq_true rfl) dX3_worth_1 ⟨Nat.zero_le _, Nat.zero_le _⟩ (fun r_1 u H locs h hP hD hS => ?_)
  refine lv_if_eq (tgt := 12) hx hb dX3_worth_4 (by decide) (fun c9 => ?_) (fun c9 => ?_)
  · have h := h.1 c9
    refine lv_iload_n hx hb dX3_worth_12 rfl (lv_at hl 1 rfl) ?_
    refine lv_bipush (v := 16) hx hb dX3_worth_13 (by decide) ?_
    refine lv_icmp_ne (tgt := 38) hx hb dX3_worth_15 (by decide) (fun c9 => ?_) (fun c9 => ?_)
    · have h := h.1 c9
      exact J38  H locs ls (lv_sub hl [0, 1] rfl) hP hD hS h
    · have h := h.2 c9
      refine lv_iload_n hx hb dX3_worth_18 rfl (lv_at hl 0 rfl) ?_
      refine lv_bipush (v := 97) hx hb dX3_worth_19 (by decide) ?_
      refine lv_icmp_lt (tgt := 38) hx hb dX3_worth_21 (by decide) (fun c9 => ?_) (fun c9 => ?_)
      · have h := h.1 c9
        exact J38  H locs ls (lv_sub hl [0, 1] rfl) hP hD hS h
      · have h := h.2 c9
        refine lv_iload_n hx hb dX3_worth_24 rfl (lv_at hl 0 rfl) ?_
        refine lv_bipush (v := 102) hx hb dX3_worth_25 (by decide) ?_
        refine lv_icmp_gt (tgt := 38) hx hb dX3_worth_27 (by decide) (fun c9 => ?_) (fun c9 => ?_)
        · have h := h.1 c9
          exact J38  H locs ls (lv_sub hl [0, 1] rfl) hP hD hS h
        · have h := h.2 c9
          refine lv_iload_n hx hb dX3_worth_30 rfl (lv_at hl 0 rfl) ?_
          refine lv_bipush (v := 97) hx hb dX3_worth_31 (by decide) ?_
          refine lv_isub hx hb dX3_worth_33 ?_
          refine lv_bipush (v := 10) hx hb dX3_worth_34 (by decide) ?_
          refine lv_iadd hx hb dX3_worth_36 ?_
          exact W.iret (v := ((x0 - 97) + 10)) hx hb hr (fun t ht hW => hQ ((x0 - 97) + 10) () t h (by rw [ht]; exact hP) (va_K.moved hW.alike hK) hD (hS.F ht)) hS.2.2 dX3_worth_37
  · have h := h.2 c9
    refine lv_iload_n hx hb dX3_worth_7 rfl (lv_at hl 0 rfl) ?_
    refine lv_bipush (v := 48) hx hb dX3_worth_8 (by decide) ?_
    refine lv_isub hx hb dX3_worth_10 ?_
    exact W.iret (v := (x0 - 48)) hx hb hr (fun t ht hW => hQ (x0 - 48) () t h (by rw [ht]; exact hP) (va_K.moved hW.alike hK) hD (hS.F ht)) hS.2.2 dX3_worth_11
set_option maxHeartbeats 4000000 in
set_option maxRecDepth 100000 in
theorem sX3_readNumber (l : Launch) (dC : Nat → ClassId) (dI : Nat → Nat → Nat) (ad : Nat → Nat) (cI cZ : ClassId) (sa sv : Nat → Nat) (lt_count : Int32) (lw_begin : Int32) (lw_end : Int32) (lw_depth : Int32) (lw_signed : Int32) (lw_led : Int32) (pr_written : Int32) (pr_within : Int32) (st_size : Int32) (tx_size : Int32) (tt_count : Int32) (tt_pieces : Int32) (tt_kinds : Int32) (lt_begins : Nat → Int32) (lt_marks : Nat → Int32) (st_word : Nat → Int32) (st_vowels : Nat → Int32) (tx_characters : Nat → Int32) (tt_begins : Nat → Int32) (tt_lengths : Nat → Int32) (tt_stemLengths : Nat → Int32) (tt_places : Nat → Int32) (tt_addresses : Nat → Int32) (tt_smalls : Nat → Int32) (tt_stems : Nat → Int32) (tt_slots : Nat → Int32) (tt_nexts : Nat → Int32) (x1 : Int32) {post : Int32 → Int32 → (Nat → Int32) → Prop} (h : wpX3_readNumber post pr_written tx_size tx_characters x1) : xMi l (dC, dI) vwCl [(cI, .int), (cZ, .boolean)] (sI sa sv) yX3_readNumber wsX3_readNumber ({ frames := 2, cells := 0, slots := 0, locals := 43 }) (xW ad cI cZ lt_count lw_begin lw_end lw_depth lw_signed lw_led pr_written pr_within st_size tx_size tt_count tt_pieces tt_kinds lt_begins lt_marks st_word st_vowels tx_characters tt_begins tt_lengths tt_stemLengths tt_places tt_addresses tt_smalls tt_stems tt_slots tt_nexts) [.ref (ad 2), .int x1] (fun (r : Int32) (u : Int32 × (Nat → Int32)) => post r u.1 u.2) (fun u : Int32 × (Nat → Int32) => (xW ad cI cZ lt_count lw_begin lw_end lw_depth lw_signed lw_led u.1 pr_within st_size tx_size tt_count tt_pieces tt_kinds lt_begins lt_marks st_word st_vowels u.2 tt_begins tt_lengths tt_stemLengths tt_places tt_addresses tt_smalls tt_stems tt_slots tt_nexts)) := by
  intro sz
  refine Met.ofW (cc := cX3_readNumber) (maxL := 9) (ret := (some .int)) (by decide) rfl ?_
  intro p e s m args below meth c s₁ B hml hv
  obtain ⟨rfl, hsz, hP, hK, hD0, hI⟩ := hv
  have hx := B.exec
  have hb := B.bytes
  have hr := B.returns
  have hts := atoms_spec (ws := wsX3_readNumber) B.pre
  have hown : s.vm.findClass RX3 = some m.cls := findClass_of_methodNamed B.named
  have hlocks := B.notSynchronized
  subst hsz
  have hD := hD0.self (sz := s.heap.size)
  generalize hAe : va_A (xW ad cI cZ lt_count lw_begin lw_end lw_depth lw_signed lw_led pr_written pr_within st_size tx_size tt_count tt_pieces tt_kinds lt_begins lt_marks st_word st_vowels tx_characters tt_begins tt_lengths tt_stemLengths tt_places tt_addresses tt_smalls tt_stems tt_slots tt_nexts) s.heap.size = A at hD hI ⊢
  have hA : ∀ q : Nat, s.heap.size ≤ q → A q := fun q h => by rw [← hAe]; exact Or.inr h
  have hS : va_S A s.heap s.heap [] := va_S.rf
  have Fx : CallFix p m c cX3_readNumber 9 s ([.ref (ad 2), .int x1] : List Value).toArray wsX3_readNumber RX3 := ⟨hx, hb, hml, hown, hts⟩
  have hQ : ∀ (r : Int32) (u : Int32 × (Nat → Int32)) (t : State), (fun (r : Int32) (u : Int32 × (Nat → Int32)) => post r u.1 u.2) r u → va_P (dC, dI) vwCl ((fun u : Int32 × (Nat → Int32) => (xW ad cI cZ lt_count lw_begin lw_end lw_depth lw_signed lw_led u.1 pr_within st_size tx_size tt_count tt_pieces tt_kinds lt_begins lt_marks st_word st_vowels u.2 tt_begins tt_lengths tt_stemLengths tt_places tt_addresses tt_smalls tt_stems tt_slots tt_nexts)) u) t.heap → va_K (dC, dI) vwCl [(cI, .int), (cZ, .boolean)] t → va_D A ((fun u : Int32 × (Nat → Int32) => (xW ad cI cZ lt_count lw_begin lw_end lw_depth lw_signed lw_led u.1 pr_within st_size tx_size tt_count tt_pieces tt_kinds lt_begins lt_marks st_word st_vowels u.2 tt_begins tt_lengths tt_stemLengths tt_places tt_addresses tt_smalls tt_stems tt_slots tt_nexts)) u) → va_F A s t → (va_Qi (fun (r : Int32) (u : Int32 × (Nat → Int32)) => post r u.1 u.2) (xB (dC, dI) vwCl [(cI, .int), (cZ, .boolean)] A (fun u : Int32 × (Nat → Int32) => (xW ad cI cZ lt_count lw_begin lw_end lw_depth lw_signed lw_led u.1 pr_within st_size tx_size tt_count tt_pieces tt_kinds lt_begins lt_marks st_word st_vowels u.2 tt_begins tt_lengths tt_stemLengths tt_places tt_addresses tt_smalls tt_stems tt_slots tt_nexts))) A) ([.ref (ad 2), .int x1] : List Value).toArray s (.returned (some (.int r))) t := fun r u t h1 h2 h3 h4 h5 => ⟨⟨r, u, rfl, h1, h2, h3, h4⟩, h5⟩
  generalize (va_Qi (fun (r : Int32) (u : Int32 × (Nat → Int32)) => post r u.1 u.2) (xB (dC, dI) vwCl [(cI, .int), (cZ, .boolean)] A (fun u : Int32 × (Nat → Int32) => (xW ad cI cZ lt_count lw_begin lw_end lw_depth lw_signed lw_led u.1 pr_within st_size tx_size tt_count tt_pieces tt_kinds lt_begins lt_marks st_word st_vowels u.2 tt_begins tt_lengths tt_stemLengths tt_places tt_addresses tt_smalls tt_stems tt_slots tt_nexts))) A) = Qc at hQ ⊢
  have hl := lv_entry ([.ref (ad 2), .int x1]) (n := 9) (Nat.le_of_ble_eq_true rfl)
  rw [lg_entry_eq]
  generalize (lg_sl ([.ref (ad 2), .int x1]) ++ List.replicate (9 - (lg_sl ([.ref (ad 2), .int x1])).length) Slot.unset).toArray = ls at hl ⊢
  have hl : lv_has ls 9 [(0, .ref (ad 2)), (1, .int x1)] := hl
  refine (fun (key : ∀ (H : Heap) (locs : List Loc), va_P (dC, dI) vwCl (xW ad cI cZ lt_count lw_begin lw_end lw_depth lw_signed lw_led pr_written pr_within st_size tx_size tt_count tt_pieces tt_kinds lt_begins lt_marks st_word st_vowels tx_characters tt_begins tt_lengths tt_stemLengths tt_places tt_addresses tt_smalls tt_stems tt_slots tt_nexts) H → va_D A (xW ad cI cZ lt_count lw_begin lw_end lw_depth lw_signed lw_led pr_written pr_within st_size tx_size tt_count tt_pieces tt_kinds lt_begins lt_marks st_word st_vowels tx_characters tt_begins tt_lengths tt_stemLengths tt_places tt_addresses tt_smalls tt_stems tt_slots tt_nexts) → va_S A s.heap H locs → W p l e (headSpec wsX3_readNumber ({ frames := 2, cells := 0, slots := 0, locals := 43 })).room s m ([.ref (ad 2), .int x1] : List Value).toArray below meth c H locs 0 0 (MQ below Qc ([.ref (ad 2), .int x1] : List Value).toArray s 0 0 A) (F0 m 0 ls [])) => key _ _ hP hD hS) ?_
  have inX3 : ∀ w ∈ wsX30, w ∈ wsX3_readNumber := (fun _ h9 => List.mem_cons_of_mem _ (List.mem_append_left _ (List.mem_append_right _ h9)))
  have J210 : ∀ (pr_written : Int32) (tx_characters : Nat → Int32) (x7 : Int32) (s0 : Int32) (H : Heap) (locs : List Loc) (ls : Array Slot), lv_has ls 9 [(0, .ref (ad 2)), (7, .int x7)] → va_P (dC, dI) vwCl (xW ad cI cZ lt_count lw_begin lw_end lw_depth lw_signed lw_led pr_written pr_within st_size tx_size tt_count tt_pieces tt_kinds lt_begins lt_marks st_word st_vowels tx_characters tt_begins tt_lengths tt_stemLengths tt_places tt_addresses tt_smalls tt_stems tt_slots tt_nexts) H → va_D A (xW ad cI cZ lt_count lw_begin lw_end lw_depth lw_signed lw_led pr_written pr_within st_size tx_size tt_count tt_pieces tt_kinds lt_begins lt_marks st_word st_vowels tx_characters tt_begins tt_lengths tt_stemLengths tt_places tt_addresses tt_smalls tt_stems tt_slots tt_nexts) → va_S A s.heap H locs → wjX3_readNumber_210 post tx_size x1 pr_written tx_characters x7 s0 → W p l e (headSpec wsX3_readNumber ({ frames := 2, cells := 0, slots := 0, locals := 43 })).room s m ([.ref (ad 2), .int x1] : List Value).toArray below meth c H locs 0 0 (MQ below Qc ([.ref (ad 2), .int x1] : List Value).toArray s 0 0 A) (F0 m 210 ls [.int s0, .ref (ad 2)]) := by
    intro pr_written tx_characters x7 s0 H locs ls hl hP hD hS h
    delta wjX3_readNumber_210 at h
    refine xc_vv (As := [.int s0]) (rest := []) xG Fx (sX3_write l dC dI ad cI cZ sa sv lt_count lw_begin lw_end lw_depth lw_signed lw_led pr_written pr_within st_size tx_size tt_count tt_pieces tt_kinds lt_begins lt_marks st_word st_vowels tx_characters tt_begins tt_lengths tt_stemLengths tt_places tt_addresses tt_smalls tt_stems tt_slots tt_nexts s0 h) (cwV 1 hts gX3_readNumber_X3_write rfl rfl rfl hdX3_write ⟨Nat.le_of_ble_eq_true rfl, Nat.le_of_ble_eq_true rfl⟩) (va_recv hK hP (ci := 2) (q0 := 2) rfl rfl) hK hP hD hS hA hI rfl hl.1 rfl (Nat.le_of_ble_eq_true rfl) dX3_readNumber_210 ⟨Nat.zero_le _, Nat.zero_le _⟩ (fun u H locs h hP hD hS => ?_)
    obtain ⟨pr_written_2, tx_characters_3⟩ := u
    have hP : va_P (dC, dI) vwCl (xW ad cI cZ lt_count lw_begin lw_end lw_depth lw_signed lw_led pr_written_2 pr_within st_size tx_size tt_count tt_pieces tt_kinds lt_begins lt_marks st_word st_vowels tx_characters_3 tt_begins tt_lengths tt_stemLengths tt_places tt_addresses tt_smalls tt_stems tt_slots tt_nexts) H := hP
    have hD : va_D A (xW ad cI cZ lt_count lw_begin lw_end lw_depth lw_signed lw_led pr_written_2 pr_within st_size tx_size tt_count tt_pieces tt_kinds lt_begins lt_marks st_word st_vowels tx_characters_3 tt_begins tt_lengths tt_stemLengths tt_places tt_addresses tt_smalls tt_stems tt_slots tt_nexts) := hD
    refine lv_aload_n hx hb dX3_readNumber_213 rfl (lv_at hl 0 rfl) ?_
    refine va_get (D := (dC, dI)) (ci := 2) (v := .ref (ad 4)) (C := RX3) (T := TX3) (N := 3) hx hb hts inX3 hown hK hP 2 rfl rfl 0 (by decide) (hts (.fieldLink RX3 9 "MailWords$PageReader" "text" "LMailWords$Text;") (List.mem_of_getElem? (i := 1) rfl)) (fun _ h9 => h9) rfl dX3_readNumber_214 ?_
    refine lv_iload hx hb dX3_readNumber_217 (lv_at hl 1 rfl) ?_
    refine xc_vi (As := [.int x7]) (rest := []) xG Fx (sX5_get l dC dI ad cI cZ sa sv lt_count lw_begin lw_end lw_depth lw_signed lw_led pr_written_2 pr_within st_size tx_size tt_count tt_pieces tt_kinds lt_begins lt_marks st_word st_vowels tx_characters_3 tt_begins tt_lengths tt_stemLengths tt_places tt_addresses tt_smalls tt_stems tt_slots tt_nexts x7 h) (cwV 1 hts gX3_readNumber_X5_get rfl rfl rfl hdX5_get ⟨Nat.le_of_ble_eq_true rfl, Nat.le_of_ble_eq_true rfl⟩) (va_recv hK hP (ci := 4) (q0 := 4) rfl rfl) hK hP hD hS hA hI rfl hl.1 rfl (Nat.le_of_ble_eq_true rfl) dX3_readNumber_219 ⟨Nat.zero_le _, Nat.zero_le _⟩ (fun r_4 u H locs h hP hD hS => ?_)
    refine lv_bipush (v := 59) hx hb dX3_readNumber_222 (by decide) ?_
    refine lv_icmp_ne (tgt := 234) hx hb dX3_readNumber_224 (by decide) (fun c9 => ?_) (fun c9 => ?_)
    · have h := h.1 c9
      refine lv_iload hx hb dX3_readNumber_234 (lv_at hl 1 rfl) ?_
      exact W.iret (v := x7) hx hb hr (fun t ht hW => hQ x7 (pr_written_2, tx_characters_3) t h (by rw [ht]; exact hP) (va_K.moved hW.alike hK) hD (hS.F ht)) hS.2.2 dX3_readNumber_236
    · have h := h.2 c9
      refine lv_iload hx hb dX3_readNumber_227 (lv_at hl 1 rfl) ?_
      refine lv_iconst (v := 1) hx hb dX3_readNumber_229 (by decide) ?_
      refine lv_iadd hx hb dX3_readNumber_230 ?_
      refine lv_goto (tgt := 236) hx hb dX3_readNumber_231 (by decide) ?_
      exact W.iret (v := (x7 + 1)) hx hb hr (fun t ht hW => hQ (x7 + 1) (pr_written_2, tx_characters_3) t h (by rw [ht]; exact hP) (va_K.moved hW.alike hK) hD (hS.F ht)) hS.2.2 dX3_readNumber_236
  have J195 : ∀ (pr_written : Int32) (tx_characters : Nat → Int32) (x6 : Int32) (x7 : Int32) (s0 : Int32) (H : Heap) (locs : List Loc) (ls : Array Slot), lv_has ls 9 [(0, .ref (ad 2)), (6, .int x6), (7, .int x7)] → va_P (dC, dI) vwCl (xW ad cI cZ lt_count lw_begin lw_end lw_depth lw_signed lw_led pr_written pr_within st_size tx_size tt_count tt_pieces tt_kinds lt_begins lt_marks st_word st_vowels tx_characters tt_begins tt_lengths tt_stemLengths tt_places tt_addresses tt_smalls tt_stems tt_slots tt_nexts) H → va_D A (xW ad cI cZ lt_count lw_begin lw_end lw_depth lw_signed lw_led pr_written pr_within st_size tx_size tt_count tt_pieces tt_kinds lt_begins lt_marks st_word st_vowels tx_characters tt_begins tt_lengths tt_stemLengths tt_places tt_addresses tt_smalls tt_stems tt_slots tt_nexts) → va_S A s.heap H locs → wjX3_readNumber_195 post tx_size x1 pr_written tx_characters x6 x7 s0 → W p l e (headSpec wsX3_readNumber ({ frames := 2, cells := 0, slots := 0, locals := 43 })).room s m ([.ref (ad 2), .int x1] : List Value).toArray below meth c H locs 0 0 (MQ below Qc ([.ref (ad 2), .int x1] : List Value).toArray s 0 0 A) (F0 m 195 ls [.int s0]) := by
    intro pr_written tx_characters x6 x7 s0 H locs ls hl hP hD hS h
    delta wjX3_readNumber_195 at h
    refine lv_istore (lv' := [(8, .int s0), (0, .ref (ad 2)), (6, .int x6), (7, .int x7)]) hx hb dX3_readNumber_195 hl (by decide) rfl (fun ls hl => ?_)
    refine lv_aload_n hx hb dX3_readNumber_197 rfl (lv_at hl 1 rfl) ?_
    refine lv_iload hx hb dX3_readNumber_198 (lv_at hl 0 rfl) ?_
    refine lv_if_eq (tgt := 208) hx hb dX3_readNumber_200 (by decide) (fun c9 => ?_) (fun c9 => ?_)
    · have h := h.1 c9
      refine lv_iload hx hb dX3_readNumber_208 (lv_at hl 2 rfl) ?_
      exact J210 pr_written tx_characters x7 x6 H locs ls (lv_sub hl [1, 3] rfl) hP hD hS h
    · have h := h.2 c9
      refine lv_ldc (v := 65533) hx hb hown (hts (.constant RX3 168 (65533)) (List.mem_of_getElem? (i := 5) rfl)) dX3_readNumber_203 ?_
      refine lv_goto (tgt := 210) hx hb dX3_readNumber_205 (by decide) ?_
      exact J210 pr_written tx_characters x7 65533 H locs ls (lv_sub hl [1, 3] rfl) hP hD hS h
  have J194 : ∀ (pr_written : Int32) (tx_characters : Nat → Int32) (x6 : Int32) (x7 : Int32) (H : Heap) (locs : List Loc) (ls : Array Slot), lv_has ls 9 [(0, .ref (ad 2)), (6, .int x6), (7, .int x7)] → va_P (dC, dI) vwCl (xW ad cI cZ lt_count lw_begin lw_end lw_depth lw_signed lw_led pr_written pr_within st_size tx_size tt_count tt_pieces tt_kinds lt_begins lt_marks st_word st_vowels tx_characters tt_begins tt_lengths tt_stemLengths tt_places tt_addresses tt_smalls tt_stems tt_slots tt_nexts) H → va_D A (xW ad cI cZ lt_count lw_begin lw_end lw_depth lw_signed lw_led pr_written pr_within st_size tx_size tt_count tt_pieces tt_kinds lt_begins lt_marks st_word st_vowels tx_characters tt_begins tt_lengths tt_stemLengths tt_places tt_addresses tt_smalls tt_stems tt_slots tt_nexts) → va_S A s.heap H locs → wjX3_readNumber_194 post tx_size x1 pr_written tx_characters x6 x7 → W p l e (headSpec wsX3_readNumber ({ frames := 2, cells := 0, slots := 0, locals := 43 })).room s m ([.ref (ad 2), .int x1] : List Value).toArray below meth c H locs 0 0 (MQ below Qc ([.ref (ad 2), .int x1] : List Value).toArray s 0 0 A) (F0 m 194 ls []) := by
    intro pr_written tx_characters x6 x7 H locs ls hl hP hD hS h
    delta wjX3_readNumber_194 at h
    refine lv_iconst (v := 0) hx hb dX3_readNumber_194 (by decide) ?_
    exact J195 pr_written tx_characters x6 x7 0 H locs ls (lv_sub hl [0, 1, 2] rfl) hP hD hS h
  have J190 : ∀ (pr_written : Int32) (tx_characters : Nat → Int32) (x6 : Int32) (x7 : Int32) (H : Heap) (locs : List Loc) (ls : Array Slot), lv_has ls 9 [(0, .ref (ad 2)), (6, .int x6), (7, .int x7)] → va_P (dC, dI) vwCl (xW ad cI cZ lt_count lw_begin lw_end lw_depth lw_signed lw_led pr_written pr_within st_size tx_size tt_count tt_pieces tt_kinds lt_begins lt_marks st_word st_vowels tx_characters tt_begins tt_lengths tt_stemLengths tt_places tt_addresses tt_smalls tt_stems tt_slots tt_nexts) H → va_D A (xW ad cI cZ lt_count lw_begin lw_end lw_depth lw_signed lw_led pr_written pr_within st_size tx_size tt_count tt_pieces tt_kinds lt_begins lt_marks st_word st_vowels tx_characters tt_begins tt_lengths tt_stemLengths tt_places tt_addresses tt_smalls tt_stems tt_slots tt_nexts) → va_S A s.heap H locs → wjX3_readNumber_190 post tx_size x1 pr_written tx_characters x6 x7 → W p l e (headSpec wsX3_readNumber ({ frames := 2, cells := 0, slots := 0, locals := 43 })).room s m ([.ref (ad 2), .int x1] : List Value).toArray below meth c H locs 0 0 (MQ below Qc ([.ref (ad 2), .int x1] : List Value).toArray s 0 0 A) (F0 m 190 ls []) := by
    intro pr_written tx_characters x6 x7 H locs ls hl hP hD hS h
    delta wjX3_readNumber_190 at h
    refine lv_iconst (v := 1) hx hb dX3_readNumber_190 (by decide) ?_
    refine lv_goto (tgt := 195) hx hb dX3_readNumber_191 (by decide) ?_
    exact J195 pr_written tx_characters x6 x7 1 H locs ls (lv_sub hl [0, 1, 2] rfl) hP hD hS h
  have J154 : ∀ (pr_written : Int32) (tx_characters : Nat → Int32) (H : Heap) (locs : List Loc) (ls : Array Slot), lv_has ls 9 [(0, .ref (ad 2)), (1, .int x1)] → va_P (dC, dI) vwCl (xW ad cI cZ lt_count lw_begin lw_end lw_depth lw_signed lw_led pr_written pr_within st_size tx_size tt_count tt_pieces tt_kinds lt_begins lt_marks st_word st_vowels tx_characters tt_begins tt_lengths tt_stemLengths tt_places tt_addresses tt_smalls tt_stems tt_slots tt_nexts) H → va_D A (xW ad cI cZ lt_count lw_begin lw_end lw_depth lw_signed lw_led pr_written pr_within st_size tx_size tt_count tt_pieces tt_kinds lt_begins lt_marks st_word st_vowels tx_characters tt_begins tt_lengths tt_stemLengths tt_places tt_addresses tt_smalls tt_stems tt_slots tt_nexts) → va_S A s.heap H locs → wjX3_readNumber_154 post tx_size x1 pr_written tx_characters → W p l e (headSpec wsX3_readNumber ({ frames := 2, cells := 0, slots := 0, locals := 43 })).room s m ([.ref (ad 2), .int x1] : List Value).toArray below meth c H locs 0 0 (MQ below Qc ([.ref (ad 2), .int x1] : List Value).toArray s 0 0 A) (F0 m 154 ls []) := by
    intro pr_written tx_characters H locs ls hl hP hD hS h
    delta wjX3_readNumber_154 at h
    refine lv_aload_n hx hb dX3_readNumber_154 rfl (lv_at hl 0 rfl) ?_
    refine lv_bipush (v := 38) hx hb dX3_readNumber_155 (by decide) ?_
    refine xc_vv (As := [.int 38]) (rest := []) xG Fx (sX3_write l dC dI ad cI cZ sa sv lt_count lw_begin lw_end lw_depth lw_signed lw_led pr_written pr_within st_size tx_size tt_count tt_pieces tt_kinds lt_begins lt_marks st_word st_vowels tx_characters tt_begins tt_lengths tt_stemLengths tt_places tt_addresses tt_smalls tt_stems tt_slots tt_nexts 38 h) (cwV 1 hts gX3_readNumber_X3_write rfl rfl rfl hdX3_write ⟨Nat.le_of_ble_eq_true rfl, Nat.le_of_ble_eq_true rfl⟩) (va_recv hK hP (ci := 2) (q0 := 2) rfl rfl) hK hP hD hS hA hI rfl hl.1 rfl (Nat.le_of_ble_eq_true rfl) dX3_readNumber_157 ⟨Nat.zero_le _, Nat.zero_le _⟩ (fun u H locs h hP hD hS => ?_)
    obtain ⟨pr_written_6, tx_characters_7⟩ := u
    have hP : va_P (dC, dI) vwCl (xW ad cI cZ lt_count lw_begin lw_end lw_depth lw_signed lw_led pr_written_6 pr_within st_size tx_size tt_count tt_pieces tt_kinds lt_begins lt_marks st_word st_vowels tx_characters_7 tt_begins tt_lengths tt_stemLengths tt_places tt_addresses tt_smalls tt_stems tt_slots tt_nexts) H := hP
    have hD : va_D A (xW ad cI cZ lt_count lw_begin lw_end lw_depth lw_signed lw_led pr_written_6 pr_within st_size tx_size tt_count tt_pieces tt_kinds lt_begins lt_marks st_word st_vowels tx_characters_7 tt_begins tt_lengths tt_stemLengths tt_places tt_addresses tt_smalls tt_stems tt_slots tt_nexts) := hD
    refine lv_iload_n hx hb dX3_readNumber_160 rfl (lv_at hl 1 rfl) ?_
    refine lv_iconst (v := 1) hx hb dX3_readNumber_161 (by decide) ?_
    refine lv_iadd hx hb dX3_readNumber_162 ?_
    exact W.iret (v := (x1 + 1)) hx hb hr (fun t ht hW => hQ (x1 + 1) (pr_written_6, tx_characters_7) t h (by rw [ht]; exact hP) (va_K.moved hW.alike hK) hD (hS.F ht)) hS.2.2 dX3_readNumber_163
  have J139 : ∀ (pr_written : Int32) (tx_characters : Nat → Int32) (x3 : Int32) (x5 : Int32) (x6 : Int32) (x7 : Int32) (H : Heap) (locs : List Loc) (ls : Array Slot), lv_has ls 9 [(0, .ref (ad 2)), (1, .int x1), (3, .int x3), (5, .int x5), (6, .int x6), (7, .int x7)] → va_P (dC, dI) vwCl (xW ad cI cZ lt_count lw_begin lw_end lw_depth lw_signed lw_led pr_written pr_within st_size tx_size tt_count tt_pieces tt_kinds lt_begins lt_marks st_word st_vowels tx_characters tt_begins tt_lengths tt_stemLengths tt_places tt_addresses tt_smalls tt_stems tt_slots tt_nexts) H → va_D A (xW ad cI cZ lt_count lw_begin lw_end lw_depth lw_signed lw_led pr_written pr_within st_size tx_size tt_count tt_pieces tt_kinds lt_begins lt_marks st_word st_vowels tx_characters tt_begins tt_lengths tt_stemLengths tt_places tt_addresses tt_smalls tt_stems tt_slots tt_nexts) → va_S A s.heap H locs → wjX3_readNumber_139 post tx_size x1 pr_written tx_characters x3 x5 x6 x7 → W p l e (headSpec wsX3_readNumber ({ frames := 2, cells := 0, slots := 0, locals := 43 })).room s m ([.ref (ad 2), .int x1] : List Value).toArray below meth c H locs 0 0 (MQ below Qc ([.ref (ad 2), .int x1] : List Value).toArray s 0 0 A) (F0 m 139 ls []) := by
    intro pr_written tx_characters x3 x5 x6 x7 H locs ls hl hP hD hS h
    delta wjX3_readNumber_139 at h
    refine lv_iload hx hb dX3_readNumber_139 (lv_at hl 5 rfl) ?_
    refine lv_iload_n hx hb dX3_readNumber_141 rfl (lv_at hl 2 rfl) ?_
    refine lv_icmp_eq (tgt := 154) hx hb dX3_readNumber_142 (by decide) (fun c9 => ?_) (fun c9 => ?_)
    · have h := h.1 c9
      exact J154 pr_written tx_characters H locs ls (lv_sub hl [0, 1] rfl) hP hD hS h
    · have h := h.2 c9
      refine lv_iload hx hb dX3_readNumber_145 (lv_at hl 5 rfl) ?_
      refine lv_iload_n hx hb dX3_readNumber_147 rfl (lv_at hl 2 rfl) ?_
      refine lv_isub hx hb dX3_readNumber_148 ?_
      refine lv_iload hx hb dX3_readNumber_149 (lv_at hl 3 rfl) ?_
      refine lv_icmp_le (tgt := 164) hx hb dX3_readNumber_151 (by decide) (fun c9 => ?_) (fun c9 => ?_)
      · have h := h.1 c9
        refine lv_iload hx hb dX3_readNumber_164 (lv_at hl 4 rfl) ?_
        refine lv_if_eq (tgt := 190) hx hb dX3_readNumber_166 (by decide) (fun c9 => ?_) (fun c9 => ?_)
        · have h := h.1 c9
          exact J190 pr_written tx_characters x6 x7 H locs ls (lv_sub hl [0, 4, 5] rfl) hP hD hS h
        · have h := h.2 c9
          refine lv_iload hx hb dX3_readNumber_169 (lv_at hl 4 rfl) ?_
          refine lv_ldc (v := 65535) hx hb hown (hts (.constant RX3 165 (65535)) (List.mem_of_getElem? (i := 2) rfl)) dX3_readNumber_171 ?_
          refine lv_icmp_gt (tgt := 190) hx hb dX3_readNumber_173 (by decide) (fun c9 => ?_) (fun c9 => ?_)
          · have h := h.1 c9
            exact J190 pr_written tx_characters x6 x7 H locs ls (lv_sub hl [0, 4, 5] rfl) hP hD hS h
          · have h := h.2 c9
            refine lv_iload hx hb dX3_readNumber_176 (lv_at hl 4 rfl) ?_
            refine lv_ldc (v := 55296) hx hb hown (hts (.constant RX3 166 (55296)) (List.mem_of_getElem? (i := 3) rfl)) dX3_readNumber_178 ?_
            refine lv_icmp_lt (tgt := 194) hx hb dX3_readNumber_180 (by decide) (fun c9 => ?_) (fun c9 => ?_)
            · have h := h.1 c9
              exact J194 pr_written tx_characters x6 x7 H locs ls (lv_sub hl [0, 4, 5] rfl) hP hD hS h
            · have h := h.2 c9
              refine lv_iload hx hb dX3_readNumber_183 (lv_at hl 4 rfl) ?_
              refine lv_ldc (v := 57343) hx hb hown (hts (.constant RX3 167 (57343)) (List.mem_of_getElem? (i := 4) rfl)) dX3_readNumber_185 ?_
              refine lv_icmp_gt (tgt := 194) hx hb dX3_readNumber_187 (by decide) (fun c9 => ?_) (fun c9 => ?_)
              · have h := h.1 c9
                exact J194 pr_written tx_characters x6 x7 H locs ls (lv_sub hl [0, 4, 5] rfl) hP hD hS h
              · have h := h.2 c9
                exact J190 pr_written tx_characters x6 x7 H locs ls (lv_sub hl [0, 4, 5] rfl) hP hD hS h
      · have h := h.2 c9
        exact J154 pr_written tx_characters H locs ls (lv_sub hl [0, 1] rfl) hP hD hS h
  have L67 : ∀ (pr_written : Int32) (tx_characters : Nat → Int32) (x3 : Int32) (x4 : Int32) (x5 : Int32) (n : Nat) (x6 : Int32) (x7 : Int32) (H : Heap) (locs : List Loc) (ls : Array Slot), lv_has ls 9 [(0, .ref (ad 2)), (1, .int x1), (3, .int x3), (4, .int x4), (5, .int x5), (6, .int x6), (7, .int x7)] → va_P (dC, dI) vwCl (xW ad cI cZ lt_count lw_begin lw_end lw_depth lw_signed lw_led pr_written pr_within st_size tx_size tt_count tt_pieces tt_kinds lt_begins lt_marks st_word st_vowels tx_characters tt_begins tt_lengths tt_stemLengths tt_places tt_addresses tt_smalls tt_stems tt_slots tt_nexts) H → va_D A (xW ad cI cZ lt_count lw_begin lw_end lw_depth lw_signed lw_led pr_written pr_within st_size tx_size tt_count tt_pieces tt_kinds lt_begins lt_marks st_word st_vowels tx_characters tt_begins tt_lengths tt_stemLengths tt_places tt_addresses tt_smalls tt_stems tt_slots tt_nexts) → va_S A s.heap H locs → wlX3_readNumber_67 post tx_size x1 pr_written tx_characters x3 x4 x5 n x6 x7 → W p l e (headSpec wsX3_readNumber ({ frames := 2, cells := 0, slots := 0, locals := 43 })).room s m ([.ref (ad 2), .int x1] : List Value).toArray below meth c H locs 0 0 (MQ below Qc ([.ref (ad 2), .int x1] : List Value).toArray s 0 0 A) (F0 m 67 ls []) := by
    intro pr_written tx_characters x3 x4 x5
    intro n
    induction n with
    | zero => intro x6 x7 H locs ls _ _ _ _ h; exact absurd h (fun z => z)
    | succ n67 ih67 =>
      intro x6 x7 H locs ls hl hP hD hS h
      have J131 : ∀ (x7 : Int32) (s0 : Int32) (H : Heap) (locs : List Loc) (ls : Array Slot), lv_has ls 9 [(0, .ref (ad 2)), (1, .int x1), (3, .int x3), (4, .int x4), (5, .int x5), (7, .int x7)] → va_P (dC, dI) vwCl (xW ad cI cZ lt_count lw_begin lw_end lw_depth lw_signed lw_led pr_written pr_within st_size tx_size tt_count tt_pieces tt_kinds lt_begins lt_marks st_word st_vowels tx_characters tt_begins tt_lengths tt_stemLengths tt_places tt_addresses tt_smalls tt_stems tt_slots tt_nexts) H → va_D A (xW ad cI cZ lt_count lw_begin lw_end lw_depth lw_signed lw_led pr_written pr_within st_size tx_size tt_count tt_pieces tt_kinds lt_begins lt_marks st_word st_vowels tx_characters tt_begins tt_lengths tt_stemLengths tt_places tt_addresses tt_smalls tt_stems tt_slots tt_nexts) → va_S A s.heap H locs → wjX3_readNumber_131 (fun x6 x7 => wlX3_readNumber_67 post tx_size x1 pr_written tx_characters x3 x4 x5 n67 x6 x7) post tx_size x1 pr_written tx_characters x3 x4 x5 x7 s0 → W p l e (headSpec wsX3_readNumber ({ frames := 2, cells := 0, slots := 0, locals := 43 })).room s m ([.ref (ad 2), .int x1] : List Value).toArray below meth c H locs 0 0 (MQ below Qc ([.ref (ad 2), .int x1] : List Value).toArray s 0 0 A) (F0 m 131 ls [.int s0]) := by
        intro x7 s0 H locs ls hl hP hD hS h
        delta wjX3_readNumber_131 at h
        refine lv_istore (lv' := [(6, .int s0), (0, .ref (ad 2)), (1, .int x1), (3, .int x3), (4, .int x4), (5, .int x5), (7, .int x7)]) hx hb dX3_readNumber_131 hl (by decide) rfl (fun ls hl => ?_)
        obtain ⟨x7_8, ex7_8⟩ : ∃ y : Int32, y = x7 + 1 := ⟨_, rfl⟩
        have h := h x7_8 ex7_8
        refine lv_iinc (v := x7_8) (lv' := [(7, .int x7_8), (6, .int s0), (0, .ref (ad 2)), (1, .int x1), (3, .int x3), (4, .int x4), (5, .int x5)]) hx hb dX3_readNumber_133 hl (k := 6) rfl (by rw [ex7_8]; rfl) (by decide) rfl (fun ls hl => ?_)
        refine lv_goto (tgt := 67) hx hb dX3_readNumber_136 (by decide) ?_
        exact ih67 s0 x7_8 H locs ls (lv_sub hl [2, 3, 4, 5, 6, 1, 0] rfl) hP hD hS h
      rw [wlX3_readNumber_67] at h
      refine lv_iload hx hb dX3_readNumber_67 (lv_at hl 6 rfl) ?_
      refine lv_aload_n hx hb dX3_readNumber_69 rfl (lv_at hl 0 rfl) ?_
      refine va_get (D := (dC, dI)) (ci := 2) (v := .ref (ad 4)) (C := RX3) (T := TX3) (N := 3) hx hb hts inX3 hown hK hP 2 rfl rfl 0 (by decide) (hts (.fieldLink RX3 9 "MailWords$PageReader" "text" "LMailWords$Text;") (List.mem_of_getElem? (i := 1) rfl)) (fun _ h9 => h9) rfl dX3_readNumber_70 ?_
      refine xc_vi (As := []) (rest := [.int x7]) xG Fx (sX5_size l dC dI ad cI cZ sa sv lt_count lw_begin lw_end lw_depth lw_signed lw_led pr_written pr_within st_size tx_size tt_count tt_pieces tt_kinds lt_begins lt_marks st_word st_vowels tx_characters tt_begins tt_lengths tt_stemLengths tt_places tt_addresses tt_smalls tt_stems tt_slots tt_nexts h) (cwV 0 hts gX3_readNumber_X5_size rfl rfl rfl hdX5_size ⟨Nat.le_of_ble_eq_true rfl, Nat.le_of_ble_eq_true rfl⟩) (va_recv hK hP (ci := 4) (q0 := 4) rfl rfl) hK hP hD hS hA hI rfl hl.1 rfl (Nat.le_of_ble_eq_true rfl) dX3_readNumber_73 ⟨Nat.zero_le _, Nat.zero_le _⟩ (fun r_9 u H locs h hP hD hS => ?_)
      refine lv_icmp_ge (tgt := 139) hx hb dX3_readNumber_76 (by decide) (fun c9 => ?_) (fun c9 => ?_)
      · have h := h.1 c9
        exact J139 pr_written tx_characters x3 x5 x6 x7 H locs ls (lv_sub hl [0, 1, 2, 4, 5, 6] rfl) hP hD hS h
      · have h := h.2 c9
        refine lv_aload_n hx hb dX3_readNumber_79 rfl (lv_at hl 0 rfl) ?_
        refine va_get (D := (dC, dI)) (ci := 2) (v := .ref (ad 4)) (C := RX3) (T := TX3) (N := 3) hx hb hts inX3 hown hK hP 2 rfl rfl 0 (by decide) (hts (.fieldLink RX3 9 "MailWords$PageReader" "text" "LMailWords$Text;") (List.mem_of_getElem? (i := 1) rfl)) (fun _ h9 => h9) rfl dX3_readNumber_80 ?_
        refine lv_iload hx hb dX3_readNumber_83 (lv_at hl 6 rfl) ?_
        refine xc_vi (As := [.int x7]) (rest := []) xG Fx (sX5_get l dC dI ad cI cZ sa sv lt_count lw_begin lw_end lw_depth lw_signed lw_led pr_written pr_within st_size tx_size tt_count tt_pieces tt_kinds lt_begins lt_marks st_word st_vowels tx_characters tt_begins tt_lengths tt_stemLengths tt_places tt_addresses tt_smalls tt_stems tt_slots tt_nexts x7 h) (cwV 1 hts gX3_readNumber_X5_get rfl rfl rfl hdX5_get ⟨Nat.le_of_ble_eq_true rfl, Nat.le_of_ble_eq_true rfl⟩) (va_recv hK hP (ci := 4) (q0 := 4) rfl rfl) hK hP hD hS hA hI rfl hl.1 rfl (Nat.le_of_ble_eq_true rfl) dX3_readNumber_85 ⟨Nat.zero_le _, Nat.zero_le _⟩ (fun r_10 u H locs h hP hD hS => ?_)
        refine lv_iload hx hb dX3_readNumber_88 (lv_at hl 3 rfl) ?_
        refine xc_si (As := [.int r_10, .int x4]) (rest := []) xG Fx (sX3_worth l dC dI ad cI cZ sa sv lt_count lw_begin lw_end lw_depth lw_signed lw_led pr_written pr_within st_size tx_size tt_count tt_pieces tt_kinds lt_begins lt_marks st_word st_vowels tx_characters tt_begins tt_lengths tt_stemLengths tt_places tt_addresses tt_smalls tt_stems tt_slots tt_nexts r_10 x4 h) (va_cwS 2 hts gX3_readNumber_X3_worth rfl rfl rfl hdX3_worth ⟨Nat.le_of_ble_eq_true rfl, Nat.le_of_ble_eq_true rfl⟩) hK hP hD hS hA hI rfl hl.1 rfl (Nat.le_of_ble_eq_true rfl) dX3_readNumber_90 ⟨Nat.zero_le _, Nat.zero_le _⟩ (fun r_11 u H locs h hP hD hS => ?_)
        refine lv_iconst (v := (-1)) hx hb dX3_readNumber_93 (by decide) ?_
        refine lv_icmp_eq (tgt := 139) hx hb dX3_readNumber_94 (by decide) (fun c9 => ?_) (fun c9 => ?_)
        · have h := h.1 c9
          exact J139 pr_written tx_characters x3 x5 x6 x7 H locs ls (lv_sub hl [0, 1, 2, 4, 5, 6] rfl) hP hD hS h
        · have h := h.2 c9
          refine lv_iload hx hb dX3_readNumber_97 (lv_at hl 6 rfl) ?_
          refine lv_iload_n hx hb dX3_readNumber_99 rfl (lv_at hl 2 rfl) ?_
          refine lv_isub hx hb dX3_readNumber_100 ?_
          refine lv_iload hx hb dX3_readNumber_101 (lv_at hl 4 rfl) ?_
          refine lv_icmp_ge (tgt := 129) hx hb dX3_readNumber_103 (by decide) (fun c9 => ?_) (fun c9 => ?_)
          · have h := h.1 c9
            refine lv_iload hx hb dX3_readNumber_129 (lv_at hl 5 rfl) ?_
            exact J131 x7 x6 H locs ls (lv_sub hl [0, 1, 2, 3, 4, 6] rfl) hP hD hS h
          · have h := h.2 c9
            refine lv_iload hx hb dX3_readNumber_106 (lv_at hl 5 rfl) ?_
            refine lv_iload hx hb dX3_readNumber_108 (lv_at hl 3 rfl) ?_
            refine lv_imul hx hb dX3_readNumber_110 ?_
            refine lv_aload_n hx hb dX3_readNumber_111 rfl (lv_at hl 0 rfl) ?_
            refine va_get (D := (dC, dI)) (ci := 2) (v := .ref (ad 4)) (C := RX3) (T := TX3) (N := 3) hx hb hts inX3 hown hK hP 2 rfl rfl 0 (by decide) (hts (.fieldLink RX3 9 "MailWords$PageReader" "text" "LMailWords$Text;") (List.mem_of_getElem? (i := 1) rfl)) (fun _ h9 => h9) rfl dX3_readNumber_112 ?_
            refine lv_iload hx hb dX3_readNumber_115 (lv_at hl 6 rfl) ?_
            refine xc_vi (As := [.int x7]) (rest := [.int (x6 * x4)]) xG Fx (sX5_get l dC dI ad cI cZ sa sv lt_count lw_begin lw_end lw_depth lw_signed lw_led pr_written pr_within st_size tx_size tt_count tt_pieces tt_kinds lt_begins lt_marks st_word st_vowels tx_characters tt_begins tt_lengths tt_stemLengths tt_places tt_addresses tt_smalls tt_stems tt_slots tt_nexts x7 h) (cwV 1 hts gX3_readNumber_X5_get rfl rfl rfl hdX5_get ⟨Nat.le_of_ble_eq_true rfl, Nat.le_of_ble_eq_true rfl⟩) (va_recv hK hP (ci := 4) (q0 := 4) rfl rfl) hK hP hD hS hA hI rfl hl.1 rfl (Nat.le_of_ble_eq_true rfl) dX3_readNumber_117 ⟨Nat.zero_le _, Nat.zero_le _⟩ (fun r_12 u H locs h hP hD hS => ?_)
            refine lv_iload hx hb dX3_readNumber_120 (lv_at hl 3 rfl) ?_
            refine xc_si (As := [.int r_12, .int x4]) (rest := [.int (x6 * x4)]) xG Fx (sX3_worth l dC dI ad cI cZ sa sv lt_count lw_begin lw_end lw_depth lw_signed lw_led pr_written pr_within st_size tx_size tt_count tt_pieces tt_kinds lt_begins lt_marks st_word st_vowels tx_characters tt_begins tt_lengths tt_stemLengths tt_places tt_addresses tt_smalls tt_stems tt_slots tt_nexts r_12 x4 h) (va_cwS 2 hts gX3_readNumber_X3_worth rfl rfl rfl hdX3_worth ⟨Nat.le_of_ble_eq_true rfl, Nat.le_of_ble_eq_true rfl⟩) hK hP hD hS hA hI rfl hl.1 rfl (Nat.le_of_ble_eq_true rfl) dX3_readNumber_122 ⟨Nat.zero_le _, Nat.zero_le _⟩ (fun r_13 u H locs h hP hD hS => ?_)
            refine lv_iadd hx hb dX3_readNumber_125 ?_
            refine lv_goto (tgt := 131) hx hb dX3_readNumber_126 (by decide) ?_
            exact J131 x7 ((x6 * x4) + r_13) H locs ls (lv_sub hl [0, 1, 2, 3, 4, 6] rfl) hP hD hS h
  have J59 : ∀ (pr_written : Int32) (tx_characters : Nat → Int32) (x3 : Int32) (x4 : Int32) (s0 : Int32) (H : Heap) (locs : List Loc) (ls : Array Slot), lv_has ls 9 [(0, .ref (ad 2)), (1, .int x1), (3, .int x3), (4, .int x4)] → va_P (dC, dI) vwCl (xW ad cI cZ lt_count lw_begin lw_end lw_depth lw_signed lw_led pr_written pr_within st_size tx_size tt_count tt_pieces tt_kinds lt_begins lt_marks st_word st_vowels tx_characters tt_begins tt_lengths tt_stemLengths tt_places tt_addresses tt_smalls tt_stems tt_slots tt_nexts) H → va_D A (xW ad cI cZ lt_count lw_begin lw_end lw_depth lw_signed lw_led pr_written pr_within st_size tx_size tt_count tt_pieces tt_kinds lt_begins lt_marks st_word st_vowels tx_characters tt_begins tt_lengths tt_stemLengths tt_places tt_addresses tt_smalls tt_stems tt_slots tt_nexts) → va_S A s.heap H locs → wjX3_readNumber_59 post tx_size x1 pr_written tx_characters x3 x4 s0 → W p l e (headSpec wsX3_readNumber ({ frames := 2, cells := 0, slots := 0, locals := 43 })).room s m ([.ref (ad 2), .int x1] : List Value).toArray below meth c H locs 0 0 (MQ below Qc ([.ref (ad 2), .int x1] : List Value).toArray s 0 0 A) (F0 m 59 ls [.int s0]) := by
    intro pr_written tx_characters x3 x4 s0 H locs ls hl hP hD hS h
    delta wjX3_readNumber_59 at h
    refine lv_istore (lv' := [(5, .int s0), (0, .ref (ad 2)), (1, .int x1), (3, .int x3), (4, .int x4)]) hx hb dX3_readNumber_59 hl (by decide) rfl (fun ls hl => ?_)
    refine lv_iconst (v := 0) hx hb dX3_readNumber_61 (by decide) ?_
    refine lv_istore (lv' := [(6, .int 0), (5, .int s0), (0, .ref (ad 2)), (1, .int x1), (3, .int x3), (4, .int x4)]) hx hb dX3_readNumber_62 hl (by decide) rfl (fun ls hl => ?_)
    refine lv_iload_n hx hb dX3_readNumber_64 rfl (lv_at hl 4 rfl) ?_
    refine lv_istore (lv' := [(7, .int x3), (6, .int 0), (5, .int s0), (0, .ref (ad 2)), (1, .int x1), (3, .int x3), (4, .int x4)]) hx hb dX3_readNumber_65 hl (by decide) rfl (fun ls hl => ?_)
    obtain ⟨n, h⟩ := h
    exact L67 pr_written tx_characters x3 x4 s0 n 0 x3 H locs ls (lv_sub hl [3, 4, 5, 6, 2, 1, 0] rfl) hP hD hS h
  have J46 : ∀ (pr_written : Int32) (tx_characters : Nat → Int32) (x2 : Int32) (x3 : Int32) (s0 : Int32) (H : Heap) (locs : List Loc) (ls : Array Slot), lv_has ls 9 [(0, .ref (ad 2)), (1, .int x1), (2, .int x2), (3, .int x3)] → va_P (dC, dI) vwCl (xW ad cI cZ lt_count lw_begin lw_end lw_depth lw_signed lw_led pr_written pr_within st_size tx_size tt_count tt_pieces tt_kinds lt_begins lt_marks st_word st_vowels tx_characters tt_begins tt_lengths tt_stemLengths tt_places tt_addresses tt_smalls tt_stems tt_slots tt_nexts) H → va_D A (xW ad cI cZ lt_count lw_begin lw_end lw_depth lw_signed lw_led pr_written pr_within st_size tx_size tt_count tt_pieces tt_kinds lt_begins lt_marks st_word st_vowels tx_characters tt_begins tt_lengths tt_stemLengths tt_places tt_addresses tt_smalls tt_stems tt_slots tt_nexts) → va_S A s.heap H locs → wjX3_readNumber_46 post tx_size x1 pr_written tx_characters x2 x3 s0 → W p l e (headSpec wsX3_readNumber ({ frames := 2, cells := 0, slots := 0, locals := 43 })).room s m ([.ref (ad 2), .int x1] : List Value).toArray below meth c H locs 0 0 (MQ below Qc ([.ref (ad 2), .int x1] : List Value).toArray s 0 0 A) (F0 m 46 ls [.int s0]) := by
    intro pr_written tx_characters x2 x3 s0 H locs ls hl hP hD hS h
    delta wjX3_readNumber_46 at h
    refine lv_istore (lv' := [(4, .int s0), (0, .ref (ad 2)), (1, .int x1), (2, .int x2), (3, .int x3)]) hx hb dX3_readNumber_46 hl (by decide) rfl (fun ls hl => ?_)
    refine lv_iload_n hx hb dX3_readNumber_48 rfl (lv_at hl 3 rfl) ?_
    refine lv_if_eq (tgt := 57) hx hb dX3_readNumber_49 (by decide) (fun c9 => ?_) (fun c9 => ?_)
    · have h := h.1 c9
      refine lv_bipush (v := 7) hx hb dX3_readNumber_57 (by decide) ?_
      exact J59 pr_written tx_characters x3 s0 7 H locs ls (lv_sub hl [1, 2, 4, 0] rfl) hP hD hS h
    · have h := h.2 c9
      refine lv_bipush (v := 6) hx hb dX3_readNumber_52 (by decide) ?_
      refine lv_goto (tgt := 59) hx hb dX3_readNumber_54 (by decide) ?_
      exact J59 pr_written tx_characters x3 s0 6 H locs ls (lv_sub hl [1, 2, 4, 0] rfl) hP hD hS h
  have J34 : ∀ (pr_written : Int32) (tx_characters : Nat → Int32) (x2 : Int32) (s0 : Int32) (H : Heap) (locs : List Loc) (ls : Array Slot), lv_has ls 9 [(0, .ref (ad 2)), (1, .int x1), (2, .int x2)] → va_P (dC, dI) vwCl (xW ad cI cZ lt_count lw_begin lw_end lw_depth lw_signed lw_led pr_written pr_within st_size tx_size tt_count tt_pieces tt_kinds lt_begins lt_marks st_word st_vowels tx_characters tt_begins tt_lengths tt_stemLengths tt_places tt_addresses tt_smalls tt_stems tt_slots tt_nexts) H → va_D A (xW ad cI cZ lt_count lw_begin lw_end lw_depth lw_signed lw_led pr_written pr_within st_size tx_size tt_count tt_pieces tt_kinds lt_begins lt_marks st_word st_vowels tx_characters tt_begins tt_lengths tt_stemLengths tt_places tt_addresses tt_smalls tt_stems tt_slots tt_nexts) → va_S A s.heap H locs → wjX3_readNumber_34 post tx_size x1 pr_written tx_characters x2 s0 → W p l e (headSpec wsX3_readNumber ({ frames := 2, cells := 0, slots := 0, locals := 43 })).room s m ([.ref (ad 2), .int x1] : List Value).toArray below meth c H locs 0 0 (MQ below Qc ([.ref (ad 2), .int x1] : List Value).toArray s 0 0 A) (F0 m 34 ls [.int s0]) := by
    intro pr_written tx_characters x2 s0 H locs ls hl hP hD hS h
    delta wjX3_readNumber_34 at h
    refine lv_istore_n (lv' := [(3, .int s0), (0, .ref (ad 2)), (1, .int x1), (2, .int x2)]) hx hb dX3_readNumber_34 rfl hl (by decide) rfl (fun ls hl => ?_)
    refine lv_iload_n hx hb dX3_readNumber_35 rfl (lv_at hl 3 rfl) ?_
    refine lv_if_eq (tgt := 44) hx hb dX3_readNumber_36 (by decide) (fun c9 => ?_) (fun c9 => ?_)
    · have h := h.1 c9
      refine lv_bipush (v := 10) hx hb dX3_readNumber_44 (by decide) ?_
      exact J46 pr_written tx_characters x2 s0 10 H locs ls (lv_sub hl [1, 2, 3, 0] rfl) hP hD hS h
    · have h := h.2 c9
      refine lv_bipush (v := 16) hx hb dX3_readNumber_39 (by decide) ?_
      refine lv_goto (tgt := 46) hx hb dX3_readNumber_41 (by decide) ?_
      exact J46 pr_written tx_characters x2 s0 16 H locs ls (lv_sub hl [1, 2, 3, 0] rfl) hP hD hS h
  have J20 : ∀ (pr_written : Int32) (tx_characters : Nat → Int32) (s0 : Int32) (H : Heap) (locs : List Loc) (ls : Array Slot), lv_has ls 9 [(0, .ref (ad 2)), (1, .int x1)] → va_P (dC, dI) vwCl (xW ad cI cZ lt_count lw_begin lw_end lw_depth lw_signed lw_led pr_written pr_within st_size tx_size tt_count tt_pieces tt_kinds lt_begins lt_marks st_word st_vowels tx_characters tt_begins tt_lengths tt_stemLengths tt_places tt_addresses tt_smalls tt_stems tt_slots tt_nexts) H → va_D A (xW ad cI cZ lt_count lw_begin lw_end lw_depth lw_signed lw_led pr_written pr_within st_size tx_size tt_count tt_pieces tt_kinds lt_begins lt_marks st_word st_vowels tx_characters tt_begins tt_lengths tt_stemLengths tt_places tt_addresses tt_smalls tt_stems tt_slots tt_nexts) → va_S A s.heap H locs → wjX3_readNumber_20 post tx_size x1 pr_written tx_characters s0 → W p l e (headSpec wsX3_readNumber ({ frames := 2, cells := 0, slots := 0, locals := 43 })).room s m ([.ref (ad 2), .int x1] : List Value).toArray below meth c H locs 0 0 (MQ below Qc ([.ref (ad 2), .int x1] : List Value).toArray s 0 0 A) (F0 m 20 ls [.int s0]) := by
    intro pr_written tx_characters s0 H locs ls hl hP hD hS h
    delta wjX3_readNumber_20 at h
    refine lv_istore_n (lv' := [(2, .int s0), (0, .ref (ad 2)), (1, .int x1)]) hx hb dX3_readNumber_20 rfl hl (by decide) rfl (fun ls hl => ?_)
    refine lv_iload_n hx hb dX3_readNumber_21 rfl (lv_at hl 0 rfl) ?_
    refine lv_if_eq (tgt := 31) hx hb dX3_readNumber_22 (by decide) (fun c9 => ?_) (fun c9 => ?_)
    · have h := h.1 c9
      refine lv_iload_n hx hb dX3_readNumber_31 rfl (lv_at hl 2 rfl) ?_
      refine lv_iconst (v := 2) hx hb dX3_readNumber_32 (by decide) ?_
      refine lv_iadd hx hb dX3_readNumber_33 ?_
      exact J34 pr_written tx_characters s0 (x1 + 2) H locs ls (lv_sub hl [1, 2, 0] rfl) hP hD hS h
    · have h := h.2 c9
      refine lv_iload_n hx hb dX3_readNumber_25 rfl (lv_at hl 2 rfl) ?_
      refine lv_iconst (v := 3) hx hb dX3_readNumber_26 (by decide) ?_
      refine lv_iadd hx hb dX3_readNumber_27 ?_
      refine lv_goto (tgt := 34) hx hb dX3_readNumber_28 (by decide) ?_
      exact J34 pr_written tx_characters s0 (x1 + 3) H locs ls (lv_sub hl [1, 2, 0] rfl) hP hD hS h
  intro H locs hP hD hS
  delta wpX3_readNumber at h
  refine lv_aload_n hx hb dX3_readNumber_0 rfl (lv_at hl 0 rfl) ?_
  refine va_get (D := (dC, dI)) (ci := 2) (v := .ref (ad 4)) (C := RX3) (T := TX3) (N := 3) hx hb hts inX3 hown hK hP 2 rfl rfl 0 (by decide) (hts (.fieldLink RX3 9 "MailWords$PageReader" "text" "LMailWords$Text;") (List.mem_of_getElem? (i := 1) rfl)) (fun _ h9 => h9) rfl dX3_readNumber_1 ?_
  refine lv_iload_n hx hb dX3_readNumber_4 rfl (lv_at hl 1 rfl) ?_
  refine lv_iconst (v := 2) hx hb dX3_readNumber_5 (by decide) ?_
  refine lv_iadd hx hb dX3_readNumber_6 ?_
  refine xc_vi (As := [.int (x1 + 2)]) (rest := []) xG Fx (sX5_get l dC dI ad cI cZ sa sv lt_count lw_begin lw_end lw_depth lw_signed lw_led pr_written pr_within st_size tx_size tt_count tt_pieces tt_kinds lt_begins lt_marks st_word st_vowels tx_characters tt_begins tt_lengths tt_stemLengths tt_places tt_addresses tt_smalls tt_stems tt_slots tt_nexts (x1 + 2) h) (cwV 1 hts gX3_readNumber_X5_get rfl rfl rfl hdX5_get ⟨Nat.le_of_ble_eq_true rfl, Nat.le_of_ble_eq_true rfl⟩) (va_recv hK hP (ci := 4) (q0 := 4) rfl rfl) hK hP hD hS hA hI rfl hl.1 rfl (Nat.le_of_ble_eq_true rfl) dX3_readNumber_7 ⟨Nat.zero_le _, Nat.zero_le _⟩ (fun r_14 u H locs h hP hD hS => ?_)
  refine lv_bipush (v := 120) hx hb dX3_readNumber_10 (by decide) ?_
  refine lv_icmp_ne (tgt := 19) hx hb dX3_readNumber_12 (by decide) (fun c9 => ?_) (fun c9 => ?_)
  · have h := h.1 c9
    refine lv_iconst (v := 0) hx hb dX3_readNumber_19 (by decide) ?_
    exact J20 pr_written tx_characters 0 H locs ls (lv_sub hl [0, 1] rfl) hP hD hS h
  · have h := h.2 c9
    refine lv_iconst (v := 1) hx hb dX3_readNumber_15 (by decide) ?_
    refine lv_goto (tgt := 20) hx hb dX3_readNumber_16 (by decide) ?_
    exact J20 pr_written tx_characters 1 H locs ls (lv_sub hl [0, 1] rfl) hP hD hS h
set_option maxHeartbeats 4000000 in
set_option maxRecDepth 100000 in
theorem sX3_entityOfFour (l : Launch) (dC : Nat → ClassId) (dI : Nat → Nat → Nat) (ad : Nat → Nat) (cI cZ : ClassId) (sa sv : Nat → Nat) (lt_count : Int32) (lw_begin : Int32) (lw_end : Int32) (lw_depth : Int32) (lw_signed : Int32) (lw_led : Int32) (pr_written : Int32) (pr_within : Int32) (st_size : Int32) (tx_size : Int32) (tt_count : Int32) (tt_pieces : Int32) (tt_kinds : Int32) (lt_begins : Nat → Int32) (lt_marks : Nat → Int32) (st_word : Nat → Int32) (st_vowels : Nat → Int32) (tx_characters : Nat → Int32) (tt_begins : Nat → Int32) (tt_lengths : Nat → Int32) (tt_stemLengths : Nat → Int32) (tt_places : Nat → Int32) (tt_addresses : Nat → Int32) (tt_smalls : Nat → Int32) (tt_stems : Nat → Int32) (tt_slots : Nat → Int32) (tt_nexts : Nat → Int32) (x1 : Int32) {post : Int32 → Prop} (h : wpX3_entityOfFour post tx_size tx_characters x1) : xMi l (dC, dI) vwCl [(cI, .int), (cZ, .boolean)] (sI sa sv) yX3_entityOfFour wsX3_entityOfFour ({ frames := 5, cells := 0, slots := 0, locals := 108 }) (xW ad cI cZ lt_count lw_begin lw_end lw_depth lw_signed lw_led pr_written pr_within st_size tx_size tt_count tt_pieces tt_kinds lt_begins lt_marks st_word st_vowels tx_characters tt_begins tt_lengths tt_stemLengths tt_places tt_addresses tt_smalls tt_stems tt_slots tt_nexts) [.ref (ad 2), .int x1] (fun (r : Int32) (u : Unit) => post r ) (fun u : Unit => (xW ad cI cZ lt_count lw_begin lw_end lw_depth lw_signed lw_led pr_written pr_within st_size tx_size tt_count tt_pieces tt_kinds lt_begins lt_marks st_word st_vowels tx_characters tt_begins tt_lengths tt_stemLengths tt_places tt_addresses tt_smalls tt_stems tt_slots tt_nexts)) := by
  intro sz
  refine Met.ofW (cc := cX3_entityOfFour) (maxL := 2) (ret := (some .int)) (by decide) rfl ?_
  intro p e s m args below meth c s₁ B hml hv
  obtain ⟨rfl, hsz, hP, hK, hD0, hI⟩ := hv
  have hx := B.exec
  have hb := B.bytes
  have hr := B.returns
  have hts := atoms_spec (ws := wsX3_entityOfFour) B.pre
  have hown : s.vm.findClass RX3 = some m.cls := findClass_of_methodNamed B.named
  have hlocks := B.notSynchronized
  subst hsz
  have hD := hD0.self (sz := s.heap.size)
  generalize hAe : va_A (xW ad cI cZ lt_count lw_begin lw_end lw_depth lw_signed lw_led pr_written pr_within st_size tx_size tt_count tt_pieces tt_kinds lt_begins lt_marks st_word st_vowels tx_characters tt_begins tt_lengths tt_stemLengths tt_places tt_addresses tt_smalls tt_stems tt_slots tt_nexts) s.heap.size = A at hD hI ⊢
  have hA : ∀ q : Nat, s.heap.size ≤ q → A q := fun q h => by rw [← hAe]; exact Or.inr h
  have hS : va_S A s.heap s.heap [] := va_S.rf
  have Fx : CallFix p m c cX3_entityOfFour 2 s ([.ref (ad 2), .int x1] : List Value).toArray wsX3_entityOfFour RX3 := ⟨hx, hb, hml, hown, hts⟩
  have hQ : ∀ (r : Int32) (u : Unit) (t : State), (fun (r : Int32) (u : Unit) => post r ) r u → va_P (dC, dI) vwCl ((fun u : Unit => (xW ad cI cZ lt_count lw_begin lw_end lw_depth lw_signed lw_led pr_written pr_within st_size tx_size tt_count tt_pieces tt_kinds lt_begins lt_marks st_word st_vowels tx_characters tt_begins tt_lengths tt_stemLengths tt_places tt_addresses tt_smalls tt_stems tt_slots tt_nexts)) u) t.heap → va_K (dC, dI) vwCl [(cI, .int), (cZ, .boolean)] t → va_D A ((fun u : Unit => (xW ad cI cZ lt_count lw_begin lw_end lw_depth lw_signed lw_led pr_written pr_within st_size tx_size tt_count tt_pieces tt_kinds lt_begins lt_marks st_word st_vowels tx_characters tt_begins tt_lengths tt_stemLengths tt_places tt_addresses tt_smalls tt_stems tt_slots tt_nexts)) u) → va_F A s t → (va_Qi (fun (r : Int32) (u : Unit) => post r ) (xB (dC, dI) vwCl [(cI, .int), (cZ, .boolean)] A (fun u : Unit => (xW ad cI cZ lt_count lw_begin lw_end lw_depth lw_signed lw_led pr_written pr_within st_size tx_size tt_count tt_pieces tt_kinds lt_begins lt_marks st_word st_vowels tx_characters tt_begins tt_lengths tt_stemLengths tt_places tt_addresses tt_smalls tt_stems tt_slots tt_nexts))) A) ([.ref (ad 2), .int x1] : List Value).toArray s (.returned (some (.int r))) t := fun r u t h1 h2 h3 h4 h5 => ⟨⟨r, u, rfl, h1, h2, h3, h4⟩, h5⟩
  generalize (va_Qi (fun (r : Int32) (u : Unit) => post r ) (xB (dC, dI) vwCl [(cI, .int), (cZ, .boolean)] A (fun u : Unit => (xW ad cI cZ lt_count lw_begin lw_end lw_depth lw_signed lw_led pr_written pr_within st_size tx_size tt_count tt_pieces tt_kinds lt_begins lt_marks st_word st_vowels tx_characters tt_begins tt_lengths tt_stemLengths tt_places tt_addresses tt_smalls tt_stems tt_slots tt_nexts))) A) = Qc at hQ ⊢
  have hl := lv_entry ([.ref (ad 2), .int x1]) (n := 2) (Nat.le_of_ble_eq_true rfl)
  rw [lg_entry_eq]
  generalize (lg_sl ([.ref (ad 2), .int x1]) ++ List.replicate (2 - (lg_sl ([.ref (ad 2), .int x1])).length) Slot.unset).toArray = ls at hl ⊢
  have hl : lv_has ls 2 [(0, .ref (ad 2)), (1, .int x1)] := hl
  refine (fun (key : ∀ (H : Heap) (locs : List Loc), va_P (dC, dI) vwCl (xW ad cI cZ lt_count lw_begin lw_end lw_depth lw_signed lw_led pr_written pr_within st_size tx_size tt_count tt_pieces tt_kinds lt_begins lt_marks st_word st_vowels tx_characters tt_begins tt_lengths tt_stemLengths tt_places tt_addresses tt_smalls tt_stems tt_slots tt_nexts) H → va_D A (xW ad cI cZ lt_count lw_begin lw_end lw_depth lw_signed lw_led pr_written pr_within st_size tx_size tt_count tt_pieces tt_kinds lt_begins lt_marks st_word st_vowels tx_characters tt_begins tt_lengths tt_stemLengths tt_places tt_addresses tt_smalls tt_stems tt_slots tt_nexts) → va_S A s.heap H locs → W p l e (headSpec wsX3_entityOfFour ({ frames := 5, cells := 0, slots := 0, locals := 108 })).room s m ([.ref (ad 2), .int x1] : List Value).toArray below meth c H locs 0 0 (MQ below Qc ([.ref (ad 2), .int x1] : List Value).toArray s 0 0 A) (F0 m 0 ls [])) => key _ _ hP hD hS) ?_
  have inX3 : ∀ w ∈ wsX30, w ∈ wsX3_entityOfFour := (fun _ h9 => List.mem_cons_of_mem _ (List.mem_append_left _ (List.mem_append_right _ h9)))
  intro H locs hP hD hS
  delta wpX3_entityOfFour at h
  refine lv_aload_n hx hb dX3_entityOfFour_0 rfl (lv_at hl 0 rfl) ?_
  refine va_get (D := (dC, dI)) (ci := 2) (v := .ref (ad 4)) (C := RX3) (T := TX3) (N := 3) hx hb hts inX3 hown hK hP 2 rfl rfl 0 (by decide) (hts (.fieldLink RX3 9 "MailWords$PageReader" "text" "LMailWords$Text;") (List.mem_of_getElem? (i := 1) rfl)) (fun _ h9 => h9) rfl dX3_entityOfFour_1 ?_
  refine lv_iload_n hx hb dX3_entityOfFour_4 rfl (lv_at hl 1 rfl) ?_
  refine va_ldcS hx hb hown (show vk_R RX3 185 "quot" (sa 24) s from sI_ref hI (i := 24) (by decide)) dX3_entityOfFour_5 ?_
  refine xc_vi (As := [.int x1, .ref (sa 24)]) (rest := []) xG Fx (sX5_holds l dC dI ad cI cZ sa sv lt_count lw_begin lw_end lw_depth lw_signed lw_led pr_written pr_within st_size tx_size tt_count tt_pieces tt_kinds lt_begins lt_marks st_word st_vowels tx_characters tt_begins tt_lengths tt_stemLengths tt_places tt_addresses tt_smalls tt_stems tt_slots tt_nexts x1 24 h) (cwV 2 hts gX3_entityOfFour_X5_holds rfl rfl rfl hdX5_holds ⟨Nat.le_of_ble_eq_true rfl, Nat.le_of_ble_eq_true rfl⟩) (va_recv hK hP (ci := 4) (q0 := 4) rfl rfl) hK hP hD hS hA hI rfl hl.1 rfl (Nat.le_of_ble_eq_true rfl) dX3_entityOfFour_7 ⟨Nat.zero_le _, Nat.zero_le _⟩ (fun r_1 u H locs h hP hD hS => ?_)
  refine lv_if_eq (tgt := 16) hx hb dX3_entityOfFour_10 (by decide) (fun c9 => ?_) (fun c9 => ?_)
  · have h := h.1 c9
    refine lv_aload_n hx hb dX3_entityOfFour_16 rfl (lv_at hl 0 rfl) ?_
    refine va_get (D := (dC, dI)) (ci := 2) (v := .ref (ad 4)) (C := RX3) (T := TX3) (N := 3) hx hb hts inX3 hown hK hP 2 rfl rfl 0 (by decide) (hts (.fieldLink RX3 9 "MailWords$PageReader" "text" "LMailWords$Text;") (List.mem_of_getElem? (i := 1) rfl)) (fun _ h9 => h9) rfl dX3_entityOfFour_17 ?_
    refine lv_iload_n hx hb dX3_entityOfFour_20 rfl (lv_at hl 1 rfl) ?_
    refine va_ldcS hx hb hown (show vk_R RX3 187 "apos" (sa 25) s from sI_ref hI (i := 25) (by decide)) dX3_entityOfFour_21 ?_
    refine xc_vi (As := [.int x1, .ref (sa 25)]) (rest := []) xG Fx (sX5_holds l dC dI ad cI cZ sa sv lt_count lw_begin lw_end lw_depth lw_signed lw_led pr_written pr_within st_size tx_size tt_count tt_pieces tt_kinds lt_begins lt_marks st_word st_vowels tx_characters tt_begins tt_lengths tt_stemLengths tt_places tt_addresses tt_smalls tt_stems tt_slots tt_nexts x1 25 h) (cwV 2 hts gX3_entityOfFour_X5_holds rfl rfl rfl hdX5_holds ⟨Nat.le_of_ble_eq_true rfl, Nat.le_of_ble_eq_true rfl⟩) (va_recv hK hP (ci := 4) (q0 := 4) rfl rfl) hK hP hD hS hA hI rfl hl.1 rfl (Nat.le_of_ble_eq_true rfl) dX3_entityOfFour_23 ⟨Nat.zero_le _, Nat.zero_le _⟩ (fun r_2 u H locs h hP hD hS => ?_)
    refine lv_if_eq (tgt := 32) hx hb dX3_entityOfFour_26 (by decide) (fun c9 => ?_) (fun c9 => ?_)
    · have h := h.1 c9
      refine lv_aload_n hx hb dX3_entityOfFour_32 rfl (lv_at hl 0 rfl) ?_
      refine va_get (D := (dC, dI)) (ci := 2) (v := .ref (ad 4)) (C := RX3) (T := TX3) (N := 3) hx hb hts inX3 hown hK hP 2 rfl rfl 0 (by decide) (hts (.fieldLink RX3 9 "MailWords$PageReader" "text" "LMailWords$Text;") (List.mem_of_getElem? (i := 1) rfl)) (fun _ h9 => h9) rfl dX3_entityOfFour_33 ?_
      refine lv_iload_n hx hb dX3_entityOfFour_36 rfl (lv_at hl 1 rfl) ?_
      refine va_ldcS hx hb hown (show vk_R RX3 189 "nbsp" (sa 26) s from sI_ref hI (i := 26) (by decide)) dX3_entityOfFour_37 ?_
      refine xc_vi (As := [.int x1, .ref (sa 26)]) (rest := []) xG Fx (sX5_holds l dC dI ad cI cZ sa sv lt_count lw_begin lw_end lw_depth lw_signed lw_led pr_written pr_within st_size tx_size tt_count tt_pieces tt_kinds lt_begins lt_marks st_word st_vowels tx_characters tt_begins tt_lengths tt_stemLengths tt_places tt_addresses tt_smalls tt_stems tt_slots tt_nexts x1 26 h) (cwV 2 hts gX3_entityOfFour_X5_holds rfl rfl rfl hdX5_holds ⟨Nat.le_of_ble_eq_true rfl, Nat.le_of_ble_eq_true rfl⟩) (va_recv hK hP (ci := 4) (q0 := 4) rfl rfl) hK hP hD hS hA hI rfl hl.1 rfl (Nat.le_of_ble_eq_true rfl) dX3_entityOfFour_39 ⟨Nat.zero_le _, Nat.zero_le _⟩ (fun r_3 u H locs h hP hD hS => ?_)
      refine lv_if_eq (tgt := 48) hx hb dX3_entityOfFour_42 (by decide) (fun c9 => ?_) (fun c9 => ?_)
      · have h := h.1 c9
        refine lv_aload_n hx hb dX3_entityOfFour_48 rfl (lv_at hl 0 rfl) ?_
        refine va_get (D := (dC, dI)) (ci := 2) (v := .ref (ad 4)) (C := RX3) (T := TX3) (N := 3) hx hb hts inX3 hown hK hP 2 rfl rfl 0 (by decide) (hts (.fieldLink RX3 9 "MailWords$PageReader" "text" "LMailWords$Text;") (List.mem_of_getElem? (i := 1) rfl)) (fun _ h9 => h9) rfl dX3_entityOfFour_49 ?_
        refine lv_iload_n hx hb dX3_entityOfFour_52 rfl (lv_at hl 1 rfl) ?_
        refine va_ldcS hx hb hown (show vk_R RX3 191 "ouml" (sa 27) s from sI_ref hI (i := 27) (by decide)) dX3_entityOfFour_53 ?_
        refine xc_vi (As := [.int x1, .ref (sa 27)]) (rest := []) xG Fx (sX5_holds l dC dI ad cI cZ sa sv lt_count lw_begin lw_end lw_depth lw_signed lw_led pr_written pr_within st_size tx_size tt_count tt_pieces tt_kinds lt_begins lt_marks st_word st_vowels tx_characters tt_begins tt_lengths tt_stemLengths tt_places tt_addresses tt_smalls tt_stems tt_slots tt_nexts x1 27 h) (cwV 2 hts gX3_entityOfFour_X5_holds rfl rfl rfl hdX5_holds ⟨Nat.le_of_ble_eq_true rfl, Nat.le_of_ble_eq_true rfl⟩) (va_recv hK hP (ci := 4) (q0 := 4) rfl rfl) hK hP hD hS hA hI rfl hl.1 rfl (Nat.le_of_ble_eq_true rfl) dX3_entityOfFour_55 ⟨Nat.zero_le _, Nat.zero_le _⟩ (fun r_4 u H locs h hP hD hS => ?_)
        refine lv_if_eq (tgt := 65) hx hb dX3_entityOfFour_58 (by decide) (fun c9 => ?_) (fun c9 => ?_)
        · have h := h.1 c9
          refine lv_aload_n hx hb dX3_entityOfFour_65 rfl (lv_at hl 0 rfl) ?_
          refine va_get (D := (dC, dI)) (ci := 2) (v := .ref (ad 4)) (C := RX3) (T := TX3) (N := 3) hx hb hts inX3 hown hK hP 2 rfl rfl 0 (by decide) (hts (.fieldLink RX3 9 "MailWords$PageReader" "text" "LMailWords$Text;") (List.mem_of_getElem? (i := 1) rfl)) (fun _ h9 => h9) rfl dX3_entityOfFour_66 ?_
          refine lv_iload_n hx hb dX3_entityOfFour_69 rfl (lv_at hl 1 rfl) ?_
          refine va_ldcS hx hb hown (show vk_R RX3 193 "auml" (sa 28) s from sI_ref hI (i := 28) (by decide)) dX3_entityOfFour_70 ?_
          refine xc_vi (As := [.int x1, .ref (sa 28)]) (rest := []) xG Fx (sX5_holds l dC dI ad cI cZ sa sv lt_count lw_begin lw_end lw_depth lw_signed lw_led pr_written pr_within st_size tx_size tt_count tt_pieces tt_kinds lt_begins lt_marks st_word st_vowels tx_characters tt_begins tt_lengths tt_stemLengths tt_places tt_addresses tt_smalls tt_stems tt_slots tt_nexts x1 28 h) (cwV 2 hts gX3_entityOfFour_X5_holds rfl rfl rfl hdX5_holds ⟨Nat.le_of_ble_eq_true rfl, Nat.le_of_ble_eq_true rfl⟩) (va_recv hK hP (ci := 4) (q0 := 4) rfl rfl) hK hP hD hS hA hI rfl hl.1 rfl (Nat.le_of_ble_eq_true rfl) dX3_entityOfFour_72 ⟨Nat.zero_le _, Nat.zero_le _⟩ (fun r_5 u H locs h hP hD hS => ?_)
          refine lv_if_eq (tgt := 82) hx hb dX3_entityOfFour_75 (by decide) (fun c9 => ?_) (fun c9 => ?_)
          · have h := h.1 c9
            refine lv_aload_n hx hb dX3_entityOfFour_82 rfl (lv_at hl 0 rfl) ?_
            refine va_get (D := (dC, dI)) (ci := 2) (v := .ref (ad 4)) (C := RX3) (T := TX3) (N := 3) hx hb hts inX3 hown hK hP 2 rfl rfl 0 (by decide) (hts (.fieldLink RX3 9 "MailWords$PageReader" "text" "LMailWords$Text;") (List.mem_of_getElem? (i := 1) rfl)) (fun _ h9 => h9) rfl dX3_entityOfFour_83 ?_
            refine lv_iload_n hx hb dX3_entityOfFour_86 rfl (lv_at hl 1 rfl) ?_
            refine va_ldcS hx hb hown (show vk_R RX3 195 "uuml" (sa 29) s from sI_ref hI (i := 29) (by decide)) dX3_entityOfFour_87 ?_
            refine xc_vi (As := [.int x1, .ref (sa 29)]) (rest := []) xG Fx (sX5_holds l dC dI ad cI cZ sa sv lt_count lw_begin lw_end lw_depth lw_signed lw_led pr_written pr_within st_size tx_size tt_count tt_pieces tt_kinds lt_begins lt_marks st_word st_vowels tx_characters tt_begins tt_lengths tt_stemLengths tt_places tt_addresses tt_smalls tt_stems tt_slots tt_nexts x1 29 h) (cwV 2 hts gX3_entityOfFour_X5_holds rfl rfl rfl hdX5_holds ⟨Nat.le_of_ble_eq_true rfl, Nat.le_of_ble_eq_true rfl⟩) (va_recv hK hP (ci := 4) (q0 := 4) rfl rfl) hK hP hD hS hA hI rfl hl.1 rfl (Nat.le_of_ble_eq_true rfl) dX3_entityOfFour_89 ⟨Nat.zero_le _, Nat.zero_le _⟩ (fun r_6 u H locs h hP hD hS => ?_)
            refine lv_if_eq (tgt := 99) hx hb dX3_entityOfFour_92 (by decide) (fun c9 => ?_) (fun c9 => ?_)
            · have h := h.1 c9
              refine lv_aload_n hx hb dX3_entityOfFour_99 rfl (lv_at hl 0 rfl) ?_
              refine va_get (D := (dC, dI)) (ci := 2) (v := .ref (ad 4)) (C := RX3) (T := TX3) (N := 3) hx hb hts inX3 hown hK hP 2 rfl rfl 0 (by decide) (hts (.fieldLink RX3 9 "MailWords$PageReader" "text" "LMailWords$Text;") (List.mem_of_getElem? (i := 1) rfl)) (fun _ h9 => h9) rfl dX3_entityOfFour_100 ?_
              refine lv_iload_n hx hb dX3_entityOfFour_103 rfl (lv_at hl 1 rfl) ?_
              refine va_ldcS hx hb hown (show vk_R RX3 197 "euro" (sa 30) s from sI_ref hI (i := 30) (by decide)) dX3_entityOfFour_104 ?_
              refine xc_vi (As := [.int x1, .ref (sa 30)]) (rest := []) xG Fx (sX5_holds l dC dI ad cI cZ sa sv lt_count lw_begin lw_end lw_depth lw_signed lw_led pr_written pr_within st_size tx_size tt_count tt_pieces tt_kinds lt_begins lt_marks st_word st_vowels tx_characters tt_begins tt_lengths tt_stemLengths tt_places tt_addresses tt_smalls tt_stems tt_slots tt_nexts x1 30 h) (cwV 2 hts gX3_entityOfFour_X5_holds rfl rfl rfl hdX5_holds ⟨Nat.le_of_ble_eq_true rfl, Nat.le_of_ble_eq_true rfl⟩) (va_recv hK hP (ci := 4) (q0 := 4) rfl rfl) hK hP hD hS hA hI rfl hl.1 rfl (Nat.le_of_ble_eq_true rfl) dX3_entityOfFour_106 ⟨Nat.zero_le _, Nat.zero_le _⟩ (fun r_7 u H locs h hP hD hS => ?_)
              refine lv_if_eq (tgt := 118) hx hb dX3_entityOfFour_109 (by decide) (fun c9 => ?_) (fun c9 => ?_)
              · have h := h.1 c9
                refine lv_aload_n hx hb dX3_entityOfFour_118 rfl (lv_at hl 0 rfl) ?_
                refine va_get (D := (dC, dI)) (ci := 2) (v := .ref (ad 4)) (C := RX3) (T := TX3) (N := 3) hx hb hts inX3 hown hK hP 2 rfl rfl 0 (by decide) (hts (.fieldLink RX3 9 "MailWords$PageReader" "text" "LMailWords$Text;") (List.mem_of_getElem? (i := 1) rfl)) (fun _ h9 => h9) rfl dX3_entityOfFour_119 ?_
                refine lv_iload_n hx hb dX3_entityOfFour_122 rfl (lv_at hl 1 rfl) ?_
                refine va_ldcS hx hb hown (show vk_R RX3 199 "copy" (sa 31) s from sI_ref hI (i := 31) (by decide)) dX3_entityOfFour_123 ?_
                refine xc_vi (As := [.int x1, .ref (sa 31)]) (rest := []) xG Fx (sX5_holds l dC dI ad cI cZ sa sv lt_count lw_begin lw_end lw_depth lw_signed lw_led pr_written pr_within st_size tx_size tt_count tt_pieces tt_kinds lt_begins lt_marks st_word st_vowels tx_characters tt_begins tt_lengths tt_stemLengths tt_places tt_addresses tt_smalls tt_stems tt_slots tt_nexts x1 31 h) (cwV 2 hts gX3_entityOfFour_X5_holds rfl rfl rfl hdX5_holds ⟨Nat.le_of_ble_eq_true rfl, Nat.le_of_ble_eq_true rfl⟩) (va_recv hK hP (ci := 4) (q0 := 4) rfl rfl) hK hP hD hS hA hI rfl hl.1 rfl (Nat.le_of_ble_eq_true rfl) dX3_entityOfFour_125 ⟨Nat.zero_le _, Nat.zero_le _⟩ (fun r_8 u H locs h hP hD hS => ?_)
                refine lv_if_eq (tgt := 137) hx hb dX3_entityOfFour_128 (by decide) (fun c9 => ?_) (fun c9 => ?_)
                · have h := h.1 c9
                  refine lv_iconst (v := (-1)) hx hb dX3_entityOfFour_137 (by decide) ?_
                  exact W.iret (v := (-1)) hx hb hr (fun t ht hW => hQ (-1) () t h (by rw [ht]; exact hP) (va_K.moved hW.alike hK) hD (hS.F ht)) hS.2.2 dX3_entityOfFour_138
                · have h := h.2 c9
                  refine lv_sipush (v := 169) hx hb dX3_entityOfFour_131 (by decide) ?_
                  refine lv_goto (tgt := 138) hx hb dX3_entityOfFour_134 (by decide) ?_
                  exact W.iret (v := 169) hx hb hr (fun t ht hW => hQ 169 () t h (by rw [ht]; exact hP) (va_K.moved hW.alike hK) hD (hS.F ht)) hS.2.2 dX3_entityOfFour_138
              · have h := h.2 c9
                refine lv_sipush (v := 8364) hx hb dX3_entityOfFour_112 (by decide) ?_
                refine lv_goto (tgt := 138) hx hb dX3_entityOfFour_115 (by decide) ?_
                exact W.iret (v := 8364) hx hb hr (fun t ht hW => hQ 8364 () t h (by rw [ht]; exact hP) (va_K.moved hW.alike hK) hD (hS.F ht)) hS.2.2 dX3_entityOfFour_138
            · have h := h.2 c9
              refine lv_sipush (v := 252) hx hb dX3_entityOfFour_95 (by decide) ?_
              exact W.iret (v := 252) hx hb hr (fun t ht hW => hQ 252 () t h (by rw [ht]; exact hP) (va_K.moved hW.alike hK) hD (hS.F ht)) hS.2.2 dX3_entityOfFour_98
          · have h := h.2 c9
            refine lv_sipush (v := 228) hx hb dX3_entityOfFour_78 (by decide) ?_
            exact W.iret (v := 228) hx hb hr (fun t ht hW => hQ 228 () t h (by rw [ht]; exact hP) (va_K.moved hW.alike hK) hD (hS.F ht)) hS.2.2 dX3_entityOfFour_81
        · have h := h.2 c9
          refine lv_sipush (v := 246) hx hb dX3_entityOfFour_61 (by decide) ?_
          exact W.iret (v := 246) hx hb hr (fun t ht hW => hQ 246 () t h (by rw [ht]; exact hP) (va_K.moved hW.alike hK) hD (hS.F ht)) hS.2.2 dX3_entityOfFour_64
      · have h := h.2 c9
        refine lv_bipush (v := 32) hx hb dX3_entityOfFour_45 (by decide) ?_
        exact W.iret (v := 32) hx hb hr (fun t ht hW => hQ 32 () t h (by rw [ht]; exact hP) (va_K.moved hW.alike hK) hD (hS.F ht)) hS.2.2 dX3_entityOfFour_47
    · have h := h.2 c9
      refine lv_bipush (v := 39) hx hb dX3_entityOfFour_29 (by decide) ?_
      exact W.iret (v := 39) hx hb hr (fun t ht hW => hQ 39 () t h (by rw [ht]; exact hP) (va_K.moved hW.alike hK) hD (hS.F ht)) hS.2.2 dX3_entityOfFour_31
  · have h := h.2 c9
    refine lv_bipush (v := 34) hx hb dX3_entityOfFour_13 (by decide) ?_
    exact W.iret (v := 34) hx hb hr (fun t ht hW => hQ 34 () t h (by rw [ht]; exact hP) (va_K.moved hW.alike hK) hD (hS.F ht)) hS.2.2 dX3_entityOfFour_15
set_option maxHeartbeats 4000000 in
set_option maxRecDepth 100000 in
theorem sX3_entity (l : Launch) (dC : Nat → ClassId) (dI : Nat → Nat → Nat) (ad : Nat → Nat) (cI cZ : ClassId) (sa sv : Nat → Nat) (lt_count : Int32) (lw_begin : Int32) (lw_end : Int32) (lw_depth : Int32) (lw_signed : Int32) (lw_led : Int32) (pr_written : Int32) (pr_within : Int32) (st_size : Int32) (tx_size : Int32) (tt_count : Int32) (tt_pieces : Int32) (tt_kinds : Int32) (lt_begins : Nat → Int32) (lt_marks : Nat → Int32) (st_word : Nat → Int32) (st_vowels : Nat → Int32) (tx_characters : Nat → Int32) (tt_begins : Nat → Int32) (tt_lengths : Nat → Int32) (tt_stemLengths : Nat → Int32) (tt_places : Nat → Int32) (tt_addresses : Nat → Int32) (tt_smalls : Nat → Int32) (tt_stems : Nat → Int32) (tt_slots : Nat → Int32) (tt_nexts : Nat → Int32) (x1 : Int32) (x2 : Int32) {post : Int32 → Prop} (h : wpX3_entity post tx_size tx_characters x1 x2) : xMi l (dC, dI) vwCl [(cI, .int), (cZ, .boolean)] (sI sa sv) yX3_entity wsX3_entity ({ frames := 6, cells := 0, slots := 0, locals := 129 }) (xW ad cI cZ lt_count lw_begin lw_end lw_depth lw_signed lw_led pr_written pr_within st_size tx_size tt_count tt_pieces tt_kinds lt_begins lt_marks st_word st_vowels tx_characters tt_begins tt_lengths tt_stemLengths tt_places tt_addresses tt_smalls tt_stems tt_slots tt_nexts) [.ref (ad 2), .int x1, .int x2] (fun (r : Int32) (u : Unit) => post r ) (fun u : Unit => (xW ad cI cZ lt_count lw_begin lw_end lw_depth lw_signed lw_led pr_written pr_within st_size tx_size tt_count tt_pieces tt_kinds lt_begins lt_marks st_word st_vowels tx_characters tt_begins tt_lengths tt_stemLengths tt_places tt_addresses tt_smalls tt_stems tt_slots tt_nexts)) := by
  intro sz
  refine Met.ofW (cc := cX3_entity) (maxL := 3) (ret := (some .int)) (by decide) rfl ?_
  intro p e s m args below meth c s₁ B hml hv
  obtain ⟨rfl, hsz, hP, hK, hD0, hI⟩ := hv
  have hx := B.exec
  have hb := B.bytes
  have hr := B.returns
  have hts := atoms_spec (ws := wsX3_entity) B.pre
  have hown : s.vm.findClass RX3 = some m.cls := findClass_of_methodNamed B.named
  have hlocks := B.notSynchronized
  subst hsz
  have hD := hD0.self (sz := s.heap.size)
  generalize hAe : va_A (xW ad cI cZ lt_count lw_begin lw_end lw_depth lw_signed lw_led pr_written pr_within st_size tx_size tt_count tt_pieces tt_kinds lt_begins lt_marks st_word st_vowels tx_characters tt_begins tt_lengths tt_stemLengths tt_places tt_addresses tt_smalls tt_stems tt_slots tt_nexts) s.heap.size = A at hD hI ⊢
  have hA : ∀ q : Nat, s.heap.size ≤ q → A q := fun q h => by rw [← hAe]; exact Or.inr h
  have hS : va_S A s.heap s.heap [] := va_S.rf
  have Fx : CallFix p m c cX3_entity 3 s ([.ref (ad 2), .int x1, .int x2] : List Value).toArray wsX3_entity RX3 := ⟨hx, hb, hml, hown, hts⟩
  have hQ : ∀ (r : Int32) (u : Unit) (t : State), (fun (r : Int32) (u : Unit) => post r ) r u → va_P (dC, dI) vwCl ((fun u : Unit => (xW ad cI cZ lt_count lw_begin lw_end lw_depth lw_signed lw_led pr_written pr_within st_size tx_size tt_count tt_pieces tt_kinds lt_begins lt_marks st_word st_vowels tx_characters tt_begins tt_lengths tt_stemLengths tt_places tt_addresses tt_smalls tt_stems tt_slots tt_nexts)) u) t.heap → va_K (dC, dI) vwCl [(cI, .int), (cZ, .boolean)] t → va_D A ((fun u : Unit => (xW ad cI cZ lt_count lw_begin lw_end lw_depth lw_signed lw_led pr_written pr_within st_size tx_size tt_count tt_pieces tt_kinds lt_begins lt_marks st_word st_vowels tx_characters tt_begins tt_lengths tt_stemLengths tt_places tt_addresses tt_smalls tt_stems tt_slots tt_nexts)) u) → va_F A s t → (va_Qi (fun (r : Int32) (u : Unit) => post r ) (xB (dC, dI) vwCl [(cI, .int), (cZ, .boolean)] A (fun u : Unit => (xW ad cI cZ lt_count lw_begin lw_end lw_depth lw_signed lw_led pr_written pr_within st_size tx_size tt_count tt_pieces tt_kinds lt_begins lt_marks st_word st_vowels tx_characters tt_begins tt_lengths tt_stemLengths tt_places tt_addresses tt_smalls tt_stems tt_slots tt_nexts))) A) ([.ref (ad 2), .int x1, .int x2] : List Value).toArray s (.returned (some (.int r))) t := fun r u t h1 h2 h3 h4 h5 => ⟨⟨r, u, rfl, h1, h2, h3, h4⟩, h5⟩
  generalize (va_Qi (fun (r : Int32) (u : Unit) => post r ) (xB (dC, dI) vwCl [(cI, .int), (cZ, .boolean)] A (fun u : Unit => (xW ad cI cZ lt_count lw_begin lw_end lw_depth lw_signed lw_led pr_written pr_within st_size tx_size tt_count tt_pieces tt_kinds lt_begins lt_marks st_word st_vowels tx_characters tt_begins tt_lengths tt_stemLengths tt_places tt_addresses tt_smalls tt_stems tt_slots tt_nexts))) A) = Qc at hQ ⊢
  have hl := lv_entry ([.ref (ad 2), .int x1, .int x2]) (n := 3) (Nat.le_of_ble_eq_true rfl)
  rw [lg_entry_eq]
  generalize (lg_sl ([.ref (ad 2), .int x1, .int x2]) ++ List.replicate (3 - (lg_sl ([.ref (ad 2), .int x1, .int x2])).length) Slot.unset).toArray = ls at hl ⊢
  have hl : lv_has ls 3 [(0, .ref (ad 2)), (1, .int x1), (2, .int x2)] := hl
  refine (fun (key : ∀ (H : Heap) (locs : List Loc), va_P (dC, dI) vwCl (xW ad cI cZ lt_count lw_begin lw_end lw_depth lw_signed lw_led pr_written pr_within st_size tx_size tt_count tt_pieces tt_kinds lt_begins lt_marks st_word st_vowels tx_characters tt_begins tt_lengths tt_stemLengths tt_places tt_addresses tt_smalls tt_stems tt_slots tt_nexts) H → va_D A (xW ad cI cZ lt_count lw_begin lw_end lw_depth lw_signed lw_led pr_written pr_within st_size tx_size tt_count tt_pieces tt_kinds lt_begins lt_marks st_word st_vowels tx_characters tt_begins tt_lengths tt_stemLengths tt_places tt_addresses tt_smalls tt_stems tt_slots tt_nexts) → va_S A s.heap H locs → W p l e (headSpec wsX3_entity ({ frames := 6, cells := 0, slots := 0, locals := 129 })).room s m ([.ref (ad 2), .int x1, .int x2] : List Value).toArray below meth c H locs 0 0 (MQ below Qc ([.ref (ad 2), .int x1, .int x2] : List Value).toArray s 0 0 A) (F0 m 0 ls [])) => key _ _ hP hD hS) ?_
  have inX3 : ∀ w ∈ wsX30, w ∈ wsX3_entity := (fun _ h9 => List.mem_cons_of_mem _ (List.mem_append_left _ (List.mem_append_right _ h9)))
  intro H locs hP hD hS
  delta wpX3_entity at h
  refine lv_iload_n hx hb dX3_entity_0 rfl (lv_at hl 2 rfl) ?_
  refine lv_iload_n hx hb dX3_entity_1 rfl (lv_at hl 1 rfl) ?_
  refine lv_isub hx hb dX3_entity_2 ?_
  refine lv_topi (fun sw_1 esw_1 => ?_)
  have h := h sw_1 esw_1
  by_cases c0 : sw_1 = 2
  · have h := h.1 c0
    refine lv_tableIn (tgt := 36) hx hb dX3_entity_3 (by rw [c0]; decide) (by rw [c0]; decide) (by rw [c0]; rfl) (by decide) ?_
    refine lv_aload_n hx hb dX3_entity_36 rfl (lv_at hl 0 rfl) ?_
    refine va_get (D := (dC, dI)) (ci := 2) (v := .ref (ad 4)) (C := RX3) (T := TX3) (N := 3) hx hb hts inX3 hown hK hP 2 rfl rfl 0 (by decide) (hts (.fieldLink RX3 9 "MailWords$PageReader" "text" "LMailWords$Text;") (List.mem_of_getElem? (i := 1) rfl)) (fun _ h9 => h9) rfl dX3_entity_37 ?_
    refine lv_iload_n hx hb dX3_entity_40 rfl (lv_at hl 1 rfl) ?_
    refine va_ldcS hx hb hown (show vk_R RX3 172 "lt" (sa 21) s from sI_ref hI (i := 21) (by decide)) dX3_entity_41 ?_
    refine xc_vi (As := [.int x1, .ref (sa 21)]) (rest := []) xG Fx (sX5_holds l dC dI ad cI cZ sa sv lt_count lw_begin lw_end lw_depth lw_signed lw_led pr_written pr_within st_size tx_size tt_count tt_pieces tt_kinds lt_begins lt_marks st_word st_vowels tx_characters tt_begins tt_lengths tt_stemLengths tt_places tt_addresses tt_smalls tt_stems tt_slots tt_nexts x1 21 h) (cwV 2 hts gX3_entity_X5_holds rfl rfl rfl hdX5_holds ⟨Nat.le_of_ble_eq_true rfl, Nat.le_of_ble_eq_true rfl⟩) (va_recv hK hP (ci := 4) (q0 := 4) rfl rfl) hK hP hD hS hA hI rfl hl.1 rfl (Nat.le_of_ble_eq_true rfl) dX3_entity_43 ⟨Nat.zero_le _, Nat.zero_le _⟩ (fun r_2 u H locs h hP hD hS => ?_)
    refine lv_if_eq (tgt := 54) hx hb dX3_entity_46 (by decide) (fun c9 => ?_) (fun c9 => ?_)
    · have h := h.1 c9
      refine lv_aload_n hx hb dX3_entity_54 rfl (lv_at hl 0 rfl) ?_
      refine va_get (D := (dC, dI)) (ci := 2) (v := .ref (ad 4)) (C := RX3) (T := TX3) (N := 3) hx hb hts inX3 hown hK hP 2 rfl rfl 0 (by decide) (hts (.fieldLink RX3 9 "MailWords$PageReader" "text" "LMailWords$Text;") (List.mem_of_getElem? (i := 1) rfl)) (fun _ h9 => h9) rfl dX3_entity_55 ?_
      refine lv_iload_n hx hb dX3_entity_58 rfl (lv_at hl 1 rfl) ?_
      refine va_ldcS hx hb hown (show vk_R RX3 174 "gt" (sa 22) s from sI_ref hI (i := 22) (by decide)) dX3_entity_59 ?_
      refine xc_vi (As := [.int x1, .ref (sa 22)]) (rest := []) xG Fx (sX5_holds l dC dI ad cI cZ sa sv lt_count lw_begin lw_end lw_depth lw_signed lw_led pr_written pr_within st_size tx_size tt_count tt_pieces tt_kinds lt_begins lt_marks st_word st_vowels tx_characters tt_begins tt_lengths tt_stemLengths tt_places tt_addresses tt_smalls tt_stems tt_slots tt_nexts x1 22 h) (cwV 2 hts gX3_entity_X5_holds rfl rfl rfl hdX5_holds ⟨Nat.le_of_ble_eq_true rfl, Nat.le_of_ble_eq_true rfl⟩) (va_recv hK hP (ci := 4) (q0 := 4) rfl rfl) hK hP hD hS hA hI rfl hl.1 rfl (Nat.le_of_ble_eq_true rfl) dX3_entity_61 ⟨Nat.zero_le _, Nat.zero_le _⟩ (fun r_3 u H locs h hP hD hS => ?_)
      refine lv_if_eq (tgt := 72) hx hb dX3_entity_64 (by decide) (fun c9 => ?_) (fun c9 => ?_)
      · have h := h.1 c9
        refine lv_iconst (v := (-1)) hx hb dX3_entity_72 (by decide) ?_
        exact W.iret (v := (-1)) hx hb hr (fun t ht hW => hQ (-1) () t h (by rw [ht]; exact hP) (va_K.moved hW.alike hK) hD (hS.F ht)) hS.2.2 dX3_entity_73
      · have h := h.2 c9
        refine lv_bipush (v := 62) hx hb dX3_entity_67 (by decide) ?_
        refine lv_goto (tgt := 73) hx hb dX3_entity_69 (by decide) ?_
        exact W.iret (v := 62) hx hb hr (fun t ht hW => hQ 62 () t h (by rw [ht]; exact hP) (va_K.moved hW.alike hK) hD (hS.F ht)) hS.2.2 dX3_entity_73
    · have h := h.2 c9
      refine lv_bipush (v := 60) hx hb dX3_entity_49 (by decide) ?_
      refine lv_goto (tgt := 73) hx hb dX3_entity_51 (by decide) ?_
      exact W.iret (v := 60) hx hb hr (fun t ht hW => hQ 60 () t h (by rw [ht]; exact hP) (va_K.moved hW.alike hK) hD (hS.F ht)) hS.2.2 dX3_entity_73
  by_cases c1 : sw_1 = 3
  · have h := h.2.1 c1
    refine lv_tableIn (tgt := 74) hx hb dX3_entity_3 (by rw [c1]; decide) (by rw [c1]; decide) (by rw [c1]; rfl) (by decide) ?_
    refine lv_aload_n hx hb dX3_entity_74 rfl (lv_at hl 0 rfl) ?_
    refine va_get (D := (dC, dI)) (ci := 2) (v := .ref (ad 4)) (C := RX3) (T := TX3) (N := 3) hx hb hts inX3 hown hK hP 2 rfl rfl 0 (by decide) (hts (.fieldLink RX3 9 "MailWords$PageReader" "text" "LMailWords$Text;") (List.mem_of_getElem? (i := 1) rfl)) (fun _ h9 => h9) rfl dX3_entity_75 ?_
    refine lv_iload_n hx hb dX3_entity_78 rfl (lv_at hl 1 rfl) ?_
    refine va_ldcS hx hb hown (show vk_R RX3 176 "amp" (sa 23) s from sI_ref hI (i := 23) (by decide)) dX3_entity_79 ?_
    refine xc_vi (As := [.int x1, .ref (sa 23)]) (rest := []) xG Fx (sX5_holds l dC dI ad cI cZ sa sv lt_count lw_begin lw_end lw_depth lw_signed lw_led pr_written pr_within st_size tx_size tt_count tt_pieces tt_kinds lt_begins lt_marks st_word st_vowels tx_characters tt_begins tt_lengths tt_stemLengths tt_places tt_addresses tt_smalls tt_stems tt_slots tt_nexts x1 23 h) (cwV 2 hts gX3_entity_X5_holds rfl rfl rfl hdX5_holds ⟨Nat.le_of_ble_eq_true rfl, Nat.le_of_ble_eq_true rfl⟩) (va_recv hK hP (ci := 4) (q0 := 4) rfl rfl) hK hP hD hS hA hI rfl hl.1 rfl (Nat.le_of_ble_eq_true rfl) dX3_entity_81 ⟨Nat.zero_le _, Nat.zero_le _⟩ (fun r_4 u H locs h hP hD hS => ?_)
    refine lv_if_eq (tgt := 92) hx hb dX3_entity_84 (by decide) (fun c9 => ?_) (fun c9 => ?_)
    · have h := h.1 c9
      refine lv_iconst (v := (-1)) hx hb dX3_entity_92 (by decide) ?_
      exact W.iret (v := (-1)) hx hb hr (fun t ht hW => hQ (-1) () t h (by rw [ht]; exact hP) (va_K.moved hW.alike hK) hD (hS.F ht)) hS.2.2 dX3_entity_93
    · have h := h.2 c9
      refine lv_bipush (v := 38) hx hb dX3_entity_87 (by decide) ?_
      refine lv_goto (tgt := 93) hx hb dX3_entity_89 (by decide) ?_
      exact W.iret (v := 38) hx hb hr (fun t ht hW => hQ 38 () t h (by rw [ht]; exact hP) (va_K.moved hW.alike hK) hD (hS.F ht)) hS.2.2 dX3_entity_93
  by_cases c2 : sw_1 = 4
  · have h := h.2.2.1 c2
    refine lv_tableIn (tgt := 94) hx hb dX3_entity_3 (by rw [c2]; decide) (by rw [c2]; decide) (by rw [c2]; rfl) (by decide) ?_
    refine lv_aload_n hx hb dX3_entity_94 rfl (lv_at hl 0 rfl) ?_
    refine lv_iload_n hx hb dX3_entity_95 rfl (lv_at hl 1 rfl) ?_
    refine xc_vi (As := [.int x1]) (rest := []) xG Fx (sX3_entityOfFour l dC dI ad cI cZ sa sv lt_count lw_begin lw_end lw_depth lw_signed lw_led pr_written pr_within st_size tx_size tt_count tt_pieces tt_kinds lt_begins lt_marks st_word st_vowels tx_characters tt_begins tt_lengths tt_stemLengths tt_places tt_addresses tt_smalls tt_stems tt_slots tt_nexts x1 h) (cwV 1 hts gX3_entity_X3_entityOfFour rfl rfl rfl hdX3_entityOfFour ⟨Nat.le_of_ble_eq_true rfl, Nat.le_of_ble_eq_true rfl⟩) (va_recv hK hP (ci := 2) (q0 := 2) rfl rfl) hK hP hD hS hA hI rfl hl.1 rfl (Nat.le_of_ble_eq_true rfl) dX3_entity_96 ⟨Nat.zero_le _, Nat.zero_le _⟩ (fun r_5 u H locs h hP hD hS => ?_)
    exact W.iret (v := r_5) hx hb hr (fun t ht hW => hQ r_5 () t h (by rw [ht]; exact hP) (va_K.moved hW.alike hK) hD (hS.F ht)) hS.2.2 dX3_entity_99
  by_cases c3 : sw_1 = 5
  · have h := h.2.2.2.1 c3
    refine lv_tableIn (tgt := 100) hx hb dX3_entity_3 (by rw [c3]; decide) (by rw [c3]; decide) (by rw [c3]; rfl) (by decide) ?_
    refine lv_aload_n hx hb dX3_entity_100 rfl (lv_at hl 0 rfl) ?_
    refine va_get (D := (dC, dI)) (ci := 2) (v := .ref (ad 4)) (C := RX3) (T := TX3) (N := 3) hx hb hts inX3 hown hK hP 2 rfl rfl 0 (by decide) (hts (.fieldLink RX3 9 "MailWords$PageReader" "text" "LMailWords$Text;") (List.mem_of_getElem? (i := 1) rfl)) (fun _ h9 => h9) rfl dX3_entity_101 ?_
    refine lv_iload_n hx hb dX3_entity_104 rfl (lv_at hl 1 rfl) ?_
    refine va_ldcS hx hb hown (show vk_R RX3 181 "szlig" (sa 32) s from sI_ref hI (i := 32) (by decide)) dX3_entity_105 ?_
    refine xc_vi (As := [.int x1, .ref (sa 32)]) (rest := []) xG Fx (sX5_holds l dC dI ad cI cZ sa sv lt_count lw_begin lw_end lw_depth lw_signed lw_led pr_written pr_within st_size tx_size tt_count tt_pieces tt_kinds lt_begins lt_marks st_word st_vowels tx_characters tt_begins tt_lengths tt_stemLengths tt_places tt_addresses tt_smalls tt_stems tt_slots tt_nexts x1 32 h) (cwV 2 hts gX3_entity_X5_holds rfl rfl rfl hdX5_holds ⟨Nat.le_of_ble_eq_true rfl, Nat.le_of_ble_eq_true rfl⟩) (va_recv hK hP (ci := 4) (q0 := 4) rfl rfl) hK hP hD hS hA hI rfl hl.1 rfl (Nat.le_of_ble_eq_true rfl) dX3_entity_107 ⟨Nat.zero_le _, Nat.zero_le _⟩ (fun r_6 u H locs h hP hD hS => ?_)
    refine lv_if_eq (tgt := 119) hx hb dX3_entity_110 (by decide) (fun c9 => ?_) (fun c9 => ?_)
    · have h := h.1 c9
      refine lv_iconst (v := (-1)) hx hb dX3_entity_119 (by decide) ?_
      exact W.iret (v := (-1)) hx hb hr (fun t ht hW => hQ (-1) () t h (by rw [ht]; exact hP) (va_K.moved hW.alike hK) hD (hS.F ht)) hS.2.2 dX3_entity_120
    · have h := h.2 c9
      refine lv_sipush (v := 223) hx hb dX3_entity_113 (by decide) ?_
      refine lv_goto (tgt := 120) hx hb dX3_entity_116 (by decide) ?_
      exact W.iret (v := 223) hx hb hr (fun t ht hW => hQ 223 () t h (by rw [ht]; exact hP) (va_K.moved hW.alike hK) hD (hS.F ht)) hS.2.2 dX3_entity_120
  by_cases c4 : sw_1 = 6
  · have h := h.2.2.2.2.1 c4
    refine lv_tableIn (tgt := 121) hx hb dX3_entity_3 (by rw [c4]; decide) (by rw [c4]; decide) (by rw [c4]; rfl) (by decide) ?_
    refine lv_aload_n hx hb dX3_entity_121 rfl (lv_at hl 0 rfl) ?_
    refine va_get (D := (dC, dI)) (ci := 2) (v := .ref (ad 4)) (C := RX3) (T := TX3) (N := 3) hx hb hts inX3 hown hK hP 2 rfl rfl 0 (by decide) (hts (.fieldLink RX3 9 "MailWords$PageReader" "text" "LMailWords$Text;") (List.mem_of_getElem? (i := 1) rfl)) (fun _ h9 => h9) rfl dX3_entity_122 ?_
    refine lv_iload_n hx hb dX3_entity_125 rfl (lv_at hl 1 rfl) ?_
    refine va_ldcS hx hb hown (show vk_R RX3 183 "eacute" (sa 33) s from sI_ref hI (i := 33) (by decide)) dX3_entity_126 ?_
    refine xc_vi (As := [.int x1, .ref (sa 33)]) (rest := []) xG Fx (sX5_holds l dC dI ad cI cZ sa sv lt_count lw_begin lw_end lw_depth lw_signed lw_led pr_written pr_within st_size tx_size tt_count tt_pieces tt_kinds lt_begins lt_marks st_word st_vowels tx_characters tt_begins tt_lengths tt_stemLengths tt_places tt_addresses tt_smalls tt_stems tt_slots tt_nexts x1 33 h) (cwV 2 hts gX3_entity_X5_holds rfl rfl rfl hdX5_holds ⟨Nat.le_of_ble_eq_true rfl, Nat.le_of_ble_eq_true rfl⟩) (va_recv hK hP (ci := 4) (q0 := 4) rfl rfl) hK hP hD hS hA hI rfl hl.1 rfl (Nat.le_of_ble_eq_true rfl) dX3_entity_128 ⟨Nat.zero_le _, Nat.zero_le _⟩ (fun r_7 u H locs h hP hD hS => ?_)
    refine lv_if_eq (tgt := 140) hx hb dX3_entity_131 (by decide) (fun c9 => ?_) (fun c9 => ?_)
    · have h := h.1 c9
      refine lv_iconst (v := (-1)) hx hb dX3_entity_140 (by decide) ?_
      exact W.iret (v := (-1)) hx hb hr (fun t ht hW => hQ (-1) () t h (by rw [ht]; exact hP) (va_K.moved hW.alike hK) hD (hS.F ht)) hS.2.2 dX3_entity_141
    · have h := h.2 c9
      refine lv_sipush (v := 233) hx hb dX3_entity_134 (by decide) ?_
      refine lv_goto (tgt := 141) hx hb dX3_entity_137 (by decide) ?_
      exact W.iret (v := 233) hx hb hr (fun t ht hW => hQ 233 () t h (by rw [ht]; exact hP) (va_K.moved hW.alike hK) hD (hS.F ht)) hS.2.2 dX3_entity_141
  have h := h.2.2.2.2.2 c0 c1 c2 c3 c4
  refine lv_tableOut (tgt := 142) hx hb dX3_entity_3 (sw_out2_6 c0 c1 c2 c3 c4) (by decide) ?_
  refine lv_iconst (v := (-1)) hx hb dX3_entity_142 (by decide) ?_
  exact W.iret (v := (-1)) hx hb hr (fun t ht hW => hQ (-1) () t h (by rw [ht]; exact hP) (va_K.moved hW.alike hK) hD (hS.F ht)) hS.2.2 dX3_entity_143
set_option maxHeartbeats 4000000 in
set_option maxRecDepth 100000 in
theorem sX3_readName (l : Launch) (dC : Nat → ClassId) (dI : Nat → Nat → Nat) (ad : Nat → Nat) (cI cZ : ClassId) (sa sv : Nat → Nat) (lt_count : Int32) (lw_begin : Int32) (lw_end : Int32) (lw_depth : Int32) (lw_signed : Int32) (lw_led : Int32) (pr_written : Int32) (pr_within : Int32) (st_size : Int32) (tx_size : Int32) (tt_count : Int32) (tt_pieces : Int32) (tt_kinds : Int32) (lt_begins : Nat → Int32) (lt_marks : Nat → Int32) (st_word : Nat → Int32) (st_vowels : Nat → Int32) (tx_characters : Nat → Int32) (tt_begins : Nat → Int32) (tt_lengths : Nat → Int32) (tt_stemLengths : Nat → Int32) (tt_places : Nat → Int32) (tt_addresses : Nat → Int32) (tt_smalls : Nat → Int32) (tt_stems : Nat → Int32) (tt_slots : Nat → Int32) (tt_nexts : Nat → Int32) (x1 : Int32) {post : Int32 → Int32 → (Nat → Int32) → Prop} (h : wpX3_readName post pr_written tx_size tx_characters x1) : xMi l (dC, dI) vwCl [(cI, .int), (cZ, .boolean)] (sI sa sv) yX3_readName wsX3_readName ({ frames := 7, cells := 0, slots := 0, locals := 151 }) (xW ad cI cZ lt_count lw_begin lw_end lw_depth lw_signed lw_led pr_written pr_within st_size tx_size tt_count tt_pieces tt_kinds lt_begins lt_marks st_word st_vowels tx_characters tt_begins tt_lengths tt_stemLengths tt_places tt_addresses tt_smalls tt_stems tt_slots tt_nexts) [.ref (ad 2), .int x1] (fun (r : Int32) (u : Int32 × (Nat → Int32)) => post r u.1 u.2) (fun u : Int32 × (Nat → Int32) => (xW ad cI cZ lt_count lw_begin lw_end lw_depth lw_signed lw_led u.1 pr_within st_size tx_size tt_count tt_pieces tt_kinds lt_begins lt_marks st_word st_vowels u.2 tt_begins tt_lengths tt_stemLengths tt_places tt_addresses tt_smalls tt_stems tt_slots tt_nexts)) := by
  intro sz
  refine Met.ofW (cc := cX3_readName) (maxL := 4) (ret := (some .int)) (by decide) rfl ?_
  intro p e s m args below meth c s₁ B hml hv
  obtain ⟨rfl, hsz, hP, hK, hD0, hI⟩ := hv
  have hx := B.exec
  have hb := B.bytes
  have hr := B.returns
  have hts := atoms_spec (ws := wsX3_readName) B.pre
  have hown : s.vm.findClass RX3 = some m.cls := findClass_of_methodNamed B.named
  have hlocks := B.notSynchronized
  subst hsz
  have hD := hD0.self (sz := s.heap.size)
  generalize hAe : va_A (xW ad cI cZ lt_count lw_begin lw_end lw_depth lw_signed lw_led pr_written pr_within st_size tx_size tt_count tt_pieces tt_kinds lt_begins lt_marks st_word st_vowels tx_characters tt_begins tt_lengths tt_stemLengths tt_places tt_addresses tt_smalls tt_stems tt_slots tt_nexts) s.heap.size = A at hD hI ⊢
  have hA : ∀ q : Nat, s.heap.size ≤ q → A q := fun q h => by rw [← hAe]; exact Or.inr h
  have hS : va_S A s.heap s.heap [] := va_S.rf
  have Fx : CallFix p m c cX3_readName 4 s ([.ref (ad 2), .int x1] : List Value).toArray wsX3_readName RX3 := ⟨hx, hb, hml, hown, hts⟩
  have hQ : ∀ (r : Int32) (u : Int32 × (Nat → Int32)) (t : State), (fun (r : Int32) (u : Int32 × (Nat → Int32)) => post r u.1 u.2) r u → va_P (dC, dI) vwCl ((fun u : Int32 × (Nat → Int32) => (xW ad cI cZ lt_count lw_begin lw_end lw_depth lw_signed lw_led u.1 pr_within st_size tx_size tt_count tt_pieces tt_kinds lt_begins lt_marks st_word st_vowels u.2 tt_begins tt_lengths tt_stemLengths tt_places tt_addresses tt_smalls tt_stems tt_slots tt_nexts)) u) t.heap → va_K (dC, dI) vwCl [(cI, .int), (cZ, .boolean)] t → va_D A ((fun u : Int32 × (Nat → Int32) => (xW ad cI cZ lt_count lw_begin lw_end lw_depth lw_signed lw_led u.1 pr_within st_size tx_size tt_count tt_pieces tt_kinds lt_begins lt_marks st_word st_vowels u.2 tt_begins tt_lengths tt_stemLengths tt_places tt_addresses tt_smalls tt_stems tt_slots tt_nexts)) u) → va_F A s t → (va_Qi (fun (r : Int32) (u : Int32 × (Nat → Int32)) => post r u.1 u.2) (xB (dC, dI) vwCl [(cI, .int), (cZ, .boolean)] A (fun u : Int32 × (Nat → Int32) => (xW ad cI cZ lt_count lw_begin lw_end lw_depth lw_signed lw_led u.1 pr_within st_size tx_size tt_count tt_pieces tt_kinds lt_begins lt_marks st_word st_vowels u.2 tt_begins tt_lengths tt_stemLengths tt_places tt_addresses tt_smalls tt_stems tt_slots tt_nexts))) A) ([.ref (ad 2), .int x1] : List Value).toArray s (.returned (some (.int r))) t := fun r u t h1 h2 h3 h4 h5 => ⟨⟨r, u, rfl, h1, h2, h3, h4⟩, h5⟩
  generalize (va_Qi (fun (r : Int32) (u : Int32 × (Nat → Int32)) => post r u.1 u.2) (xB (dC, dI) vwCl [(cI, .int), (cZ, .boolean)] A (fun u : Int32 × (Nat → Int32) => (xW ad cI cZ lt_count lw_begin lw_end lw_depth lw_signed lw_led u.1 pr_within st_size tx_size tt_count tt_pieces tt_kinds lt_begins lt_marks st_word st_vowels u.2 tt_begins tt_lengths tt_stemLengths tt_places tt_addresses tt_smalls tt_stems tt_slots tt_nexts))) A) = Qc at hQ ⊢
  have hl := lv_entry ([.ref (ad 2), .int x1]) (n := 4) (Nat.le_of_ble_eq_true rfl)
  rw [lg_entry_eq]
  generalize (lg_sl ([.ref (ad 2), .int x1]) ++ List.replicate (4 - (lg_sl ([.ref (ad 2), .int x1])).length) Slot.unset).toArray = ls at hl ⊢
  have hl : lv_has ls 4 [(0, .ref (ad 2)), (1, .int x1)] := hl
  refine (fun (key : ∀ (H : Heap) (locs : List Loc), va_P (dC, dI) vwCl (xW ad cI cZ lt_count lw_begin lw_end lw_depth lw_signed lw_led pr_written pr_within st_size tx_size tt_count tt_pieces tt_kinds lt_begins lt_marks st_word st_vowels tx_characters tt_begins tt_lengths tt_stemLengths tt_places tt_addresses tt_smalls tt_stems tt_slots tt_nexts) H → va_D A (xW ad cI cZ lt_count lw_begin lw_end lw_depth lw_signed lw_led pr_written pr_within st_size tx_size tt_count tt_pieces tt_kinds lt_begins lt_marks st_word st_vowels tx_characters tt_begins tt_lengths tt_stemLengths tt_places tt_addresses tt_smalls tt_stems tt_slots tt_nexts) → va_S A s.heap H locs → W p l e (headSpec wsX3_readName ({ frames := 7, cells := 0, slots := 0, locals := 151 })).room s m ([.ref (ad 2), .int x1] : List Value).toArray below meth c H locs 0 0 (MQ below Qc ([.ref (ad 2), .int x1] : List Value).toArray s 0 0 A) (F0 m 0 ls [])) => key _ _ hP hD hS) ?_
  have inX3 : ∀ w ∈ wsX30, w ∈ wsX3_readName := (fun _ h9 => List.mem_cons_of_mem _ (List.mem_append_left _ (List.mem_append_right _ h9)))
  have J35 : ∀ (pr_written : Int32) (tx_characters : Nat → Int32) (x2 : Int32) (H : Heap) (locs : List Loc) (ls : Array Slot), lv_has ls 4 [(0, .ref (ad 2)), (1, .int x1), (2, .int x2)] → va_P (dC, dI) vwCl (xW ad cI cZ lt_count lw_begin lw_end lw_depth lw_signed lw_led pr_written pr_within st_size tx_size tt_count tt_pieces tt_kinds lt_begins lt_marks st_word st_vowels tx_characters tt_begins tt_lengths tt_stemLengths tt_places tt_addresses tt_smalls tt_stems tt_slots tt_nexts) H → va_D A (xW ad cI cZ lt_count lw_begin lw_end lw_depth lw_signed lw_led pr_written pr_within st_size tx_size tt_count tt_pieces tt_kinds lt_begins lt_marks st_word st_vowels tx_characters tt_begins tt_lengths tt_stemLengths tt_places tt_addresses tt_smalls tt_stems tt_slots tt_nexts) → va_S A s.heap H locs → wjX3_readName_35 post tx_size x1 pr_written tx_characters x2 → W p l e (headSpec wsX3_readName ({ frames := 7, cells := 0, slots := 0, locals := 151 })).room s m ([.ref (ad 2), .int x1] : List Value).toArray below meth c H locs 0 0 (MQ below Qc ([.ref (ad 2), .int x1] : List Value).toArray s 0 0 A) (F0 m 35 ls []) := by
    intro pr_written tx_characters x2 H locs ls hl hP hD hS h
    delta wjX3_readName_35 at h
    refine lv_aload_n hx hb dX3_readName_35 rfl (lv_at hl 0 rfl) ?_
    refine lv_iload_n hx hb dX3_readName_36 rfl (lv_at hl 1 rfl) ?_
    refine lv_iconst (v := 1) hx hb dX3_readName_37 (by decide) ?_
    refine lv_iadd hx hb dX3_readName_38 ?_
    refine lv_iload_n hx hb dX3_readName_39 rfl (lv_at hl 2 rfl) ?_
    refine xc_vi (As := [.int (x1 + 1), .int x2]) (rest := []) xG Fx (sX3_entity l dC dI ad cI cZ sa sv lt_count lw_begin lw_end lw_depth lw_signed lw_led pr_written pr_within st_size tx_size tt_count tt_pieces tt_kinds lt_begins lt_marks st_word st_vowels tx_characters tt_begins tt_lengths tt_stemLengths tt_places tt_addresses tt_smalls tt_stems tt_slots tt_nexts (x1 + 1) x2 h) (cwV 2 hts gX3_readName_X3_entity rfl rfl rfl hdX3_entity ⟨Nat.le_of_ble_eq_true rfl, Nat.le_of_ble_eq_true rfl⟩) (va_recv hK hP (ci := 2) (q0 := 2) rfl rfl) hK hP hD hS hA hI rfl hl.1 rfl (Nat.le_of_ble_eq_true rfl) dX3_readName_40 ⟨Nat.zero_le _, Nat.zero_le _⟩ (fun r_1 u H locs h hP hD hS => ?_)
    refine lv_istore_n (lv' := [(3, .int r_1), (0, .ref (ad 2)), (1, .int x1), (2, .int x2)]) hx hb dX3_readName_43 rfl hl (by decide) rfl (fun ls hl => ?_)
    refine lv_iload_n hx hb dX3_readName_44 rfl (lv_at hl 0 rfl) ?_
    refine lv_iconst (v := (-1)) hx hb dX3_readName_45 (by decide) ?_
    refine lv_icmp_ne (tgt := 59) hx hb dX3_readName_46 (by decide) (fun c9 => ?_) (fun c9 => ?_)
    · have h := h.1 c9
      refine lv_aload_n hx hb dX3_readName_59 rfl (lv_at hl 1 rfl) ?_
      refine lv_iload_n hx hb dX3_readName_60 rfl (lv_at hl 0 rfl) ?_
      refine xc_vv (As := [.int r_1]) (rest := []) xG Fx (sX3_write l dC dI ad cI cZ sa sv lt_count lw_begin lw_end lw_depth lw_signed lw_led pr_written pr_within st_size tx_size tt_count tt_pieces tt_kinds lt_begins lt_marks st_word st_vowels tx_characters tt_begins tt_lengths tt_stemLengths tt_places tt_addresses tt_smalls tt_stems tt_slots tt_nexts r_1 h) (cwV 1 hts gX3_readName_X3_write rfl rfl rfl hdX3_write ⟨Nat.le_of_ble_eq_true rfl, Nat.le_of_ble_eq_true rfl⟩) (va_recv hK hP (ci := 2) (q0 := 2) rfl rfl) hK hP hD hS hA hI rfl hl.1 rfl (Nat.le_of_ble_eq_true rfl) dX3_readName_61 ⟨Nat.zero_le _, Nat.zero_le _⟩ (fun u H locs h hP hD hS => ?_)
      obtain ⟨pr_written_3, tx_characters_4⟩ := u
      have hP : va_P (dC, dI) vwCl (xW ad cI cZ lt_count lw_begin lw_end lw_depth lw_signed lw_led pr_written_3 pr_within st_size tx_size tt_count tt_pieces tt_kinds lt_begins lt_marks st_word st_vowels tx_characters_4 tt_begins tt_lengths tt_stemLengths tt_places tt_addresses tt_smalls tt_stems tt_slots tt_nexts) H := hP
      have hD : va_D A (xW ad cI cZ lt_count lw_begin lw_end lw_depth lw_signed lw_led pr_written_3 pr_within st_size tx_size tt_count tt_pieces tt_kinds lt_begins lt_marks st_word st_vowels tx_characters_4 tt_begins tt_lengths tt_stemLengths tt_places tt_addresses tt_smalls tt_stems tt_slots tt_nexts) := hD
      refine lv_aload_n hx hb dX3_readName_64 rfl (lv_at hl 1 rfl) ?_
      refine va_get (D := (dC, dI)) (ci := 2) (v := .ref (ad 4)) (C := RX3) (T := TX3) (N := 3) hx hb hts inX3 hown hK hP 2 rfl rfl 0 (by decide) (hts (.fieldLink RX3 9 "MailWords$PageReader" "text" "LMailWords$Text;") (List.mem_of_getElem? (i := 1) rfl)) (fun _ h9 => h9) rfl dX3_readName_65 ?_
      refine lv_iload_n hx hb dX3_readName_68 rfl (lv_at hl 3 rfl) ?_
      refine xc_vi (As := [.int x2]) (rest := []) xG Fx (sX5_get l dC dI ad cI cZ sa sv lt_count lw_begin lw_end lw_depth lw_signed lw_led pr_written_3 pr_within st_size tx_size tt_count tt_pieces tt_kinds lt_begins lt_marks st_word st_vowels tx_characters_4 tt_begins tt_lengths tt_stemLengths tt_places tt_addresses tt_smalls tt_stems tt_slots tt_nexts x2 h) (cwV 1 hts gX3_readName_X5_get rfl rfl rfl hdX5_get ⟨Nat.le_of_ble_eq_true rfl, Nat.le_of_ble_eq_true rfl⟩) (va_recv hK hP (ci := 4) (q0 := 4) rfl rfl) hK hP hD hS hA hI rfl hl.1 rfl (Nat.le_of_ble_eq_true rfl) dX3_readName_69 ⟨Nat.zero_le _, Nat.zero_le _⟩ (fun r_5 u H locs h hP hD hS => ?_)
      refine lv_bipush (v := 59) hx hb dX3_readName_72 (by decide) ?_
      refine lv_icmp_ne (tgt := 83) hx hb dX3_readName_74 (by decide) (fun c9 => ?_) (fun c9 => ?_)
      · have h := h.1 c9
        refine lv_iload_n hx hb dX3_readName_83 rfl (lv_at hl 3 rfl) ?_
        exact W.iret (v := x2) hx hb hr (fun t ht hW => hQ x2 (pr_written_3, tx_characters_4) t h (by rw [ht]; exact hP) (va_K.moved hW.alike hK) hD (hS.F ht)) hS.2.2 dX3_readName_84
      · have h := h.2 c9
        refine lv_iload_n hx hb dX3_readName_77 rfl (lv_at hl 3 rfl) ?_
        refine lv_iconst (v := 1) hx hb dX3_readName_78 (by decide) ?_
        refine lv_iadd hx hb dX3_readName_79 ?_
        refine lv_goto (tgt := 84) hx hb dX3_readName_80 (by decide) ?_
        exact W.iret (v := (x2 + 1)) hx hb hr (fun t ht hW => hQ (x2 + 1) (pr_written_3, tx_characters_4) t h (by rw [ht]; exact hP) (va_K.moved hW.alike hK) hD (hS.F ht)) hS.2.2 dX3_readName_84
    · have h := h.2 c9
      refine lv_aload_n hx hb dX3_readName_49 rfl (lv_at hl 1 rfl) ?_
      refine lv_bipush (v := 38) hx hb dX3_readName_50 (by decide) ?_
      refine xc_vv (As := [.int 38]) (rest := []) xG Fx (sX3_write l dC dI ad cI cZ sa sv lt_count lw_begin lw_end lw_depth lw_signed lw_led pr_written pr_within st_size tx_size tt_count tt_pieces tt_kinds lt_begins lt_marks st_word st_vowels tx_characters tt_begins tt_lengths tt_stemLengths tt_places tt_addresses tt_smalls tt_stems tt_slots tt_nexts 38 h) (cwV 1 hts gX3_readName_X3_write rfl rfl rfl hdX3_write ⟨Nat.le_of_ble_eq_true rfl, Nat.le_of_ble_eq_true rfl⟩) (va_recv hK hP (ci := 2) (q0 := 2) rfl rfl) hK hP hD hS hA hI rfl hl.1 rfl (Nat.le_of_ble_eq_true rfl) dX3_readName_52 ⟨Nat.zero_le _, Nat.zero_le _⟩ (fun u H locs h hP hD hS => ?_)
      obtain ⟨pr_written_7, tx_characters_8⟩ := u
      have hP : va_P (dC, dI) vwCl (xW ad cI cZ lt_count lw_begin lw_end lw_depth lw_signed lw_led pr_written_7 pr_within st_size tx_size tt_count tt_pieces tt_kinds lt_begins lt_marks st_word st_vowels tx_characters_8 tt_begins tt_lengths tt_stemLengths tt_places tt_addresses tt_smalls tt_stems tt_slots tt_nexts) H := hP
      have hD : va_D A (xW ad cI cZ lt_count lw_begin lw_end lw_depth lw_signed lw_led pr_written_7 pr_within st_size tx_size tt_count tt_pieces tt_kinds lt_begins lt_marks st_word st_vowels tx_characters_8 tt_begins tt_lengths tt_stemLengths tt_places tt_addresses tt_smalls tt_stems tt_slots tt_nexts) := hD
      refine lv_iload_n hx hb dX3_readName_55 rfl (lv_at hl 2 rfl) ?_
      refine lv_iconst (v := 1) hx hb dX3_readName_56 (by decide) ?_
      refine lv_iadd hx hb dX3_readName_57 ?_
      exact W.iret (v := (x1 + 1)) hx hb hr (fun t ht hW => hQ (x1 + 1) (pr_written_7, tx_characters_8) t h (by rw [ht]; exact hP) (va_K.moved hW.alike hK) hD (hS.F ht)) hS.2.2 dX3_readName_58
  have L4 : ∀ (pr_written : Int32) (tx_characters : Nat → Int32) (n : Nat) (x2 : Int32) (H : Heap) (locs : List Loc) (ls : Array Slot), lv_has ls 4 [(0, .ref (ad 2)), (1, .int x1), (2, .int x2)] → va_P (dC, dI) vwCl (xW ad cI cZ lt_count lw_begin lw_end lw_depth lw_signed lw_led pr_written pr_within st_size tx_size tt_count tt_pieces tt_kinds lt_begins lt_marks st_word st_vowels tx_characters tt_begins tt_lengths tt_stemLengths tt_places tt_addresses tt_smalls tt_stems tt_slots tt_nexts) H → va_D A (xW ad cI cZ lt_count lw_begin lw_end lw_depth lw_signed lw_led pr_written pr_within st_size tx_size tt_count tt_pieces tt_kinds lt_begins lt_marks st_word st_vowels tx_characters tt_begins tt_lengths tt_stemLengths tt_places tt_addresses tt_smalls tt_stems tt_slots tt_nexts) → va_S A s.heap H locs → wlX3_readName_4 post tx_size x1 pr_written tx_characters n x2 → W p l e (headSpec wsX3_readName ({ frames := 7, cells := 0, slots := 0, locals := 151 })).room s m ([.ref (ad 2), .int x1] : List Value).toArray below meth c H locs 0 0 (MQ below Qc ([.ref (ad 2), .int x1] : List Value).toArray s 0 0 A) (F0 m 4 ls []) := by
    intro pr_written tx_characters
    intro n
    induction n with
    | zero => intro x2 H locs ls _ _ _ _ h; exact absurd h (fun z => z)
    | succ n4 ih4 =>
      intro x2 H locs ls hl hP hD hS h
      rw [wlX3_readName_4] at h
      refine lv_iload_n hx hb dX3_readName_4 rfl (lv_at hl 2 rfl) ?_
      refine lv_aload_n hx hb dX3_readName_5 rfl (lv_at hl 0 rfl) ?_
      refine va_get (D := (dC, dI)) (ci := 2) (v := .ref (ad 4)) (C := RX3) (T := TX3) (N := 3) hx hb hts inX3 hown hK hP 2 rfl rfl 0 (by decide) (hts (.fieldLink RX3 9 "MailWords$PageReader" "text" "LMailWords$Text;") (List.mem_of_getElem? (i := 1) rfl)) (fun _ h9 => h9) rfl dX3_readName_6 ?_
      refine xc_vi (As := []) (rest := [.int x2]) xG Fx (sX5_size l dC dI ad cI cZ sa sv lt_count lw_begin lw_end lw_depth lw_signed lw_led pr_written pr_within st_size tx_size tt_count tt_pieces tt_kinds lt_begins lt_marks st_word st_vowels tx_characters tt_begins tt_lengths tt_stemLengths tt_places tt_addresses tt_smalls tt_stems tt_slots tt_nexts h) (cwV 0 hts gX3_readName_X5_size rfl rfl rfl hdX5_size ⟨Nat.le_of_ble_eq_true rfl, Nat.le_of_ble_eq_true rfl⟩) (va_recv hK hP (ci := 4) (q0 := 4) rfl rfl) hK hP hD hS hA hI rfl hl.1 rfl (Nat.le_of_ble_eq_true rfl) dX3_readName_9 ⟨Nat.zero_le _, Nat.zero_le _⟩ (fun r_9 u H locs h hP hD hS => ?_)
      refine lv_icmp_ge (tgt := 35) hx hb dX3_readName_12 (by decide) (fun c9 => ?_) (fun c9 => ?_)
      · have h := h.1 c9
        exact J35 pr_written tx_characters x2 H locs ls (lv_sub hl [0, 1, 2] rfl) hP hD hS h
      · have h := h.2 c9
        refine lv_aload_n hx hb dX3_readName_15 rfl (lv_at hl 0 rfl) ?_
        refine va_get (D := (dC, dI)) (ci := 2) (v := .ref (ad 4)) (C := RX3) (T := TX3) (N := 3) hx hb hts inX3 hown hK hP 2 rfl rfl 0 (by decide) (hts (.fieldLink RX3 9 "MailWords$PageReader" "text" "LMailWords$Text;") (List.mem_of_getElem? (i := 1) rfl)) (fun _ h9 => h9) rfl dX3_readName_16 ?_
        refine lv_iload_n hx hb dX3_readName_19 rfl (lv_at hl 2 rfl) ?_
        refine xc_vi (As := [.int x2]) (rest := []) xG Fx (sX5_get l dC dI ad cI cZ sa sv lt_count lw_begin lw_end lw_depth lw_signed lw_led pr_written pr_within st_size tx_size tt_count tt_pieces tt_kinds lt_begins lt_marks st_word st_vowels tx_characters tt_begins tt_lengths tt_stemLengths tt_places tt_addresses tt_smalls tt_stems tt_slots tt_nexts x2 h) (cwV 1 hts gX3_readName_X5_get rfl rfl rfl hdX5_get ⟨Nat.le_of_ble_eq_true rfl, Nat.le_of_ble_eq_true rfl⟩) (va_recv hK hP (ci := 4) (q0 := 4) rfl rfl) hK hP hD hS hA hI rfl hl.1 rfl (Nat.le_of_ble_eq_true rfl) dX3_readName_20 ⟨Nat.zero_le _, Nat.zero_le _⟩ (fun r_10 u H locs h hP hD hS => ?_)
        refine xc_si (As := [.int r_10]) (rest := []) xG Fx (sX0_isLetterOrDigit l dC dI ad cI cZ sa sv lt_count lw_begin lw_end lw_depth lw_signed lw_led pr_written pr_within st_size tx_size tt_count tt_pieces tt_kinds lt_begins lt_marks st_word st_vowels tx_characters tt_begins tt_lengths tt_stemLengths tt_places tt_addresses tt_smalls tt_stems tt_slots tt_nexts r_10 h) (va_cwS 1 hts gX3_readName_X0_isLetterOrDigit rfl rfl rfl hdX0_isLetterOrDigit ⟨Nat.le_of_ble_eq_true rfl, Nat.le_of_ble_eq_true rfl⟩) hK hP hD hS hA hI rfl hl.1 rfl (Nat.le_of_ble_eq_true rfl) dX3_readName_23 ⟨Nat.zero_le _, Nat.zero_le _⟩ (fun r_11 u H locs h hP hD hS => ?_)
        refine lv_if_eq (tgt := 35) hx hb dX3_readName_26 (by decide) (fun c9 => ?_) (fun c9 => ?_)
        · have h := h.1 c9
          exact J35 pr_written tx_characters x2 H locs ls (lv_sub hl [0, 1, 2] rfl) hP hD hS h
        · have h := h.2 c9
          obtain ⟨x2_12, ex2_12⟩ : ∃ y : Int32, y = x2 + 1 := ⟨_, rfl⟩
          have h := h x2_12 ex2_12
          refine lv_iinc (v := x2_12) (lv' := [(2, .int x2_12), (0, .ref (ad 2)), (1, .int x1)]) hx hb dX3_readName_29 hl (k := 2) rfl (by rw [ex2_12]; rfl) (by decide) rfl (fun ls hl => ?_)
          refine lv_goto (tgt := 4) hx hb dX3_readName_32 (by decide) ?_
          exact ih4 x2_12 H locs ls (lv_sub hl [1, 2, 0] rfl) hP hD hS h
  intro H locs hP hD hS
  delta wpX3_readName at h
  refine lv_iload_n hx hb dX3_readName_0 rfl (lv_at hl 1 rfl) ?_
  refine lv_iconst (v := 1) hx hb dX3_readName_1 (by decide) ?_
  refine lv_iadd hx hb dX3_readName_2 ?_
  refine lv_topi (fun x2_13 ex2_13 => ?_)
  have h := h x2_13 ex2_13
  refine lv_istore_n (lv' := [(2, .int x2_13), (0, .ref (ad 2)), (1, .int x1)]) hx hb dX3_readName_3 rfl hl (by decide) rfl (fun ls hl => ?_)
  obtain ⟨n, h⟩ := h
  exact L4 pr_written tx_characters n x2_13 H locs ls (lv_sub hl [1, 2, 0] rfl) hP hD hS h
set_option maxHeartbeats 4000000 in
set_option maxRecDepth 100000 in
theorem sX3_read (l : Launch) (dC : Nat → ClassId) (dI : Nat → Nat → Nat) (ad : Nat → Nat) (cI cZ : ClassId) (sa sv : Nat → Nat) (lt_count : Int32) (lw_begin : Int32) (lw_end : Int32) (lw_depth : Int32) (lw_signed : Int32) (lw_led : Int32) (pr_written : Int32) (pr_within : Int32) (st_size : Int32) (tx_size : Int32) (tt_count : Int32) (tt_pieces : Int32) (tt_kinds : Int32) (lt_begins : Nat → Int32) (lt_marks : Nat → Int32) (st_word : Nat → Int32) (st_vowels : Nat → Int32) (tx_characters : Nat → Int32) (tt_begins : Nat → Int32) (tt_lengths : Nat → Int32) (tt_stemLengths : Nat → Int32) (tt_places : Nat → Int32) (tt_addresses : Nat → Int32) (tt_smalls : Nat → Int32) (tt_stems : Nat → Int32) (tt_slots : Nat → Int32) (tt_nexts : Nat → Int32)  {post : Int32 → Int32 → Int32 → (Nat → Int32) → Prop} (h : wpX3_read post pr_written pr_within tx_size tx_characters) : xMv l (dC, dI) vwCl [(cI, .int), (cZ, .boolean)] (sI sa sv) yX3_read wsX3_read ({ frames := 8, cells := 0, slots := 0, locals := 180 }) (xW ad cI cZ lt_count lw_begin lw_end lw_depth lw_signed lw_led pr_written pr_within st_size tx_size tt_count tt_pieces tt_kinds lt_begins lt_marks st_word st_vowels tx_characters tt_begins tt_lengths tt_stemLengths tt_places tt_addresses tt_smalls tt_stems tt_slots tt_nexts) [.ref (ad 2)] (fun u : Int32 × Int32 × Int32 × (Nat → Int32) => post u.1 u.2.1 u.2.2.1 u.2.2.2) (fun u : Int32 × Int32 × Int32 × (Nat → Int32) => (xW ad cI cZ lt_count lw_begin lw_end lw_depth lw_signed lw_led u.1 u.2.1 st_size u.2.2.1 tt_count tt_pieces tt_kinds lt_begins lt_marks st_word st_vowels u.2.2.2 tt_begins tt_lengths tt_stemLengths tt_places tt_addresses tt_smalls tt_stems tt_slots tt_nexts)) := by
  intro sz
  refine Met.ofW (cc := cX3_read) (maxL := 4) (ret := none) (by decide) rfl ?_
  intro p e s m args below meth c s₁ B hml hv
  obtain ⟨rfl, hsz, hP, hK, hD0, hI⟩ := hv
  have hx := B.exec
  have hb := B.bytes
  have hr := B.returns
  have hts := atoms_spec (ws := wsX3_read) B.pre
  have hown : s.vm.findClass RX3 = some m.cls := findClass_of_methodNamed B.named
  have hlocks := B.notSynchronized
  subst hsz
  have hD := hD0.self (sz := s.heap.size)
  generalize hAe : va_A (xW ad cI cZ lt_count lw_begin lw_end lw_depth lw_signed lw_led pr_written pr_within st_size tx_size tt_count tt_pieces tt_kinds lt_begins lt_marks st_word st_vowels tx_characters tt_begins tt_lengths tt_stemLengths tt_places tt_addresses tt_smalls tt_stems tt_slots tt_nexts) s.heap.size = A at hD hI ⊢
  have hA : ∀ q : Nat, s.heap.size ≤ q → A q := fun q h => by rw [← hAe]; exact Or.inr h
  have hS : va_S A s.heap s.heap [] := va_S.rf
  have Fx : CallFix p m c cX3_read 4 s ([.ref (ad 2)] : List Value).toArray wsX3_read RX3 := ⟨hx, hb, hml, hown, hts⟩
  have hQ : ∀ (u : Int32 × Int32 × Int32 × (Nat → Int32)) (t : State), (fun u : Int32 × Int32 × Int32 × (Nat → Int32) => post u.1 u.2.1 u.2.2.1 u.2.2.2) u → va_P (dC, dI) vwCl ((fun u : Int32 × Int32 × Int32 × (Nat → Int32) => (xW ad cI cZ lt_count lw_begin lw_end lw_depth lw_signed lw_led u.1 u.2.1 st_size u.2.2.1 tt_count tt_pieces tt_kinds lt_begins lt_marks st_word st_vowels u.2.2.2 tt_begins tt_lengths tt_stemLengths tt_places tt_addresses tt_smalls tt_stems tt_slots tt_nexts)) u) t.heap → va_K (dC, dI) vwCl [(cI, .int), (cZ, .boolean)] t → va_D A ((fun u : Int32 × Int32 × Int32 × (Nat → Int32) => (xW ad cI cZ lt_count lw_begin lw_end lw_depth lw_signed lw_led u.1 u.2.1 st_size u.2.2.1 tt_count tt_pieces tt_kinds lt_begins lt_marks st_word st_vowels u.2.2.2 tt_begins tt_lengths tt_stemLengths tt_places tt_addresses tt_smalls tt_stems tt_slots tt_nexts)) u) → va_F A s t → (va_Qv (fun u : Int32 × Int32 × Int32 × (Nat → Int32) => post u.1 u.2.1 u.2.2.1 u.2.2.2) (xB (dC, dI) vwCl [(cI, .int), (cZ, .boolean)] A (fun u : Int32 × Int32 × Int32 × (Nat → Int32) => (xW ad cI cZ lt_count lw_begin lw_end lw_depth lw_signed lw_led u.1 u.2.1 st_size u.2.2.1 tt_count tt_pieces tt_kinds lt_begins lt_marks st_word st_vowels u.2.2.2 tt_begins tt_lengths tt_stemLengths tt_places tt_addresses tt_smalls tt_stems tt_slots tt_nexts))) A) ([.ref (ad 2)] : List Value).toArray s (.returned none) t := fun u t h1 h2 h3 h4 h5 => ⟨⟨u, rfl, h1, h2, h3, h4⟩, h5⟩
  generalize (va_Qv (fun u : Int32 × Int32 × Int32 × (Nat → Int32) => post u.1 u.2.1 u.2.2.1 u.2.2.2) (xB (dC, dI) vwCl [(cI, .int), (cZ, .boolean)] A (fun u : Int32 × Int32 × Int32 × (Nat → Int32) => (xW ad cI cZ lt_count lw_begin lw_end lw_depth lw_signed lw_led u.1 u.2.1 st_size u.2.2.1 tt_count tt_pieces tt_kinds lt_begins lt_marks st_word st_vowels u.2.2.2 tt_begins tt_lengths tt_stemLengths tt_places tt_addresses tt_smalls tt_stems tt_slots tt_nexts))) A) = Qc at hQ ⊢
  have hl := lv_entry ([.ref (ad 2)]) (n := 4) (Nat.le_of_ble_eq_true rfl)
  rw [lg_entry_eq]
  generalize (lg_sl ([.ref (ad 2)]) ++ List.replicate (4 - (lg_sl ([.ref (ad 2)])).length) Slot.unset).toArray = ls at hl ⊢
  have hl : lv_has ls 4 [(0, .ref (ad 2))] := hl
  refine (fun (key : ∀ (H : Heap) (locs : List Loc), va_P (dC, dI) vwCl (xW ad cI cZ lt_count lw_begin lw_end lw_depth lw_signed lw_led pr_written pr_within st_size tx_size tt_count tt_pieces tt_kinds lt_begins lt_marks st_word st_vowels tx_characters tt_begins tt_lengths tt_stemLengths tt_places tt_addresses tt_smalls tt_stems tt_slots tt_nexts) H → va_D A (xW ad cI cZ lt_count lw_begin lw_end lw_depth lw_signed lw_led pr_written pr_within st_size tx_size tt_count tt_pieces tt_kinds lt_begins lt_marks st_word st_vowels tx_characters tt_begins tt_lengths tt_stemLengths tt_places tt_addresses tt_smalls tt_stems tt_slots tt_nexts) → va_S A s.heap H locs → W p l e (headSpec wsX3_read ({ frames := 8, cells := 0, slots := 0, locals := 180 })).room s m ([.ref (ad 2)] : List Value).toArray below meth c H locs 0 0 (MQ below Qc ([.ref (ad 2)] : List Value).toArray s 0 0 A) (F0 m 0 ls [])) => key _ _ hP hD hS) ?_
  have inX3 : ∀ w ∈ wsX30, w ∈ wsX3_read := (fun _ h9 => List.mem_cons_of_mem _ (List.mem_append_left _ (List.mem_append_right _ h9)))
  have L12 : ∀ (tx_size : Int32) (n : Nat) (pr_written : Int32) (pr_within : Int32) (tx_characters : Nat → Int32) (x1 : Int32) (H : Heap) (locs : List Loc) (ls : Array Slot), lv_has ls 4 [(0, .ref (ad 2)), (1, .int x1)] → va_P (dC, dI) vwCl (xW ad cI cZ lt_count lw_begin lw_end lw_depth lw_signed lw_led pr_written pr_within st_size tx_size tt_count tt_pieces tt_kinds lt_begins lt_marks st_word st_vowels tx_characters tt_begins tt_lengths tt_stemLengths tt_places tt_addresses tt_smalls tt_stems tt_slots tt_nexts) H → va_D A (xW ad cI cZ lt_count lw_begin lw_end lw_depth lw_signed lw_led pr_written pr_within st_size tx_size tt_count tt_pieces tt_kinds lt_begins lt_marks st_word st_vowels tx_characters tt_begins tt_lengths tt_stemLengths tt_places tt_addresses tt_smalls tt_stems tt_slots tt_nexts) → va_S A s.heap H locs → wlX3_read_12 post tx_size n pr_written pr_within tx_characters x1 → W p l e (headSpec wsX3_read ({ frames := 8, cells := 0, slots := 0, locals := 180 })).room s m ([.ref (ad 2)] : List Value).toArray below meth c H locs 0 0 (MQ below Qc ([.ref (ad 2)] : List Value).toArray s 0 0 A) (F0 m 12 ls []) := by
    intro tx_size
    intro n
    induction n with
    | zero => intro pr_written pr_within tx_characters x1 H locs ls _ _ _ _ h; exact absurd h (fun z => z)
    | succ n12 ih12 =>
      intro pr_written pr_within tx_characters x1 H locs ls hl hP hD hS h
      have J184 : ∀ (pr_written : Int32) (pr_within : Int32) (tx_characters : Nat → Int32) (x1 : Int32) (x3 : Int32) (H : Heap) (locs : List Loc) (ls : Array Slot), lv_has ls 4 [(0, .ref (ad 2)), (1, .int x1), (3, .int x3)] → va_P (dC, dI) vwCl (xW ad cI cZ lt_count lw_begin lw_end lw_depth lw_signed lw_led pr_written pr_within st_size tx_size tt_count tt_pieces tt_kinds lt_begins lt_marks st_word st_vowels tx_characters tt_begins tt_lengths tt_stemLengths tt_places tt_addresses tt_smalls tt_stems tt_slots tt_nexts) H → va_D A (xW ad cI cZ lt_count lw_begin lw_end lw_depth lw_signed lw_led pr_written pr_within st_size tx_size tt_count tt_pieces tt_kinds lt_begins lt_marks st_word st_vowels tx_characters tt_begins tt_lengths tt_stemLengths tt_places tt_addresses tt_smalls tt_stems tt_slots tt_nexts) → va_S A s.heap H locs → wjX3_read_184 (fun pr_written pr_within tx_characters x1 => wlX3_read_12 post tx_size n12 pr_written pr_within tx_characters x1) post pr_written pr_within tx_size tx_characters x1 x3 → W p l e (headSpec wsX3_read ({ frames := 8, cells := 0, slots := 0, locals := 180 })).room s m ([.ref (ad 2)] : List Value).toArray below meth c H locs 0 0 (MQ below Qc ([.ref (ad 2)] : List Value).toArray s 0 0 A) (F0 m 184 ls []) := by
        intro pr_written pr_within tx_characters x1 x3 H locs ls hl hP hD hS h
        delta wjX3_read_184 at h
        refine lv_iload_n hx hb dX3_read_184 rfl (lv_at hl 1 rfl) ?_
        refine lv_iconst (v := 1) hx hb dX3_read_185 (by decide) ?_
        refine lv_iadd hx hb dX3_read_186 ?_
        refine lv_iload_n hx hb dX3_read_187 rfl (lv_at hl 2 rfl) ?_
        refine va_mmax hx hb (hml.trans hl.1.symm) hown (hts (.methodLink RX3 68 Lib.Math.max.name) (List.mem_of_getElem? (i := 4) rfl)) (hts (.static Lib.Math.max.name) (List.mem_of_getElem? (i := 5) rfl)) (hts (.initialized "java/lang/Math") (List.mem_of_getElem? (i := 6) rfl)) (hts (.code Lib.Math.max.name Lib.Math.max.code 2 (some .int)) (List.mem_of_getElem? (i := 7) rfl)) (Nat.le_of_ble_eq_true rfl) (Nat.le_of_ble_eq_true rfl) (Nat.zero_le _) (Nat.zero_le _) dX3_read_188 ?_
        refine lv_topi (fun x1_1 ex1_1 => ?_)
        have h := h x1_1 ex1_1
        refine lv_istore_n (lv' := [(1, .int x1_1), (0, .ref (ad 2)), (3, .int x3)]) hx hb dX3_read_191 rfl hl (by decide) rfl (fun ls hl => ?_)
        refine lv_goto (tgt := 12) hx hb dX3_read_192 (by decide) ?_
        exact ih12 pr_written pr_within tx_characters x1_1 H locs ls (lv_sub hl [1, 0] rfl) hP hD hS h
      have J160 : ∀ (pr_written : Int32) (pr_within : Int32) (tx_characters : Nat → Int32) (x1 : Int32) (s0 : Int32) (H : Heap) (locs : List Loc) (ls : Array Slot), lv_has ls 4 [(0, .ref (ad 2)), (1, .int x1)] → va_P (dC, dI) vwCl (xW ad cI cZ lt_count lw_begin lw_end lw_depth lw_signed lw_led pr_written pr_within st_size tx_size tt_count tt_pieces tt_kinds lt_begins lt_marks st_word st_vowels tx_characters tt_begins tt_lengths tt_stemLengths tt_places tt_addresses tt_smalls tt_stems tt_slots tt_nexts) H → va_D A (xW ad cI cZ lt_count lw_begin lw_end lw_depth lw_signed lw_led pr_written pr_within st_size tx_size tt_count tt_pieces tt_kinds lt_begins lt_marks st_word st_vowels tx_characters tt_begins tt_lengths tt_stemLengths tt_places tt_addresses tt_smalls tt_stems tt_slots tt_nexts) → va_S A s.heap H locs → wjX3_read_160 (fun pr_written pr_within tx_characters x1 => wlX3_read_12 post tx_size n12 pr_written pr_within tx_characters x1) post pr_written pr_within tx_size tx_characters x1 s0 → W p l e (headSpec wsX3_read ({ frames := 8, cells := 0, slots := 0, locals := 180 })).room s m ([.ref (ad 2)] : List Value).toArray below meth c H locs 0 0 (MQ below Qc ([.ref (ad 2)] : List Value).toArray s 0 0 A) (F0 m 160 ls [.int s0]) := by
        intro pr_written pr_within tx_characters x1 s0 H locs ls hl hP hD hS h
        delta wjX3_read_160 at h
        refine lv_istore_n (lv' := [(3, .int s0), (0, .ref (ad 2)), (1, .int x1)]) hx hb dX3_read_160 rfl hl (by decide) rfl (fun ls hl => ?_)
        refine lv_goto (tgt := 184) hx hb dX3_read_161 (by decide) ?_
        exact J184 pr_written pr_within tx_characters x1 s0 H locs ls (lv_sub hl [1, 2, 0] rfl) hP hD hS h
      have J111 : ∀ (pr_written : Int32) (pr_within : Int32) (tx_characters : Nat → Int32) (x1 : Int32) (x2 : Int32) (x3 : Int32) (H : Heap) (locs : List Loc) (ls : Array Slot), lv_has ls 4 [(0, .ref (ad 2)), (1, .int x1), (2, .int x2), (3, .int x3)] → va_P (dC, dI) vwCl (xW ad cI cZ lt_count lw_begin lw_end lw_depth lw_signed lw_led pr_written pr_within st_size tx_size tt_count tt_pieces tt_kinds lt_begins lt_marks st_word st_vowels tx_characters tt_begins tt_lengths tt_stemLengths tt_places tt_addresses tt_smalls tt_stems tt_slots tt_nexts) H → va_D A (xW ad cI cZ lt_count lw_begin lw_end lw_depth lw_signed lw_led pr_written pr_within st_size tx_size tt_count tt_pieces tt_kinds lt_begins lt_marks st_word st_vowels tx_characters tt_begins tt_lengths tt_stemLengths tt_places tt_addresses tt_smalls tt_stems tt_slots tt_nexts) → va_S A s.heap H locs → wjX3_read_111 (fun pr_written pr_within tx_characters x1 => wlX3_read_12 post tx_size n12 pr_written pr_within tx_characters x1) post pr_written pr_within tx_size tx_characters x1 x2 x3 → W p l e (headSpec wsX3_read ({ frames := 8, cells := 0, slots := 0, locals := 180 })).room s m ([.ref (ad 2)] : List Value).toArray below meth c H locs 0 0 (MQ below Qc ([.ref (ad 2)] : List Value).toArray s 0 0 A) (F0 m 111 ls []) := by
        intro pr_written pr_within tx_characters x1 x2 x3 H locs ls hl hP hD hS h
        delta wjX3_read_111 at h
        refine lv_iload_n hx hb dX3_read_111 rfl (lv_at hl 2 rfl) ?_
        refine lv_bipush (v := 60) hx hb dX3_read_112 (by decide) ?_
        refine lv_icmp_ne (tgt := 126) hx hb dX3_read_114 (by decide) (fun c9 => ?_) (fun c9 => ?_)
        · have h := h.1 c9
          refine lv_iload_n hx hb dX3_read_126 rfl (lv_at hl 2 rfl) ?_
          refine lv_bipush (v := 38) hx hb dX3_read_127 (by decide) ?_
          refine lv_icmp_ne (tgt := 164) hx hb dX3_read_129 (by decide) (fun c9 => ?_) (fun c9 => ?_)
          · have h := h.1 c9
            refine lv_iload_n hx hb dX3_read_164 rfl (lv_at hl 2 rfl) ?_
            refine xc_si (As := [.int x2]) (rest := []) xG Fx (sX0_isBlank l dC dI ad cI cZ sa sv lt_count lw_begin lw_end lw_depth lw_signed lw_led pr_written pr_within st_size tx_size tt_count tt_pieces tt_kinds lt_begins lt_marks st_word st_vowels tx_characters tt_begins tt_lengths tt_stemLengths tt_places tt_addresses tt_smalls tt_stems tt_slots tt_nexts x2 h) (va_cwS 1 hts gX3_read_X0_isBlank rfl rfl rfl hdX0_isBlank ⟨Nat.le_of_ble_eq_true rfl, Nat.le_of_ble_eq_true rfl⟩) hK hP hD hS hA hI rfl hl.1 rfl (Nat.le_of_ble_eq_true rfl) dX3_read_165 ⟨Nat.zero_le _, Nat.zero_le _⟩ (fun r_2 u H locs h hP hD hS => ?_)
            refine lv_if_eq (tgt := 179) hx hb dX3_read_168 (by decide) (fun c9 => ?_) (fun c9 => ?_)
            · have h := h.1 c9
              refine lv_aload_n hx hb dX3_read_179 rfl (lv_at hl 0 rfl) ?_
              refine lv_iload_n hx hb dX3_read_180 rfl (lv_at hl 2 rfl) ?_
              refine xc_vv (As := [.int x2]) (rest := []) xG Fx (sX3_write l dC dI ad cI cZ sa sv lt_count lw_begin lw_end lw_depth lw_signed lw_led pr_written pr_within st_size tx_size tt_count tt_pieces tt_kinds lt_begins lt_marks st_word st_vowels tx_characters tt_begins tt_lengths tt_stemLengths tt_places tt_addresses tt_smalls tt_stems tt_slots tt_nexts x2 h) (cwV 1 hts gX3_read_X3_write rfl rfl rfl hdX3_write ⟨Nat.le_of_ble_eq_true rfl, Nat.le_of_ble_eq_true rfl⟩) (va_recv hK hP (ci := 2) (q0 := 2) rfl rfl) hK hP hD hS hA hI rfl hl.1 rfl (Nat.le_of_ble_eq_true rfl) dX3_read_181 ⟨Nat.zero_le _, Nat.zero_le _⟩ (fun u H locs h hP hD hS => ?_)
              obtain ⟨pr_written_4, tx_characters_5⟩ := u
              have hP : va_P (dC, dI) vwCl (xW ad cI cZ lt_count lw_begin lw_end lw_depth lw_signed lw_led pr_written_4 pr_within st_size tx_size tt_count tt_pieces tt_kinds lt_begins lt_marks st_word st_vowels tx_characters_5 tt_begins tt_lengths tt_stemLengths tt_places tt_addresses tt_smalls tt_stems tt_slots tt_nexts) H := hP
              have hD : va_D A (xW ad cI cZ lt_count lw_begin lw_end lw_depth lw_signed lw_led pr_written_4 pr_within st_size tx_size tt_count tt_pieces tt_kinds lt_begins lt_marks st_word st_vowels tx_characters_5 tt_begins tt_lengths tt_stemLengths tt_places tt_addresses tt_smalls tt_stems tt_slots tt_nexts) := hD
              exact J184 pr_written_4 pr_within tx_characters_5 x1 x3 H locs ls (lv_sub hl [0, 1, 3] rfl) hP hD hS h
            · have h := h.2 c9
              refine lv_aload_n hx hb dX3_read_171 rfl (lv_at hl 0 rfl) ?_
              refine lv_iload_n hx hb dX3_read_172 rfl (lv_at hl 2 rfl) ?_
              refine xc_vv (As := [.int x2]) (rest := []) xG Fx (sX3_writeBlank l dC dI ad cI cZ sa sv lt_count lw_begin lw_end lw_depth lw_signed lw_led pr_written pr_within st_size tx_size tt_count tt_pieces tt_kinds lt_begins lt_marks st_word st_vowels tx_characters tt_begins tt_lengths tt_stemLengths tt_places tt_addresses tt_smalls tt_stems tt_slots tt_nexts x2 h) (cwV 1 hts gX3_read_X3_writeBlank rfl rfl rfl hdX3_writeBlank ⟨Nat.le_of_ble_eq_true rfl, Nat.le_of_ble_eq_true rfl⟩) (va_recv hK hP (ci := 2) (q0 := 2) rfl rfl) hK hP hD hS hA hI rfl hl.1 rfl (Nat.le_of_ble_eq_true rfl) dX3_read_173 ⟨Nat.zero_le _, Nat.zero_le _⟩ (fun u H locs h hP hD hS => ?_)
              obtain ⟨pr_written_7, tx_characters_8⟩ := u
              have hP : va_P (dC, dI) vwCl (xW ad cI cZ lt_count lw_begin lw_end lw_depth lw_signed lw_led pr_written_7 pr_within st_size tx_size tt_count tt_pieces tt_kinds lt_begins lt_marks st_word st_vowels tx_characters_8 tt_begins tt_lengths tt_stemLengths tt_places tt_addresses tt_smalls tt_stems tt_slots tt_nexts) H := hP
              have hD : va_D A (xW ad cI cZ lt_count lw_begin lw_end lw_depth lw_signed lw_led pr_written_7 pr_within st_size tx_size tt_count tt_pieces tt_kinds lt_begins lt_marks st_word st_vowels tx_characters_8 tt_begins tt_lengths tt_stemLengths tt_places tt_addresses tt_smalls tt_stems tt_slots tt_nexts) := hD
              refine lv_goto (tgt := 184) hx hb dX3_read_176 (by decide) ?_
              exact J184 pr_written_7 pr_within tx_characters_8 x1 x3 H locs ls (lv_sub hl [0, 1, 3] rfl) hP hD hS h
          · have h := h.2 c9
            refine lv_aload_n hx hb dX3_read_132 rfl (lv_at hl 0 rfl) ?_
            refine va_get (D := (dC, dI)) (ci := 2) (v := .ref (ad 4)) (C := RX3) (T := TX3) (N := 3) hx hb hts inX3 hown hK hP 2 rfl rfl 0 (by decide) (hts (.fieldLink RX3 9 "MailWords$PageReader" "text" "LMailWords$Text;") (List.mem_of_getElem? (i := 3) rfl)) (fun _ h9 => h9) rfl dX3_read_133 ?_
            refine lv_iload_n hx hb dX3_read_136 rfl (lv_at hl 1 rfl) ?_
            refine lv_iconst (v := 1) hx hb dX3_read_137 (by decide) ?_
            refine lv_iadd hx hb dX3_read_138 ?_
            refine xc_vi (As := [.int (x1 + 1)]) (rest := []) xG Fx (sX5_get l dC dI ad cI cZ sa sv lt_count lw_begin lw_end lw_depth lw_signed lw_led pr_written pr_within st_size tx_size tt_count tt_pieces tt_kinds lt_begins lt_marks st_word st_vowels tx_characters tt_begins tt_lengths tt_stemLengths tt_places tt_addresses tt_smalls tt_stems tt_slots tt_nexts (x1 + 1) h) (cwV 1 hts gX3_read_X5_get rfl rfl rfl hdX5_get ⟨Nat.le_of_ble_eq_true rfl, Nat.le_of_ble_eq_true rfl⟩) (va_recv hK hP (ci := 4) (q0 := 4) rfl rfl) hK hP hD hS hA hI rfl hl.1 rfl (Nat.le_of_ble_eq_true rfl) dX3_read_139 ⟨Nat.zero_le _, Nat.zero_le _⟩ (fun r_9 u H locs h hP hD hS => ?_)
            refine lv_bipush (v := 35) hx hb dX3_read_142 (by decide) ?_
            refine lv_icmp_ne (tgt := 155) hx hb dX3_read_144 (by decide) (fun c9 => ?_) (fun c9 => ?_)
            · have h := h.1 c9
              refine lv_aload_n hx hb dX3_read_155 rfl (lv_at hl 0 rfl) ?_
              refine lv_iload_n hx hb dX3_read_156 rfl (lv_at hl 1 rfl) ?_
              refine xc_vi (As := [.int x1]) (rest := []) xG Fx (sX3_readName l dC dI ad cI cZ sa sv lt_count lw_begin lw_end lw_depth lw_signed lw_led pr_written pr_within st_size tx_size tt_count tt_pieces tt_kinds lt_begins lt_marks st_word st_vowels tx_characters tt_begins tt_lengths tt_stemLengths tt_places tt_addresses tt_smalls tt_stems tt_slots tt_nexts x1 h) (cwV 1 hts gX3_read_X3_readName rfl rfl rfl hdX3_readName ⟨Nat.le_of_ble_eq_true rfl, Nat.le_of_ble_eq_true rfl⟩) (va_recv hK hP (ci := 2) (q0 := 2) rfl rfl) hK hP hD hS hA hI rfl hl.1 rfl (Nat.le_of_ble_eq_true rfl) dX3_read_157 ⟨Nat.zero_le _, Nat.zero_le _⟩ (fun r_10 u H locs h hP hD hS => ?_)
              obtain ⟨pr_written_11, tx_characters_12⟩ := u
              have hP : va_P (dC, dI) vwCl (xW ad cI cZ lt_count lw_begin lw_end lw_depth lw_signed lw_led pr_written_11 pr_within st_size tx_size tt_count tt_pieces tt_kinds lt_begins lt_marks st_word st_vowels tx_characters_12 tt_begins tt_lengths tt_stemLengths tt_places tt_addresses tt_smalls tt_stems tt_slots tt_nexts) H := hP
              have hD : va_D A (xW ad cI cZ lt_count lw_begin lw_end lw_depth lw_signed lw_led pr_written_11 pr_within st_size tx_size tt_count tt_pieces tt_kinds lt_begins lt_marks st_word st_vowels tx_characters_12 tt_begins tt_lengths tt_stemLengths tt_places tt_addresses tt_smalls tt_stems tt_slots tt_nexts) := hD
              exact J160 pr_written_11 pr_within tx_characters_12 x1 r_10 H locs ls (lv_sub hl [0, 1] rfl) hP hD hS h
            · have h := h.2 c9
              refine lv_aload_n hx hb dX3_read_147 rfl (lv_at hl 0 rfl) ?_
              refine lv_iload_n hx hb dX3_read_148 rfl (lv_at hl 1 rfl) ?_
              refine xc_vi (As := [.int x1]) (rest := []) xG Fx (sX3_readNumber l dC dI ad cI cZ sa sv lt_count lw_begin lw_end lw_depth lw_signed lw_led pr_written pr_within st_size tx_size tt_count tt_pieces tt_kinds lt_begins lt_marks st_word st_vowels tx_characters tt_begins tt_lengths tt_stemLengths tt_places tt_addresses tt_smalls tt_stems tt_slots tt_nexts x1 h) (cwV 1 hts gX3_read_X3_readNumber rfl rfl rfl hdX3_readNumber ⟨Nat.le_of_ble_eq_true rfl, Nat.le_of_ble_eq_true rfl⟩) (va_recv hK hP (ci := 2) (q0 := 2) rfl rfl) hK hP hD hS hA hI rfl hl.1 rfl (Nat.le_of_ble_eq_true rfl) dX3_read_149 ⟨Nat.zero_le _, Nat.zero_le _⟩ (fun r_13 u H locs h hP hD hS => ?_)
              obtain ⟨pr_written_14, tx_characters_15⟩ := u
              have hP : va_P (dC, dI) vwCl (xW ad cI cZ lt_count lw_begin lw_end lw_depth lw_signed lw_led pr_written_14 pr_within st_size tx_size tt_count tt_pieces tt_kinds lt_begins lt_marks st_word st_vowels tx_characters_15 tt_begins tt_lengths tt_stemLengths tt_places tt_addresses tt_smalls tt_stems tt_slots tt_nexts) H := hP
              have hD : va_D A (xW ad cI cZ lt_count lw_begin lw_end lw_depth lw_signed lw_led pr_written_14 pr_within st_size tx_size tt_count tt_pieces tt_kinds lt_begins lt_marks st_word st_vowels tx_characters_15 tt_begins tt_lengths tt_stemLengths tt_places tt_addresses tt_smalls tt_stems tt_slots tt_nexts) := hD
              refine lv_goto (tgt := 160) hx hb dX3_read_152 (by decide) ?_
              exact J160 pr_written_14 pr_within tx_characters_15 x1 r_13 H locs ls (lv_sub hl [0, 1] rfl) hP hD hS h
        · have h := h.2 c9
          refine lv_aload_n hx hb dX3_read_117 rfl (lv_at hl 0 rfl) ?_
          refine lv_iload_n hx hb dX3_read_118 rfl (lv_at hl 1 rfl) ?_
          refine xc_vi (As := [.int x1]) (rest := []) xG Fx (sX3_readMark l dC dI ad cI cZ sa sv lt_count lw_begin lw_end lw_depth lw_signed lw_led pr_written pr_within st_size tx_size tt_count tt_pieces tt_kinds lt_begins lt_marks st_word st_vowels tx_characters tt_begins tt_lengths tt_stemLengths tt_places tt_addresses tt_smalls tt_stems tt_slots tt_nexts x1 h) (cwV 1 hts gX3_read_X3_readMark rfl rfl rfl hdX3_readMark ⟨Nat.le_of_ble_eq_true rfl, Nat.le_of_ble_eq_true rfl⟩) (va_recv hK hP (ci := 2) (q0 := 2) rfl rfl) hK hP hD hS hA hI rfl hl.1 rfl (Nat.le_of_ble_eq_true rfl) dX3_read_119 ⟨Nat.zero_le _, Nat.zero_le _⟩ (fun r_16 u H locs h hP hD hS => ?_)
          obtain ⟨pr_written_17, tx_characters_18⟩ := u
          have hP : va_P (dC, dI) vwCl (xW ad cI cZ lt_count lw_begin lw_end lw_depth lw_signed lw_led pr_written_17 pr_within st_size tx_size tt_count tt_pieces tt_kinds lt_begins lt_marks st_word st_vowels tx_characters_18 tt_begins tt_lengths tt_stemLengths tt_places tt_addresses tt_smalls tt_stems tt_slots tt_nexts) H := hP
          have hD : va_D A (xW ad cI cZ lt_count lw_begin lw_end lw_depth lw_signed lw_led pr_written_17 pr_within st_size tx_size tt_count tt_pieces tt_kinds lt_begins lt_marks st_word st_vowels tx_characters_18 tt_begins tt_lengths tt_stemLengths tt_places tt_addresses tt_smalls tt_stems tt_slots tt_nexts) := hD
          refine lv_istore_n (lv' := [(3, .int r_16), (0, .ref (ad 2)), (1, .int x1), (2, .int x2)]) hx hb dX3_read_122 rfl hl (by decide) rfl (fun ls hl => ?_)
          refine lv_goto (tgt := 184) hx hb dX3_read_123 (by decide) ?_
          exact J184 pr_written_17 pr_within tx_characters_18 x1 r_16 H locs ls (lv_sub hl [1, 2, 0] rfl) hP hD hS h
      have J70 : ∀ (pr_written : Int32) (pr_within : Int32) (tx_characters : Nat → Int32) (x1 : Int32) (x2 : Int32) (x3 : Int32) (H : Heap) (locs : List Loc) (ls : Array Slot), lv_has ls 4 [(0, .ref (ad 2)), (1, .int x1), (2, .int x2), (3, .int x3)] → va_P (dC, dI) vwCl (xW ad cI cZ lt_count lw_begin lw_end lw_depth lw_signed lw_led pr_written pr_within st_size tx_size tt_count tt_pieces tt_kinds lt_begins lt_marks st_word st_vowels tx_characters tt_begins tt_lengths tt_stemLengths tt_places tt_addresses tt_smalls tt_stems tt_slots tt_nexts) H → va_D A (xW ad cI cZ lt_count lw_begin lw_end lw_depth lw_signed lw_led pr_written pr_within st_size tx_size tt_count tt_pieces tt_kinds lt_begins lt_marks st_word st_vowels tx_characters tt_begins tt_lengths tt_stemLengths tt_places tt_addresses tt_smalls tt_stems tt_slots tt_nexts) → va_S A s.heap H locs → wjX3_read_70 (fun pr_written pr_within tx_characters x1 => wlX3_read_12 post tx_size n12 pr_written pr_within tx_characters x1) post pr_written pr_within tx_size tx_characters x1 x2 x3 → W p l e (headSpec wsX3_read ({ frames := 8, cells := 0, slots := 0, locals := 180 })).room s m ([.ref (ad 2)] : List Value).toArray below meth c H locs 0 0 (MQ below Qc ([.ref (ad 2)] : List Value).toArray s 0 0 A) (F0 m 70 ls []) := by
        intro pr_written pr_within tx_characters x1 x2 x3 H locs ls hl hP hD hS h
        delta wjX3_read_70 at h
        refine lv_aload_n hx hb dX3_read_70 rfl (lv_at hl 0 rfl) ?_
        refine va_get (D := (dC, dI)) (ci := 2) (v := .ref (ad 4)) (C := RX3) (T := TX3) (N := 3) hx hb hts inX3 hown hK hP 2 rfl rfl 0 (by decide) (hts (.fieldLink RX3 9 "MailWords$PageReader" "text" "LMailWords$Text;") (List.mem_of_getElem? (i := 3) rfl)) (fun _ h9 => h9) rfl dX3_read_71 ?_
        refine lv_iload_n hx hb dX3_read_74 rfl (lv_at hl 1 rfl) ?_
        refine va_ldcS hx hb hown (show vk_R RX3 43 "</" (sa 17) s from sI_ref hI (i := 17) (by decide)) dX3_read_75 ?_
        refine xc_vi (As := [.int x1, .ref (sa 17)]) (rest := []) xG Fx (sX5_holds l dC dI ad cI cZ sa sv lt_count lw_begin lw_end lw_depth lw_signed lw_led pr_written pr_within st_size tx_size tt_count tt_pieces tt_kinds lt_begins lt_marks st_word st_vowels tx_characters tt_begins tt_lengths tt_stemLengths tt_places tt_addresses tt_smalls tt_stems tt_slots tt_nexts x1 17 h) (cwV 2 hts gX3_read_X5_holds rfl rfl rfl hdX5_holds ⟨Nat.le_of_ble_eq_true rfl, Nat.le_of_ble_eq_true rfl⟩) (va_recv hK hP (ci := 4) (q0 := 4) rfl rfl) hK hP hD hS hA hI rfl hl.1 rfl (Nat.le_of_ble_eq_true rfl) dX3_read_77 ⟨Nat.zero_le _, Nat.zero_le _⟩ (fun r_19 u H locs h hP hD hS => ?_)
        refine lv_if_eq (tgt := 111) hx hb dX3_read_80 (by decide) (fun c9 => ?_) (fun c9 => ?_)
        · have h := h.1 c9
          exact J111 pr_written pr_within tx_characters x1 x2 x3 H locs ls (lv_sub hl [0, 1, 2, 3] rfl) hP hD hS h
        · have h := h.2 c9
          refine lv_aload_n hx hb dX3_read_83 rfl (lv_at hl 0 rfl) ?_
          refine va_get (D := (dC, dI)) (ci := 2) (v := .ref (ad 4)) (C := RX3) (T := TX3) (N := 3) hx hb hts inX3 hown hK hP 2 rfl rfl 0 (by decide) (hts (.fieldLink RX3 9 "MailWords$PageReader" "text" "LMailWords$Text;") (List.mem_of_getElem? (i := 3) rfl)) (fun _ h9 => h9) rfl dX3_read_84 ?_
          refine lv_iload_n hx hb dX3_read_87 rfl (lv_at hl 1 rfl) ?_
          refine lv_iconst (v := 2) hx hb dX3_read_88 (by decide) ?_
          refine lv_iadd hx hb dX3_read_89 ?_
          refine xc_vi (As := [.int (x1 + 2)]) (rest := []) xG Fx (sX5_get l dC dI ad cI cZ sa sv lt_count lw_begin lw_end lw_depth lw_signed lw_led pr_written pr_within st_size tx_size tt_count tt_pieces tt_kinds lt_begins lt_marks st_word st_vowels tx_characters tt_begins tt_lengths tt_stemLengths tt_places tt_addresses tt_smalls tt_stems tt_slots tt_nexts (x1 + 2) h) (cwV 1 hts gX3_read_X5_get rfl rfl rfl hdX5_get ⟨Nat.le_of_ble_eq_true rfl, Nat.le_of_ble_eq_true rfl⟩) (va_recv hK hP (ci := 4) (q0 := 4) rfl rfl) hK hP hD hS hA hI rfl hl.1 rfl (Nat.le_of_ble_eq_true rfl) dX3_read_90 ⟨Nat.zero_le _, Nat.zero_le _⟩ (fun r_20 u H locs h hP hD hS => ?_)
          refine xc_si (As := [.int r_20]) (rest := []) xG Fx (sX0_isLatin l dC dI ad cI cZ sa sv lt_count lw_begin lw_end lw_depth lw_signed lw_led pr_written pr_within st_size tx_size tt_count tt_pieces tt_kinds lt_begins lt_marks st_word st_vowels tx_characters tt_begins tt_lengths tt_stemLengths tt_places tt_addresses tt_smalls tt_stems tt_slots tt_nexts r_20 h) (va_cwS 1 hts gX3_read_X0_isLatin rfl rfl rfl hdX0_isLatin ⟨Nat.le_of_ble_eq_true rfl, Nat.le_of_ble_eq_true rfl⟩) hK hP hD hS hA hI rfl hl.1 rfl (Nat.le_of_ble_eq_true rfl) dX3_read_93 ⟨Nat.zero_le _, Nat.zero_le _⟩ (fun r_21 u H locs h hP hD hS => ?_)
          refine lv_if_eq (tgt := 111) hx hb dX3_read_96 (by decide) (fun c9 => ?_) (fun c9 => ?_)
          · have h := h.1 c9
            exact J111 pr_written pr_within tx_characters x1 x2 x3 H locs ls (lv_sub hl [0, 1, 2, 3] rfl) hP hD hS h
          · have h := h.2 c9
            refine lv_aload_n hx hb dX3_read_99 rfl (lv_at hl 0 rfl) ?_
            refine lv_iload_n hx hb dX3_read_100 rfl (lv_at hl 1 rfl) ?_
            refine lv_iconst (v := 2) hx hb dX3_read_101 (by decide) ?_
            refine lv_iadd hx hb dX3_read_102 ?_
            refine lv_iconst (v := 1) hx hb dX3_read_103 (by decide) ?_
            refine xc_vi (As := [.int (x1 + 2), .int 1]) (rest := []) xG Fx (sX3_readTag l dC dI ad cI cZ sa sv lt_count lw_begin lw_end lw_depth lw_signed lw_led pr_written pr_within st_size tx_size tt_count tt_pieces tt_kinds lt_begins lt_marks st_word st_vowels tx_characters tt_begins tt_lengths tt_stemLengths tt_places tt_addresses tt_smalls tt_stems tt_slots tt_nexts (x1 + 2) 1 h) (cwV 2 hts gX3_read_X3_readTag rfl rfl rfl hdX3_readTag ⟨Nat.le_of_ble_eq_true rfl, Nat.le_of_ble_eq_true rfl⟩) (va_recv hK hP (ci := 2) (q0 := 2) rfl rfl) hK hP hD hS hA hI rfl hl.1 rfl (Nat.le_of_ble_eq_true rfl) dX3_read_104 ⟨Nat.zero_le _, Nat.zero_le _⟩ (fun r_22 u H locs h hP hD hS => ?_)
            obtain ⟨pr_written_23, pr_within_24, tx_characters_25⟩ := u
            have hP : va_P (dC, dI) vwCl (xW ad cI cZ lt_count lw_begin lw_end lw_depth lw_signed lw_led pr_written_23 pr_within_24 st_size tx_size tt_count tt_pieces tt_kinds lt_begins lt_marks st_word st_vowels tx_characters_25 tt_begins tt_lengths tt_stemLengths tt_places tt_addresses tt_smalls tt_stems tt_slots tt_nexts) H := hP
            have hD : va_D A (xW ad cI cZ lt_count lw_begin lw_end lw_depth lw_signed lw_led pr_written_23 pr_within_24 st_size tx_size tt_count tt_pieces tt_kinds lt_begins lt_marks st_word st_vowels tx_characters_25 tt_begins tt_lengths tt_stemLengths tt_places tt_addresses tt_smalls tt_stems tt_slots tt_nexts) := hD
            refine lv_istore_n (lv' := [(3, .int r_22), (0, .ref (ad 2)), (1, .int x1), (2, .int x2)]) hx hb dX3_read_107 rfl hl (by decide) rfl (fun ls hl => ?_)
            refine lv_goto (tgt := 184) hx hb dX3_read_108 (by decide) ?_
            exact J184 pr_written_23 pr_within_24 tx_characters_25 x1 r_22 H locs ls (lv_sub hl [1, 2, 0] rfl) hP hD hS h
      rw [wlX3_read_12] at h
      refine lv_iload_n hx hb dX3_read_12 rfl (lv_at hl 1 rfl) ?_
      refine lv_aload_n hx hb dX3_read_13 rfl (lv_at hl 0 rfl) ?_
      refine va_get (D := (dC, dI)) (ci := 2) (v := .ref (ad 4)) (C := RX3) (T := TX3) (N := 3) hx hb hts inX3 hown hK hP 2 rfl rfl 0 (by decide) (hts (.fieldLink RX3 9 "MailWords$PageReader" "text" "LMailWords$Text;") (List.mem_of_getElem? (i := 3) rfl)) (fun _ h9 => h9) rfl dX3_read_14 ?_
      refine xc_vi (As := []) (rest := [.int x1]) xG Fx (sX5_size l dC dI ad cI cZ sa sv lt_count lw_begin lw_end lw_depth lw_signed lw_led pr_written pr_within st_size tx_size tt_count tt_pieces tt_kinds lt_begins lt_marks st_word st_vowels tx_characters tt_begins tt_lengths tt_stemLengths tt_places tt_addresses tt_smalls tt_stems tt_slots tt_nexts h) (cwV 0 hts gX3_read_X5_size rfl rfl rfl hdX5_size ⟨Nat.le_of_ble_eq_true rfl, Nat.le_of_ble_eq_true rfl⟩) (va_recv hK hP (ci := 4) (q0 := 4) rfl rfl) hK hP hD hS hA hI rfl hl.1 rfl (Nat.le_of_ble_eq_true rfl) dX3_read_17 ⟨Nat.zero_le _, Nat.zero_le _⟩ (fun r_26 u H locs h hP hD hS => ?_)
      refine lv_icmp_ge (tgt := 195) hx hb dX3_read_20 (by decide) (fun c9 => ?_) (fun c9 => ?_)
      · have h := h.1 c9
        refine lv_aload_n hx hb dX3_read_195 rfl (lv_at hl 0 rfl) ?_
        refine xc_vv (As := []) (rest := []) xG Fx (sX3_dropSpaces l dC dI ad cI cZ sa sv lt_count lw_begin lw_end lw_depth lw_signed lw_led pr_written pr_within st_size tx_size tt_count tt_pieces tt_kinds lt_begins lt_marks st_word st_vowels tx_characters tt_begins tt_lengths tt_stemLengths tt_places tt_addresses tt_smalls tt_stems tt_slots tt_nexts h) (cwV 0 hts gX3_read_X3_dropSpaces rfl rfl rfl hdX3_dropSpaces ⟨Nat.le_of_ble_eq_true rfl, Nat.le_of_ble_eq_true rfl⟩) (va_recv hK hP (ci := 2) (q0 := 2) rfl rfl) hK hP hD hS hA hI rfl hl.1 rfl (Nat.le_of_ble_eq_true rfl) dX3_read_196 ⟨Nat.zero_le _, Nat.zero_le _⟩ (fun pr_written_28 H locs h hP hD hS => ?_)
        have hP : va_P (dC, dI) vwCl (xW ad cI cZ lt_count lw_begin lw_end lw_depth lw_signed lw_led pr_written_28 pr_within st_size tx_size tt_count tt_pieces tt_kinds lt_begins lt_marks st_word st_vowels tx_characters tt_begins tt_lengths tt_stemLengths tt_places tt_addresses tt_smalls tt_stems tt_slots tt_nexts) H := hP
        have hD : va_D A (xW ad cI cZ lt_count lw_begin lw_end lw_depth lw_signed lw_led pr_written_28 pr_within st_size tx_size tt_count tt_pieces tt_kinds lt_begins lt_marks st_word st_vowels tx_characters tt_begins tt_lengths tt_stemLengths tt_places tt_addresses tt_smalls tt_stems tt_slots tt_nexts) := hD
        refine lv_aload_n hx hb dX3_read_199 rfl (lv_at hl 0 rfl) ?_
        refine va_get (D := (dC, dI)) (ci := 2) (v := .ref (ad 4)) (C := RX3) (T := TX3) (N := 3) hx hb hts inX3 hown hK hP 2 rfl rfl 0 (by decide) (hts (.fieldLink RX3 9 "MailWords$PageReader" "text" "LMailWords$Text;") (List.mem_of_getElem? (i := 3) rfl)) (fun _ h9 => h9) rfl dX3_read_200 ?_
        refine lv_aload_n hx hb dX3_read_203 rfl (lv_at hl 0 rfl) ?_
        refine va_get (D := (dC, dI)) (ci := 2) (v := .int pr_written_28) (C := RX3) (T := TX3) (N := 3) hx hb hts inX3 hown hK hP 2 rfl rfl 1 (by decide) (hts (.fieldLink RX3 15 "MailWords$PageReader" "written" "I") (List.mem_of_getElem? (i := 1) rfl)) (fun _ h9 => h9) rfl dX3_read_204 ?_
        refine xc_vv (As := [.int pr_written_28]) (rest := []) xG Fx (sX5_shorten l dC dI ad cI cZ sa sv lt_count lw_begin lw_end lw_depth lw_signed lw_led pr_written_28 pr_within st_size tx_size tt_count tt_pieces tt_kinds lt_begins lt_marks st_word st_vowels tx_characters tt_begins tt_lengths tt_stemLengths tt_places tt_addresses tt_smalls tt_stems tt_slots tt_nexts pr_written_28 h) (cwV 1 hts gX3_read_X5_shorten rfl rfl rfl hdX5_shorten ⟨Nat.le_of_ble_eq_true rfl, Nat.le_of_ble_eq_true rfl⟩) (va_recv hK hP (ci := 4) (q0 := 4) rfl rfl) hK hP hD hS hA hI rfl hl.1 rfl (Nat.le_of_ble_eq_true rfl) dX3_read_207 ⟨Nat.zero_le _, Nat.zero_le _⟩ (fun tx_size_30 H locs h hP hD hS => ?_)
        have hP : va_P (dC, dI) vwCl (xW ad cI cZ lt_count lw_begin lw_end lw_depth lw_signed lw_led pr_written_28 pr_within st_size tx_size_30 tt_count tt_pieces tt_kinds lt_begins lt_marks st_word st_vowels tx_characters tt_begins tt_lengths tt_stemLengths tt_places tt_addresses tt_smalls tt_stems tt_slots tt_nexts) H := hP
        have hD : va_D A (xW ad cI cZ lt_count lw_begin lw_end lw_depth lw_signed lw_led pr_written_28 pr_within st_size tx_size_30 tt_count tt_pieces tt_kinds lt_begins lt_marks st_word st_vowels tx_characters tt_begins tt_lengths tt_stemLengths tt_places tt_addresses tt_smalls tt_stems tt_slots tt_nexts) := hD
        exact W.vret hx hb hr (fun t ht hW => hQ (pr_written_28, pr_within, tx_size_30, tx_characters) t h (by rw [ht]; exact hP) (va_K.moved hW.alike hK) hD (hS.F ht)) hS.2.2 dX3_read_210
      · have h := h.2 c9
        refine lv_aload_n hx hb dX3_read_23 rfl (lv_at hl 0 rfl) ?_
        refine va_get (D := (dC, dI)) (ci := 2) (v := .ref (ad 4)) (C := RX3) (T := TX3) (N := 3) hx hb hts inX3 hown hK hP 2 rfl rfl 0 (by decide) (hts (.fieldLink RX3 9 "MailWords$PageReader" "text" "LMailWords$Text;") (List.mem_of_getElem? (i := 3) rfl)) (fun _ h9 => h9) rfl dX3_read_24 ?_
        refine lv_iload_n hx hb dX3_read_27 rfl (lv_at hl 1 rfl) ?_
        refine xc_vi (As := [.int x1]) (rest := []) xG Fx (sX5_get l dC dI ad cI cZ sa sv lt_count lw_begin lw_end lw_depth lw_signed lw_led pr_written pr_within st_size tx_size tt_count tt_pieces tt_kinds lt_begins lt_marks st_word st_vowels tx_characters tt_begins tt_lengths tt_stemLengths tt_places tt_addresses tt_smalls tt_stems tt_slots tt_nexts x1 h) (cwV 1 hts gX3_read_X5_get rfl rfl rfl hdX5_get ⟨Nat.le_of_ble_eq_true rfl, Nat.le_of_ble_eq_true rfl⟩) (va_recv hK hP (ci := 4) (q0 := 4) rfl rfl) hK hP hD hS hA hI rfl hl.1 rfl (Nat.le_of_ble_eq_true rfl) dX3_read_28 ⟨Nat.zero_le _, Nat.zero_le _⟩ (fun r_31 u H locs h hP hD hS => ?_)
        refine lv_istore_n (lv' := [(2, .int r_31), (0, .ref (ad 2)), (1, .int x1)]) hx hb dX3_read_31 rfl hl (by decide) rfl (fun ls hl => ?_)
        refine lv_iload_n hx hb dX3_read_32 rfl (lv_at hl 2 rfl) ?_
        refine lv_iconst (v := 1) hx hb dX3_read_33 (by decide) ?_
        refine lv_iadd hx hb dX3_read_34 ?_
        refine lv_topi (fun x3_32 ex3_32 => ?_)
        have h := h x3_32 ex3_32
        refine lv_istore_n (lv' := [(3, .int x3_32), (2, .int r_31), (0, .ref (ad 2)), (1, .int x1)]) hx hb dX3_read_35 rfl hl (by decide) rfl (fun ls hl => ?_)
        refine lv_iload_n hx hb dX3_read_36 rfl (lv_at hl 1 rfl) ?_
        refine lv_bipush (v := 60) hx hb dX3_read_37 (by decide) ?_
        refine lv_icmp_ne (tgt := 70) hx hb dX3_read_39 (by decide) (fun c9 => ?_) (fun c9 => ?_)
        · have h := h.1 c9
          exact J70 pr_written pr_within tx_characters x1 r_31 x3_32 H locs ls (lv_sub hl [2, 3, 1, 0] rfl) hP hD hS h
        · have h := h.2 c9
          refine lv_aload_n hx hb dX3_read_42 rfl (lv_at hl 2 rfl) ?_
          refine va_get (D := (dC, dI)) (ci := 2) (v := .ref (ad 4)) (C := RX3) (T := TX3) (N := 3) hx hb hts inX3 hown hK hP 2 rfl rfl 0 (by decide) (hts (.fieldLink RX3 9 "MailWords$PageReader" "text" "LMailWords$Text;") (List.mem_of_getElem? (i := 3) rfl)) (fun _ h9 => h9) rfl dX3_read_43 ?_
          refine lv_iload_n hx hb dX3_read_46 rfl (lv_at hl 3 rfl) ?_
          refine lv_iconst (v := 1) hx hb dX3_read_47 (by decide) ?_
          refine lv_iadd hx hb dX3_read_48 ?_
          refine xc_vi (As := [.int (x1 + 1)]) (rest := []) xG Fx (sX5_get l dC dI ad cI cZ sa sv lt_count lw_begin lw_end lw_depth lw_signed lw_led pr_written pr_within st_size tx_size tt_count tt_pieces tt_kinds lt_begins lt_marks st_word st_vowels tx_characters tt_begins tt_lengths tt_stemLengths tt_places tt_addresses tt_smalls tt_stems tt_slots tt_nexts (x1 + 1) h) (cwV 1 hts gX3_read_X5_get rfl rfl rfl hdX5_get ⟨Nat.le_of_ble_eq_true rfl, Nat.le_of_ble_eq_true rfl⟩) (va_recv hK hP (ci := 4) (q0 := 4) rfl rfl) hK hP hD hS hA hI rfl hl.1 rfl (Nat.le_of_ble_eq_true rfl) dX3_read_49 ⟨Nat.zero_le _, Nat.zero_le _⟩ (fun r_33 u H locs h hP hD hS => ?_)
          refine xc_si (As := [.int r_33]) (rest := []) xG Fx (sX0_isLatin l dC dI ad cI cZ sa sv lt_count lw_begin lw_end lw_depth lw_signed lw_led pr_written pr_within st_size tx_size tt_count tt_pieces tt_kinds lt_begins lt_marks st_word st_vowels tx_characters tt_begins tt_lengths tt_stemLengths tt_places tt_addresses tt_smalls tt_stems tt_slots tt_nexts r_33 h) (va_cwS 1 hts gX3_read_X0_isLatin rfl rfl rfl hdX0_isLatin ⟨Nat.le_of_ble_eq_true rfl, Nat.le_of_ble_eq_true rfl⟩) hK hP hD hS hA hI rfl hl.1 rfl (Nat.le_of_ble_eq_true rfl) dX3_read_52 ⟨Nat.zero_le _, Nat.zero_le _⟩ (fun r_34 u H locs h hP hD hS => ?_)
          refine lv_if_eq (tgt := 70) hx hb dX3_read_55 (by decide) (fun c9 => ?_) (fun c9 => ?_)
          · have h := h.1 c9
            exact J70 pr_written pr_within tx_characters x1 r_31 x3_32 H locs ls (lv_sub hl [2, 3, 1, 0] rfl) hP hD hS h
          · have h := h.2 c9
            refine lv_aload_n hx hb dX3_read_58 rfl (lv_at hl 2 rfl) ?_
            refine lv_iload_n hx hb dX3_read_59 rfl (lv_at hl 3 rfl) ?_
            refine lv_iconst (v := 1) hx hb dX3_read_60 (by decide) ?_
            refine lv_iadd hx hb dX3_read_61 ?_
            refine lv_iconst (v := 0) hx hb dX3_read_62 (by decide) ?_
            refine xc_vi (As := [.int (x1 + 1), .int 0]) (rest := []) xG Fx (sX3_readTag l dC dI ad cI cZ sa sv lt_count lw_begin lw_end lw_depth lw_signed lw_led pr_written pr_within st_size tx_size tt_count tt_pieces tt_kinds lt_begins lt_marks st_word st_vowels tx_characters tt_begins tt_lengths tt_stemLengths tt_places tt_addresses tt_smalls tt_stems tt_slots tt_nexts (x1 + 1) 0 h) (cwV 2 hts gX3_read_X3_readTag rfl rfl rfl hdX3_readTag ⟨Nat.le_of_ble_eq_true rfl, Nat.le_of_ble_eq_true rfl⟩) (va_recv hK hP (ci := 2) (q0 := 2) rfl rfl) hK hP hD hS hA hI rfl hl.1 rfl (Nat.le_of_ble_eq_true rfl) dX3_read_63 ⟨Nat.zero_le _, Nat.zero_le _⟩ (fun r_35 u H locs h hP hD hS => ?_)
            obtain ⟨pr_written_36, pr_within_37, tx_characters_38⟩ := u
            have hP : va_P (dC, dI) vwCl (xW ad cI cZ lt_count lw_begin lw_end lw_depth lw_signed lw_led pr_written_36 pr_within_37 st_size tx_size tt_count tt_pieces tt_kinds lt_begins lt_marks st_word st_vowels tx_characters_38 tt_begins tt_lengths tt_stemLengths tt_places tt_addresses tt_smalls tt_stems tt_slots tt_nexts) H := hP
            have hD : va_D A (xW ad cI cZ lt_count lw_begin lw_end lw_depth lw_signed lw_led pr_written_36 pr_within_37 st_size tx_size tt_count tt_pieces tt_kinds lt_begins lt_marks st_word st_vowels tx_characters_38 tt_begins tt_lengths tt_stemLengths tt_places tt_addresses tt_smalls tt_stems tt_slots tt_nexts) := hD
            refine lv_istore_n (lv' := [(3, .int r_35), (2, .int r_31), (0, .ref (ad 2)), (1, .int x1)]) hx hb dX3_read_66 rfl hl (by decide) rfl (fun ls hl => ?_)
            refine lv_goto (tgt := 184) hx hb dX3_read_67 (by decide) ?_
            exact J184 pr_written_36 pr_within_37 tx_characters_38 x1 r_35 H locs ls (lv_sub hl [2, 3, 0] rfl) hP hD hS h
  intro H locs hP hD hS
  delta wpX3_read at h
  refine lv_aload_n hx hb dX3_read_0 rfl (lv_at hl 0 rfl) ?_
  refine lv_iconst (v := 0) hx hb dX3_read_1 (by decide) ?_
  refine va_put (D := (dC, dI)) (ci := 2) (v := .int 0) (ty := .int) (C := RX3) (T := TX3) (N := 3) hx hb hts inX3 tyX3 tyX3_ok nmX3 hown hK hP hD hS 2 rfl rfl 1 (by decide) (hts (.fieldLink RX3 15 "MailWords$PageReader" "written" "I") (List.mem_of_getElem? (i := 1) rfl)) (fun _ h9 => h9) rfl (tyX3_ok 1 (by decide)) rfl rfl (Nat.le_of_ble_eq_true rfl) dX3_read_2 (fun H locs hP hD hS => ?_)
  have hP : va_P (dC, dI) vwCl (xW ad cI cZ lt_count lw_begin lw_end lw_depth lw_signed lw_led 0 pr_within st_size tx_size tt_count tt_pieces tt_kinds lt_begins lt_marks st_word st_vowels tx_characters tt_begins tt_lengths tt_stemLengths tt_places tt_addresses tt_smalls tt_stems tt_slots tt_nexts) H := hP
  have hD : va_D A (xW ad cI cZ lt_count lw_begin lw_end lw_depth lw_signed lw_led 0 pr_within st_size tx_size tt_count tt_pieces tt_kinds lt_begins lt_marks st_word st_vowels tx_characters tt_begins tt_lengths tt_stemLengths tt_places tt_addresses tt_smalls tt_stems tt_slots tt_nexts) := hD
  refine lv_aload_n hx hb dX3_read_5 rfl (lv_at hl 0 rfl) ?_
  refine lv_iconst (v := 0) hx hb dX3_read_6 (by decide) ?_
  refine va_put (D := (dC, dI)) (ci := 2) (v := .int 0) (ty := .boolean) (C := RX3) (T := TX3) (N := 3) hx hb hts inX3 tyX3 tyX3_ok nmX3 hown hK hP hD hS 2 rfl rfl 2 (by decide) (hts (.fieldLink RX3 19 "MailWords$PageReader" "within" "Z") (List.mem_of_getElem? (i := 2) rfl)) (fun _ h9 => h9) rfl (tyX3_ok 2 (by decide)) (bN_nar bN0) (bN_fit bN0) (Nat.le_of_ble_eq_true rfl) dX3_read_7 (fun H locs hP hD hS => ?_)
  have hP : va_P (dC, dI) vwCl (xW ad cI cZ lt_count lw_begin lw_end lw_depth lw_signed lw_led 0 0 st_size tx_size tt_count tt_pieces tt_kinds lt_begins lt_marks st_word st_vowels tx_characters tt_begins tt_lengths tt_stemLengths tt_places tt_addresses tt_smalls tt_stems tt_slots tt_nexts) H := hP
  have hD : va_D A (xW ad cI cZ lt_count lw_begin lw_end lw_depth lw_signed lw_led 0 0 st_size tx_size tt_count tt_pieces tt_kinds lt_begins lt_marks st_word st_vowels tx_characters tt_begins tt_lengths tt_stemLengths tt_places tt_addresses tt_smalls tt_stems tt_slots tt_nexts) := hD
  refine lv_iconst (v := 0) hx hb dX3_read_10 (by decide) ?_
  refine lv_istore_n (lv' := [(1, .int 0), (0, .ref (ad 2))]) hx hb dX3_read_11 rfl hl (by decide) rfl (fun ls hl => ?_)
  obtain ⟨n, h⟩ := h
  exact L12 tx_size n 0 0 tx_characters 0 H locs ls (lv_sub hl [1, 0] rfl) hP hD hS h
