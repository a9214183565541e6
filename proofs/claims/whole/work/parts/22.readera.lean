set_option maxHeartbeats 4000000 in
set_option maxRecDepth 100000 in
theorem sX3_behindName (l : Launch) (dC : Nat → ClassId) (dI : Nat → Nat → Nat) (ad : Nat → Nat) (cI cZ : ClassId) (sa sv : Nat → Nat) (lt_count : Int32) (lw_begin : Int32) (lw_end : Int32) (lw_depth : Int32) (lw_signed : Int32) (lw_led : Int32) (pr_written : Int32) (pr_within : Int32) (st_size : Int32) (tx_size : Int32) (tt_count : Int32) (tt_pieces : Int32) (tt_kinds : Int32) (lt_begins : Nat → Int32) (lt_marks : Nat → Int32) (st_word : Nat → Int32) (st_vowels : Nat → Int32) (tx_characters : Nat → Int32) (tt_begins : Nat → Int32) (tt_lengths : Nat → Int32) (tt_stemLengths : Nat → Int32) (tt_places : Nat → Int32) (tt_addresses : Nat → Int32) (tt_smalls : Nat → Int32) (tt_stems : Nat → Int32) (tt_slots : Nat → Int32) (tt_nexts : Nat → Int32) (x1 : Int32) {post : Int32 → Prop} (h : wpX3_behindName post tx_size tx_characters x1) : xMi l (dC, dI) vwCl [(cI, .int), (cZ, .boolean)] (sI sa sv) yX3_behindName wsX3_behindName ({ frames := 1, cells := 0, slots := 0, locals := 21 }) (xW ad cI cZ lt_count lw_begin lw_end lw_depth lw_signed lw_led pr_written pr_within st_size tx_size tt_count tt_pieces tt_kinds lt_begins lt_marks st_word st_vowels tx_characters tt_begins tt_lengths tt_stemLengths tt_places tt_addresses tt_smalls tt_stems tt_slots tt_nexts) [.ref (ad 2), .int x1] (fun (r : Int32) (u : Unit) => post r ) (fun u : Unit => (xW ad cI cZ lt_count lw_begin lw_end lw_depth lw_signed lw_led pr_written pr_within st_size tx_size tt_count tt_pieces tt_kinds lt_begins lt_marks st_word st_vowels tx_characters tt_begins tt_lengths tt_stemLengths tt_places tt_addresses tt_smalls tt_stems tt_slots tt_nexts)) := by
  intro sz
  refine Met.ofW (cc := cX3_behindName) (maxL := 3) (ret := (some .int)) (by decide) rfl ?_
  intro p e s m args below meth c s₁ B hml hv
  obtain ⟨rfl, hsz, hP, hK, hD0, hI⟩ := hv
  have hx := B.exec
  have hb := B.bytes
  have hr := B.returns
  have hts := atoms_spec (ws := wsX3_behindName) B.pre
  have hown : s.vm.findClass RX3 = some m.cls := findClass_of_methodNamed B.named
  have hlocks := B.notSynchronized
  subst hsz
  have hD := hD0.self (sz := s.heap.size)
  generalize hAe : va_A (xW ad cI cZ lt_count lw_begin lw_end lw_depth lw_signed lw_led pr_written pr_within st_size tx_size tt_count tt_pieces tt_kinds lt_begins lt_marks st_word st_vowels tx_characters tt_begins tt_lengths tt_stemLengths tt_places tt_addresses tt_smalls tt_stems tt_slots tt_nexts) s.heap.size = A at hD hI ⊢
  have hA : ∀ q : Nat, s.heap.size ≤ q → A q := fun q h => by rw [← hAe]; exact Or.inr h
  have hS : va_S A s.heap s.heap [] := va_S.rf
  have Fx : CallFix p m c cX3_behindName 3 s ([.ref (ad 2), .int x1] : List Value).toArray wsX3_behindName RX3 := ⟨hx, hb, hml, hown, hts⟩
  have hQ : ∀ (r : Int32) (u : Unit) (t : State), (fun (r : Int32) (u : Unit) => post r ) r u → va_P (dC, dI) vwCl ((fun u : Unit => (xW ad cI cZ lt_count lw_begin lw_end lw_depth lw_signed lw_led pr_written pr_within st_size tx_size tt_count tt_pieces tt_kinds lt_begins lt_marks st_word st_vowels tx_characters tt_begins tt_lengths tt_stemLengths tt_places tt_addresses tt_smalls tt_stems tt_slots tt_nexts)) u) t.heap → va_K (dC, dI) vwCl [(cI, .int), (cZ, .boolean)] t → va_D A ((fun u : Unit => (xW ad cI cZ lt_count lw_begin lw_end lw_depth lw_signed lw_led pr_written pr_within st_size tx_size tt_count tt_pieces tt_kinds lt_begins lt_marks st_word st_vowels tx_characters tt_begins tt_lengths tt_stemLengths tt_places tt_addresses tt_smalls tt_stems tt_slots tt_nexts)) u) → va_F A s t → (va_Qi (fun (r : Int32) (u : Unit) => post r ) (xB (dC, dI) vwCl [(cI, .int), (cZ, .boolean)] A (fun u : Unit => (xW ad cI cZ lt_count lw_begin lw_end lw_depth lw_signed lw_led pr_written pr_within st_size tx_size tt_count tt_pieces tt_kinds lt_begins lt_marks st_word st_vowels tx_characters tt_begins tt_lengths tt_stemLengths tt_places tt_addresses tt_smalls tt_stems tt_slots tt_nexts))) A) ([.ref (ad 2), .int x1] : List Value).toArray s (.returned (some (.int r))) t := fun r u t h1 h2 h3 h4 h5 => ⟨⟨r, u, rfl, h1, h2, h3, h4⟩, h5⟩
  generalize (va_Qi (fun (r : Int32) (u : Unit) => post r ) (xB (dC, dI) vwCl [(cI, .int), (cZ, .boolean)] A (fun u : Unit => (xW ad cI cZ lt_count lw_begin lw_end lw_depth lw_signed lw_led pr_written pr_within st_size tx_size tt_count tt_pieces tt_kinds lt_begins lt_marks st_word st_vowels tx_characters tt_begins tt_lengths tt_stemLengths tt_places tt_addresses tt_smalls tt_stems tt_slots tt_nexts))) A) = Qc at hQ ⊢
  have hl := lv_entry ([.ref (ad 2), .int x1]) (n := 3) (Nat.le_of_ble_eq_true rfl)
  rw [lg_entry_eq]
  generalize (lg_sl ([.ref (ad 2), .int x1]) ++ List.replicate (3 - (lg_sl ([.ref (ad 2), .int x1])).length) Slot.unset).toArray = ls at hl ⊢
  have hl : lv_has ls 3 [(0, .ref (ad 2)), (1, .int x1)] := hl
  refine (fun (key : ∀ (H : Heap) (locs : List Loc), va_P (dC, dI) vwCl (xW ad cI cZ lt_count lw_begin lw_end lw_depth lw_signed lw_led pr_written pr_within st_size tx_size tt_count tt_pieces tt_kinds lt_begins lt_marks st_word st_vowels tx_characters tt_begins tt_lengths tt_stemLengths tt_places tt_addresses tt_smalls tt_stems tt_slots tt_nexts) H → va_D A (xW ad cI cZ lt_count lw_begin lw_end lw_depth lw_signed lw_led pr_written pr_within st_size tx_size tt_count tt_pieces tt_kinds lt_begins lt_marks st_word st_vowels tx_characters tt_begins tt_lengths tt_stemLengths tt_places tt_addresses tt_smalls tt_stems tt_slots tt_nexts) → va_S A s.heap H locs → W p l e (headSpec wsX3_behindName ({ frames := 1, cells := 0, slots := 0, locals := 21 })).room s m ([.ref (ad 2), .int x1] : List Value).toArray below meth c H locs 0 0 (MQ below Qc ([.ref (ad 2), .int x1] : List Value).toArray s 0 0 A) (F0 m 0 ls [])) => key _ _ hP hD hS) ?_
  have inX3 : ∀ w ∈ wsX30, w ∈ wsX3_behindName := (fun _ h9 => List.mem_cons_of_mem _ (List.mem_append_left _ (List.mem_append_right _ h9)))
  have L2 : ∀ (n : Nat) (x2 : Int32) (H : Heap) (locs : List Loc) (ls : Array Slot), lv_has ls 3 [(0, .ref (ad 2)), (2, .int x2)] → va_P (dC, dI) vwCl (xW ad cI cZ lt_count lw_begin lw_end lw_depth lw_signed lw_led pr_written pr_within st_size tx_size tt_count tt_pieces tt_kinds lt_begins lt_marks st_word st_vowels tx_characters tt_begins tt_lengths tt_stemLengths tt_places tt_addresses tt_smalls tt_stems tt_slots tt_nexts) H → va_D A (xW ad cI cZ lt_count lw_begin lw_end lw_depth lw_signed lw_led pr_written pr_within st_size tx_size tt_count tt_pieces tt_kinds lt_begins lt_marks st_word st_vowels tx_characters tt_begins tt_lengths tt_stemLengths tt_places tt_addresses tt_smalls tt_stems tt_slots tt_nexts) → va_S A s.heap H locs → wlX3_behindName_2 post tx_size tx_characters x1 n x2 → W p l e (headSpec wsX3_behindName ({ frames := 1, cells := 0, slots := 0, locals := 21 })).room s m ([.ref (ad 2), .int x1] : List Value).toArray below meth c H locs 0 0 (MQ below Qc ([.ref (ad 2), .int x1] : List Value).toArray s 0 0 A) (F0 m 2 ls []) := by
    intro n
    induction n with
    | zero => intro x2 H locs ls _ _ _ _ h; exact absurd h (fun z => z)
    | succ n2 ih2 =>
      intro x2 H locs ls hl hP hD hS h
      have J41 : ∀ (x2 : Int32) (H : Heap) (locs : List Loc) (ls : Array Slot), lv_has ls 3 [(0, .ref (ad 2)), (2, .int x2)] → va_P (dC, dI) vwCl (xW ad cI cZ lt_count lw_begin lw_end lw_depth lw_signed lw_led pr_written pr_within st_size tx_size tt_count tt_pieces tt_kinds lt_begins lt_marks st_word st_vowels tx_characters tt_begins tt_lengths tt_stemLengths tt_places tt_addresses tt_smalls tt_stems tt_slots tt_nexts) H → va_D A (xW ad cI cZ lt_count lw_begin lw_end lw_depth lw_signed lw_led pr_written pr_within st_size tx_size tt_count tt_pieces tt_kinds lt_begins lt_marks st_word st_vowels tx_characters tt_begins tt_lengths tt_stemLengths tt_places tt_addresses tt_smalls tt_stems tt_slots tt_nexts) → va_S A s.heap H locs → wjX3_behindName_41 (fun x2 => wlX3_behindName_2 post tx_size tx_characters x1 n2 x2) post tx_size tx_characters x1 x2 → W p l e (headSpec wsX3_behindName ({ frames := 1, cells := 0, slots := 0, locals := 21 })).room s m ([.ref (ad 2), .int x1] : List Value).toArray below meth c H locs 0 0 (MQ below Qc ([.ref (ad 2), .int x1] : List Value).toArray s 0 0 A) (F0 m 41 ls []) := by
        intro x2 H locs ls hl hP hD hS h
        delta wjX3_behindName_41 at h
        obtain ⟨x2_1, ex2_1⟩ : ∃ y : Int32, y = x2 + 1 := ⟨_, rfl⟩
        have h := h x2_1 ex2_1
        refine lv_iinc (v := x2_1) (lv' := [(2, .int x2_1), (0, .ref (ad 2))]) hx hb dX3_behindName_41 hl (k := 1) rfl (by rw [ex2_1]; rfl) (by decide) rfl (fun ls hl => ?_)
        refine lv_goto (tgt := 2) hx hb dX3_behindName_44 (by decide) ?_
        exact ih2 x2_1 H locs ls (lv_sub hl [1, 0] rfl) hP hD hS h
      rw [wlX3_behindName_2] at h
      refine lv_iload_n hx hb dX3_behindName_2 rfl (lv_at hl 1 rfl) ?_
      refine lv_aload_n hx hb dX3_behindName_3 rfl (lv_at hl 0 rfl) ?_
      refine va_get (D := (dC, dI)) (ci := 2) (v := .ref (ad 4)) (C := RX3) (T := TX3) (N := 3) hx hb hts inX3 hown hK hP 2 rfl rfl 0 (by decide) (hts (.fieldLink RX3 9 "MailWords$PageReader" "text" "LMailWords$Text;") (List.mem_of_getElem? (i := 1) rfl)) (fun _ h9 => h9) rfl dX3_behindName_4 ?_
      refine xc_vi (As := []) (rest := [.int x2]) xG Fx (sX5_size l dC dI ad cI cZ sa sv lt_count lw_begin lw_end lw_depth lw_signed lw_led pr_written pr_within st_size tx_size tt_count tt_pieces tt_kinds lt_begins lt_marks st_word st_vowels tx_characters tt_begins tt_lengths tt_stemLengths tt_places tt_addresses tt_smalls tt_stems tt_slots tt_nexts h) (cwV 0 hts gX3_behindName_X5_size rfl rfl rfl hdX5_size ⟨Nat.le_of_ble_eq_true rfl, Nat.le_of_ble_eq_true rfl⟩) (va_recv hK hP (ci := 4) (q0 := 4) rfl rfl) hK hP hD hS hA hI rfl hl.1 rfl (Nat.le_of_ble_eq_true rfl) dX3_behindName_7 ⟨Nat.zero_le _, Nat.zero_le _⟩ (fun r_2 u H locs h hP hD hS => ?_)
      refine lv_icmp_ge (tgt := 47) hx hb dX3_behindName_10 (by decide) (fun c9 => ?_) (fun c9 => ?_)
      · have h := h.1 c9
        refine lv_iload_n hx hb dX3_behindName_47 rfl (lv_at hl 1 rfl) ?_
        exact W.iret (v := x2) hx hb hr (fun t ht hW => hQ x2 () t h (by rw [ht]; exact hP) (va_K.moved hW.alike hK) hD (hS.F ht)) hS.2.2 dX3_behindName_48
      · have h := h.2 c9
        refine lv_aload_n hx hb dX3_behindName_13 rfl (lv_at hl 0 rfl) ?_
        refine va_get (D := (dC, dI)) (ci := 2) (v := .ref (ad 4)) (C := RX3) (T := TX3) (N := 3) hx hb hts inX3 hown hK hP 2 rfl rfl 0 (by decide) (hts (.fieldLink RX3 9 "MailWords$PageReader" "text" "LMailWords$Text;") (List.mem_of_getElem? (i := 1) rfl)) (fun _ h9 => h9) rfl dX3_behindName_14 ?_
        refine lv_iload_n hx hb dX3_behindName_17 rfl (lv_at hl 1 rfl) ?_
        refine xc_vi (As := [.int x2]) (rest := []) xG Fx (sX5_get l dC dI ad cI cZ sa sv lt_count lw_begin lw_end lw_depth lw_signed lw_led pr_written pr_within st_size tx_size tt_count tt_pieces tt_kinds lt_begins lt_marks st_word st_vowels tx_characters tt_begins tt_lengths tt_stemLengths tt_places tt_addresses tt_smalls tt_stems tt_slots tt_nexts x2 h) (cwV 1 hts gX3_behindName_X5_get rfl rfl rfl hdX5_get ⟨Nat.le_of_ble_eq_true rfl, Nat.le_of_ble_eq_true rfl⟩) (va_recv hK hP (ci := 4) (q0 := 4) rfl rfl) hK hP hD hS hA hI rfl hl.1 rfl (Nat.le_of_ble_eq_true rfl) dX3_behindName_18 ⟨Nat.zero_le _, Nat.zero_le _⟩ (fun r_3 u H locs h hP hD hS => ?_)
        refine xc_si (As := [.int r_3]) (rest := []) xG Fx (sX0_isLatin l dC dI ad cI cZ sa sv lt_count lw_begin lw_end lw_depth lw_signed lw_led pr_written pr_within st_size tx_size tt_count tt_pieces tt_kinds lt_begins lt_marks st_word st_vowels tx_characters tt_begins tt_lengths tt_stemLengths tt_places tt_addresses tt_smalls tt_stems tt_slots tt_nexts r_3 h) (va_cwS 1 hts gX3_behindName_X0_isLatin rfl rfl rfl hdX0_isLatin ⟨Nat.le_of_ble_eq_true rfl, Nat.le_of_ble_eq_true rfl⟩) hK hP hD hS hA hI rfl hl.1 rfl (Nat.le_of_ble_eq_true rfl) dX3_behindName_21 ⟨Nat.zero_le _, Nat.zero_le _⟩ (fun r_4 u H locs h hP hD hS => ?_)
        refine lv_if_ne (tgt := 41) hx hb dX3_behindName_24 (by decide) (fun c9 => ?_) (fun c9 => ?_)
        · have h := h.1 c9
          exact J41 x2 H locs ls (lv_sub hl [0, 1] rfl) hP hD hS h
        · have h := h.2 c9
          refine lv_aload_n hx hb dX3_behindName_27 rfl (lv_at hl 0 rfl) ?_
          refine va_get (D := (dC, dI)) (ci := 2) (v := .ref (ad 4)) (C := RX3) (T := TX3) (N := 3) hx hb hts inX3 hown hK hP 2 rfl rfl 0 (by decide) (hts (.fieldLink RX3 9 "MailWords$PageReader" "text" "LMailWords$Text;") (List.mem_of_getElem? (i := 1) rfl)) (fun _ h9 => h9) rfl dX3_behindName_28 ?_
          refine lv_iload_n hx hb dX3_behindName_31 rfl (lv_at hl 1 rfl) ?_
          refine xc_vi (As := [.int x2]) (rest := []) xG Fx (sX5_get l dC dI ad cI cZ sa sv lt_count lw_begin lw_end lw_depth lw_signed lw_led pr_written pr_within st_size tx_size tt_count tt_pieces tt_kinds lt_begins lt_marks st_word st_vowels tx_characters tt_begins tt_lengths tt_stemLengths tt_places tt_addresses tt_smalls tt_stems tt_slots tt_nexts x2 h) (cwV 1 hts gX3_behindName_X5_get rfl rfl rfl hdX5_get ⟨Nat.le_of_ble_eq_true rfl, Nat.le_of_ble_eq_true rfl⟩) (va_recv hK hP (ci := 4) (q0 := 4) rfl rfl) hK hP hD hS hA hI rfl hl.1 rfl (Nat.le_of_ble_eq_true rfl) dX3_behindName_32 ⟨Nat.zero_le _, Nat.zero_le _⟩ (fun r_5 u H locs h hP hD hS => ?_)
          refine xc_si (As := [.int r_5]) (rest := []) xG Fx (sX0_isDigit l dC dI ad cI cZ sa sv lt_count lw_begin lw_end lw_depth lw_signed lw_led pr_written pr_within st_size tx_size tt_count tt_pieces tt_kinds lt_begins lt_marks st_word st_vowels tx_characters tt_begins tt_lengths tt_stemLengths tt_places tt_addresses tt_smalls tt_stems tt_slots tt_nexts r_5 h) (va_cwS 1 hts gX3_behindName_X0_isDigit rfl rfl rfl hdX0_isDigit ⟨Nat.le_of_ble_eq_true rfl, Nat.le_of_ble_eq_true rfl⟩) hK hP hD hS hA hI rfl hl.1 rfl (Nat.le_of_ble_eq_true rfl) dX3_behindName_35 ⟨Nat.zero_le _, Nat.zero_le _⟩ (fun r_6 u H locs h hP hD hS => ?_)
          refine lv_if_eq (tgt := 47) hx hb dX3_behindName_38 (by decide) (fun c9 => ?_) (fun c9 => ?_)
          · have h := h.1 c9
            refine lv_iload_n hx hb dX3_behindName_47 rfl (lv_at hl 1 rfl) ?_
            exact W.iret (v := x2) hx hb hr (fun t ht hW => hQ x2 () t h (by rw [ht]; exact hP) (va_K.moved hW.alike hK) hD (hS.F ht)) hS.2.2 dX3_behindName_48
          · have h := h.2 c9
            exact J41 x2 H locs ls (lv_sub hl [0, 1] rfl) hP hD hS h
  intro H locs hP hD hS
  delta wpX3_behindName at h
  refine lv_iload_n hx hb dX3_behindName_0 rfl (lv_at hl 1 rfl) ?_
  refine lv_istore_n (lv' := [(2, .int x1), (0, .ref (ad 2)), (1, .int x1)]) hx hb dX3_behindName_1 rfl hl (by decide) rfl (fun ls hl => ?_)
  obtain ⟨n, h⟩ := h
  exact L2  n x1 H locs ls (lv_sub hl [1, 0] rfl) hP hD hS h
set_option maxHeartbeats 4000000 in
set_option maxRecDepth 100000 in
theorem sX3_behindTag (l : Launch) (dC : Nat → ClassId) (dI : Nat → Nat → Nat) (ad : Nat → Nat) (cI cZ : ClassId) (sa sv : Nat → Nat) (lt_count : Int32) (lw_begin : Int32) (lw_end : Int32) (lw_depth : Int32) (lw_signed : Int32) (lw_led : Int32) (pr_written : Int32) (pr_within : Int32) (st_size : Int32) (tx_size : Int32) (tt_count : Int32) (tt_pieces : Int32) (tt_kinds : Int32) (lt_begins : Nat → Int32) (lt_marks : Nat → Int32) (st_word : Nat → Int32) (st_vowels : Nat → Int32) (tx_characters : Nat → Int32) (tt_begins : Nat → Int32) (tt_lengths : Nat → Int32) (tt_stemLengths : Nat → Int32) (tt_places : Nat → Int32) (tt_addresses : Nat → Int32) (tt_smalls : Nat → Int32) (tt_stems : Nat → Int32) (tt_slots : Nat → Int32) (tt_nexts : Nat → Int32) (x1 : Int32) {post : Int32 → Prop} (h : wpX3_behindTag post tx_size tx_characters x1) : xMi l (dC, dI) vwCl [(cI, .int), (cZ, .boolean)] (sI sa sv) yX3_behindTag wsX3_behindTag ({ frames := 1, cells := 0, slots := 0, locals := 21 }) (xW ad cI cZ lt_count lw_begin lw_end lw_depth lw_signed lw_led pr_written pr_within st_size tx_size tt_count tt_pieces tt_kinds lt_begins lt_marks st_word st_vowels tx_characters tt_begins tt_lengths tt_stemLengths tt_places tt_addresses tt_smalls tt_stems tt_slots tt_nexts) [.ref (ad 2), .int x1] (fun (r : Int32) (u : Unit) => post r ) (fun u : Unit => (xW ad cI cZ lt_count lw_begin lw_end lw_depth lw_signed lw_led pr_written pr_within st_size tx_size tt_count tt_pieces tt_kinds lt_begins lt_marks st_word st_vowels tx_characters tt_begins tt_lengths tt_stemLengths tt_places tt_addresses tt_smalls tt_stems tt_slots tt_nexts)) := by
  intro sz
  refine Met.ofW (cc := cX3_behindTag) (maxL := 6) (ret := (some .int)) (by decide) rfl ?_
  intro p e s m args below meth c s₁ B hml hv
  obtain ⟨rfl, hsz, hP, hK, hD0, hI⟩ := hv
  have hx := B.exec
  have hb := B.bytes
  have hr := B.returns
  have hts := atoms_spec (ws := wsX3_behindTag) B.pre
  have hown : s.vm.findClass RX3 = some m.cls := findClass_of_methodNamed B.named
  have hlocks := B.notSynchronized
  subst hsz
  have hD := hD0.self (sz := s.heap.size)
  generalize hAe : va_A (xW ad cI cZ lt_count lw_begin lw_end lw_depth lw_signed lw_led pr_written pr_within st_size tx_size tt_count tt_pieces tt_kinds lt_begins lt_marks st_word st_vowels tx_characters tt_begins tt_lengths tt_stemLengths tt_places tt_addresses tt_smalls tt_stems tt_slots tt_nexts) s.heap.size = A at hD hI ⊢
  have hA : ∀ q : Nat, s.heap.size ≤ q → A q := fun q h => by rw [← hAe]; exact Or.inr h
  have hS : va_S A s.heap s.heap [] := va_S.rf
  have Fx : CallFix p m c cX3_behindTag 6 s ([.ref (ad 2), .int x1] : List Value).toArray wsX3_behindTag RX3 := ⟨hx, hb, hml, hown, hts⟩
  have hQ : ∀ (r : Int32) (u : Unit) (t : State), (fun (r : Int32) (u : Unit) => post r ) r u → va_P (dC, dI) vwCl ((fun u : Unit => (xW ad cI cZ lt_count lw_begin lw_end lw_depth lw_signed lw_led pr_written pr_within st_size tx_size tt_count tt_pieces tt_kinds lt_begins lt_marks st_word st_vowels tx_characters tt_begins tt_lengths tt_stemLengths tt_places tt_addresses tt_smalls tt_stems tt_slots tt_nexts)) u) t.heap → va_K (dC, dI) vwCl [(cI, .int), (cZ, .boolean)] t → va_D A ((fun u : Unit => (xW ad cI cZ lt_count lw_begin lw_end lw_depth lw_signed lw_led pr_written pr_within st_size tx_size tt_count tt_pieces tt_kinds lt_begins lt_marks st_word st_vowels tx_characters tt_begins tt_lengths tt_stemLengths tt_places tt_addresses tt_smalls tt_stems tt_slots tt_nexts)) u) → va_F A s t → (va_Qi (fun (r : Int32) (u : Unit) => post r ) (xB (dC, dI) vwCl [(cI, .int), (cZ, .boolean)] A (fun u : Unit => (xW ad cI cZ lt_count lw_begin lw_end lw_depth lw_signed lw_led pr_written pr_within st_size tx_size tt_count tt_pieces tt_kinds lt_begins lt_marks st_word st_vowels tx_characters tt_begins tt_lengths tt_stemLengths tt_places tt_addresses tt_smalls tt_stems tt_slots tt_nexts))) A) ([.ref (ad 2), .int x1] : List Value).toArray s (.returned (some (.int r))) t := fun r u t h1 h2 h3 h4 h5 => ⟨⟨r, u, rfl, h1, h2, h3, h4⟩, h5⟩
  generalize (va_Qi (fun (r : Int32) (u : Unit) => post r ) (xB (dC, dI) vwCl [(cI, .int), (cZ, .boolean)] A (fun u : Unit => (xW ad cI cZ lt_count lw_begin lw_end lw_depth lw_signed lw_led pr_written pr_within st_size tx_size tt_count tt_pieces tt_kinds lt_begins lt_marks st_word st_vowels tx_characters tt_begins tt_lengths tt_stemLengths tt_places tt_addresses tt_smalls tt_stems tt_slots tt_nexts))) A) = Qc at hQ ⊢
  have hl := lv_entry ([.ref (ad 2), .int x1]) (n := 6) (Nat.le_of_ble_eq_true rfl)
  rw [lg_entry_eq]
  generalize (lg_sl ([.ref (ad 2), .int x1]) ++ List.replicate (6 - (lg_sl ([.ref (ad 2), .int x1])).length) Slot.unset).toArray = ls at hl ⊢
  have hl : lv_has ls 6 [(0, .ref (ad 2)), (1, .int x1)] := hl
  refine (fun (key : ∀ (H : Heap) (locs : List Loc), va_P (dC, dI) vwCl (xW ad cI cZ lt_count lw_begin lw_end lw_depth lw_signed lw_led pr_written pr_within st_size tx_size tt_count tt_pieces tt_kinds lt_begins lt_marks st_word st_vowels tx_characters tt_begins tt_lengths tt_stemLengths tt_places tt_addresses tt_smalls tt_stems tt_slots tt_nexts) H → va_D A (xW ad cI cZ lt_count lw_begin lw_end lw_depth lw_signed lw_led pr_written pr_within st_size tx_size tt_count tt_pieces tt_kinds lt_begins lt_marks st_word st_vowels tx_characters tt_begins tt_lengths tt_stemLengths tt_places tt_addresses tt_smalls tt_stems tt_slots tt_nexts) → va_S A s.heap H locs → W p l e (headSpec wsX3_behindTag ({ frames := 1, cells := 0, slots := 0, locals := 21 })).room s m ([.ref (ad 2), .int x1] : List Value).toArray below meth c H locs 0 0 (MQ below Qc ([.ref (ad 2), .int x1] : List Value).toArray s 0 0 A) (F0 m 0 ls [])) => key _ _ hP hD hS) ?_
  have inX3 : ∀ w ∈ wsX30, w ∈ wsX3_behindTag := (fun _ h9 => List.mem_cons_of_mem _ (List.mem_append_left _ (List.mem_append_right _ h9)))
  have L7 : ∀ (n : Nat) (x2 : Int32) (x3 : Int32) (x4 : Int32) (H : Heap) (locs : List Loc) (ls : Array Slot), lv_has ls 6 [(0, .ref (ad 2)), (2, .int x2), (3, .int x3), (4, .int x4)] → va_P (dC, dI) vwCl (xW ad cI cZ lt_count lw_begin lw_end lw_depth lw_signed lw_led pr_written pr_within st_size tx_size tt_count tt_pieces tt_kinds lt_begins lt_marks st_word st_vowels tx_characters tt_begins tt_lengths tt_stemLengths tt_places tt_addresses tt_smalls tt_stems tt_slots tt_nexts) H → va_D A (xW ad cI cZ lt_count lw_begin lw_end lw_depth lw_signed lw_led pr_written pr_within st_size tx_size tt_count tt_pieces tt_kinds lt_begins lt_marks st_word st_vowels tx_characters tt_begins tt_lengths tt_stemLengths tt_places tt_addresses tt_smalls tt_stems tt_slots tt_nexts) → va_S A s.heap H locs → wlX3_behindTag_7 post tx_size tx_characters x1 n x2 x3 x4 → W p l e (headSpec wsX3_behindTag ({ frames := 1, cells := 0, slots := 0, locals := 21 })).room s m ([.ref (ad 2), .int x1] : List Value).toArray below meth c H locs 0 0 (MQ below Qc ([.ref (ad 2), .int x1] : List Value).toArray s 0 0 A) (F0 m 7 ls []) := by
    intro n
    induction n with
    | zero => intro x2 x3 x4 H locs ls _ _ _ _ h; exact absurd h (fun z => z)
    | succ n7 ih7 =>
      intro x2 x3 x4 H locs ls hl hP hD hS h
      have J113 : ∀ (x2 : Int32) (x3 : Int32) (x4 : Int32) (H : Heap) (locs : List Loc) (ls : Array Slot), lv_has ls 6 [(0, .ref (ad 2)), (2, .int x2), (3, .int x3), (4, .int x4)] → va_P (dC, dI) vwCl (xW ad cI cZ lt_count lw_begin lw_end lw_depth lw_signed lw_led pr_written pr_within st_size tx_size tt_count tt_pieces tt_kinds lt_begins lt_marks st_word st_vowels tx_characters tt_begins tt_lengths tt_stemLengths tt_places tt_addresses tt_smalls tt_stems tt_slots tt_nexts) H → va_D A (xW ad cI cZ lt_count lw_begin lw_end lw_depth lw_signed lw_led pr_written pr_within st_size tx_size tt_count tt_pieces tt_kinds lt_begins lt_marks st_word st_vowels tx_characters tt_begins tt_lengths tt_stemLengths tt_places tt_addresses tt_smalls tt_stems tt_slots tt_nexts) → va_S A s.heap H locs → wjX3_behindTag_113 (fun x2 x3 x4 => wlX3_behindTag_7 post tx_size tx_characters x1 n7 x2 x3 x4) post tx_size tx_characters x1 x2 x3 x4 → W p l e (headSpec wsX3_behindTag ({ frames := 1, cells := 0, slots := 0, locals := 21 })).room s m ([.ref (ad 2), .int x1] : List Value).toArray below meth c H locs 0 0 (MQ below Qc ([.ref (ad 2), .int x1] : List Value).toArray s 0 0 A) (F0 m 113 ls []) := by
        intro x2 x3 x4 H locs ls hl hP hD hS h
        delta wjX3_behindTag_113 at h
        obtain ⟨x4_1, ex4_1⟩ : ∃ y : Int32, y = x4 + 1 := ⟨_, rfl⟩
        have h := h x4_1 ex4_1
        refine lv_iinc (v := x4_1) (lv' := [(4, .int x4_1), (0, .ref (ad 2)), (2, .int x2), (3, .int x3)]) hx hb dX3_behindTag_113 hl (k := 3) rfl (by rw [ex4_1]; rfl) (by decide) rfl (fun ls hl => ?_)
        refine lv_goto (tgt := 7) hx hb dX3_behindTag_116 (by decide) ?_
        exact ih7 x2 x3 x4_1 H locs ls (lv_sub hl [1, 2, 3, 0] rfl) hP hD hS h
      have J112 : ∀ (x2 : Int32) (x4 : Int32) (s0 : Int32) (H : Heap) (locs : List Loc) (ls : Array Slot), lv_has ls 6 [(0, .ref (ad 2)), (2, .int x2), (4, .int x4)] → va_P (dC, dI) vwCl (xW ad cI cZ lt_count lw_begin lw_end lw_depth lw_signed lw_led pr_written pr_within st_size tx_size tt_count tt_pieces tt_kinds lt_begins lt_marks st_word st_vowels tx_characters tt_begins tt_lengths tt_stemLengths tt_places tt_addresses tt_smalls tt_stems tt_slots tt_nexts) H → va_D A (xW ad cI cZ lt_count lw_begin lw_end lw_depth lw_signed lw_led pr_written pr_within st_size tx_size tt_count tt_pieces tt_kinds lt_begins lt_marks st_word st_vowels tx_characters tt_begins tt_lengths tt_stemLengths tt_places tt_addresses tt_smalls tt_stems tt_slots tt_nexts) → va_S A s.heap H locs → wjX3_behindTag_112 (fun x2 x3 x4 => wlX3_behindTag_7 post tx_size tx_characters x1 n7 x2 x3 x4) post tx_size tx_characters x1 x2 x4 s0 → W p l e (headSpec wsX3_behindTag ({ frames := 1, cells := 0, slots := 0, locals := 21 })).room s m ([.ref (ad 2), .int x1] : List Value).toArray below meth c H locs 0 0 (MQ below Qc ([.ref (ad 2), .int x1] : List Value).toArray s 0 0 A) (F0 m 112 ls [.int s0]) := by
        intro x2 x4 s0 H locs ls hl hP hD hS h
        delta wjX3_behindTag_112 at h
        refine lv_istore_n (lv' := [(3, .int s0), (0, .ref (ad 2)), (2, .int x2), (4, .int x4)]) hx hb dX3_behindTag_112 rfl hl (by decide) rfl (fun ls hl => ?_)
        exact J113 x2 s0 x4 H locs ls (lv_sub hl [1, 2, 0, 3] rfl) hP hD hS h
      have J111 : ∀ (x2 : Int32) (x4 : Int32) (H : Heap) (locs : List Loc) (ls : Array Slot), lv_has ls 6 [(0, .ref (ad 2)), (2, .int x2), (4, .int x4)] → va_P (dC, dI) vwCl (xW ad cI cZ lt_count lw_begin lw_end lw_depth lw_signed lw_led pr_written pr_within st_size tx_size tt_count tt_pieces tt_kinds lt_begins lt_marks st_word st_vowels tx_characters tt_begins tt_lengths tt_stemLengths tt_places tt_addresses tt_smalls tt_stems tt_slots tt_nexts) H → va_D A (xW ad cI cZ lt_count lw_begin lw_end lw_depth lw_signed lw_led pr_written pr_within st_size tx_size tt_count tt_pieces tt_kinds lt_begins lt_marks st_word st_vowels tx_characters tt_begins tt_lengths tt_stemLengths tt_places tt_addresses tt_smalls tt_stems tt_slots tt_nexts) → va_S A s.heap H locs → wjX3_behindTag_111 (fun x2 x3 x4 => wlX3_behindTag_7 post tx_size tx_characters x1 n7 x2 x3 x4) post tx_size tx_characters x1 x2 x4 → W p l e (headSpec wsX3_behindTag ({ frames := 1, cells := 0, slots := 0, locals := 21 })).room s m ([.ref (ad 2), .int x1] : List Value).toArray below meth c H locs 0 0 (MQ below Qc ([.ref (ad 2), .int x1] : List Value).toArray s 0 0 A) (F0 m 111 ls []) := by
        intro x2 x4 H locs ls hl hP hD hS h
        delta wjX3_behindTag_111 at h
        refine lv_iconst (v := 0) hx hb dX3_behindTag_111 (by decide) ?_
        exact J112 x2 x4 0 H locs ls (lv_sub hl [0, 1, 2] rfl) hP hD hS h
      have J107 : ∀ (x2 : Int32) (x4 : Int32) (H : Heap) (locs : List Loc) (ls : Array Slot), lv_has ls 6 [(0, .ref (ad 2)), (2, .int x2), (4, .int x4)] → va_P (dC, dI) vwCl (xW ad cI cZ lt_count lw_begin lw_end lw_depth lw_signed lw_led pr_written pr_within st_size tx_size tt_count tt_pieces tt_kinds lt_begins lt_marks st_word st_vowels tx_characters tt_begins tt_lengths tt_stemLengths tt_places tt_addresses tt_smalls tt_stems tt_slots tt_nexts) H → va_D A (xW ad cI cZ lt_count lw_begin lw_end lw_depth lw_signed lw_led pr_written pr_within st_size tx_size tt_count tt_pieces tt_kinds lt_begins lt_marks st_word st_vowels tx_characters tt_begins tt_lengths tt_stemLengths tt_places tt_addresses tt_smalls tt_stems tt_slots tt_nexts) → va_S A s.heap H locs → wjX3_behindTag_107 (fun x2 x3 x4 => wlX3_behindTag_7 post tx_size tx_characters x1 n7 x2 x3 x4) post tx_size tx_characters x1 x2 x4 → W p l e (headSpec wsX3_behindTag ({ frames := 1, cells := 0, slots := 0, locals := 21 })).room s m ([.ref (ad 2), .int x1] : List Value).toArray below meth c H locs 0 0 (MQ below Qc ([.ref (ad 2), .int x1] : List Value).toArray s 0 0 A) (F0 m 107 ls []) := by
        intro x2 x4 H locs ls hl hP hD hS h
        delta wjX3_behindTag_107 at h
        refine lv_iconst (v := 1) hx hb dX3_behindTag_107 (by decide) ?_
        refine lv_goto (tgt := 112) hx hb dX3_behindTag_108 (by decide) ?_
        exact J112 x2 x4 1 H locs ls (lv_sub hl [0, 1, 2] rfl) hP hD hS h
      have J88 : ∀ (x2 : Int32) (x3 : Int32) (x4 : Int32) (x5 : Int32) (H : Heap) (locs : List Loc) (ls : Array Slot), lv_has ls 6 [(0, .ref (ad 2)), (2, .int x2), (3, .int x3), (4, .int x4), (5, .int x5)] → va_P (dC, dI) vwCl (xW ad cI cZ lt_count lw_begin lw_end lw_depth lw_signed lw_led pr_written pr_within st_size tx_size tt_count tt_pieces tt_kinds lt_begins lt_marks st_word st_vowels tx_characters tt_begins tt_lengths tt_stemLengths tt_places tt_addresses tt_smalls tt_stems tt_slots tt_nexts) H → va_D A (xW ad cI cZ lt_count lw_begin lw_end lw_depth lw_signed lw_led pr_written pr_within st_size tx_size tt_count tt_pieces tt_kinds lt_begins lt_marks st_word st_vowels tx_characters tt_begins tt_lengths tt_stemLengths tt_places tt_addresses tt_smalls tt_stems tt_slots tt_nexts) → va_S A s.heap H locs → wjX3_behindTag_88 (fun x2 x3 x4 => wlX3_behindTag_7 post tx_size tx_characters x1 n7 x2 x3 x4) post tx_size tx_characters x1 x2 x3 x4 x5 → W p l e (headSpec wsX3_behindTag ({ frames := 1, cells := 0, slots := 0, locals := 21 })).room s m ([.ref (ad 2), .int x1] : List Value).toArray below meth c H locs 0 0 (MQ below Qc ([.ref (ad 2), .int x1] : List Value).toArray s 0 0 A) (F0 m 88 ls []) := by
        intro x2 x3 x4 x5 H locs ls hl hP hD hS h
        delta wjX3_behindTag_88 at h
        refine lv_iload hx hb dX3_behindTag_88 (lv_at hl 4 rfl) ?_
        refine lv_bipush (v := 61) hx hb dX3_behindTag_90 (by decide) ?_
        refine lv_icmp_eq (tgt := 107) hx hb dX3_behindTag_92 (by decide) (fun c9 => ?_) (fun c9 => ?_)
        · have h := h.1 c9
          exact J107 x2 x4 H locs ls (lv_sub hl [0, 1, 3] rfl) hP hD hS h
        · have h := h.2 c9
          refine lv_iload_n hx hb dX3_behindTag_95 rfl (lv_at hl 2 rfl) ?_
          refine lv_if_eq (tgt := 111) hx hb dX3_behindTag_96 (by decide) (fun c9 => ?_) (fun c9 => ?_)
          · have h := h.1 c9
            exact J111 x2 x4 H locs ls (lv_sub hl [0, 1, 3] rfl) hP hD hS h
          · have h := h.2 c9
            refine lv_iload hx hb dX3_behindTag_99 (lv_at hl 4 rfl) ?_
            refine xc_si (As := [.int x5]) (rest := []) xG Fx (sX0_isBlank l dC dI ad cI cZ sa sv lt_count lw_begin lw_end lw_depth lw_signed lw_led pr_written pr_within st_size tx_size tt_count tt_pieces tt_kinds lt_begins lt_marks st_word st_vowels tx_characters tt_begins tt_lengths tt_stemLengths tt_places tt_addresses tt_smalls tt_stems tt_slots tt_nexts x5 h) (va_cwS 1 hts gX3_behindTag_X0_isBlank rfl rfl rfl hdX0_isBlank ⟨Nat.le_of_ble_eq_true rfl, Nat.le_of_ble_eq_true rfl⟩) hK hP hD hS hA hI rfl hl.1 rfl (Nat.le_of_ble_eq_true rfl) dX3_behindTag_101 ⟨Nat.zero_le _, Nat.zero_le _⟩ (fun r_2 u H locs h hP hD hS => ?_)
            refine lv_if_eq (tgt := 111) hx hb dX3_behindTag_104 (by decide) (fun c9 => ?_) (fun c9 => ?_)
            · have h := h.1 c9
              exact J111 x2 x4 H locs ls (lv_sub hl [0, 1, 3] rfl) hP hD hS h
            · have h := h.2 c9
              exact J107 x2 x4 H locs ls (lv_sub hl [0, 1, 3] rfl) hP hD hS h
      have J80 : ∀ (x4 : Int32) (x5 : Int32) (H : Heap) (locs : List Loc) (ls : Array Slot), lv_has ls 6 [(0, .ref (ad 2)), (4, .int x4), (5, .int x5)] → va_P (dC, dI) vwCl (xW ad cI cZ lt_count lw_begin lw_end lw_depth lw_signed lw_led pr_written pr_within st_size tx_size tt_count tt_pieces tt_kinds lt_begins lt_marks st_word st_vowels tx_characters tt_begins tt_lengths tt_stemLengths tt_places tt_addresses tt_smalls tt_stems tt_slots tt_nexts) H → va_D A (xW ad cI cZ lt_count lw_begin lw_end lw_depth lw_signed lw_led pr_written pr_within st_size tx_size tt_count tt_pieces tt_kinds lt_begins lt_marks st_word st_vowels tx_characters tt_begins tt_lengths tt_stemLengths tt_places tt_addresses tt_smalls tt_stems tt_slots tt_nexts) → va_S A s.heap H locs → wjX3_behindTag_80 (fun x2 x3 x4 => wlX3_behindTag_7 post tx_size tx_characters x1 n7 x2 x3 x4) post tx_size tx_characters x1 x4 x5 → W p l e (headSpec wsX3_behindTag ({ frames := 1, cells := 0, slots := 0, locals := 21 })).room s m ([.ref (ad 2), .int x1] : List Value).toArray below meth c H locs 0 0 (MQ below Qc ([.ref (ad 2), .int x1] : List Value).toArray s 0 0 A) (F0 m 80 ls []) := by
        intro x4 x5 H locs ls hl hP hD hS h
        delta wjX3_behindTag_80 at h
        refine lv_iload hx hb dX3_behindTag_80 (lv_at hl 2 rfl) ?_
        refine lv_istore_n (lv' := [(2, .int x5), (0, .ref (ad 2)), (4, .int x4), (5, .int x5)]) hx hb dX3_behindTag_82 rfl hl (by decide) rfl (fun ls hl => ?_)
        refine lv_iconst (v := 0) hx hb dX3_behindTag_83 (by decide) ?_
        refine lv_istore_n (lv' := [(3, .int 0), (2, .int x5), (0, .ref (ad 2)), (4, .int x4), (5, .int x5)]) hx hb dX3_behindTag_84 rfl hl (by decide) rfl (fun ls hl => ?_)
        refine lv_goto (tgt := 113) hx hb dX3_behindTag_85 (by decide) ?_
        exact J113 x5 0 x4 H locs ls (lv_sub hl [2, 1, 0, 3] rfl) hP hD hS h
      have J46 : ∀ (x3 : Int32) (x4 : Int32) (s0 : Int32) (H : Heap) (locs : List Loc) (ls : Array Slot), lv_has ls 6 [(0, .ref (ad 2)), (3, .int x3), (4, .int x4)] → va_P (dC, dI) vwCl (xW ad cI cZ lt_count lw_begin lw_end lw_depth lw_signed lw_led pr_written pr_within st_size tx_size tt_count tt_pieces tt_kinds lt_begins lt_marks st_word st_vowels tx_characters tt_begins tt_lengths tt_stemLengths tt_places tt_addresses tt_smalls tt_stems tt_slots tt_nexts) H → va_D A (xW ad cI cZ lt_count lw_begin lw_end lw_depth lw_signed lw_led pr_written pr_within st_size tx_size tt_count tt_pieces tt_kinds lt_begins lt_marks st_word st_vowels tx_characters tt_begins tt_lengths tt_stemLengths tt_places tt_addresses tt_smalls tt_stems tt_slots tt_nexts) → va_S A s.heap H locs → wjX3_behindTag_46 (fun x2 x3 x4 => wlX3_behindTag_7 post tx_size tx_characters x1 n7 x2 x3 x4) post tx_size tx_characters x1 x3 x4 s0 → W p l e (headSpec wsX3_behindTag ({ frames := 1, cells := 0, slots := 0, locals := 21 })).room s m ([.ref (ad 2), .int x1] : List Value).toArray below meth c H locs 0 0 (MQ below Qc ([.ref (ad 2), .int x1] : List Value).toArray s 0 0 A) (F0 m 46 ls [.int s0]) := by
        intro x3 x4 s0 H locs ls hl hP hD hS h
        delta wjX3_behindTag_46 at h
        refine lv_istore_n (lv' := [(2, .int s0), (0, .ref (ad 2)), (3, .int x3), (4, .int x4)]) hx hb dX3_behindTag_46 rfl hl (by decide) rfl (fun ls hl => ?_)
        refine lv_goto (tgt := 113) hx hb dX3_behindTag_47 (by decide) ?_
        exact J113 s0 x3 x4 H locs ls (lv_sub hl [1, 0, 2, 3] rfl) hP hD hS h
      rw [wlX3_behindTag_7] at h
      refine lv_iload hx hb dX3_behindTag_7 (lv_at hl 3 rfl) ?_
      refine lv_aload_n hx hb dX3_behindTag_9 rfl (lv_at hl 0 rfl) ?_
      refine va_get (D := (dC, dI)) (ci := 2) (v := .ref (ad 4)) (C := RX3) (T := TX3) (N := 3) hx hb hts inX3 hown hK hP 2 rfl rfl 0 (by decide) (hts (.fieldLink RX3 9 "MailWords$PageReader" "text" "LMailWords$Text;") (List.mem_of_getElem? (i := 1) rfl)) (fun _ h9 => h9) rfl dX3_behindTag_10 ?_
      refine xc_vi (As := []) (rest := [.int x4]) xG Fx (sX5_size l dC dI ad cI cZ sa sv lt_count lw_begin lw_end lw_depth lw_signed lw_led pr_written pr_within st_size tx_size tt_count tt_pieces tt_kinds lt_begins lt_marks st_word st_vowels tx_characters tt_begins tt_lengths tt_stemLengths tt_places tt_addresses tt_smalls tt_stems tt_slots tt_nexts h) (cwV 0 hts gX3_behindTag_X5_size rfl rfl rfl hdX5_size ⟨Nat.le_of_ble_eq_true rfl, Nat.le_of_ble_eq_true rfl⟩) (va_recv hK hP (ci := 4) (q0 := 4) rfl rfl) hK hP hD hS hA hI rfl hl.1 rfl (Nat.le_of_ble_eq_true rfl) dX3_behindTag_13 ⟨Nat.zero_le _, Nat.zero_le _⟩ (fun r_3 u H locs h hP hD hS => ?_)
      refine lv_icmp_ge (tgt := 119) hx hb dX3_behindTag_16 (by decide) (fun c9 => ?_) (fun c9 => ?_)
      · have h := h.1 c9
        refine lv_aload_n hx hb dX3_behindTag_119 rfl (lv_at hl 0 rfl) ?_
        refine va_get (D := (dC, dI)) (ci := 2) (v := .ref (ad 4)) (C := RX3) (T := TX3) (N := 3) hx hb hts inX3 hown hK hP 2 rfl rfl 0 (by decide) (hts (.fieldLink RX3 9 "MailWords$PageReader" "text" "LMailWords$Text;") (List.mem_of_getElem? (i := 1) rfl)) (fun _ h9 => h9) rfl dX3_behindTag_120 ?_
        refine xc_vi (As := []) (rest := []) xG Fx (sX5_size l dC dI ad cI cZ sa sv lt_count lw_begin lw_end lw_depth lw_signed lw_led pr_written pr_within st_size tx_size tt_count tt_pieces tt_kinds lt_begins lt_marks st_word st_vowels tx_characters tt_begins tt_lengths tt_stemLengths tt_places tt_addresses tt_smalls tt_stems tt_slots tt_nexts h) (cwV 0 hts gX3_behindTag_X5_size rfl rfl rfl hdX5_size ⟨Nat.le_of_ble_eq_true rfl, Nat.le_of_ble_eq_true rfl⟩) (va_recv hK hP (ci := 4) (q0 := 4) rfl rfl) hK hP hD hS hA hI rfl hl.1 rfl (Nat.le_of_ble_eq_true rfl) dX3_behindTag_123 ⟨Nat.zero_le _, Nat.zero_le _⟩ (fun r_4 u H locs h hP hD hS => ?_)
        exact W.iret (v := r_4) hx hb hr (fun t ht hW => hQ r_4 () t h (by rw [ht]; exact hP) (va_K.moved hW.alike hK) hD (hS.F ht)) hS.2.2 dX3_behindTag_126
      · have h := h.2 c9
        refine lv_aload_n hx hb dX3_behindTag_19 rfl (lv_at hl 0 rfl) ?_
        refine va_get (D := (dC, dI)) (ci := 2) (v := .ref (ad 4)) (C := RX3) (T := TX3) (N := 3) hx hb hts inX3 hown hK hP 2 rfl rfl 0 (by decide) (hts (.fieldLink RX3 9 "MailWords$PageReader" "text" "LMailWords$Text;") (List.mem_of_getElem? (i := 1) rfl)) (fun _ h9 => h9) rfl dX3_behindTag_20 ?_
        refine lv_iload hx hb dX3_behindTag_23 (lv_at hl 3 rfl) ?_
        refine xc_vi (As := [.int x4]) (rest := []) xG Fx (sX5_get l dC dI ad cI cZ sa sv lt_count lw_begin lw_end lw_depth lw_signed lw_led pr_written pr_within st_size tx_size tt_count tt_pieces tt_kinds lt_begins lt_marks st_word st_vowels tx_characters tt_begins tt_lengths tt_stemLengths tt_places tt_addresses tt_smalls tt_stems tt_slots tt_nexts x4 h) (cwV 1 hts gX3_behindTag_X5_get rfl rfl rfl hdX5_get ⟨Nat.le_of_ble_eq_true rfl, Nat.le_of_ble_eq_true rfl⟩) (va_recv hK hP (ci := 4) (q0 := 4) rfl rfl) hK hP hD hS hA hI rfl hl.1 rfl (Nat.le_of_ble_eq_true rfl) dX3_behindTag_25 ⟨Nat.zero_le _, Nat.zero_le _⟩ (fun r_5 u H locs h hP hD hS => ?_)
        refine lv_istore (lv' := [(5, .int r_5), (0, .ref (ad 2)), (2, .int x2), (3, .int x3), (4, .int x4)]) hx hb dX3_behindTag_28 hl (by decide) rfl (fun ls hl => ?_)
        refine lv_iload_n hx hb dX3_behindTag_30 rfl (lv_at hl 2 rfl) ?_
        refine lv_iconst (v := (-1)) hx hb dX3_behindTag_31 (by decide) ?_
        refine lv_icmp_eq (tgt := 50) hx hb dX3_behindTag_32 (by decide) (fun c9 => ?_) (fun c9 => ?_)
        · have h := h.1 c9
          refine lv_iload hx hb dX3_behindTag_50 (lv_at hl 0 rfl) ?_
          refine lv_bipush (v := 62) hx hb dX3_behindTag_52 (by decide) ?_
          refine lv_icmp_ne (tgt := 62) hx hb dX3_behindTag_54 (by decide) (fun c9 => ?_) (fun c9 => ?_)
          · have h := h.1 c9
            refine lv_iload_n hx hb dX3_behindTag_62 rfl (lv_at hl 3 rfl) ?_
            refine lv_if_eq (tgt := 88) hx hb dX3_behindTag_63 (by decide) (fun c9 => ?_) (fun c9 => ?_)
            · have h := h.1 c9
              exact J88 x2 x3 x4 r_5 H locs ls (lv_sub hl [1, 2, 3, 4, 0] rfl) hP hD hS h
            · have h := h.2 c9
              refine lv_iload hx hb dX3_behindTag_66 (lv_at hl 0 rfl) ?_
              refine lv_bipush (v := 34) hx hb dX3_behindTag_68 (by decide) ?_
              refine lv_icmp_eq (tgt := 80) hx hb dX3_behindTag_70 (by decide) (fun c9 => ?_) (fun c9 => ?_)
              · have h := h.1 c9
                exact J80 x4 r_5 H locs ls (lv_sub hl [1, 4, 0] rfl) hP hD hS h
              · have h := h.2 c9
                refine lv_iload hx hb dX3_behindTag_73 (lv_at hl 0 rfl) ?_
                refine lv_bipush (v := 39) hx hb dX3_behindTag_75 (by decide) ?_
                refine lv_icmp_ne (tgt := 88) hx hb dX3_behindTag_77 (by decide) (fun c9 => ?_) (fun c9 => ?_)
                · have h := h.1 c9
                  exact J88 x2 x3 x4 r_5 H locs ls (lv_sub hl [1, 2, 3, 4, 0] rfl) hP hD hS h
                · have h := h.2 c9
                  exact J80 x4 r_5 H locs ls (lv_sub hl [1, 4, 0] rfl) hP hD hS h
          · have h := h.2 c9
            refine lv_iload hx hb dX3_behindTag_57 (lv_at hl 4 rfl) ?_
            refine lv_iconst (v := 1) hx hb dX3_behindTag_59 (by decide) ?_
            refine lv_iadd hx hb dX3_behindTag_60 ?_
            exact W.iret (v := (x4 + 1)) hx hb hr (fun t ht hW => hQ (x4 + 1) () t h (by rw [ht]; exact hP) (va_K.moved hW.alike hK) hD (hS.F ht)) hS.2.2 dX3_behindTag_61
        · have h := h.2 c9
          refine lv_iload hx hb dX3_behindTag_35 (lv_at hl 0 rfl) ?_
          refine lv_iload_n hx hb dX3_behindTag_37 rfl (lv_at hl 2 rfl) ?_
          refine lv_icmp_ne (tgt := 45) hx hb dX3_behindTag_38 (by decide) (fun c9 => ?_) (fun c9 => ?_)
          · have h := h.1 c9
            refine lv_iload_n hx hb dX3_behindTag_45 rfl (lv_at hl 2 rfl) ?_
            exact J46 x3 x4 x2 H locs ls (lv_sub hl [1, 3, 4] rfl) hP hD hS h
          · have h := h.2 c9
            refine lv_iconst (v := (-1)) hx hb dX3_behindTag_41 (by decide) ?_
            refine lv_goto (tgt := 46) hx hb dX3_behindTag_42 (by decide) ?_
            exact J46 x3 x4 (-1) H locs ls (lv_sub hl [1, 3, 4] rfl) hP hD hS h
  intro H locs hP hD hS
  delta wpX3_behindTag at h
  refine lv_iconst (v := (-1)) hx hb dX3_behindTag_0 (by decide) ?_
  refine lv_istore_n (lv' := [(2, .int (-1)), (0, .ref (ad 2)), (1, .int x1)]) hx hb dX3_behindTag_1 rfl hl (by decide) rfl (fun ls hl => ?_)
  refine lv_iconst (v := 0) hx hb dX3_behindTag_2 (by decide) ?_
  refine lv_istore_n (lv' := [(3, .int 0), (2, .int (-1)), (0, .ref (ad 2)), (1, .int x1)]) hx hb dX3_behindTag_3 rfl hl (by decide) rfl (fun ls hl => ?_)
  refine lv_iload_n hx hb dX3_behindTag_4 rfl (lv_at hl 3 rfl) ?_
  refine lv_istore (lv' := [(4, .int x1), (3, .int 0), (2, .int (-1)), (0, .ref (ad 2)), (1, .int x1)]) hx hb dX3_behindTag_5 hl (by decide) rfl (fun ls hl => ?_)
  obtain ⟨n, h⟩ := h
  exact L7  n (-1) 0 x1 H locs ls (lv_sub hl [3, 2, 1, 0] rfl) hP hD hS h
set_option maxHeartbeats 4000000 in
set_option maxRecDepth 100000 in
theorem sX3_isNamed (l : Launch) (dC : Nat → ClassId) (dI : Nat → Nat → Nat) (ad : Nat → Nat) (cI cZ : ClassId) (sa sv : Nat → Nat) (lt_count : Int32) (lw_begin : Int32) (lw_end : Int32) (lw_depth : Int32) (lw_signed : Int32) (lw_led : Int32) (pr_written : Int32) (pr_within : Int32) (st_size : Int32) (tx_size : Int32) (tt_count : Int32) (tt_pieces : Int32) (tt_kinds : Int32) (lt_begins : Nat → Int32) (lt_marks : Nat → Int32) (st_word : Nat → Int32) (st_vowels : Nat → Int32) (tx_characters : Nat → Int32) (tt_begins : Nat → Int32) (tt_lengths : Nat → Int32) (tt_stemLengths : Nat → Int32) (tt_places : Nat → Int32) (tt_addresses : Nat → Int32) (tt_smalls : Nat → Int32) (tt_stems : Nat → Int32) (tt_slots : Nat → Int32) (tt_nexts : Nat → Int32) (x1 : Int32) (x2 : Int32) (x3 : Nat) {post : Int32 → Prop} (h : wpX3_isNamed post tx_size tx_characters x1 x2 x3) : xMi l (dC, dI) vwCl [(cI, .int), (cZ, .boolean)] (sI sa sv) yX3_isNamed wsX3_isNamed ({ frames := 5, cells := 0, slots := 0, locals := 109 }) (xW ad cI cZ lt_count lw_begin lw_end lw_depth lw_signed lw_led pr_written pr_within st_size tx_size tt_count tt_pieces tt_kinds lt_begins lt_marks st_word st_vowels tx_characters tt_begins tt_lengths tt_stemLengths tt_places tt_addresses tt_smalls tt_stems tt_slots tt_nexts) [.ref (ad 2), .int x1, .int x2, .ref (sa x3)] (fun (r : Int32) (u : Unit) => post r ) (fun u : Unit => (xW ad cI cZ lt_count lw_begin lw_end lw_depth lw_signed lw_led pr_written pr_within st_size tx_size tt_count tt_pieces tt_kinds lt_begins lt_marks st_word st_vowels tx_characters tt_begins tt_lengths tt_stemLengths tt_places tt_addresses tt_smalls tt_stems tt_slots tt_nexts)) := by
  intro sz
  refine Met.ofW (cc := cX3_isNamed) (maxL := 4) (ret := (some .boolean)) (by decide) rfl ?_
  intro p e s m args below meth c s₁ B hml hv
  obtain ⟨rfl, hsz, hP, hK, hD0, hI⟩ := hv
  have hx := B.exec
  have hb := B.bytes
  have hr := B.returns
  have hts := atoms_spec (ws := wsX3_isNamed) B.pre
  have hown : s.vm.findClass RX3 = some m.cls := findClass_of_methodNamed B.named
  have hlocks := B.notSynchronized
  subst hsz
  have hD := hD0.self (sz := s.heap.size)
  generalize hAe : va_A (xW ad cI cZ lt_count lw_begin lw_end lw_depth lw_signed lw_led pr_written pr_within st_size tx_size tt_count tt_pieces tt_kinds lt_begins lt_marks st_word st_vowels tx_characters tt_begins tt_lengths tt_stemLengths tt_places tt_addresses tt_smalls tt_stems tt_slots tt_nexts) s.heap.size = A at hD hI ⊢
  have hA : ∀ q : Nat, s.heap.size ≤ q → A q := fun q h => by rw [← hAe]; exact Or.inr h
  have hS : va_S A s.heap s.heap [] := va_S.rf
  have Fx : CallFix p m c cX3_isNamed 4 s ([.ref (ad 2), .int x1, .int x2, .ref (sa x3)] : List Value).toArray wsX3_isNamed RX3 := ⟨hx, hb, hml, hown, hts⟩
  have hQ : ∀ (r : Int32) (u : Unit) (t : State), (fun (r : Int32) (u : Unit) => post r ) r u → va_P (dC, dI) vwCl ((fun u : Unit => (xW ad cI cZ lt_count lw_begin lw_end lw_depth lw_signed lw_led pr_written pr_within st_size tx_size tt_count tt_pieces tt_kinds lt_begins lt_marks st_word st_vowels tx_characters tt_begins tt_lengths tt_stemLengths tt_places tt_addresses tt_smalls tt_stems tt_slots tt_nexts)) u) t.heap → va_K (dC, dI) vwCl [(cI, .int), (cZ, .boolean)] t → va_D A ((fun u : Unit => (xW ad cI cZ lt_count lw_begin lw_end lw_depth lw_signed lw_led pr_written pr_within st_size tx_size tt_count tt_pieces tt_kinds lt_begins lt_marks st_word st_vowels tx_characters tt_begins tt_lengths tt_stemLengths tt_places tt_addresses tt_smalls tt_stems tt_slots tt_nexts)) u) → va_F A s t → (va_Qi (fun (r : Int32) (u : Unit) => post r ) (xB (dC, dI) vwCl [(cI, .int), (cZ, .boolean)] A (fun u : Unit => (xW ad cI cZ lt_count lw_begin lw_end lw_depth lw_signed lw_led pr_written pr_within st_size tx_size tt_count tt_pieces tt_kinds lt_begins lt_marks st_word st_vowels tx_characters tt_begins tt_lengths tt_stemLengths tt_places tt_addresses tt_smalls tt_stems tt_slots tt_nexts))) A) ([.ref (ad 2), .int x1, .int x2, .ref (sa x3)] : List Value).toArray s (.returned (some (.int r))) t := fun r u t h1 h2 h3 h4 h5 => ⟨⟨r, u, rfl, h1, h2, h3, h4⟩, h5⟩
  generalize (va_Qi (fun (r : Int32) (u : Unit) => post r ) (xB (dC, dI) vwCl [(cI, .int), (cZ, .boolean)] A (fun u : Unit => (xW ad cI cZ lt_count lw_begin lw_end lw_depth lw_signed lw_led pr_written pr_within st_size tx_size tt_count tt_pieces tt_kinds lt_begins lt_marks st_word st_vowels tx_characters tt_begins tt_lengths tt_stemLengths tt_places tt_addresses tt_smalls tt_stems tt_slots tt_nexts))) A) = Qc at hQ ⊢
  have hl := lv_entry ([.ref (ad 2), .int x1, .int x2, .ref (sa x3)]) (n := 4) (Nat.le_of_ble_eq_true rfl)
  rw [lg_entry_eq]
  generalize (lg_sl ([.ref (ad 2), .int x1, .int x2, .ref (sa x3)]) ++ List.replicate (4 - (lg_sl ([.ref (ad 2), .int x1, .int x2, .ref (sa x3)])).length) Slot.unset).toArray = ls at hl ⊢
  have hl : lv_has ls 4 [(0, .ref (ad 2)), (1, .int x1), (2, .int x2), (3, .ref (sa x3))] := hl
  refine (fun (key : ∀ (H : Heap) (locs : List Loc), va_P (dC, dI) vwCl (xW ad cI cZ lt_count lw_begin lw_end lw_depth lw_signed lw_led pr_written pr_within st_size tx_size tt_count tt_pieces tt_kinds lt_begins lt_marks st_word st_vowels tx_characters tt_begins tt_lengths tt_stemLengths tt_places tt_addresses tt_smalls tt_stems tt_slots tt_nexts) H → va_D A (xW ad cI cZ lt_count lw_begin lw_end lw_depth lw_signed lw_led pr_written pr_within st_size tx_size tt_count tt_pieces tt_kinds lt_begins lt_marks st_word st_vowels tx_characters tt_begins tt_lengths tt_stemLengths tt_places tt_addresses tt_smalls tt_stems tt_slots tt_nexts) → va_S A s.heap H locs → W p l e (headSpec wsX3_isNamed ({ frames := 5, cells := 0, slots := 0, locals := 109 })).room s m ([.ref (ad 2), .int x1, .int x2, .ref (sa x3)] : List Value).toArray below meth c H locs 0 0 (MQ below Qc ([.ref (ad 2), .int x1, .int x2, .ref (sa x3)] : List Value).toArray s 0 0 A) (F0 m 0 ls [])) => key _ _ hP hD hS) ?_
  have inX3 : ∀ w ∈ wsX30, w ∈ wsX3_isNamed := (fun _ h9 => List.mem_cons_of_mem _ (List.mem_append_left _ (List.mem_append_right _ h9)))
  intro H locs hP hD hS
  delta wpX3_isNamed at h
  refine lv_iload_n hx hb dX3_isNamed_0 rfl (lv_at hl 2 rfl) ?_
  refine lv_iload_n hx hb dX3_isNamed_1 rfl (lv_at hl 1 rfl) ?_
  refine lv_isub hx hb dX3_isNamed_2 ?_
  refine lv_aload_n hx hb dX3_isNamed_3 rfl (lv_at hl 3 rfl) ?_
  have hs9 := h.1
  have h := h.2
  refine xc_vi (As := []) (rest := [.int (x2 - x1)]) xG Fx (sJ0_length_8abf5 l dC dI ad cI cZ sa sv lt_count lw_begin lw_end lw_depth lw_signed lw_led pr_written pr_within st_size tx_size tt_count tt_pieces tt_kinds lt_begins lt_marks st_word st_vowels tx_characters tt_begins tt_lengths tt_stemLengths tt_places tt_addresses tt_smalls tt_stems tt_slots tt_nexts x3 h) (cwV 0 hts gX3_isNamed_J0_length_8abf5 rfl rfl rfl hdJ0_length_8abf5 ⟨Nat.le_of_ble_eq_true rfl, Nat.le_of_ble_eq_true rfl⟩) (sI_recv hI hS hs9) hK hP hD hS hA hI rfl hl.1 rfl (Nat.le_of_ble_eq_true rfl) dX3_isNamed_4 ⟨Nat.zero_le _, Nat.zero_le _⟩ (fun r_1 u H locs h hP hD hS => ?_)
  refine lv_icmp_ne (tgt := 26) hx hb dX3_isNamed_7 (by decide) (fun c9 => ?_) (fun c9 => ?_)
  · have h := h.1 c9
    refine lv_iconst (v := 0) hx hb dX3_isNamed_26 (by decide) ?_
    exact W.zret (v := 0) hx hb hr (bN_nar bN0) (fun t ht hW => hQ 0 () t h (by rw [ht]; exact hP) (va_K.moved hW.alike hK) hD (hS.F ht)) hS.2.2 dX3_isNamed_27
  · have h := h.2 c9
    refine lv_aload_n hx hb dX3_isNamed_10 rfl (lv_at hl 0 rfl) ?_
    refine va_get (D := (dC, dI)) (ci := 2) (v := .ref (ad 4)) (C := RX3) (T := TX3) (N := 3) hx hb hts inX3 hown hK hP 2 rfl rfl 0 (by decide) (hts (.fieldLink RX3 9 "MailWords$PageReader" "text" "LMailWords$Text;") (List.mem_of_getElem? (i := 1) rfl)) (fun _ h9 => h9) rfl dX3_isNamed_11 ?_
    refine lv_iload_n hx hb dX3_isNamed_14 rfl (lv_at hl 1 rfl) ?_
    refine lv_aload_n hx hb dX3_isNamed_15 rfl (lv_at hl 3 rfl) ?_
    refine xc_vi (As := [.int x1, .ref (sa x3)]) (rest := []) xG Fx (sX5_holdsInAnyCase l dC dI ad cI cZ sa sv lt_count lw_begin lw_end lw_depth lw_signed lw_led pr_written pr_within st_size tx_size tt_count tt_pieces tt_kinds lt_begins lt_marks st_word st_vowels tx_characters tt_begins tt_lengths tt_stemLengths tt_places tt_addresses tt_smalls tt_stems tt_slots tt_nexts x1 x3 h) (cwV 2 hts gX3_isNamed_X5_holdsInAnyCase rfl rfl rfl hdX5_holdsInAnyCase ⟨Nat.le_of_ble_eq_true rfl, Nat.le_of_ble_eq_true rfl⟩) (va_recv hK hP (ci := 4) (q0 := 4) rfl rfl) hK hP hD hS hA hI rfl hl.1 rfl (Nat.le_of_ble_eq_true rfl) dX3_isNamed_16 ⟨Nat.zero_le _, Nat.zero_le _⟩ (fun r_2 u H locs h hP hD hS => ?_)
    refine lv_if_eq (tgt := 26) hx hb dX3_isNamed_19 (by decide) (fun c9 => ?_) (fun c9 => ?_)
    · have h := h.1 c9
      refine lv_iconst (v := 0) hx hb dX3_isNamed_26 (by decide) ?_
      exact W.zret (v := 0) hx hb hr (bN_nar bN0) (fun t ht hW => hQ 0 () t h (by rw [ht]; exact hP) (va_K.moved hW.alike hK) hD (hS.F ht)) hS.2.2 dX3_isNamed_27
    · have h := h.2 c9
      refine lv_iconst (v := 1) hx hb dX3_isNamed_22 (by decide) ?_
      refine lv_goto (tgt := 27) hx hb dX3_isNamed_23 (by decide) ?_
      exact W.zret (v := 1) hx hb hr (bN_nar bN1) (fun t ht hW => hQ 1 () t h (by rw [ht]; exact hP) (va_K.moved hW.alike hK) hD (hS.F ht)) hS.2.2 dX3_isNamed_27
set_option maxHeartbeats 4000000 in
set_option maxRecDepth 100000 in
theorem sX3_lastIs (l : Launch) (dC : Nat → ClassId) (dI : Nat → Nat → Nat) (ad : Nat → Nat) (cI cZ : ClassId) (sa sv : Nat → Nat) (lt_count : Int32) (lw_begin : Int32) (lw_end : Int32) (lw_depth : Int32) (lw_signed : Int32) (lw_led : Int32) (pr_written : Int32) (pr_within : Int32) (st_size : Int32) (tx_size : Int32) (tt_count : Int32) (tt_pieces : Int32) (tt_kinds : Int32) (lt_begins : Nat → Int32) (lt_marks : Nat → Int32) (st_word : Nat → Int32) (st_vowels : Nat → Int32) (tx_characters : Nat → Int32) (tt_begins : Nat → Int32) (tt_lengths : Nat → Int32) (tt_stemLengths : Nat → Int32) (tt_places : Nat → Int32) (tt_addresses : Nat → Int32) (tt_smalls : Nat → Int32) (tt_stems : Nat → Int32) (tt_slots : Nat → Int32) (tt_nexts : Nat → Int32) (x1 : Int32) {post : Int32 → Prop} (h : wpX3_lastIs post pr_written tx_size tx_characters x1) : xMi l (dC, dI) vwCl [(cI, .int), (cZ, .boolean)] (sI sa sv) yX3_lastIs wsX3_lastIs ({ frames := 1, cells := 0, slots := 0, locals := 21 }) (xW ad cI cZ lt_count lw_begin lw_end lw_depth lw_signed lw_led pr_written pr_within st_size tx_size tt_count tt_pieces tt_kinds lt_begins lt_marks st_word st_vowels tx_characters tt_begins tt_lengths tt_stemLengths tt_places tt_addresses tt_smalls tt_stems tt_slots tt_nexts) [.ref (ad 2), .int x1] (fun (r : Int32) (u : Unit) => post r ) (fun u : Unit => (xW ad cI cZ lt_count lw_begin lw_end lw_depth lw_signed lw_led pr_written pr_within st_size tx_size tt_count tt_pieces tt_kinds lt_begins lt_marks st_word st_vowels tx_characters tt_begins tt_lengths tt_stemLengths tt_places tt_addresses tt_smalls tt_stems tt_slots tt_nexts)) := by
  intro sz
  refine Met.ofW (cc := cX3_lastIs) (maxL := 2) (ret := (some .boolean)) (by decide) rfl ?_
  intro p e s m args below meth c s₁ B hml hv
  obtain ⟨rfl, hsz, hP, hK, hD0, hI⟩ := hv
  have hx := B.exec
  have hb := B.bytes
  have hr := B.returns
  have hts := atoms_spec (ws := wsX3_lastIs) B.pre
  have hown : s.vm.findClass RX3 = some m.cls := findClass_of_methodNamed B.named
  have hlocks := B.notSynchronized
  subst hsz
  have hD := hD0.self (sz := s.heap.size)
  generalize hAe : va_A (xW ad cI cZ lt_count lw_begin lw_end lw_depth lw_signed lw_led pr_written pr_within st_size tx_size tt_count tt_pieces tt_kinds lt_begins lt_marks st_word st_vowels tx_characters tt_begins tt_lengths tt_stemLengths tt_places tt_addresses tt_smalls tt_stems tt_slots tt_nexts) s.heap.size = A at hD hI ⊢
  have hA : ∀ q : Nat, s.heap.size ≤ q → A q := fun q h => by rw [← hAe]; exact Or.inr h
  have hS : va_S A s.heap s.heap [] := va_S.rf
  have Fx : CallFix p m c cX3_lastIs 2 s ([.ref (ad 2), .int x1] : List Value).toArray wsX3_lastIs RX3 := ⟨hx, hb, hml, hown, hts⟩
  have hQ : ∀ (r : Int32) (u : Unit) (t : State), (fun (r : Int32) (u : Unit) => post r ) r u → va_P (dC, dI) vwCl ((fun u : Unit => (xW ad cI cZ lt_count lw_begin lw_end lw_depth lw_signed lw_led pr_written pr_within st_size tx_size tt_count tt_pieces tt_kinds lt_begins lt_marks st_word st_vowels tx_characters tt_begins tt_lengths tt_stemLengths tt_places tt_addresses tt_smalls tt_stems tt_slots tt_nexts)) u) t.heap → va_K (dC, dI) vwCl [(cI, .int), (cZ, .boolean)] t → va_D A ((fun u : Unit => (xW ad cI cZ lt_count lw_begin lw_end lw_depth lw_signed lw_led pr_written pr_within st_size tx_size tt_count tt_pieces tt_kinds lt_begins lt_marks st_word st_vowels tx_characters tt_begins tt_lengths tt_stemLengths tt_places tt_addresses tt_smalls tt_stems tt_slots tt_nexts)) u) → va_F A s t → (va_Qi (fun (r : Int32) (u : Unit) => post r ) (xB (dC, dI) vwCl [(cI, .int), (cZ, .boolean)] A (fun u : Unit => (xW ad cI cZ lt_count lw_begin lw_end lw_depth lw_signed lw_led pr_written pr_within st_size tx_size tt_count tt_pieces tt_kinds lt_begins lt_marks st_word st_vowels tx_characters tt_begins tt_lengths tt_stemLengths tt_places tt_addresses tt_smalls tt_stems tt_slots tt_nexts))) A) ([.ref (ad 2), .int x1] : List Value).toArray s (.returned (some (.int r))) t := fun r u t h1 h2 h3 h4 h5 => ⟨⟨r, u, rfl, h1, h2, h3, h4⟩, h5⟩
  generalize (va_Qi (fun (r : Int32) (u : Unit) => post r ) (xB (dC, dI) vwCl [(cI, .int), (cZ, .boolean)] A (fun u : Unit => (xW ad cI cZ lt_count lw_begin lw_end lw_depth lw_signed lw_led pr_written pr_within st_size tx_size tt_count tt_pieces tt_kinds lt_begins lt_marks st_word st_vowels tx_characters tt_begins tt_lengths tt_stemLengths tt_places tt_addresses tt_smalls tt_stems tt_slots tt_nexts))) A) = Qc at hQ ⊢
  have hl := lv_entry ([.ref (ad 2), .int x1]) (n := 2) (Nat.le_of_ble_eq_true rfl)
  rw [lg_entry_eq]
  generalize (lg_sl ([.ref (ad 2), .int x1]) ++ List.replicate (2 - (lg_sl ([.ref (ad 2), .int x1])).length) Slot.unset).toArray = ls at hl ⊢
  have hl : lv_has ls 2 [(0, .ref (ad 2)), (1, .int x1)] := hl
  refine (fun (key : ∀ (H : Heap) (locs : List Loc), va_P (dC, dI) vwCl (xW ad cI cZ lt_count lw_begin lw_end lw_depth lw_signed lw_led pr_written pr_within st_size tx_size tt_count tt_pieces tt_kinds lt_begins lt_marks st_word st_vowels tx_characters tt_begins tt_lengths tt_stemLengths tt_places tt_addresses tt_smalls tt_stems tt_slots tt_nexts) H → va_D A (xW ad cI cZ lt_count lw_begin lw_end lw_depth lw_signed lw_led pr_written pr_within st_size tx_size tt_count tt_pieces tt_kinds lt_begins lt_marks st_word st_vowels tx_characters tt_begins tt_lengths tt_stemLengths tt_places tt_addresses tt_smalls tt_stems tt_slots tt_nexts) → va_S A s.heap H locs → W p l e (headSpec wsX3_lastIs ({ frames := 1, cells := 0, slots := 0, locals := 21 })).room s m ([.ref (ad 2), .int x1] : List Value).toArray below meth c H locs 0 0 (MQ below Qc ([.ref (ad 2), .int x1] : List Value).toArray s 0 0 A) (F0 m 0 ls [])) => key _ _ hP hD hS) ?_
  have inX3 : ∀ w ∈ wsX30, w ∈ wsX3_lastIs := (fun _ h9 => List.mem_cons_of_mem _ (List.mem_append_left _ (List.mem_append_right _ h9)))
  intro H locs hP hD hS
  delta wpX3_lastIs at h
  refine lv_aload_n hx hb dX3_lastIs_0 rfl (lv_at hl 0 rfl) ?_
  refine va_get (D := (dC, dI)) (ci := 2) (v := .ref (ad 4)) (C := RX3) (T := TX3) (N := 3) hx hb hts inX3 hown hK hP 2 rfl rfl 0 (by decide) (hts (.fieldLink RX3 9 "MailWords$PageReader" "text" "LMailWords$Text;") (List.mem_of_getElem? (i := 1) rfl)) (fun _ h9 => h9) rfl dX3_lastIs_1 ?_
  refine lv_aload_n hx hb dX3_lastIs_4 rfl (lv_at hl 0 rfl) ?_
  refine va_get (D := (dC, dI)) (ci := 2) (v := .int pr_written) (C := RX3) (T := TX3) (N := 3) hx hb hts inX3 hown hK hP 2 rfl rfl 1 (by decide) (hts (.fieldLink RX3 15 "MailWords$PageReader" "written" "I") (List.mem_of_getElem? (i := 2) rfl)) (fun _ h9 => h9) rfl dX3_lastIs_5 ?_
  refine lv_iconst (v := 1) hx hb dX3_lastIs_8 (by decide) ?_
  refine lv_isub hx hb dX3_lastIs_9 ?_
  refine xc_vi (As := [.int (pr_written - 1)]) (rest := []) xG Fx (sX5_get l dC dI ad cI cZ sa sv lt_count lw_begin lw_end lw_depth lw_signed lw_led pr_written pr_within st_size tx_size tt_count tt_pieces tt_kinds lt_begins lt_marks st_word st_vowels tx_characters tt_begins tt_lengths tt_stemLengths tt_places tt_addresses tt_smalls tt_stems tt_slots tt_nexts (pr_written - 1) h) (cwV 1 hts gX3_lastIs_X5_get rfl rfl rfl hdX5_get ⟨Nat.le_of_ble_eq_true rfl, Nat.le_of_ble_eq_true rfl⟩) (va_recv hK hP (ci := 4) (q0 := 4) rfl rfl) hK hP hD hS hA hI rfl hl.1 rfl (Nat.le_of_ble_eq_true rfl) dX3_lastIs_10 ⟨Nat.zero_le _, Nat.zero_le _⟩ (fun r_1 u H locs h hP hD hS => ?_)
  refine lv_iload_n hx hb dX3_lastIs_13 rfl (lv_at hl 1 rfl) ?_
  refine lv_icmp_ne (tgt := 21) hx hb dX3_lastIs_14 (by decide) (fun c9 => ?_) (fun c9 => ?_)
  · have h := h.1 c9
    refine lv_iconst (v := 0) hx hb dX3_lastIs_21 (by decide) ?_
    exact W.zret (v := 0) hx hb hr (bN_nar bN0) (fun t ht hW => hQ 0 () t h (by rw [ht]; exact hP) (va_K.moved hW.alike hK) hD (hS.F ht)) hS.2.2 dX3_lastIs_22
  · have h := h.2 c9
    refine lv_iconst (v := 1) hx hb dX3_lastIs_17 (by decide) ?_
    refine lv_goto (tgt := 22) hx hb dX3_lastIs_18 (by decide) ?_
    exact W.zret (v := 1) hx hb hr (bN_nar bN1) (fun t ht hW => hQ 1 () t h (by rw [ht]; exact hP) (va_K.moved hW.alike hK) hD (hS.F ht)) hS.2.2 dX3_lastIs_22
set_option maxHeartbeats 4000000 in
set_option maxRecDepth 100000 in
theorem sX3_dropSpaces (l : Launch) (dC : Nat → ClassId) (dI : Nat → Nat → Nat) (ad : Nat → Nat) (cI cZ : ClassId) (sa sv : Nat → Nat) (lt_count : Int32) (lw_begin : Int32) (lw_end : Int32) (lw_depth : Int32) (lw_signed : Int32) (lw_led : Int32) (pr_written : Int32) (pr_within : Int32) (st_size : Int32) (tx_size : Int32) (tt_count : Int32) (tt_pieces : Int32) (tt_kinds : Int32) (lt_begins : Nat → Int32) (lt_marks : Nat → Int32) (st_word : Nat → Int32) (st_vowels : Nat → Int32) (tx_characters : Nat → Int32) (tt_begins : Nat → Int32) (tt_lengths : Nat → Int32) (tt_stemLengths : Nat → Int32) (tt_places : Nat → Int32) (tt_addresses : Nat → Int32) (tt_smalls : Nat → Int32) (tt_stems : Nat → Int32) (tt_slots : Nat → Int32) (tt_nexts : Nat → Int32)  {post : Int32 → Prop} (h : wpX3_dropSpaces post pr_written pr_within tx_size tx_characters) : xMv l (dC, dI) vwCl [(cI, .int), (cZ, .boolean)] (sI sa sv) yX3_dropSpaces wsX3_dropSpaces ({ frames := 2, cells := 0, slots := 0, locals := 42 }) (xW ad cI cZ lt_count lw_begin lw_end lw_depth lw_signed lw_led pr_written pr_within st_size tx_size tt_count tt_pieces tt_kinds lt_begins lt_marks st_word st_vowels tx_characters tt_begins tt_lengths tt_stemLengths tt_places tt_addresses tt_smalls tt_stems tt_slots tt_nexts) [.ref (ad 2)] (fun u : Int32 => post u) (fun u : Int32 => (xW ad cI cZ lt_count lw_begin lw_end lw_depth lw_signed lw_led u pr_within st_size tx_size tt_count tt_pieces tt_kinds lt_begins lt_marks st_word st_vowels tx_characters tt_begins tt_lengths tt_stemLengths tt_places tt_addresses tt_smalls tt_stems tt_slots tt_nexts)) := by
  intro sz
  refine Met.ofW (cc := cX3_dropSpaces) (maxL := 1) (ret := none) (by decide) rfl ?_
  intro p e s m args below meth c s₁ B hml hv
  obtain ⟨rfl, hsz, hP, hK, hD0, hI⟩ := hv
  have hx := B.exec
  have hb := B.bytes
  have hr := B.returns
  have hts := atoms_spec (ws := wsX3_dropSpaces) B.pre
  have hown : s.vm.findClass RX3 = some m.cls := findClass_of_methodNamed B.named
  have hlocks := B.notSynchronized
  subst hsz
  have hD := hD0.self (sz := s.heap.size)
  generalize hAe : va_A (xW ad cI cZ lt_count lw_begin lw_end lw_depth lw_signed lw_led pr_written pr_within st_size tx_size tt_count tt_pieces tt_kinds lt_begins lt_marks st_word st_vowels tx_characters tt_begins tt_lengths tt_stemLengths tt_places tt_addresses tt_smalls tt_stems tt_slots tt_nexts) s.heap.size = A at hD hI ⊢
  have hA : ∀ q : Nat, s.heap.size ≤ q → A q := fun q h => by rw [← hAe]; exact Or.inr h
  have hS : va_S A s.heap s.heap [] := va_S.rf
  have Fx : CallFix p m c cX3_dropSpaces 1 s ([.ref (ad 2)] : List Value).toArray wsX3_dropSpaces RX3 := ⟨hx, hb, hml, hown, hts⟩
  have hQ : ∀ (u : Int32) (t : State), (fun u : Int32 => post u) u → va_P (dC, dI) vwCl ((fun u : Int32 => (xW ad cI cZ lt_count lw_begin lw_end lw_depth lw_signed lw_led u pr_within st_size tx_size tt_count tt_pieces tt_kinds lt_begins lt_marks st_word st_vowels tx_characters tt_begins tt_lengths tt_stemLengths tt_places tt_addresses tt_smalls tt_stems tt_slots tt_nexts)) u) t.heap → va_K (dC, dI) vwCl [(cI, .int), (cZ, .boolean)] t → va_D A ((fun u : Int32 => (xW ad cI cZ lt_count lw_begin lw_end lw_depth lw_signed lw_led u pr_within st_size tx_size tt_count tt_pieces tt_kinds lt_begins lt_marks st_word st_vowels tx_characters tt_begins tt_lengths tt_stemLengths tt_places tt_addresses tt_smalls tt_stems tt_slots tt_nexts)) u) → va_F A s t → (va_Qv (fun u : Int32 => post u) (xB (dC, dI) vwCl [(cI, .int), (cZ, .boolean)] A (fun u : Int32 => (xW ad cI cZ lt_count lw_begin lw_end lw_depth lw_signed lw_led u pr_within st_size tx_size tt_count tt_pieces tt_kinds lt_begins lt_marks st_word st_vowels tx_characters tt_begins tt_lengths tt_stemLengths tt_places tt_addresses tt_smalls tt_stems tt_slots tt_nexts))) A) ([.ref (ad 2)] : List Value).toArray s (.returned none) t := fun u t h1 h2 h3 h4 h5 => ⟨⟨u, rfl, h1, h2, h3, h4⟩, h5⟩
  generalize (va_Qv (fun u : Int32 => post u) (xB (dC, dI) vwCl [(cI, .int), (cZ, .boolean)] A (fun u : Int32 => (xW ad cI cZ lt_count lw_begin lw_end lw_depth lw_signed lw_led u pr_within st_size tx_size tt_count tt_pieces tt_kinds lt_begins lt_marks st_word st_vowels tx_characters tt_begins tt_lengths tt_stemLengths tt_places tt_addresses tt_smalls tt_stems tt_slots tt_nexts))) A) = Qc at hQ ⊢
  have hl := lv_entry ([.ref (ad 2)]) (n := 1) (Nat.le_of_ble_eq_true rfl)
  rw [lg_entry_eq]
  generalize (lg_sl ([.ref (ad 2)]) ++ List.replicate (1 - (lg_sl ([.ref (ad 2)])).length) Slot.unset).toArray = ls at hl ⊢
  have hl : lv_has ls 1 [(0, .ref (ad 2))] := hl
  refine (fun (key : ∀ (H : Heap) (locs : List Loc), va_P (dC, dI) vwCl (xW ad cI cZ lt_count lw_begin lw_end lw_depth lw_signed lw_led pr_written pr_within st_size tx_size tt_count tt_pieces tt_kinds lt_begins lt_marks st_word st_vowels tx_characters tt_begins tt_lengths tt_stemLengths tt_places tt_addresses tt_smalls tt_stems tt_slots tt_nexts) H → va_D A (xW ad cI cZ lt_count lw_begin lw_end lw_depth lw_signed lw_led pr_written pr_within st_size tx_size tt_count tt_pieces tt_kinds lt_begins lt_marks st_word st_vowels tx_characters tt_begins tt_lengths tt_stemLengths tt_places tt_addresses tt_smalls tt_stems tt_slots tt_nexts) → va_S A s.heap H locs → W p l e (headSpec wsX3_dropSpaces ({ frames := 2, cells := 0, slots := 0, locals := 42 })).room s m ([.ref (ad 2)] : List Value).toArray below meth c H locs 0 0 (MQ below Qc ([.ref (ad 2)] : List Value).toArray s 0 0 A) (F0 m 0 ls [])) => key _ _ hP hD hS) ?_
  have inX3 : ∀ w ∈ wsX30, w ∈ wsX3_dropSpaces := (fun _ h9 => List.mem_cons_of_mem _ (List.mem_append_left _ (List.mem_append_right _ h9)))
  have L0 : ∀ (n : Nat) (pr_written : Int32) (H : Heap) (locs : List Loc) (ls : Array Slot), lv_has ls 1 [(0, .ref (ad 2))] → va_P (dC, dI) vwCl (xW ad cI cZ lt_count lw_begin lw_end lw_depth lw_signed lw_led pr_written pr_within st_size tx_size tt_count tt_pieces tt_kinds lt_begins lt_marks st_word st_vowels tx_characters tt_begins tt_lengths tt_stemLengths tt_places tt_addresses tt_smalls tt_stems tt_slots tt_nexts) H → va_D A (xW ad cI cZ lt_count lw_begin lw_end lw_depth lw_signed lw_led pr_written pr_within st_size tx_size tt_count tt_pieces tt_kinds lt_begins lt_marks st_word st_vowels tx_characters tt_begins tt_lengths tt_stemLengths tt_places tt_addresses tt_smalls tt_stems tt_slots tt_nexts) → va_S A s.heap H locs → wlX3_dropSpaces_0 post pr_within tx_size tx_characters n pr_written → W p l e (headSpec wsX3_dropSpaces ({ frames := 2, cells := 0, slots := 0, locals := 42 })).room s m ([.ref (ad 2)] : List Value).toArray below meth c H locs 0 0 (MQ below Qc ([.ref (ad 2)] : List Value).toArray s 0 0 A) (F0 m 0 ls []) := by
    intro n
    induction n with
    | zero => intro pr_written H locs ls _ _ _ _ h; exact absurd h (fun z => z)
    | succ n0 ih0 =>
      intro pr_written H locs ls hl hP hD hS h
      rw [wlX3_dropSpaces_0] at h
      refine lv_aload_n hx hb dX3_dropSpaces_0 rfl (lv_at hl 0 rfl) ?_
      refine va_get (D := (dC, dI)) (ci := 2) (v := .int pr_within) (C := RX3) (T := TX3) (N := 3) hx hb hts inX3 hown hK hP 2 rfl rfl 2 (by decide) (hts (.fieldLink RX3 19 "MailWords$PageReader" "within" "Z") (List.mem_of_getElem? (i := 1) rfl)) (fun _ h9 => h9) rfl dX3_dropSpaces_1 ?_
      refine lv_if_ne (tgt := 36) hx hb dX3_dropSpaces_4 (by decide) (fun c9 => ?_) (fun c9 => ?_)
      · have h := h.1 c9
        exact W.vret hx hb hr (fun t ht hW => hQ pr_written t h (by rw [ht]; exact hP) (va_K.moved hW.alike hK) hD (hS.F ht)) hS.2.2 dX3_dropSpaces_36
      · have h := h.2 c9
        refine lv_aload_n hx hb dX3_dropSpaces_7 rfl (lv_at hl 0 rfl) ?_
        refine va_get (D := (dC, dI)) (ci := 2) (v := .int pr_written) (C := RX3) (T := TX3) (N := 3) hx hb hts inX3 hown hK hP 2 rfl rfl 1 (by decide) (hts (.fieldLink RX3 15 "MailWords$PageReader" "written" "I") (List.mem_of_getElem? (i := 2) rfl)) (fun _ h9 => h9) rfl dX3_dropSpaces_8 ?_
        refine lv_if_le (tgt := 36) hx hb dX3_dropSpaces_11 (by decide) (fun c9 => ?_) (fun c9 => ?_)
        · have h := h.1 c9
          exact W.vret hx hb hr (fun t ht hW => hQ pr_written t h (by rw [ht]; exact hP) (va_K.moved hW.alike hK) hD (hS.F ht)) hS.2.2 dX3_dropSpaces_36
        · have h := h.2 c9
          refine lv_aload_n hx hb dX3_dropSpaces_14 rfl (lv_at hl 0 rfl) ?_
          refine lv_bipush (v := 32) hx hb dX3_dropSpaces_15 (by decide) ?_
          refine xc_vi (As := [.int 32]) (rest := []) xG Fx (sX3_lastIs l dC dI ad cI cZ sa sv lt_count lw_begin lw_end lw_depth lw_signed lw_led pr_written pr_within st_size tx_size tt_count tt_pieces tt_kinds lt_begins lt_marks st_word st_vowels tx_characters tt_begins tt_lengths tt_stemLengths tt_places tt_addresses tt_smalls tt_stems tt_slots tt_nexts 32 h) (cwV 1 hts gX3_dropSpaces_X3_lastIs rfl rfl rfl hdX3_lastIs ⟨Nat.le_of_ble_eq_true rfl, Nat.le_of_ble_eq_true rfl⟩) (va_recv hK hP (ci := 2) (q0 := 2) rfl rfl) hK hP hD hS hA hI rfl hl.1 rfl (Nat.le_of_ble_eq_true rfl) dX3_dropSpaces_17 ⟨Nat.zero_le _, Nat.zero_le _⟩ (fun r_1 u H locs h hP hD hS => ?_)
          refine lv_if_eq (tgt := 36) hx hb dX3_dropSpaces_20 (by decide) (fun c9 => ?_) (fun c9 => ?_)
          · have h := h.1 c9
            exact W.vret hx hb hr (fun t ht hW => hQ pr_written t h (by rw [ht]; exact hP) (va_K.moved hW.alike hK) hD (hS.F ht)) hS.2.2 dX3_dropSpaces_36
          · have h := h.2 c9
            refine lv_aload_n hx hb dX3_dropSpaces_23 rfl (lv_at hl 0 rfl) ?_
            refine lv_dup hx hb dX3_dropSpaces_24 rfl ?_
            refine va_get (D := (dC, dI)) (ci := 2) (v := .int pr_written) (C := RX3) (T := TX3) (N := 3) hx hb hts inX3 hown hK hP 2 rfl rfl 1 (by decide) (hts (.fieldLink RX3 15 "MailWords$PageReader" "written" "I") (List.mem_of_getElem? (i := 2) rfl)) (fun _ h9 => h9) rfl dX3_dropSpaces_25 ?_
            refine lv_iconst (v := 1) hx hb dX3_dropSpaces_28 (by decide) ?_
            refine lv_isub hx hb dX3_dropSpaces_29 ?_
            refine lv_topi (fun pr_written_2 epr_written_2 => ?_)
            have h := h pr_written_2 epr_written_2
            refine va_put (D := (dC, dI)) (ci := 2) (v := .int pr_written_2) (ty := .int) (C := RX3) (T := TX3) (N := 3) hx hb hts inX3 tyX3 tyX3_ok nmX3 hown hK hP hD hS 2 rfl rfl 1 (by decide) (hts (.fieldLink RX3 15 "MailWords$PageReader" "written" "I") (List.mem_of_getElem? (i := 2) rfl)) (fun _ h9 => h9) rfl (tyX3_ok 1 (by decide)) rfl rfl (Nat.le_of_ble_eq_true rfl) dX3_dropSpaces_30 (fun H locs hP hD hS => ?_)
            have hP : va_P (dC, dI) vwCl (xW ad cI cZ lt_count lw_begin lw_end lw_depth lw_signed lw_led pr_written_2 pr_within st_size tx_size tt_count tt_pieces tt_kinds lt_begins lt_marks st_word st_vowels tx_characters tt_begins tt_lengths tt_stemLengths tt_places tt_addresses tt_smalls tt_stems tt_slots tt_nexts) H := hP
            have hD : va_D A (xW ad cI cZ lt_count lw_begin lw_end lw_depth lw_signed lw_led pr_written_2 pr_within st_size tx_size tt_count tt_pieces tt_kinds lt_begins lt_marks st_word st_vowels tx_characters tt_begins tt_lengths tt_stemLengths tt_places tt_addresses tt_smalls tt_stems tt_slots tt_nexts) := hD
            refine lv_goto (tgt := 0) hx hb dX3_dropSpaces_33 (by decide) ?_
            exact ih0 pr_written_2 H locs ls (lv_sub hl [0] rfl) hP hD hS h
  intro H locs hP hD hS
  obtain ⟨n, h⟩ := h
  exact L0  n pr_written H locs ls (lv_sub hl [0] rfl) hP hD hS h
set_option maxHeartbeats 4000000 in
set_option maxRecDepth 100000 in
theorem sX3_write (l : Launch) (dC : Nat → ClassId) (dI : Nat → Nat → Nat) (ad : Nat → Nat) (cI cZ : ClassId) (sa sv : Nat → Nat) (lt_count : Int32) (lw_begin : Int32) (lw_end : Int32) (lw_depth : Int32) (lw_signed : Int32) (lw_led : Int32) (pr_written : Int32) (pr_within : Int32) (st_size : Int32) (tx_size : Int32) (tt_count : Int32) (tt_pieces : Int32) (tt_kinds : Int32) (lt_begins : Nat → Int32) (lt_marks : Nat → Int32) (st_word : Nat → Int32) (st_vowels : Nat → Int32) (tx_characters : Nat → Int32) (tt_begins : Nat → Int32) (tt_lengths : Nat → Int32) (tt_stemLengths : Nat → Int32) (tt_places : Nat → Int32) (tt_addresses : Nat → Int32) (tt_smalls : Nat → Int32) (tt_stems : Nat → Int32) (tt_slots : Nat → Int32) (tt_nexts : Nat → Int32) (x1 : Int32) {post : Int32 → (Nat → Int32) → Prop} (h : wpX3_write post pr_written tx_size tx_characters x1) : xMv l (dC, dI) vwCl [(cI, .int), (cZ, .boolean)] (sI sa sv) yX3_write wsX3_write ({ frames := 1, cells := 0, slots := 0, locals := 22 }) (xW ad cI cZ lt_count lw_begin lw_end lw_depth lw_signed lw_led pr_written pr_within st_size tx_size tt_count tt_pieces tt_kinds lt_begins lt_marks st_word st_vowels tx_characters tt_begins tt_lengths tt_stemLengths tt_places tt_addresses tt_smalls tt_stems tt_slots tt_nexts) [.ref (ad 2), .int x1] (fun u : Int32 × (Nat → Int32) => post u.1 u.2) (fun u : Int32 × (Nat → Int32) => (xW ad cI cZ lt_count lw_begin lw_end lw_depth lw_signed lw_led u.1 pr_within st_size tx_size tt_count tt_pieces tt_kinds lt_begins lt_marks st_word st_vowels u.2 tt_begins tt_lengths tt_stemLengths tt_places tt_addresses tt_smalls tt_stems tt_slots tt_nexts)) := by
  intro sz
  refine Met.ofW (cc := cX3_write) (maxL := 2) (ret := none) (by decide) rfl ?_
  intro p e s m args below meth c s₁ B hml hv
  obtain ⟨rfl, hsz, hP, hK, hD0, hI⟩ := hv
  have hx := B.exec
  have hb := B.bytes
  have hr := B.returns
  have hts := atoms_spec (ws := wsX3_write) B.pre
  have hown : s.vm.findClass RX3 = some m.cls := findClass_of_methodNamed B.named
  have hlocks := B.notSynchronized
  subst hsz
  have hD := hD0.self (sz := s.heap.size)
  generalize hAe : va_A (xW ad cI cZ lt_count lw_begin lw_end lw_depth lw_signed lw_led pr_written pr_within st_size tx_size tt_count tt_pieces tt_kinds lt_begins lt_marks st_word st_vowels tx_characters tt_begins tt_lengths tt_stemLengths tt_places tt_addresses tt_smalls tt_stems tt_slots tt_nexts) s.heap.size = A at hD hI ⊢
  have hA : ∀ q : Nat, s.heap.size ≤ q → A q := fun q h => by rw [← hAe]; exact Or.inr h
  have hS : va_S A s.heap s.heap [] := va_S.rf
  have Fx : CallFix p m c cX3_write 2 s ([.ref (ad 2), .int x1] : List Value).toArray wsX3_write RX3 := ⟨hx, hb, hml, hown, hts⟩
  have hQ : ∀ (u : Int32 × (Nat → Int32)) (t : State), (fun u : Int32 × (Nat → Int32) => post u.1 u.2) u → va_P (dC, dI) vwCl ((fun u : Int32 × (Nat → Int32) => (xW ad cI cZ lt_count lw_begin lw_end lw_depth lw_signed lw_led u.1 pr_within st_size tx_size tt_count tt_pieces tt_kinds lt_begins lt_marks st_word st_vowels u.2 tt_begins tt_lengths tt_stemLengths tt_places tt_addresses tt_smalls tt_stems tt_slots tt_nexts)) u) t.heap → va_K (dC, dI) vwCl [(cI, .int), (cZ, .boolean)] t → va_D A ((fun u : Int32 × (Nat → Int32) => (xW ad cI cZ lt_count lw_begin lw_end lw_depth lw_signed lw_led u.1 pr_within st_size tx_size tt_count tt_pieces tt_kinds lt_begins lt_marks st_word st_vowels u.2 tt_begins tt_lengths tt_stemLengths tt_places tt_addresses tt_smalls tt_stems tt_slots tt_nexts)) u) → va_F A s t → (va_Qv (fun u : Int32 × (Nat → Int32) => post u.1 u.2) (xB (dC, dI) vwCl [(cI, .int), (cZ, .boolean)] A (fun u : Int32 × (Nat → Int32) => (xW ad cI cZ lt_count lw_begin lw_end lw_depth lw_signed lw_led u.1 pr_within st_size tx_size tt_count tt_pieces tt_kinds lt_begins lt_marks st_word st_vowels u.2 tt_begins tt_lengths tt_stemLengths tt_places tt_addresses tt_smalls tt_stems tt_slots tt_nexts))) A) ([.ref (ad 2), .int x1] : List Value).toArray s (.returned none) t := fun u t h1 h2 h3 h4 h5 => ⟨⟨u, rfl, h1, h2, h3, h4⟩, h5⟩
  generalize (va_Qv (fun u : Int32 × (Nat → Int32) => post u.1 u.2) (xB (dC, dI) vwCl [(cI, .int), (cZ, .boolean)] A (fun u : Int32 × (Nat → Int32) => (xW ad cI cZ lt_count lw_begin lw_end lw_depth lw_signed lw_led u.1 pr_within st_size tx_size tt_count tt_pieces tt_kinds lt_begins lt_marks st_word st_vowels u.2 tt_begins tt_lengths tt_stemLengths tt_places tt_addresses tt_smalls tt_stems tt_slots tt_nexts))) A) = Qc at hQ ⊢
  have hl := lv_entry ([.ref (ad 2), .int x1]) (n := 2) (Nat.le_of_ble_eq_true rfl)
  rw [lg_entry_eq]
  generalize (lg_sl ([.ref (ad 2), .int x1]) ++ List.replicate (2 - (lg_sl ([.ref (ad 2), .int x1])).length) Slot.unset).toArray = ls at hl ⊢
  have hl : lv_has ls 2 [(0, .ref (ad 2)), (1, .int x1)] := hl
  refine (fun (key : ∀ (H : Heap) (locs : List Loc), va_P (dC, dI) vwCl (xW ad cI cZ lt_count lw_begin lw_end lw_depth lw_signed lw_led pr_written pr_within st_size tx_size tt_count tt_pieces tt_kinds lt_begins lt_marks st_word st_vowels tx_characters tt_begins tt_lengths tt_stemLengths tt_places tt_addresses tt_smalls tt_stems tt_slots tt_nexts) H → va_D A (xW ad cI cZ lt_count lw_begin lw_end lw_depth lw_signed lw_led pr_written pr_within st_size tx_size tt_count tt_pieces tt_kinds lt_begins lt_marks st_word st_vowels tx_characters tt_begins tt_lengths tt_stemLengths tt_places tt_addresses tt_smalls tt_stems tt_slots tt_nexts) → va_S A s.heap H locs → W p l e (headSpec wsX3_write ({ frames := 1, cells := 0, slots := 0, locals := 22 })).room s m ([.ref (ad 2), .int x1] : List Value).toArray below meth c H locs 0 0 (MQ below Qc ([.ref (ad 2), .int x1] : List Value).toArray s 0 0 A) (F0 m 0 ls [])) => key _ _ hP hD hS) ?_
  have inX3 : ∀ w ∈ wsX30, w ∈ wsX3_write := (fun _ h9 => List.mem_cons_of_mem _ (List.mem_append_left _ (List.mem_append_right _ h9)))
  intro H locs hP hD hS
  delta wpX3_write at h
  refine lv_aload_n hx hb dX3_write_0 rfl (lv_at hl 0 rfl) ?_
  refine va_get (D := (dC, dI)) (ci := 2) (v := .ref (ad 4)) (C := RX3) (T := TX3) (N := 3) hx hb hts inX3 hown hK hP 2 rfl rfl 0 (by decide) (hts (.fieldLink RX3 9 "MailWords$PageReader" "text" "LMailWords$Text;") (List.mem_of_getElem? (i := 1) rfl)) (fun _ h9 => h9) rfl dX3_write_1 ?_
  refine lv_aload_n hx hb dX3_write_4 rfl (lv_at hl 0 rfl) ?_
  refine va_get (D := (dC, dI)) (ci := 2) (v := .int pr_written) (C := RX3) (T := TX3) (N := 3) hx hb hts inX3 hown hK hP 2 rfl rfl 1 (by decide) (hts (.fieldLink RX3 15 "MailWords$PageReader" "written" "I") (List.mem_of_getElem? (i := 2) rfl)) (fun _ h9 => h9) rfl dX3_write_5 ?_
  refine lv_iload_n hx hb dX3_write_8 rfl (lv_at hl 1 rfl) ?_
  refine xc_vv (As := [.int pr_written, .int x1]) (rest := []) xG Fx (sX5_set l dC dI ad cI cZ sa sv lt_count lw_begin lw_end lw_depth lw_signed lw_led pr_written pr_within st_size tx_size tt_count tt_pieces tt_kinds lt_begins lt_marks st_word st_vowels tx_characters tt_begins tt_lengths tt_stemLengths tt_places tt_addresses tt_smalls tt_stems tt_slots tt_nexts pr_written x1 h) (cwV 2 hts gX3_write_X5_set rfl rfl rfl hdX5_set ⟨Nat.le_of_ble_eq_true rfl, Nat.le_of_ble_eq_true rfl⟩) (va_recv hK hP (ci := 4) (q0 := 4) rfl rfl) hK hP hD hS hA hI rfl hl.1 rfl (Nat.le_of_ble_eq_true rfl) dX3_write_9 ⟨Nat.zero_le _, Nat.zero_le _⟩ (fun tx_characters_2 H locs h hP hD hS => ?_)
  have hP : va_P (dC, dI) vwCl (xW ad cI cZ lt_count lw_begin lw_end lw_depth lw_signed lw_led pr_written pr_within st_size tx_size tt_count tt_pieces tt_kinds lt_begins lt_marks st_word st_vowels tx_characters_2 tt_begins tt_lengths tt_stemLengths tt_places tt_addresses tt_smalls tt_stems tt_slots tt_nexts) H := hP
  have hD : va_D A (xW ad cI cZ lt_count lw_begin lw_end lw_depth lw_signed lw_led pr_written pr_within st_size tx_size tt_count tt_pieces tt_kinds lt_begins lt_marks st_word st_vowels tx_characters_2 tt_begins tt_lengths tt_stemLengths tt_places tt_addresses tt_smalls tt_stems tt_slots tt_nexts) := hD
  refine lv_aload_n hx hb dX3_write_12 rfl (lv_at hl 0 rfl) ?_
  refine lv_dup hx hb dX3_write_13 rfl ?_
  refine va_get (D := (dC, dI)) (ci := 2) (v := .int pr_written) (C := RX3) (T := TX3) (N := 3) hx hb hts inX3 hown hK hP 2 rfl rfl 1 (by decide) (hts (.fieldLink RX3 15 "MailWords$PageReader" "written" "I") (List.mem_of_getElem? (i := 2) rfl)) (fun _ h9 => h9) rfl dX3_write_14 ?_
  refine lv_iconst (v := 1) hx hb dX3_write_17 (by decide) ?_
  refine lv_iadd hx hb dX3_write_18 ?_
  refine lv_topi (fun pr_written_3 epr_written_3 => ?_)
  have h := h pr_written_3 epr_written_3
  refine va_put (D := (dC, dI)) (ci := 2) (v := .int pr_written_3) (ty := .int) (C := RX3) (T := TX3) (N := 3) hx hb hts inX3 tyX3 tyX3_ok nmX3 hown hK hP hD hS 2 rfl rfl 1 (by decide) (hts (.fieldLink RX3 15 "MailWords$PageReader" "written" "I") (List.mem_of_getElem? (i := 2) rfl)) (fun _ h9 => h9) rfl (tyX3_ok 1 (by decide)) rfl rfl (Nat.le_of_ble_eq_true rfl) dX3_write_19 (fun H locs hP hD hS => ?_)
  have hP : va_P (dC, dI) vwCl (xW ad cI cZ lt_count lw_begin lw_end lw_depth lw_signed lw_led pr_written_3 pr_within st_size tx_size tt_count tt_pieces tt_kinds lt_begins lt_marks st_word st_vowels tx_characters_2 tt_begins tt_lengths tt_stemLengths tt_places tt_addresses tt_smalls tt_stems tt_slots tt_nexts) H := hP
  have hD : va_D A (xW ad cI cZ lt_count lw_begin lw_end lw_depth lw_signed lw_led pr_written_3 pr_within st_size tx_size tt_count tt_pieces tt_kinds lt_begins lt_marks st_word st_vowels tx_characters_2 tt_begins tt_lengths tt_stemLengths tt_places tt_addresses tt_smalls tt_stems tt_slots tt_nexts) := hD
  exact W.vret hx hb hr (fun t ht hW => hQ (pr_written_3, tx_characters_2) t h (by rw [ht]; exact hP) (va_K.moved hW.alike hK) hD (hS.F ht)) hS.2.2 dX3_write_22
set_option maxHeartbeats 4000000 in
set_option maxRecDepth 100000 in
theorem sX3_writeBreak (l : Launch) (dC : Nat → ClassId) (dI : Nat → Nat → Nat) (ad : Nat → Nat) (cI cZ : ClassId) (sa sv : Nat → Nat) (lt_count : Int32) (lw_begin : Int32) (lw_end : Int32) (lw_depth : Int32) (lw_signed : Int32) (lw_led : Int32) (pr_written : Int32) (pr_within : Int32) (st_size : Int32) (tx_size : Int32) (tt_count : Int32) (tt_pieces : Int32) (tt_kinds : Int32) (lt_begins : Nat → Int32) (lt_marks : Nat → Int32) (st_word : Nat → Int32) (st_vowels : Nat → Int32) (tx_characters : Nat → Int32) (tt_begins : Nat → Int32) (tt_lengths : Nat → Int32) (tt_stemLengths : Nat → Int32) (tt_places : Nat → Int32) (tt_addresses : Nat → Int32) (tt_smalls : Nat → Int32) (tt_stems : Nat → Int32) (tt_slots : Nat → Int32) (tt_nexts : Nat → Int32)  {post : Int32 → (Nat → Int32) → Prop} (h : wpX3_writeBreak post pr_written pr_within tx_size tx_characters) : xMv l (dC, dI) vwCl [(cI, .int), (cZ, .boolean)] (sI sa sv) yX3_writeBreak wsX3_writeBreak ({ frames := 3, cells := 0, slots := 0, locals := 62 }) (xW ad cI cZ lt_count lw_begin lw_end lw_depth lw_signed lw_led pr_written pr_within st_size tx_size tt_count tt_pieces tt_kinds lt_begins lt_marks st_word st_vowels tx_characters tt_begins tt_lengths tt_stemLengths tt_places tt_addresses tt_smalls tt_stems tt_slots tt_nexts) [.ref (ad 2)] (fun u : Int32 × (Nat → Int32) => post u.1 u.2) (fun u : Int32 × (Nat → Int32) => (xW ad cI cZ lt_count lw_begin lw_end lw_depth lw_signed lw_led u.1 pr_within st_size tx_size tt_count tt_pieces tt_kinds lt_begins lt_marks st_word st_vowels u.2 tt_begins tt_lengths tt_stemLengths tt_places tt_addresses tt_smalls tt_stems tt_slots tt_nexts)) := by
  intro sz
  refine Met.ofW (cc := cX3_writeBreak) (maxL := 1) (ret := none) (by decide) rfl ?_
  intro p e s m args below meth c s₁ B hml hv
  obtain ⟨rfl, hsz, hP, hK, hD0, hI⟩ := hv
  have hx := B.exec
  have hb := B.bytes
  have hr := B.returns
  have hts := atoms_spec (ws := wsX3_writeBreak) B.pre
  have hown : s.vm.findClass RX3 = some m.cls := findClass_of_methodNamed B.named
  have hlocks := B.notSynchronized
  subst hsz
  have hD := hD0.self (sz := s.heap.size)
  generalize hAe : va_A (xW ad cI cZ lt_count lw_begin lw_end lw_depth lw_signed lw_led pr_written pr_within st_size tx_size tt_count tt_pieces tt_kinds lt_begins lt_marks st_word st_vowels tx_characters tt_begins tt_lengths tt_stemLengths tt_places tt_addresses tt_smalls tt_stems tt_slots tt_nexts) s.heap.size = A at hD hI ⊢
  have hA : ∀ q : Nat, s.heap.size ≤ q → A q := fun q h => by rw [← hAe]; exact Or.inr h
  have hS : va_S A s.heap s.heap [] := va_S.rf
  have Fx : CallFix p m c cX3_writeBreak 1 s ([.ref (ad 2)] : List Value).toArray wsX3_writeBreak RX3 := ⟨hx, hb, hml, hown, hts⟩
  have hQ : ∀ (u : Int32 × (Nat → Int32)) (t : State), (fun u : Int32 × (Nat → Int32) => post u.1 u.2) u → va_P (dC, dI) vwCl ((fun u : Int32 × (Nat → Int32) => (xW ad cI cZ lt_count lw_begin lw_end lw_depth lw_signed lw_led u.1 pr_within st_size tx_size tt_count tt_pieces tt_kinds lt_begins lt_marks st_word st_vowels u.2 tt_begins tt_lengths tt_stemLengths tt_places tt_addresses tt_smalls tt_stems tt_slots tt_nexts)) u) t.heap → va_K (dC, dI) vwCl [(cI, .int), (cZ, .boolean)] t → va_D A ((fun u : Int32 × (Nat → Int32) => (xW ad cI cZ lt_count lw_begin lw_end lw_depth lw_signed lw_led u.1 pr_within st_size tx_size tt_count tt_pieces tt_kinds lt_begins lt_marks st_word st_vowels u.2 tt_begins tt_lengths tt_stemLengths tt_places tt_addresses tt_smalls tt_stems tt_slots tt_nexts)) u) → va_F A s t → (va_Qv (fun u : Int32 × (Nat → Int32) => post u.1 u.2) (xB (dC, dI) vwCl [(cI, .int), (cZ, .boolean)] A (fun u : Int32 × (Nat → Int32) => (xW ad cI cZ lt_count lw_begin lw_end lw_depth lw_signed lw_led u.1 pr_within st_size tx_size tt_count tt_pieces tt_kinds lt_begins lt_marks st_word st_vowels u.2 tt_begins tt_lengths tt_stemLengths tt_places tt_addresses tt_smalls tt_stems tt_slots tt_nexts))) A) ([.ref (ad 2)] : List Value).toArray s (.returned none) t := fun u t h1 h2 h3 h4 h5 => ⟨⟨u, rfl, h1, h2, h3, h4⟩, h5⟩
  generalize (va_Qv (fun u : Int32 × (Nat → Int32) => post u.1 u.2) (xB (dC, dI) vwCl [(cI, .int), (cZ, .boolean)] A (fun u : Int32 × (Nat → Int32) => (xW ad cI cZ lt_count lw_begin lw_end lw_depth lw_signed lw_led u.1 pr_within st_size tx_size tt_count tt_pieces tt_kinds lt_begins lt_marks st_word st_vowels u.2 tt_begins tt_lengths tt_stemLengths tt_places tt_addresses tt_smalls tt_stems tt_slots tt_nexts))) A) = Qc at hQ ⊢
  have hl := lv_entry ([.ref (ad 2)]) (n := 1) (Nat.le_of_ble_eq_true rfl)
  rw [lg_entry_eq]
  generalize (lg_sl ([.ref (ad 2)]) ++ List.replicate (1 - (lg_sl ([.ref (ad 2)])).length) Slot.unset).toArray = ls at hl ⊢
  have hl : lv_has ls 1 [(0, .ref (ad 2))] := hl
  refine (fun (key : ∀ (H : Heap) (locs : List Loc), va_P (dC, dI) vwCl (xW ad cI cZ lt_count lw_begin lw_end lw_depth lw_signed lw_led pr_written pr_within st_size tx_size tt_count tt_pieces tt_kinds lt_begins lt_marks st_word st_vowels tx_characters tt_begins tt_lengths tt_stemLengths tt_places tt_addresses tt_smalls tt_stems tt_slots tt_nexts) H → va_D A (xW ad cI cZ lt_count lw_begin lw_end lw_depth lw_signed lw_led pr_written pr_within st_size tx_size tt_count tt_pieces tt_kinds lt_begins lt_marks st_word st_vowels tx_characters tt_begins tt_lengths tt_stemLengths tt_places tt_addresses tt_smalls tt_stems tt_slots tt_nexts) → va_S A s.heap H locs → W p l e (headSpec wsX3_writeBreak ({ frames := 3, cells := 0, slots := 0, locals := 62 })).room s m ([.ref (ad 2)] : List Value).toArray below meth c H locs 0 0 (MQ below Qc ([.ref (ad 2)] : List Value).toArray s 0 0 A) (F0 m 0 ls [])) => key _ _ hP hD hS) ?_
  have inX3 : ∀ w ∈ wsX30, w ∈ wsX3_writeBreak := (fun _ h9 => List.mem_cons_of_mem _ (List.mem_append_left _ (List.mem_append_right _ h9)))
  intro H locs hP hD hS
  delta wpX3_writeBreak at h
  refine lv_aload_n hx hb dX3_writeBreak_0 rfl (lv_at hl 0 rfl) ?_
  refine xc_vv (As := []) (rest := []) xG Fx (sX3_dropSpaces l dC dI ad cI cZ sa sv lt_count lw_begin lw_end lw_depth lw_signed lw_led pr_written pr_within st_size tx_size tt_count tt_pieces tt_kinds lt_begins lt_marks st_word st_vowels tx_characters tt_begins tt_lengths tt_stemLengths tt_places tt_addresses tt_smalls tt_stems tt_slots tt_nexts h) (cwV 0 hts gX3_writeBreak_X3_dropSpaces rfl rfl rfl hdX3_dropSpaces ⟨Nat.le_of_ble_eq_true rfl, Nat.le_of_ble_eq_true rfl⟩) (va_recv hK hP (ci := 2) (q0 := 2) rfl rfl) hK hP hD hS hA hI rfl hl.1 rfl (Nat.le_of_ble_eq_true rfl) dX3_writeBreak_1 ⟨Nat.zero_le _, Nat.zero_le _⟩ (fun pr_written_2 H locs h hP hD hS => ?_)
  have hP : va_P (dC, dI) vwCl (xW ad cI cZ lt_count lw_begin lw_end lw_depth lw_signed lw_led pr_written_2 pr_within st_size tx_size tt_count tt_pieces tt_kinds lt_begins lt_marks st_word st_vowels tx_characters tt_begins tt_lengths tt_stemLengths tt_places tt_addresses tt_smalls tt_stems tt_slots tt_nexts) H := hP
  have hD : va_D A (xW ad cI cZ lt_count lw_begin lw_end lw_depth lw_signed lw_led pr_written_2 pr_within st_size tx_size tt_count tt_pieces tt_kinds lt_begins lt_marks st_word st_vowels tx_characters tt_begins tt_lengths tt_stemLengths tt_places tt_addresses tt_smalls tt_stems tt_slots tt_nexts) := hD
  refine lv_aload_n hx hb dX3_writeBreak_4 rfl (lv_at hl 0 rfl) ?_
  refine va_get (D := (dC, dI)) (ci := 2) (v := .int pr_written_2) (C := RX3) (T := TX3) (N := 3) hx hb hts inX3 hown hK hP 2 rfl rfl 1 (by decide) (hts (.fieldLink RX3 15 "MailWords$PageReader" "written" "I") (List.mem_of_getElem? (i := 1) rfl)) (fun _ h9 => h9) rfl dX3_writeBreak_5 ?_
  refine lv_if_le (tgt := 26) hx hb dX3_writeBreak_8 (by decide) (fun c9 => ?_) (fun c9 => ?_)
  · have h := h.1 c9
    exact W.vret hx hb hr (fun t ht hW => hQ (pr_written_2, tx_characters) t h (by rw [ht]; exact hP) (va_K.moved hW.alike hK) hD (hS.F ht)) hS.2.2 dX3_writeBreak_26
  · have h := h.2 c9
    refine lv_aload_n hx hb dX3_writeBreak_11 rfl (lv_at hl 0 rfl) ?_
    refine lv_bipush (v := 10) hx hb dX3_writeBreak_12 (by decide) ?_
    refine xc_vi (As := [.int 10]) (rest := []) xG Fx (sX3_lastIs l dC dI ad cI cZ sa sv lt_count lw_begin lw_end lw_depth lw_signed lw_led pr_written_2 pr_within st_size tx_size tt_count tt_pieces tt_kinds lt_begins lt_marks st_word st_vowels tx_characters tt_begins tt_lengths tt_stemLengths tt_places tt_addresses tt_smalls tt_stems tt_slots tt_nexts 10 h) (cwV 1 hts gX3_writeBreak_X3_lastIs rfl rfl rfl hdX3_lastIs ⟨Nat.le_of_ble_eq_true rfl, Nat.le_of_ble_eq_true rfl⟩) (va_recv hK hP (ci := 2) (q0 := 2) rfl rfl) hK hP hD hS hA hI rfl hl.1 rfl (Nat.le_of_ble_eq_true rfl) dX3_writeBreak_14 ⟨Nat.zero_le _, Nat.zero_le _⟩ (fun r_3 u H locs h hP hD hS => ?_)
    refine lv_if_ne (tgt := 26) hx hb dX3_writeBreak_17 (by decide) (fun c9 => ?_) (fun c9 => ?_)
    · have h := h.1 c9
      exact W.vret hx hb hr (fun t ht hW => hQ (pr_written_2, tx_characters) t h (by rw [ht]; exact hP) (va_K.moved hW.alike hK) hD (hS.F ht)) hS.2.2 dX3_writeBreak_26
    · have h := h.2 c9
      refine lv_aload_n hx hb dX3_writeBreak_20 rfl (lv_at hl 0 rfl) ?_
      refine lv_bipush (v := 10) hx hb dX3_writeBreak_21 (by decide) ?_
      refine xc_vv (As := [.int 10]) (rest := []) xG Fx (sX3_write l dC dI ad cI cZ sa sv lt_count lw_begin lw_end lw_depth lw_signed lw_led pr_written_2 pr_within st_size tx_size tt_count tt_pieces tt_kinds lt_begins lt_marks st_word st_vowels tx_characters tt_begins tt_lengths tt_stemLengths tt_places tt_addresses tt_smalls tt_stems tt_slots tt_nexts 10 h) (cwV 1 hts gX3_writeBreak_X3_write rfl rfl rfl hdX3_write ⟨Nat.le_of_ble_eq_true rfl, Nat.le_of_ble_eq_true rfl⟩) (va_recv hK hP (ci := 2) (q0 := 2) rfl rfl) hK hP hD hS hA hI rfl hl.1 rfl (Nat.le_of_ble_eq_true rfl) dX3_writeBreak_23 ⟨Nat.zero_le _, Nat.zero_le _⟩ (fun u H locs h hP hD hS => ?_)
      obtain ⟨pr_written_5, tx_characters_6⟩ := u
      have hP : va_P (dC, dI) vwCl (xW ad cI cZ lt_count lw_begin lw_end lw_depth lw_signed lw_led pr_written_5 pr_within st_size tx_size tt_count tt_pieces tt_kinds lt_begins lt_marks st_word st_vowels tx_characters_6 tt_begins tt_lengths tt_stemLengths tt_places tt_addresses tt_smalls tt_stems tt_slots tt_nexts) H := hP
      have hD : va_D A (xW ad cI cZ lt_count lw_begin lw_end lw_depth lw_signed lw_led pr_written_5 pr_within st_size tx_size tt_count tt_pieces tt_kinds lt_begins lt_marks st_word st_vowels tx_characters_6 tt_begins tt_lengths tt_stemLengths tt_places tt_addresses tt_smalls tt_stems tt_slots tt_nexts) := hD
      exact W.vret hx hb hr (fun t ht hW => hQ (pr_written_5, tx_characters_6) t h (by rw [ht]; exact hP) (va_K.moved hW.alike hK) hD (hS.F ht)) hS.2.2 dX3_writeBreak_26
set_option maxHeartbeats 4000000 in
set_option maxRecDepth 100000 in
theorem sX3_isBreak (l : Launch) (dC : Nat → ClassId) (dI : Nat → Nat → Nat) (ad : Nat → Nat) (cI cZ : ClassId) (sa sv : Nat → Nat) (lt_count : Int32) (lw_begin : Int32) (lw_end : Int32) (lw_depth : Int32) (lw_signed : Int32) (lw_led : Int32) (pr_written : Int32) (pr_within : Int32) (st_size : Int32) (tx_size : Int32) (tt_count : Int32) (tt_pieces : Int32) (tt_kinds : Int32) (lt_begins : Nat → Int32) (lt_marks : Nat → Int32) (st_word : Nat → Int32) (st_vowels : Nat → Int32) (tx_characters : Nat → Int32) (tt_begins : Nat → Int32) (tt_lengths : Nat → Int32) (tt_stemLengths : Nat → Int32) (tt_places : Nat → Int32) (tt_addresses : Nat → Int32) (tt_smalls : Nat → Int32) (tt_stems : Nat → Int32) (tt_slots : Nat → Int32) (tt_nexts : Nat → Int32) (x1 : Int32) (x2 : Int32) {post : Int32 → Prop} (h : wpX3_isBreak post tx_size tx_characters x1 x2) : xMi l (dC, dI) vwCl [(cI, .int), (cZ, .boolean)] (sI sa sv) yX3_isBreak wsX3_isBreak ({ frames := 6, cells := 0, slots := 0, locals := 132 }) (xW ad cI cZ lt_count lw_begin lw_end lw_depth lw_signed lw_led pr_written pr_within st_size tx_size tt_count tt_pieces tt_kinds lt_begins lt_marks st_word st_vowels tx_characters tt_begins tt_lengths tt_stemLengths tt_places tt_addresses tt_smalls tt_stems tt_slots tt_nexts) [.ref (ad 2), .int x1, .int x2] (fun (r : Int32) (u : Unit) => post r ) (fun u : Unit => (xW ad cI cZ lt_count lw_begin lw_end lw_depth lw_signed lw_led pr_written pr_within st_size tx_size tt_count tt_pieces tt_kinds lt_begins lt_marks st_word st_vowels tx_characters tt_begins tt_lengths tt_stemLengths tt_places tt_addresses tt_smalls tt_stems tt_slots tt_nexts)) := by
  intro sz
  refine Met.ofW (cc := cX3_isBreak) (maxL := 5) (ret := (some .boolean)) (by decide) rfl ?_
  intro p e s m args below meth c s₁ B hml hv
  obtain ⟨rfl, hsz, hP, hK, hD0, hI⟩ := hv
  have hx := B.exec
  have hb := B.bytes
  have hr := B.returns
  have hts := atoms_spec (ws := wsX3_isBreak) B.pre
  have hown : s.vm.findClass RX3 = some m.cls := findClass_of_methodNamed B.named
  have hlocks := B.notSynchronized
  subst hsz
  have hD := hD0.self (sz := s.heap.size)
  generalize hAe : va_A (xW ad cI cZ lt_count lw_begin lw_end lw_depth lw_signed lw_led pr_written pr_within st_size tx_size tt_count tt_pieces tt_kinds lt_begins lt_marks st_word st_vowels tx_characters tt_begins tt_lengths tt_stemLengths tt_places tt_addresses tt_smalls tt_stems tt_slots tt_nexts) s.heap.size = A at hD hI ⊢
  have hA : ∀ q : Nat, s.heap.size ≤ q → A q := fun q h => by rw [← hAe]; exact Or.inr h
  have hS : va_S A s.heap s.heap [] := va_S.rf
  have Fx : CallFix p m c cX3_isBreak 5 s ([.ref (ad 2), .int x1, .int x2] : List Value).toArray wsX3_isBreak RX3 := ⟨hx, hb, hml, hown, hts⟩
  have hQ : ∀ (r : Int32) (u : Unit) (t : State), (fun (r : Int32) (u : Unit) => post r ) r u → va_P (dC, dI) vwCl ((fun u : Unit => (xW ad cI cZ lt_count lw_begin lw_end lw_depth lw_signed lw_led pr_written pr_within st_size tx_size tt_count tt_pieces tt_kinds lt_begins lt_marks st_word st_vowels tx_characters tt_begins tt_lengths tt_stemLengths tt_places tt_addresses tt_smalls tt_stems tt_slots tt_nexts)) u) t.heap → va_K (dC, dI) vwCl [(cI, .int), (cZ, .boolean)] t → va_D A ((fun u : Unit => (xW ad cI cZ lt_count lw_begin lw_end lw_depth lw_signed lw_led pr_written pr_within st_size tx_size tt_count tt_pieces tt_kinds lt_begins lt_marks st_word st_vowels tx_characters tt_begins tt_lengths tt_stemLengths tt_places tt_addresses tt_smalls tt_stems tt_slots tt_nexts)) u) → va_F A s t → (va_Qi (fun (r : Int32) (u : Unit) => post r ) (xB (dC, dI) vwCl [(cI, .int), (cZ, .boolean)] A (fun u : Unit => (xW ad cI cZ lt_count lw_begin lw_end lw_depth lw_signed lw_led pr_written pr_within st_size tx_size tt_count tt_pieces tt_kinds lt_begins lt_marks st_word st_vowels tx_characters tt_begins tt_lengths tt_stemLengths tt_places tt_addresses tt_smalls tt_stems tt_slots tt_nexts))) A) ([.ref (ad 2), .int x1, .int x2] : List Value).toArray s (.returned (some (.int r))) t := fun r u t h1 h2 h3 h4 h5 => ⟨⟨r, u, rfl, h1, h2, h3, h4⟩, h5⟩
  generalize (va_Qi (fun (r : Int32) (u : Unit) => post r ) (xB (dC, dI) vwCl [(cI, .int), (cZ, .boolean)] A (fun u : Unit => (xW ad cI cZ lt_count lw_begin lw_end lw_depth lw_signed lw_led pr_written pr_within st_size tx_size tt_count tt_pieces tt_kinds lt_begins lt_marks st_word st_vowels tx_characters tt_begins tt_lengths tt_stemLengths tt_places tt_addresses tt_smalls tt_stems tt_slots tt_nexts))) A) = Qc at hQ ⊢
  have hl := lv_entry ([.ref (ad 2), .int x1, .int x2]) (n := 5) (Nat.le_of_ble_eq_true rfl)
  rw [lg_entry_eq]
  generalize (lg_sl ([.ref (ad 2), .int x1, .int x2]) ++ List.replicate (5 - (lg_sl ([.ref (ad 2), .int x1, .int x2])).length) Slot.unset).toArray = ls at hl ⊢
  have hl : lv_has ls 5 [(0, .ref (ad 2)), (1, .int x1), (2, .int x2)] := hl
  refine (fun (key : ∀ (H : Heap) (locs : List Loc), va_P (dC, dI) vwCl (xW ad cI cZ lt_count lw_begin lw_end lw_depth lw_signed lw_led pr_written pr_within st_size tx_size tt_count tt_pieces tt_kinds lt_begins lt_marks st_word st_vowels tx_characters tt_begins tt_lengths tt_stemLengths tt_places tt_addresses tt_smalls tt_stems tt_slots tt_nexts) H → va_D A (xW ad cI cZ lt_count lw_begin lw_end lw_depth lw_signed lw_led pr_written pr_within st_size tx_size tt_count tt_pieces tt_kinds lt_begins lt_marks st_word st_vowels tx_characters tt_begins tt_lengths tt_stemLengths tt_places tt_addresses tt_smalls tt_stems tt_slots tt_nexts) → va_S A s.heap H locs → W p l e (headSpec wsX3_isBreak ({ frames := 6, cells := 0, slots := 0, locals := 132 })).room s m ([.ref (ad 2), .int x1, .int x2] : List Value).toArray below meth c H locs 0 0 (MQ below Qc ([.ref (ad 2), .int x1, .int x2] : List Value).toArray s 0 0 A) (F0 m 0 ls [])) => key _ _ hP hD hS) ?_
  have inX3 : ∀ w ∈ wsX30, w ∈ wsX3_isBreak := (fun _ h9 => List.mem_cons_of_mem _ (List.mem_append_left _ (List.mem_append_right _ h9)))
  have J48 : ∀ (s0 : Int32) (H : Heap) (locs : List Loc) (ls : Array Slot), lv_has ls 5 [(0, .ref (ad 2)), (1, .int x1), (2, .int x2)] → va_P (dC, dI) vwCl (xW ad cI cZ lt_count lw_begin lw_end lw_depth lw_signed lw_led pr_written pr_within st_size tx_size tt_count tt_pieces tt_kinds lt_begins lt_marks st_word st_vowels tx_characters tt_begins tt_lengths tt_stemLengths tt_places tt_addresses tt_smalls tt_stems tt_slots tt_nexts) H → va_D A (xW ad cI cZ lt_count lw_begin lw_end lw_depth lw_signed lw_led pr_written pr_within st_size tx_size tt_count tt_pieces tt_kinds lt_begins lt_marks st_word st_vowels tx_characters tt_begins tt_lengths tt_stemLengths tt_places tt_addresses tt_smalls tt_stems tt_slots tt_nexts) → va_S A s.heap H locs → wjX3_isBreak_48 post tx_size tx_characters x1 x2 s0 → W p l e (headSpec wsX3_isBreak ({ frames := 6, cells := 0, slots := 0, locals := 132 })).room s m ([.ref (ad 2), .int x1, .int x2] : List Value).toArray below meth c H locs 0 0 (MQ below Qc ([.ref (ad 2), .int x1, .int x2] : List Value).toArray s 0 0 A) (F0 m 48 ls [.int s0]) := by
    intro s0 H locs ls hl hP hD hS h
    delta wjX3_isBreak_48 at h
    refine lv_istore (lv' := [(4, .int s0), (0, .ref (ad 2)), (1, .int x1), (2, .int x2)]) hx hb dX3_isBreak_48 hl (by decide) rfl (fun ls hl => ?_)
    refine lv_iload hx hb dX3_isBreak_50 (lv_at hl 0 rfl) ?_
    refine lv_if_ne (tgt := 165) hx hb dX3_isBreak_52 (by decide) (fun c9 => ?_) (fun c9 => ?_)
    · have h := h.1 c9
      refine lv_iconst (v := 1) hx hb dX3_isBreak_165 (by decide) ?_
      refine lv_goto (tgt := 170) hx hb dX3_isBreak_166 (by decide) ?_
      exact W.zret (v := 1) hx hb hr (bN_nar bN1) (fun t ht hW => hQ 1 () t h (by rw [ht]; exact hP) (va_K.moved hW.alike hK) hD (hS.F ht)) hS.2.2 dX3_isBreak_170
    · have h := h.2 c9
      refine lv_aload_n hx hb dX3_isBreak_55 rfl (lv_at hl 1 rfl) ?_
      refine lv_iload_n hx hb dX3_isBreak_56 rfl (lv_at hl 2 rfl) ?_
      refine lv_iload_n hx hb dX3_isBreak_57 rfl (lv_at hl 3 rfl) ?_
      refine va_ldcS hx hb hown (show vk_R RX3 130 "p" (sa 2) s from sI_ref hI (i := 2) (by decide)) dX3_isBreak_58 ?_
      refine xc_vi (As := [.int x1, .int x2, .ref (sa 2)]) (rest := []) xG Fx (sX3_isNamed l dC dI ad cI cZ sa sv lt_count lw_begin lw_end lw_depth lw_signed lw_led pr_written pr_within st_size tx_size tt_count tt_pieces tt_kinds lt_begins lt_marks st_word st_vowels tx_characters tt_begins tt_lengths tt_stemLengths tt_places tt_addresses tt_smalls tt_stems tt_slots tt_nexts x1 x2 2 h) (cwV 3 hts gX3_isBreak_X3_isNamed rfl rfl rfl hdX3_isNamed ⟨Nat.le_of_ble_eq_true rfl, Nat.le_of_ble_eq_true rfl⟩) (va_recv hK hP (ci := 2) (q0 := 2) rfl rfl) hK hP hD hS hA hI rfl hl.1 rfl (Nat.le_of_ble_eq_true rfl) dX3_isBreak_60 ⟨Nat.zero_le _, Nat.zero_le _⟩ (fun r_1 u H locs h hP hD hS => ?_)
      refine lv_if_ne (tgt := 165) hx hb dX3_isBreak_63 (by decide) (fun c9 => ?_) (fun c9 => ?_)
      · have h := h.1 c9
        refine lv_iconst (v := 1) hx hb dX3_isBreak_165 (by decide) ?_
        refine lv_goto (tgt := 170) hx hb dX3_isBreak_166 (by decide) ?_
        exact W.zret (v := 1) hx hb hr (bN_nar bN1) (fun t ht hW => hQ 1 () t h (by rw [ht]; exact hP) (va_K.moved hW.alike hK) hD (hS.F ht)) hS.2.2 dX3_isBreak_170
      · have h := h.2 c9
        refine lv_aload_n hx hb dX3_isBreak_66 rfl (lv_at hl 1 rfl) ?_
        refine lv_iload_n hx hb dX3_isBreak_67 rfl (lv_at hl 2 rfl) ?_
        refine lv_iload_n hx hb dX3_isBreak_68 rfl (lv_at hl 3 rfl) ?_
        refine va_ldcS hx hb hown (show vk_R RX3 132 "div" (sa 3) s from sI_ref hI (i := 3) (by decide)) dX3_isBreak_69 ?_
        refine xc_vi (As := [.int x1, .int x2, .ref (sa 3)]) (rest := []) xG Fx (sX3_isNamed l dC dI ad cI cZ sa sv lt_count lw_begin lw_end lw_depth lw_signed lw_led pr_written pr_within st_size tx_size tt_count tt_pieces tt_kinds lt_begins lt_marks st_word st_vowels tx_characters tt_begins tt_lengths tt_stemLengths tt_places tt_addresses tt_smalls tt_stems tt_slots tt_nexts x1 x2 3 h) (cwV 3 hts gX3_isBreak_X3_isNamed rfl rfl rfl hdX3_isNamed ⟨Nat.le_of_ble_eq_true rfl, Nat.le_of_ble_eq_true rfl⟩) (va_recv hK hP (ci := 2) (q0 := 2) rfl rfl) hK hP hD hS hA hI rfl hl.1 rfl (Nat.le_of_ble_eq_true rfl) dX3_isBreak_71 ⟨Nat.zero_le _, Nat.zero_le _⟩ (fun r_2 u H locs h hP hD hS => ?_)
        refine lv_if_ne (tgt := 165) hx hb dX3_isBreak_74 (by decide) (fun c9 => ?_) (fun c9 => ?_)
        · have h := h.1 c9
          refine lv_iconst (v := 1) hx hb dX3_isBreak_165 (by decide) ?_
          refine lv_goto (tgt := 170) hx hb dX3_isBreak_166 (by decide) ?_
          exact W.zret (v := 1) hx hb hr (bN_nar bN1) (fun t ht hW => hQ 1 () t h (by rw [ht]; exact hP) (va_K.moved hW.alike hK) hD (hS.F ht)) hS.2.2 dX3_isBreak_170
        · have h := h.2 c9
          refine lv_aload_n hx hb dX3_isBreak_77 rfl (lv_at hl 1 rfl) ?_
          refine lv_iload_n hx hb dX3_isBreak_78 rfl (lv_at hl 2 rfl) ?_
          refine lv_iload_n hx hb dX3_isBreak_79 rfl (lv_at hl 3 rfl) ?_
          refine va_ldcS hx hb hown (show vk_R RX3 134 "br" (sa 4) s from sI_ref hI (i := 4) (by decide)) dX3_isBreak_80 ?_
          refine xc_vi (As := [.int x1, .int x2, .ref (sa 4)]) (rest := []) xG Fx (sX3_isNamed l dC dI ad cI cZ sa sv lt_count lw_begin lw_end lw_depth lw_signed lw_led pr_written pr_within st_size tx_size tt_count tt_pieces tt_kinds lt_begins lt_marks st_word st_vowels tx_characters tt_begins tt_lengths tt_stemLengths tt_places tt_addresses tt_smalls tt_stems tt_slots tt_nexts x1 x2 4 h) (cwV 3 hts gX3_isBreak_X3_isNamed rfl rfl rfl hdX3_isNamed ⟨Nat.le_of_ble_eq_true rfl, Nat.le_of_ble_eq_true rfl⟩) (va_recv hK hP (ci := 2) (q0 := 2) rfl rfl) hK hP hD hS hA hI rfl hl.1 rfl (Nat.le_of_ble_eq_true rfl) dX3_isBreak_82 ⟨Nat.zero_le _, Nat.zero_le _⟩ (fun r_3 u H locs h hP hD hS => ?_)
          refine lv_if_ne (tgt := 165) hx hb dX3_isBreak_85 (by decide) (fun c9 => ?_) (fun c9 => ?_)
          · have h := h.1 c9
            refine lv_iconst (v := 1) hx hb dX3_isBreak_165 (by decide) ?_
            refine lv_goto (tgt := 170) hx hb dX3_isBreak_166 (by decide) ?_
            exact W.zret (v := 1) hx hb hr (bN_nar bN1) (fun t ht hW => hQ 1 () t h (by rw [ht]; exact hP) (va_K.moved hW.alike hK) hD (hS.F ht)) hS.2.2 dX3_isBreak_170
          · have h := h.2 c9
            refine lv_aload_n hx hb dX3_isBreak_88 rfl (lv_at hl 1 rfl) ?_
            refine lv_iload_n hx hb dX3_isBreak_89 rfl (lv_at hl 2 rfl) ?_
            refine lv_iload_n hx hb dX3_isBreak_90 rfl (lv_at hl 3 rfl) ?_
            refine va_ldcS hx hb hown (show vk_R RX3 136 "tr" (sa 5) s from sI_ref hI (i := 5) (by decide)) dX3_isBreak_91 ?_
            refine xc_vi (As := [.int x1, .int x2, .ref (sa 5)]) (rest := []) xG Fx (sX3_isNamed l dC dI ad cI cZ sa sv lt_count lw_begin lw_end lw_depth lw_signed lw_led pr_written pr_within st_size tx_size tt_count tt_pieces tt_kinds lt_begins lt_marks st_word st_vowels tx_characters tt_begins tt_lengths tt_stemLengths tt_places tt_addresses tt_smalls tt_stems tt_slots tt_nexts x1 x2 5 h) (cwV 3 hts gX3_isBreak_X3_isNamed rfl rfl rfl hdX3_isNamed ⟨Nat.le_of_ble_eq_true rfl, Nat.le_of_ble_eq_true rfl⟩) (va_recv hK hP (ci := 2) (q0 := 2) rfl rfl) hK hP hD hS hA hI rfl hl.1 rfl (Nat.le_of_ble_eq_true rfl) dX3_isBreak_93 ⟨Nat.zero_le _, Nat.zero_le _⟩ (fun r_4 u H locs h hP hD hS => ?_)
            refine lv_if_ne (tgt := 165) hx hb dX3_isBreak_96 (by decide) (fun c9 => ?_) (fun c9 => ?_)
            · have h := h.1 c9
              refine lv_iconst (v := 1) hx hb dX3_isBreak_165 (by decide) ?_
              refine lv_goto (tgt := 170) hx hb dX3_isBreak_166 (by decide) ?_
              exact W.zret (v := 1) hx hb hr (bN_nar bN1) (fun t ht hW => hQ 1 () t h (by rw [ht]; exact hP) (va_K.moved hW.alike hK) hD (hS.F ht)) hS.2.2 dX3_isBreak_170
            · have h := h.2 c9
              refine lv_aload_n hx hb dX3_isBreak_99 rfl (lv_at hl 1 rfl) ?_
              refine lv_iload_n hx hb dX3_isBreak_100 rfl (lv_at hl 2 rfl) ?_
              refine lv_iload_n hx hb dX3_isBreak_101 rfl (lv_at hl 3 rfl) ?_
              refine va_ldcS hx hb hown (show vk_R RX3 138 "li" (sa 6) s from sI_ref hI (i := 6) (by decide)) dX3_isBreak_102 ?_
              refine xc_vi (As := [.int x1, .int x2, .ref (sa 6)]) (rest := []) xG Fx (sX3_isNamed l dC dI ad cI cZ sa sv lt_count lw_begin lw_end lw_depth lw_signed lw_led pr_written pr_within st_size tx_size tt_count tt_pieces tt_kinds lt_begins lt_marks st_word st_vowels tx_characters tt_begins tt_lengths tt_stemLengths tt_places tt_addresses tt_smalls tt_stems tt_slots tt_nexts x1 x2 6 h) (cwV 3 hts gX3_isBreak_X3_isNamed rfl rfl rfl hdX3_isNamed ⟨Nat.le_of_ble_eq_true rfl, Nat.le_of_ble_eq_true rfl⟩) (va_recv hK hP (ci := 2) (q0 := 2) rfl rfl) hK hP hD hS hA hI rfl hl.1 rfl (Nat.le_of_ble_eq_true rfl) dX3_isBreak_104 ⟨Nat.zero_le _, Nat.zero_le _⟩ (fun r_5 u H locs h hP hD hS => ?_)
              refine lv_if_ne (tgt := 165) hx hb dX3_isBreak_107 (by decide) (fun c9 => ?_) (fun c9 => ?_)
              · have h := h.1 c9
                refine lv_iconst (v := 1) hx hb dX3_isBreak_165 (by decide) ?_
                refine lv_goto (tgt := 170) hx hb dX3_isBreak_166 (by decide) ?_
                exact W.zret (v := 1) hx hb hr (bN_nar bN1) (fun t ht hW => hQ 1 () t h (by rw [ht]; exact hP) (va_K.moved hW.alike hK) hD (hS.F ht)) hS.2.2 dX3_isBreak_170
              · have h := h.2 c9
                refine lv_aload_n hx hb dX3_isBreak_110 rfl (lv_at hl 1 rfl) ?_
                refine lv_iload_n hx hb dX3_isBreak_111 rfl (lv_at hl 2 rfl) ?_
                refine lv_iload_n hx hb dX3_isBreak_112 rfl (lv_at hl 3 rfl) ?_
                refine va_ldcS hx hb hown (show vk_R RX3 140 "ul" (sa 7) s from sI_ref hI (i := 7) (by decide)) dX3_isBreak_113 ?_
                refine xc_vi (As := [.int x1, .int x2, .ref (sa 7)]) (rest := []) xG Fx (sX3_isNamed l dC dI ad cI cZ sa sv lt_count lw_begin lw_end lw_depth lw_signed lw_led pr_written pr_within st_size tx_size tt_count tt_pieces tt_kinds lt_begins lt_marks st_word st_vowels tx_characters tt_begins tt_lengths tt_stemLengths tt_places tt_addresses tt_smalls tt_stems tt_slots tt_nexts x1 x2 7 h) (cwV 3 hts gX3_isBreak_X3_isNamed rfl rfl rfl hdX3_isNamed ⟨Nat.le_of_ble_eq_true rfl, Nat.le_of_ble_eq_true rfl⟩) (va_recv hK hP (ci := 2) (q0 := 2) rfl rfl) hK hP hD hS hA hI rfl hl.1 rfl (Nat.le_of_ble_eq_true rfl) dX3_isBreak_115 ⟨Nat.zero_le _, Nat.zero_le _⟩ (fun r_6 u H locs h hP hD hS => ?_)
                refine lv_if_ne (tgt := 165) hx hb dX3_isBreak_118 (by decide) (fun c9 => ?_) (fun c9 => ?_)
                · have h := h.1 c9
                  refine lv_iconst (v := 1) hx hb dX3_isBreak_165 (by decide) ?_
                  refine lv_goto (tgt := 170) hx hb dX3_isBreak_166 (by decide) ?_
                  exact W.zret (v := 1) hx hb hr (bN_nar bN1) (fun t ht hW => hQ 1 () t h (by rw [ht]; exact hP) (va_K.moved hW.alike hK) hD (hS.F ht)) hS.2.2 dX3_isBreak_170
                · have h := h.2 c9
                  refine lv_aload_n hx hb dX3_isBreak_121 rfl (lv_at hl 1 rfl) ?_
                  refine lv_iload_n hx hb dX3_isBreak_122 rfl (lv_at hl 2 rfl) ?_
                  refine lv_iload_n hx hb dX3_isBreak_123 rfl (lv_at hl 3 rfl) ?_
                  refine va_ldcS hx hb hown (show vk_R RX3 142 "ol" (sa 8) s from sI_ref hI (i := 8) (by decide)) dX3_isBreak_124 ?_
                  refine xc_vi (As := [.int x1, .int x2, .ref (sa 8)]) (rest := []) xG Fx (sX3_isNamed l dC dI ad cI cZ sa sv lt_count lw_begin lw_end lw_depth lw_signed lw_led pr_written pr_within st_size tx_size tt_count tt_pieces tt_kinds lt_begins lt_marks st_word st_vowels tx_characters tt_begins tt_lengths tt_stemLengths tt_places tt_addresses tt_smalls tt_stems tt_slots tt_nexts x1 x2 8 h) (cwV 3 hts gX3_isBreak_X3_isNamed rfl rfl rfl hdX3_isNamed ⟨Nat.le_of_ble_eq_true rfl, Nat.le_of_ble_eq_true rfl⟩) (va_recv hK hP (ci := 2) (q0 := 2) rfl rfl) hK hP hD hS hA hI rfl hl.1 rfl (Nat.le_of_ble_eq_true rfl) dX3_isBreak_126 ⟨Nat.zero_le _, Nat.zero_le _⟩ (fun r_7 u H locs h hP hD hS => ?_)
                  refine lv_if_ne (tgt := 165) hx hb dX3_isBreak_129 (by decide) (fun c9 => ?_) (fun c9 => ?_)
                  · have h := h.1 c9
                    refine lv_iconst (v := 1) hx hb dX3_isBreak_165 (by decide) ?_
                    refine lv_goto (tgt := 170) hx hb dX3_isBreak_166 (by decide) ?_
                    exact W.zret (v := 1) hx hb hr (bN_nar bN1) (fun t ht hW => hQ 1 () t h (by rw [ht]; exact hP) (va_K.moved hW.alike hK) hD (hS.F ht)) hS.2.2 dX3_isBreak_170
                  · have h := h.2 c9
                    refine lv_aload_n hx hb dX3_isBreak_132 rfl (lv_at hl 1 rfl) ?_
                    refine lv_iload_n hx hb dX3_isBreak_133 rfl (lv_at hl 2 rfl) ?_
                    refine lv_iload_n hx hb dX3_isBreak_134 rfl (lv_at hl 3 rfl) ?_
                    refine va_ldcS hx hb hown (show vk_R RX3 144 "table" (sa 9) s from sI_ref hI (i := 9) (by decide)) dX3_isBreak_135 ?_
                    refine xc_vi (As := [.int x1, .int x2, .ref (sa 9)]) (rest := []) xG Fx (sX3_isNamed l dC dI ad cI cZ sa sv lt_count lw_begin lw_end lw_depth lw_signed lw_led pr_written pr_within st_size tx_size tt_count tt_pieces tt_kinds lt_begins lt_marks st_word st_vowels tx_characters tt_begins tt_lengths tt_stemLengths tt_places tt_addresses tt_smalls tt_stems tt_slots tt_nexts x1 x2 9 h) (cwV 3 hts gX3_isBreak_X3_isNamed rfl rfl rfl hdX3_isNamed ⟨Nat.le_of_ble_eq_true rfl, Nat.le_of_ble_eq_true rfl⟩) (va_recv hK hP (ci := 2) (q0 := 2) rfl rfl) hK hP hD hS hA hI rfl hl.1 rfl (Nat.le_of_ble_eq_true rfl) dX3_isBreak_137 ⟨Nat.zero_le _, Nat.zero_le _⟩ (fun r_8 u H locs h hP hD hS => ?_)
                    refine lv_if_ne (tgt := 165) hx hb dX3_isBreak_140 (by decide) (fun c9 => ?_) (fun c9 => ?_)
                    · have h := h.1 c9
                      refine lv_iconst (v := 1) hx hb dX3_isBreak_165 (by decide) ?_
                      refine lv_goto (tgt := 170) hx hb dX3_isBreak_166 (by decide) ?_
                      exact W.zret (v := 1) hx hb hr (bN_nar bN1) (fun t ht hW => hQ 1 () t h (by rw [ht]; exact hP) (va_K.moved hW.alike hK) hD (hS.F ht)) hS.2.2 dX3_isBreak_170
                    · have h := h.2 c9
                      refine lv_aload_n hx hb dX3_isBreak_143 rfl (lv_at hl 1 rfl) ?_
                      refine lv_iload_n hx hb dX3_isBreak_144 rfl (lv_at hl 2 rfl) ?_
                      refine lv_iload_n hx hb dX3_isBreak_145 rfl (lv_at hl 3 rfl) ?_
                      refine va_ldcS hx hb hown (show vk_R RX3 146 "blockquote" (sa 10) s from sI_ref hI (i := 10) (by decide)) dX3_isBreak_146 ?_
                      refine xc_vi (As := [.int x1, .int x2, .ref (sa 10)]) (rest := []) xG Fx (sX3_isNamed l dC dI ad cI cZ sa sv lt_count lw_begin lw_end lw_depth lw_signed lw_led pr_written pr_within st_size tx_size tt_count tt_pieces tt_kinds lt_begins lt_marks st_word st_vowels tx_characters tt_begins tt_lengths tt_stemLengths tt_places tt_addresses tt_smalls tt_stems tt_slots tt_nexts x1 x2 10 h) (cwV 3 hts gX3_isBreak_X3_isNamed rfl rfl rfl hdX3_isNamed ⟨Nat.le_of_ble_eq_true rfl, Nat.le_of_ble_eq_true rfl⟩) (va_recv hK hP (ci := 2) (q0 := 2) rfl rfl) hK hP hD hS hA hI rfl hl.1 rfl (Nat.le_of_ble_eq_true rfl) dX3_isBreak_148 ⟨Nat.zero_le _, Nat.zero_le _⟩ (fun r_9 u H locs h hP hD hS => ?_)
                      refine lv_if_ne (tgt := 165) hx hb dX3_isBreak_151 (by decide) (fun c9 => ?_) (fun c9 => ?_)
                      · have h := h.1 c9
                        refine lv_iconst (v := 1) hx hb dX3_isBreak_165 (by decide) ?_
                        refine lv_goto (tgt := 170) hx hb dX3_isBreak_166 (by decide) ?_
                        exact W.zret (v := 1) hx hb hr (bN_nar bN1) (fun t ht hW => hQ 1 () t h (by rw [ht]; exact hP) (va_K.moved hW.alike hK) hD (hS.F ht)) hS.2.2 dX3_isBreak_170
                      · have h := h.2 c9
                        refine lv_aload_n hx hb dX3_isBreak_154 rfl (lv_at hl 1 rfl) ?_
                        refine lv_iload_n hx hb dX3_isBreak_155 rfl (lv_at hl 2 rfl) ?_
                        refine lv_iload_n hx hb dX3_isBreak_156 rfl (lv_at hl 3 rfl) ?_
                        refine va_ldcS hx hb hown (show vk_R RX3 148 "hr" (sa 11) s from sI_ref hI (i := 11) (by decide)) dX3_isBreak_157 ?_
                        refine xc_vi (As := [.int x1, .int x2, .ref (sa 11)]) (rest := []) xG Fx (sX3_isNamed l dC dI ad cI cZ sa sv lt_count lw_begin lw_end lw_depth lw_signed lw_led pr_written pr_within st_size tx_size tt_count tt_pieces tt_kinds lt_begins lt_marks st_word st_vowels tx_characters tt_begins tt_lengths tt_stemLengths tt_places tt_addresses tt_smalls tt_stems tt_slots tt_nexts x1 x2 11 h) (cwV 3 hts gX3_isBreak_X3_isNamed rfl rfl rfl hdX3_isNamed ⟨Nat.le_of_ble_eq_true rfl, Nat.le_of_ble_eq_true rfl⟩) (va_recv hK hP (ci := 2) (q0 := 2) rfl rfl) hK hP hD hS hA hI rfl hl.1 rfl (Nat.le_of_ble_eq_true rfl) dX3_isBreak_159 ⟨Nat.zero_le _, Nat.zero_le _⟩ (fun r_10 u H locs h hP hD hS => ?_)
                        refine lv_if_eq (tgt := 169) hx hb dX3_isBreak_162 (by decide) (fun c9 => ?_) (fun c9 => ?_)
                        · have h := h.1 c9
                          refine lv_iconst (v := 0) hx hb dX3_isBreak_169 (by decide) ?_
                          exact W.zret (v := 0) hx hb hr (bN_nar bN0) (fun t ht hW => hQ 0 () t h (by rw [ht]; exact hP) (va_K.moved hW.alike hK) hD (hS.F ht)) hS.2.2 dX3_isBreak_170
                        · have h := h.2 c9
                          refine lv_iconst (v := 1) hx hb dX3_isBreak_165 (by decide) ?_
                          refine lv_goto (tgt := 170) hx hb dX3_isBreak_166 (by decide) ?_
                          exact W.zret (v := 1) hx hb hr (bN_nar bN1) (fun t ht hW => hQ 1 () t h (by rw [ht]; exact hP) (va_K.moved hW.alike hK) hD (hS.F ht)) hS.2.2 dX3_isBreak_170
  have J47 : ∀ (H : Heap) (locs : List Loc) (ls : Array Slot), lv_has ls 5 [(0, .ref (ad 2)), (1, .int x1), (2, .int x2)] → va_P (dC, dI) vwCl (xW ad cI cZ lt_count lw_begin lw_end lw_depth lw_signed lw_led pr_written pr_within st_size tx_size tt_count tt_pieces tt_kinds lt_begins lt_marks st_word st_vowels tx_characters tt_begins tt_lengths tt_stemLengths tt_places tt_addresses tt_smalls tt_stems tt_slots tt_nexts) H → va_D A (xW ad cI cZ lt_count lw_begin lw_end lw_depth lw_signed lw_led pr_written pr_within st_size tx_size tt_count tt_pieces tt_kinds lt_begins lt_marks st_word st_vowels tx_characters tt_begins tt_lengths tt_stemLengths tt_places tt_addresses tt_smalls tt_stems tt_slots tt_nexts) → va_S A s.heap H locs → wjX3_isBreak_47 post tx_size tx_characters x1 x2  → W p l e (headSpec wsX3_isBreak ({ frames := 6, cells := 0, slots := 0, locals := 132 })).room s m ([.ref (ad 2), .int x1, .int x2] : List Value).toArray below meth c H locs 0 0 (MQ below Qc ([.ref (ad 2), .int x1, .int x2] : List Value).toArray s 0 0 A) (F0 m 47 ls []) := by
    intro  H locs ls hl hP hD hS h
    delta wjX3_isBreak_47 at h
    refine lv_iconst (v := 0) hx hb dX3_isBreak_47 (by decide) ?_
    exact J48 0 H locs ls (lv_sub hl [0, 1, 2] rfl) hP hD hS h
  intro H locs hP hD hS
  delta wpX3_isBreak at h
  refine lv_aload_n hx hb dX3_isBreak_0 rfl (lv_at hl 0 rfl) ?_
  refine va_get (D := (dC, dI)) (ci := 2) (v := .ref (ad 4)) (C := RX3) (T := TX3) (N := 3) hx hb hts inX3 hown hK hP 2 rfl rfl 0 (by decide) (hts (.fieldLink RX3 9 "MailWords$PageReader" "text" "LMailWords$Text;") (List.mem_of_getElem? (i := 1) rfl)) (fun _ h9 => h9) rfl dX3_isBreak_1 ?_
  refine lv_iload_n hx hb dX3_isBreak_4 rfl (lv_at hl 1 rfl) ?_
  refine lv_iconst (v := 1) hx hb dX3_isBreak_5 (by decide) ?_
  refine lv_iadd hx hb dX3_isBreak_6 ?_
  refine xc_vi (As := [.int (x1 + 1)]) (rest := []) xG Fx (sX5_get l dC dI ad cI cZ sa sv lt_count lw_begin lw_end lw_depth lw_signed lw_led pr_written pr_within st_size tx_size tt_count tt_pieces tt_kinds lt_begins lt_marks st_word st_vowels tx_characters tt_begins tt_lengths tt_stemLengths tt_places tt_addresses tt_smalls tt_stems tt_slots tt_nexts (x1 + 1) h) (cwV 1 hts gX3_isBreak_X5_get rfl rfl rfl hdX5_get ⟨Nat.le_of_ble_eq_true rfl, Nat.le_of_ble_eq_true rfl⟩) (va_recv hK hP (ci := 4) (q0 := 4) rfl rfl) hK hP hD hS hA hI rfl hl.1 rfl (Nat.le_of_ble_eq_true rfl) dX3_isBreak_7 ⟨Nat.zero_le _, Nat.zero_le _⟩ (fun r_11 u H locs h hP hD hS => ?_)
  refine lv_istore_n (lv' := [(3, .int r_11), (0, .ref (ad 2)), (1, .int x1), (2, .int x2)]) hx hb dX3_isBreak_10 rfl hl (by decide) rfl (fun ls hl => ?_)
  refine lv_iload_n hx hb dX3_isBreak_11 rfl (lv_at hl 3 rfl) ?_
  refine lv_iload_n hx hb dX3_isBreak_12 rfl (lv_at hl 2 rfl) ?_
  refine lv_isub hx hb dX3_isBreak_13 ?_
  refine lv_iconst (v := 2) hx hb dX3_isBreak_14 (by decide) ?_
  refine lv_icmp_ne (tgt := 47) hx hb dX3_isBreak_15 (by decide) (fun c9 => ?_) (fun c9 => ?_)
  · have h := h.1 c9
    exact J47  H locs ls (lv_sub hl [1, 2, 3] rfl) hP hD hS h
  · have h := h.2 c9
    refine lv_aload_n hx hb dX3_isBreak_18 rfl (lv_at hl 1 rfl) ?_
    refine va_get (D := (dC, dI)) (ci := 2) (v := .ref (ad 4)) (C := RX3) (T := TX3) (N := 3) hx hb hts inX3 hown hK hP 2 rfl rfl 0 (by decide) (hts (.fieldLink RX3 9 "MailWords$PageReader" "text" "LMailWords$Text;") (List.mem_of_getElem? (i := 1) rfl)) (fun _ h9 => h9) rfl dX3_isBreak_19 ?_
    refine lv_iload_n hx hb dX3_isBreak_22 rfl (lv_at hl 2 rfl) ?_
    refine va_ldcS hx hb hown (show vk_R RX3 128 "h" (sa 1) s from sI_ref hI (i := 1) (by decide)) dX3_isBreak_23 ?_
    refine xc_vi (As := [.int x1, .ref (sa 1)]) (rest := []) xG Fx (sX5_holdsInAnyCase l dC dI ad cI cZ sa sv lt_count lw_begin lw_end lw_depth lw_signed lw_led pr_written pr_within st_size tx_size tt_count tt_pieces tt_kinds lt_begins lt_marks st_word st_vowels tx_characters tt_begins tt_lengths tt_stemLengths tt_places tt_addresses tt_smalls tt_stems tt_slots tt_nexts x1 1 h) (cwV 2 hts gX3_isBreak_X5_holdsInAnyCase rfl rfl rfl hdX5_holdsInAnyCase ⟨Nat.le_of_ble_eq_true rfl, Nat.le_of_ble_eq_true rfl⟩) (va_recv hK hP (ci := 4) (q0 := 4) rfl rfl) hK hP hD hS hA hI rfl hl.1 rfl (Nat.le_of_ble_eq_true rfl) dX3_isBreak_25 ⟨Nat.zero_le _, Nat.zero_le _⟩ (fun r_12 u H locs h hP hD hS => ?_)
    refine lv_if_eq (tgt := 47) hx hb dX3_isBreak_28 (by decide) (fun c9 => ?_) (fun c9 => ?_)
    · have h := h.1 c9
      exact J47  H locs ls (lv_sub hl [1, 2, 3] rfl) hP hD hS h
    · have h := h.2 c9
      refine lv_iload_n hx hb dX3_isBreak_31 rfl (lv_at hl 0 rfl) ?_
      refine lv_bipush (v := 49) hx hb dX3_isBreak_32 (by decide) ?_
      refine lv_icmp_lt (tgt := 47) hx hb dX3_isBreak_34 (by decide) (fun c9 => ?_) (fun c9 => ?_)
      · have h := h.1 c9
        exact J47  H locs ls (lv_sub hl [1, 2, 3] rfl) hP hD hS h
      · have h := h.2 c9
        refine lv_iload_n hx hb dX3_isBreak_37 rfl (lv_at hl 0 rfl) ?_
        refine lv_bipush (v := 54) hx hb dX3_isBreak_38 (by decide) ?_
        refine lv_icmp_gt (tgt := 47) hx hb dX3_isBreak_40 (by decide) (fun c9 => ?_) (fun c9 => ?_)
        · have h := h.1 c9
          exact J47  H locs ls (lv_sub hl [1, 2, 3] rfl) hP hD hS h
        · have h := h.2 c9
          refine lv_iconst (v := 1) hx hb dX3_isBreak_43 (by decide) ?_
          refine lv_goto (tgt := 48) hx hb dX3_isBreak_44 (by decide) ?_
          exact J48 1 H locs ls (lv_sub hl [1, 2, 3] rfl) hP hD hS h
set_option maxHeartbeats 4000000 in
set_option maxRecDepth 100000 in
theorem sX3_writeBlank (l : Launch) (dC : Nat → ClassId) (dI : Nat → Nat → Nat) (ad : Nat → Nat) (cI cZ : ClassId) (sa sv : Nat → Nat) (lt_count : Int32) (lw_begin : Int32) (lw_end : Int32) (lw_depth : Int32) (lw_signed : Int32) (lw_led : Int32) (pr_written : Int32) (pr_within : Int32) (st_size : Int32) (tx_size : Int32) (tt_count : Int32) (tt_pieces : Int32) (tt_kinds : Int32) (lt_begins : Nat → Int32) (lt_marks : Nat → Int32) (st_word : Nat → Int32) (st_vowels : Nat → Int32) (tx_characters : Nat → Int32) (tt_begins : Nat → Int32) (tt_lengths : Nat → Int32) (tt_stemLengths : Nat → Int32) (tt_places : Nat → Int32) (tt_addresses : Nat → Int32) (tt_smalls : Nat → Int32) (tt_stems : Nat → Int32) (tt_slots : Nat → Int32) (tt_nexts : Nat → Int32) (x1 : Int32) {post : Int32 → (Nat → Int32) → Prop} (h : wpX3_writeBlank post pr_written pr_within tx_size tx_characters x1) : xMv l (dC, dI) vwCl [(cI, .int), (cZ, .boolean)] (sI sa sv) yX3_writeBlank wsX3_writeBlank ({ frames := 2, cells := 0, slots := 0, locals := 43 }) (xW ad cI cZ lt_count lw_begin lw_end lw_depth lw_signed lw_led pr_written pr_within st_size tx_size tt_count tt_pieces tt_kinds lt_begins lt_marks st_word st_vowels tx_characters tt_begins tt_lengths tt_stemLengths tt_places tt_addresses tt_smalls tt_stems tt_slots tt_nexts) [.ref (ad 2), .int x1] (fun u : Int32 × (Nat → Int32) => post u.1 u.2) (fun u : Int32 × (Nat → Int32) => (xW ad cI cZ lt_count lw_begin lw_end lw_depth lw_signed lw_led u.1 pr_within st_size tx_size tt_count tt_pieces tt_kinds lt_begins lt_marks st_word st_vowels u.2 tt_begins tt_lengths tt_stemLengths tt_places tt_addresses tt_smalls tt_stems tt_slots tt_nexts)) := by
  intro sz
  refine Met.ofW (cc := cX3_writeBlank) (maxL := 2) (ret := none) (by decide) rfl ?_
  intro p e s m args below meth c s₁ B hml hv
  obtain ⟨rfl, hsz, hP, hK, hD0, hI⟩ := hv
  have hx := B.exec
  have hb := B.bytes
  have hr := B.returns
  have hts := atoms_spec (ws := wsX3_writeBlank) B.pre
  have hown : s.vm.findClass RX3 = some m.cls := findClass_of_methodNamed B.named
  have hlocks := B.notSynchronized
  subst hsz
  have hD := hD0.self (sz := s.heap.size)
  generalize hAe : va_A (xW ad cI cZ lt_count lw_begin lw_end lw_depth lw_signed lw_led pr_written pr_within st_size tx_size tt_count tt_pieces tt_kinds lt_begins lt_marks st_word st_vowels tx_characters tt_begins tt_lengths tt_stemLengths tt_places tt_addresses tt_smalls tt_stems tt_slots tt_nexts) s.heap.size = A at hD hI ⊢
  have hA : ∀ q : Nat, s.heap.size ≤ q → A q := fun q h => by rw [← hAe]; exact Or.inr h
  have hS : va_S A s.heap s.heap [] := va_S.rf
  have Fx : CallFix p m c cX3_writeBlank 2 s ([.ref (ad 2), .int x1] : List Value).toArray wsX3_writeBlank RX3 := ⟨hx, hb, hml, hown, hts⟩
  have hQ : ∀ (u : Int32 × (Nat → Int32)) (t : State), (fun u : Int32 × (Nat → Int32) => post u.1 u.2) u → va_P (dC, dI) vwCl ((fun u : Int32 × (Nat → Int32) => (xW ad cI cZ lt_count lw_begin lw_end lw_depth lw_signed lw_led u.1 pr_within st_size tx_size tt_count tt_pieces tt_kinds lt_begins lt_marks st_word st_vowels u.2 tt_begins tt_lengths tt_stemLengths tt_places tt_addresses tt_smalls tt_stems tt_slots tt_nexts)) u) t.heap → va_K (dC, dI) vwCl [(cI, .int), (cZ, .boolean)] t → va_D A ((fun u : Int32 × (Nat → Int32) => (xW ad cI cZ lt_count lw_begin lw_end lw_depth lw_signed lw_led u.1 pr_within st_size tx_size tt_count tt_pieces tt_kinds lt_begins lt_marks st_word st_vowels u.2 tt_begins tt_lengths tt_stemLengths tt_places tt_addresses tt_smalls tt_stems tt_slots tt_nexts)) u) → va_F A s t → (va_Qv (fun u : Int32 × (Nat → Int32) => post u.1 u.2) (xB (dC, dI) vwCl [(cI, .int), (cZ, .boolean)] A (fun u : Int32 × (Nat → Int32) => (xW ad cI cZ lt_count lw_begin lw_end lw_depth lw_signed lw_led u.1 pr_within st_size tx_size tt_count tt_pieces tt_kinds lt_begins lt_marks st_word st_vowels u.2 tt_begins tt_lengths tt_stemLengths tt_places tt_addresses tt_smalls tt_stems tt_slots tt_nexts))) A) ([.ref (ad 2), .int x1] : List Value).toArray s (.returned none) t := fun u t h1 h2 h3 h4 h5 => ⟨⟨u, rfl, h1, h2, h3, h4⟩, h5⟩
  generalize (va_Qv (fun u : Int32 × (Nat → Int32) => post u.1 u.2) (xB (dC, dI) vwCl [(cI, .int), (cZ, .boolean)] A (fun u : Int32 × (Nat → Int32) => (xW ad cI cZ lt_count lw_begin lw_end lw_depth lw_signed lw_led u.1 pr_within st_size tx_size tt_count tt_pieces tt_kinds lt_begins lt_marks st_word st_vowels u.2 tt_begins tt_lengths tt_stemLengths tt_places tt_addresses tt_smalls tt_stems tt_slots tt_nexts))) A) = Qc at hQ ⊢
  have hl := lv_entry ([.ref (ad 2), .int x1]) (n := 2) (Nat.le_of_ble_eq_true rfl)
  rw [lg_entry_eq]
  generalize (lg_sl ([.ref (ad 2), .int x1]) ++ List.replicate (2 - (lg_sl ([.ref (ad 2), .int x1])).length) Slot.unset).toArray = ls at hl ⊢
  have hl : lv_has ls 2 [(0, .ref (ad 2)), (1, .int x1)] := hl
  refine (fun (key : ∀ (H : Heap) (locs : List Loc), va_P (dC, dI) vwCl (xW ad cI cZ lt_count lw_begin lw_end lw_depth lw_signed lw_led pr_written pr_within st_size tx_size tt_count tt_pieces tt_kinds lt_begins lt_marks st_word st_vowels tx_characters tt_begins tt_lengths tt_stemLengths tt_places tt_addresses tt_smalls tt_stems tt_slots tt_nexts) H → va_D A (xW ad cI cZ lt_count lw_begin lw_end lw_depth lw_signed lw_led pr_written pr_within st_size tx_size tt_count tt_pieces tt_kinds lt_begins lt_marks st_word st_vowels tx_characters tt_begins tt_lengths tt_stemLengths tt_places tt_addresses tt_smalls tt_stems tt_slots tt_nexts) → va_S A s.heap H locs → W p l e (headSpec wsX3_writeBlank ({ frames := 2, cells := 0, slots := 0, locals := 43 })).room s m ([.ref (ad 2), .int x1] : List Value).toArray below meth c H locs 0 0 (MQ below Qc ([.ref (ad 2), .int x1] : List Value).toArray s 0 0 A) (F0 m 0 ls [])) => key _ _ hP hD hS) ?_
  have inX3 : ∀ w ∈ wsX30, w ∈ wsX3_writeBlank := (fun _ h9 => List.mem_cons_of_mem _ (List.mem_append_left _ (List.mem_append_right _ h9)))
  intro H locs hP hD hS
  delta wpX3_writeBlank at h
  refine lv_aload_n hx hb dX3_writeBlank_0 rfl (lv_at hl 0 rfl) ?_
  refine va_get (D := (dC, dI)) (ci := 2) (v := .int pr_within) (C := RX3) (T := TX3) (N := 3) hx hb hts inX3 hown hK hP 2 rfl rfl 2 (by decide) (hts (.fieldLink RX3 19 "MailWords$PageReader" "within" "Z") (List.mem_of_getElem? (i := 1) rfl)) (fun _ h9 => h9) rfl dX3_writeBlank_1 ?_
  refine lv_if_eq (tgt := 21) hx hb dX3_writeBlank_4 (by decide) (fun c9 => ?_) (fun c9 => ?_)
  · have h := h.1 c9
    refine lv_aload_n hx hb dX3_writeBlank_21 rfl (lv_at hl 0 rfl) ?_
    refine va_get (D := (dC, dI)) (ci := 2) (v := .int pr_written) (C := RX3) (T := TX3) (N := 3) hx hb hts inX3 hown hK hP 2 rfl rfl 1 (by decide) (hts (.fieldLink RX3 15 "MailWords$PageReader" "written" "I") (List.mem_of_getElem? (i := 2) rfl)) (fun _ h9 => h9) rfl dX3_writeBlank_22 ?_
    refine lv_if_le (tgt := 52) hx hb dX3_writeBlank_25 (by decide) (fun c9 => ?_) (fun c9 => ?_)
    · have h := h.1 c9
      exact W.vret hx hb hr (fun t ht hW => hQ (pr_written, tx_characters) t h (by rw [ht]; exact hP) (va_K.moved hW.alike hK) hD (hS.F ht)) hS.2.2 dX3_writeBlank_52
    · have h := h.2 c9
      refine lv_aload_n hx hb dX3_writeBlank_28 rfl (lv_at hl 0 rfl) ?_
      refine lv_bipush (v := 32) hx hb dX3_writeBlank_29 (by decide) ?_
      refine xc_vi (As := [.int 32]) (rest := []) xG Fx (sX3_lastIs l dC dI ad cI cZ sa sv lt_count lw_begin lw_end lw_depth lw_signed lw_led pr_written pr_within st_size tx_size tt_count tt_pieces tt_kinds lt_begins lt_marks st_word st_vowels tx_characters tt_begins tt_lengths tt_stemLengths tt_places tt_addresses tt_smalls tt_stems tt_slots tt_nexts 32 h) (cwV 1 hts gX3_writeBlank_X3_lastIs rfl rfl rfl hdX3_lastIs ⟨Nat.le_of_ble_eq_true rfl, Nat.le_of_ble_eq_true rfl⟩) (va_recv hK hP (ci := 2) (q0 := 2) rfl rfl) hK hP hD hS hA hI rfl hl.1 rfl (Nat.le_of_ble_eq_true rfl) dX3_writeBlank_31 ⟨Nat.zero_le _, Nat.zero_le _⟩ (fun r_1 u H locs h hP hD hS => ?_)
      refine lv_if_ne (tgt := 52) hx hb dX3_writeBlank_34 (by decide) (fun c9 => ?_) (fun c9 => ?_)
      · have h := h.1 c9
        exact W.vret hx hb hr (fun t ht hW => hQ (pr_written, tx_characters) t h (by rw [ht]; exact hP) (va_K.moved hW.alike hK) hD (hS.F ht)) hS.2.2 dX3_writeBlank_52
      · have h := h.2 c9
        refine lv_aload_n hx hb dX3_writeBlank_37 rfl (lv_at hl 0 rfl) ?_
        refine lv_bipush (v := 10) hx hb dX3_writeBlank_38 (by decide) ?_
        refine xc_vi (As := [.int 10]) (rest := []) xG Fx (sX3_lastIs l dC dI ad cI cZ sa sv lt_count lw_begin lw_end lw_depth lw_signed lw_led pr_written pr_within st_size tx_size tt_count tt_pieces tt_kinds lt_begins lt_marks st_word st_vowels tx_characters tt_begins tt_lengths tt_stemLengths tt_places tt_addresses tt_smalls tt_stems tt_slots tt_nexts 10 h) (cwV 1 hts gX3_writeBlank_X3_lastIs rfl rfl rfl hdX3_lastIs ⟨Nat.le_of_ble_eq_true rfl, Nat.le_of_ble_eq_true rfl⟩) (va_recv hK hP (ci := 2) (q0 := 2) rfl rfl) hK hP hD hS hA hI rfl hl.1 rfl (Nat.le_of_ble_eq_true rfl) dX3_writeBlank_40 ⟨Nat.zero_le _, Nat.zero_le _⟩ (fun r_2 u H locs h hP hD hS => ?_)
        refine lv_if_ne (tgt := 52) hx hb dX3_writeBlank_43 (by decide) (fun c9 => ?_) (fun c9 => ?_)
        · have h := h.1 c9
          exact W.vret hx hb hr (fun t ht hW => hQ (pr_written, tx_characters) t h (by rw [ht]; exact hP) (va_K.moved hW.alike hK) hD (hS.F ht)) hS.2.2 dX3_writeBlank_52
        · have h := h.2 c9
          refine lv_aload_n hx hb dX3_writeBlank_46 rfl (lv_at hl 0 rfl) ?_
          refine lv_bipush (v := 32) hx hb dX3_writeBlank_47 (by decide) ?_
          refine xc_vv (As := [.int 32]) (rest := []) xG Fx (sX3_write l dC dI ad cI cZ sa sv lt_count lw_begin lw_end lw_depth lw_signed lw_led pr_written pr_within st_size tx_size tt_count tt_pieces tt_kinds lt_begins lt_marks st_word st_vowels tx_characters tt_begins tt_lengths tt_stemLengths tt_places tt_addresses tt_smalls tt_stems tt_slots tt_nexts 32 h) (cwV 1 hts gX3_writeBlank_X3_write rfl rfl rfl hdX3_write ⟨Nat.le_of_ble_eq_true rfl, Nat.le_of_ble_eq_true rfl⟩) (va_recv hK hP (ci := 2) (q0 := 2) rfl rfl) hK hP hD hS hA hI rfl hl.1 rfl (Nat.le_of_ble_eq_true rfl) dX3_writeBlank_49 ⟨Nat.zero_le _, Nat.zero_le _⟩ (fun u H locs h hP hD hS => ?_)
          obtain ⟨pr_written_4, tx_characters_5⟩ := u
          have hP : va_P (dC, dI) vwCl (xW ad cI cZ lt_count lw_begin lw_end lw_depth lw_signed lw_led pr_written_4 pr_within st_size tx_size tt_count tt_pieces tt_kinds lt_begins lt_marks st_word st_vowels tx_characters_5 tt_begins tt_lengths tt_stemLengths tt_places tt_addresses tt_smalls tt_stems tt_slots tt_nexts) H := hP
          have hD : va_D A (xW ad cI cZ lt_count lw_begin lw_end lw_depth lw_signed lw_led pr_written_4 pr_within st_size tx_size tt_count tt_pieces tt_kinds lt_begins lt_marks st_word st_vowels tx_characters_5 tt_begins tt_lengths tt_stemLengths tt_places tt_addresses tt_smalls tt_stems tt_slots tt_nexts) := hD
          exact W.vret hx hb hr (fun t ht hW => hQ (pr_written_4, tx_characters_5) t h (by rw [ht]; exact hP) (va_K.moved hW.alike hK) hD (hS.F ht)) hS.2.2 dX3_writeBlank_52
  · have h := h.2 c9
    refine lv_iload_n hx hb dX3_writeBlank_7 rfl (lv_at hl 1 rfl) ?_
    refine lv_bipush (v := 13) hx hb dX3_writeBlank_8 (by decide) ?_
    refine lv_icmp_eq (tgt := 52) hx hb dX3_writeBlank_10 (by decide) (fun c9 => ?_) (fun c9 => ?_)
    · have h := h.1 c9
      exact W.vret hx hb hr (fun t ht hW => hQ (pr_written, tx_characters) t h (by rw [ht]; exact hP) (va_K.moved hW.alike hK) hD (hS.F ht)) hS.2.2 dX3_writeBlank_52
    · have h := h.2 c9
      refine lv_aload_n hx hb dX3_writeBlank_13 rfl (lv_at hl 0 rfl) ?_
      refine lv_iload_n hx hb dX3_writeBlank_14 rfl (lv_at hl 1 rfl) ?_
      refine xc_vv (As := [.int x1]) (rest := []) xG Fx (sX3_write l dC dI ad cI cZ sa sv lt_count lw_begin lw_end lw_depth lw_signed lw_led pr_written pr_within st_size tx_size tt_count tt_pieces tt_kinds lt_begins lt_marks st_word st_vowels tx_characters tt_begins tt_lengths tt_stemLengths tt_places tt_addresses tt_smalls tt_stems tt_slots tt_nexts x1 h) (cwV 1 hts gX3_writeBlank_X3_write rfl rfl rfl hdX3_write ⟨Nat.le_of_ble_eq_true rfl, Nat.le_of_ble_eq_true rfl⟩) (va_recv hK hP (ci := 2) (q0 := 2) rfl rfl) hK hP hD hS hA hI rfl hl.1 rfl (Nat.le_of_ble_eq_true rfl) dX3_writeBlank_15 ⟨Nat.zero_le _, Nat.zero_le _⟩ (fun u H locs h hP hD hS => ?_)
      obtain ⟨pr_written_7, tx_characters_8⟩ := u
      have hP : va_P (dC, dI) vwCl (xW ad cI cZ lt_count lw_begin lw_end lw_depth lw_signed lw_led pr_written_7 pr_within st_size tx_size tt_count tt_pieces tt_kinds lt_begins lt_marks st_word st_vowels tx_characters_8 tt_begins tt_lengths tt_stemLengths tt_places tt_addresses tt_smalls tt_stems tt_slots tt_nexts) H := hP
      have hD : va_D A (xW ad cI cZ lt_count lw_begin lw_end lw_depth lw_signed lw_led pr_written_7 pr_within st_size tx_size tt_count tt_pieces tt_kinds lt_begins lt_marks st_word st_vowels tx_characters_8 tt_begins tt_lengths tt_stemLengths tt_places tt_addresses tt_smalls tt_stems tt_slots tt_nexts) := hD
      refine lv_goto (tgt := 52) hx hb dX3_writeBlank_18 (by decide) ?_
      exact W.vret hx hb hr (fun t ht hW => hQ (pr_written_7, tx_characters_8) t h (by rw [ht]; exact hP) (va_K.moved hW.alike hK) hD (hS.F ht)) hS.2.2 dX3_writeBlank_52
set_option maxHeartbeats 4000000 in
set_option maxRecDepth 100000 in
theorem sX3_endingTag (l : Launch) (dC : Nat → ClassId) (dI : Nat → Nat → Nat) (ad : Nat → Nat) (cI cZ : ClassId) (sa sv : Nat → Nat) (lt_count : Int32) (lw_begin : Int32) (lw_end : Int32) (lw_depth : Int32) (lw_signed : Int32) (lw_led : Int32) (pr_written : Int32) (pr_within : Int32) (st_size : Int32) (tx_size : Int32) (tt_count : Int32) (tt_pieces : Int32) (tt_kinds : Int32) (lt_begins : Nat → Int32) (lt_marks : Nat → Int32) (st_word : Nat → Int32) (st_vowels : Nat → Int32) (tx_characters : Nat → Int32) (tt_begins : Nat → Int32) (tt_lengths : Nat → Int32) (tt_stemLengths : Nat → Int32) (tt_places : Nat → Int32) (tt_addresses : Nat → Int32) (tt_smalls : Nat → Int32) (tt_stems : Nat → Int32) (tt_slots : Nat → Int32) (tt_nexts : Nat → Int32) (x1 : Nat) (x2 : Int32) {post : Int32 → Prop} (h : wpX3_endingTag post tx_size tx_characters x1 x2) : xMi l (dC, dI) vwCl [(cI, .int), (cZ, .boolean)] (sI sa sv) yX3_endingTag wsX3_endingTag ({ frames := 5, cells := 0, slots := 0, locals := 109 }) (xW ad cI cZ lt_count lw_begin lw_end lw_depth lw_signed lw_led pr_written pr_within st_size tx_size tt_count tt_pieces tt_kinds lt_begins lt_marks st_word st_vowels tx_characters tt_begins tt_lengths tt_stemLengths tt_places tt_addresses tt_smalls tt_stems tt_slots tt_nexts) [.ref (ad 2), .ref (sa x1), .int x2] (fun (r : Int32) (u : Unit) => post r ) (fun u : Unit => (xW ad cI cZ lt_count lw_begin lw_end lw_depth lw_signed lw_led pr_written pr_within st_size tx_size tt_count tt_pieces tt_kinds lt_begins lt_marks st_word st_vowels tx_characters tt_begins tt_lengths tt_stemLengths tt_places tt_addresses tt_smalls tt_stems tt_slots tt_nexts)) := by
  intro sz
  refine Met.ofW (cc := cX3_endingTag) (maxL := 4) (ret := (some .int)) (by decide) rfl ?_
  intro p e s m args below meth c s₁ B hml hv
  obtain ⟨rfl, hsz, hP, hK, hD0, hI⟩ := hv
  have hx := B.exec
  have hb := B.bytes
  have hr := B.returns
  have hts := atoms_spec (ws := wsX3_endingTag) B.pre
  have hown : s.vm.findClass RX3 = some m.cls := findClass_of_methodNamed B.named
  have hlocks := B.notSynchronized
  subst hsz
  have hD := hD0.self (sz := s.heap.size)
  generalize hAe : va_A (xW ad cI cZ lt_count lw_begin lw_end lw_depth lw_signed lw_led pr_written pr_within st_size tx_size tt_count tt_pieces tt_kinds lt_begins lt_marks st_word st_vowels tx_characters tt_begins tt_lengths tt_stemLengths tt_places tt_addresses tt_smalls tt_stems tt_slots tt_nexts) s.heap.size = A at hD hI ⊢
  have hA : ∀ q : Nat, s.heap.size ≤ q → A q := fun q h => by rw [← hAe]; exact Or.inr h
  have hS : va_S A s.heap s.heap [] := va_S.rf
  have Fx : CallFix p m c cX3_endingTag 4 s ([.ref (ad 2), .ref (sa x1), .int x2] : List Value).toArray wsX3_endingTag RX3 := ⟨hx, hb, hml, hown, hts⟩
  have hQ : ∀ (r : Int32) (u : Unit) (t : State), (fun (r : Int32) (u : Unit) => post r ) r u → va_P (dC, dI) vwCl ((fun u : Unit => (xW ad cI cZ lt_count lw_begin lw_end lw_depth lw_signed lw_led pr_written pr_within st_size tx_size tt_count tt_pieces tt_kinds lt_begins lt_marks st_word st_vowels tx_characters tt_begins tt_lengths tt_stemLengths tt_places tt_addresses tt_smalls tt_stems tt_slots tt_nexts)) u) t.heap → va_K (dC, dI) vwCl [(cI, .int), (cZ, .boolean)] t → va_D A ((fun u : Unit => (xW ad cI cZ lt_count lw_begin lw_end lw_depth lw_signed lw_led pr_written pr_within st_size tx_size tt_count tt_pieces tt_kinds lt_begins lt_marks st_word st_vowels tx_characters tt_begins tt_lengths tt_stemLengths tt_places tt_addresses tt_smalls tt_stems tt_slots tt_nexts)) u) → va_F A s t → (va_Qi (fun (r : Int32) (u : Unit) => post r ) (xB (dC, dI) vwCl [(cI, .int), (cZ, .boolean)] A (fun u : Unit => (xW ad cI cZ lt_count lw_begin lw_end lw_depth lw_signed lw_led pr_written pr_within st_size tx_size tt_count tt_pieces tt_kinds lt_begins lt_marks st_word st_vowels tx_characters tt_begins tt_lengths tt_stemLengths tt_places tt_addresses tt_smalls tt_stems tt_slots tt_nexts))) A) ([.ref (ad 2), .ref (sa x1), .int x2] : List Value).toArray s (.returned (some (.int r))) t := fun r u t h1 h2 h3 h4 h5 => ⟨⟨r, u, rfl, h1, h2, h3, h4⟩, h5⟩
  generalize (va_Qi (fun (r : Int32) (u : Unit) => post r ) (xB (dC, dI) vwCl [(cI, .int), (cZ, .boolean)] A (fun u : Unit => (xW ad cI cZ lt_count lw_begin lw_end lw_depth lw_signed lw_led pr_written pr_within st_size tx_size tt_count tt_pieces tt_kinds lt_begins lt_marks st_word st_vowels tx_characters tt_begins tt_lengths tt_stemLengths tt_places tt_addresses tt_smalls tt_stems tt_slots tt_nexts))) A) = Qc at hQ ⊢
  have hl := lv_entry ([.ref (ad 2), .ref (sa x1), .int x2]) (n := 4) (Nat.le_of_ble_eq_true rfl)
  rw [lg_entry_eq]
  generalize (lg_sl ([.ref (ad 2), .ref (sa x1), .int x2]) ++ List.replicate (4 - (lg_sl ([.ref (ad 2), .ref (sa x1), .int x2])).length) Slot.unset).toArray = ls at hl ⊢
  have hl : lv_has ls 4 [(0, .ref (ad 2)), (1, .ref (sa x1)), (2, .int x2)] := hl
  refine (fun (key : ∀ (H : Heap) (locs : List Loc), va_P (dC, dI) vwCl (xW ad cI cZ lt_count lw_begin lw_end lw_depth lw_signed lw_led pr_written pr_within st_size tx_size tt_count tt_pieces tt_kinds lt_begins lt_marks st_word st_vowels tx_characters tt_begins tt_lengths tt_stemLengths tt_places tt_addresses tt_smalls tt_stems tt_slots tt_nexts) H → va_D A (xW ad cI cZ lt_count lw_begin lw_end lw_depth lw_signed lw_led pr_written pr_within st_size tx_size tt_count tt_pieces tt_kinds lt_begins lt_marks st_word st_vowels tx_characters tt_begins tt_lengths tt_stemLengths tt_places tt_addresses tt_smalls tt_stems tt_slots tt_nexts) → va_S A s.heap H locs → W p l e (headSpec wsX3_endingTag ({ frames := 5, cells := 0, slots := 0, locals := 109 })).room s m ([.ref (ad 2), .ref (sa x1), .int x2] : List Value).toArray below meth c H locs 0 0 (MQ below Qc ([.ref (ad 2), .ref (sa x1), .int x2] : List Value).toArray s 0 0 A) (F0 m 0 ls [])) => key _ _ hP hD hS) ?_
  have inX3 : ∀ w ∈ wsX30, w ∈ wsX3_endingTag := (fun _ h9 => List.mem_cons_of_mem _ (List.mem_append_left _ (List.mem_append_right _ h9)))
  have L2 : ∀ (n : Nat) (x3 : Int32) (H : Heap) (locs : List Loc) (ls : Array Slot), lv_has ls 4 [(0, .ref (ad 2)), (1, .ref (sa x1)), (3, .int x3)] → va_P (dC, dI) vwCl (xW ad cI cZ lt_count lw_begin lw_end lw_depth lw_signed lw_led pr_written pr_within st_size tx_size tt_count tt_pieces tt_kinds lt_begins lt_marks st_word st_vowels tx_characters tt_begins tt_lengths tt_stemLengths tt_places tt_addresses tt_smalls tt_stems tt_slots tt_nexts) H → va_D A (xW ad cI cZ lt_count lw_begin lw_end lw_depth lw_signed lw_led pr_written pr_within st_size tx_size tt_count tt_pieces tt_kinds lt_begins lt_marks st_word st_vowels tx_characters tt_begins tt_lengths tt_stemLengths tt_places tt_addresses tt_smalls tt_stems tt_slots tt_nexts) → va_S A s.heap H locs → wlX3_endingTag_2 post tx_size tx_characters x1 x2 n x3 → W p l e (headSpec wsX3_endingTag ({ frames := 5, cells := 0, slots := 0, locals := 109 })).room s m ([.ref (ad 2), .ref (sa x1), .int x2] : List Value).toArray below meth c H locs 0 0 (MQ below Qc ([.ref (ad 2), .ref (sa x1), .int x2] : List Value).toArray s 0 0 A) (F0 m 2 ls []) := by
    intro n
    induction n with
    | zero => intro x3 H locs ls _ _ _ _ h; exact absurd h (fun z => z)
    | succ n2 ih2 =>
      intro x3 H locs ls hl hP hD hS h
      have J78 : ∀ (x3 : Int32) (H : Heap) (locs : List Loc) (ls : Array Slot), lv_has ls 4 [(0, .ref (ad 2)), (1, .ref (sa x1)), (3, .int x3)] → va_P (dC, dI) vwCl (xW ad cI cZ lt_count lw_begin lw_end lw_depth lw_signed lw_led pr_written pr_within st_size tx_size tt_count tt_pieces tt_kinds lt_begins lt_marks st_word st_vowels tx_characters tt_begins tt_lengths tt_stemLengths tt_places tt_addresses tt_smalls tt_stems tt_slots tt_nexts) H → va_D A (xW ad cI cZ lt_count lw_begin lw_end lw_depth lw_signed lw_led pr_written pr_within st_size tx_size tt_count tt_pieces tt_kinds lt_begins lt_marks st_word st_vowels tx_characters tt_begins tt_lengths tt_stemLengths tt_places tt_addresses tt_smalls tt_stems tt_slots tt_nexts) → va_S A s.heap H locs → wjX3_endingTag_78 (fun x3 => wlX3_endingTag_2 post tx_size tx_characters x1 x2 n2 x3) post tx_size tx_characters x1 x2 x3 → W p l e (headSpec wsX3_endingTag ({ frames := 5, cells := 0, slots := 0, locals := 109 })).room s m ([.ref (ad 2), .ref (sa x1), .int x2] : List Value).toArray below meth c H locs 0 0 (MQ below Qc ([.ref (ad 2), .ref (sa x1), .int x2] : List Value).toArray s 0 0 A) (F0 m 78 ls []) := by
        intro x3 H locs ls hl hP hD hS h
        delta wjX3_endingTag_78 at h
        obtain ⟨x3_1, ex3_1⟩ : ∃ y : Int32, y = x3 + 1 := ⟨_, rfl⟩
        have h := h x3_1 ex3_1
        refine lv_iinc (v := x3_1) (lv' := [(3, .int x3_1), (0, .ref (ad 2)), (1, .ref (sa x1))]) hx hb dX3_endingTag_78 hl (k := 2) rfl (by rw [ex3_1]; rfl) (by decide) rfl (fun ls hl => ?_)
        refine lv_goto (tgt := 2) hx hb dX3_endingTag_81 (by decide) ?_
        exact ih2 x3_1 H locs ls (lv_sub hl [1, 2, 0] rfl) hP hD hS h
      rw [wlX3_endingTag_2] at h
      refine lv_iload_n hx hb dX3_endingTag_2 rfl (lv_at hl 2 rfl) ?_
      refine lv_aload_n hx hb dX3_endingTag_3 rfl (lv_at hl 0 rfl) ?_
      refine va_get (D := (dC, dI)) (ci := 2) (v := .ref (ad 4)) (C := RX3) (T := TX3) (N := 3) hx hb hts inX3 hown hK hP 2 rfl rfl 0 (by decide) (hts (.fieldLink RX3 9 "MailWords$PageReader" "text" "LMailWords$Text;") (List.mem_of_getElem? (i := 1) rfl)) (fun _ h9 => h9) rfl dX3_endingTag_4 ?_
      refine xc_vi (As := []) (rest := [.int x3]) xG Fx (sX5_size l dC dI ad cI cZ sa sv lt_count lw_begin lw_end lw_depth lw_signed lw_led pr_written pr_within st_size tx_size tt_count tt_pieces tt_kinds lt_begins lt_marks st_word st_vowels tx_characters tt_begins tt_lengths tt_stemLengths tt_places tt_addresses tt_smalls tt_stems tt_slots tt_nexts h) (cwV 0 hts gX3_endingTag_X5_size rfl rfl rfl hdX5_size ⟨Nat.le_of_ble_eq_true rfl, Nat.le_of_ble_eq_true rfl⟩) (va_recv hK hP (ci := 4) (q0 := 4) rfl rfl) hK hP hD hS hA hI rfl hl.1 rfl (Nat.le_of_ble_eq_true rfl) dX3_endingTag_7 ⟨Nat.zero_le _, Nat.zero_le _⟩ (fun r_2 u H locs h hP hD hS => ?_)
      refine lv_icmp_ge (tgt := 84) hx hb dX3_endingTag_10 (by decide) (fun c9 => ?_) (fun c9 => ?_)
      · have h := h.1 c9
        refine lv_aload_n hx hb dX3_endingTag_84 rfl (lv_at hl 0 rfl) ?_
        refine va_get (D := (dC, dI)) (ci := 2) (v := .ref (ad 4)) (C := RX3) (T := TX3) (N := 3) hx hb hts inX3 hown hK hP 2 rfl rfl 0 (by decide) (hts (.fieldLink RX3 9 "MailWords$PageReader" "text" "LMailWords$Text;") (List.mem_of_getElem? (i := 1) rfl)) (fun _ h9 => h9) rfl dX3_endingTag_85 ?_
        refine xc_vi (As := []) (rest := []) xG Fx (sX5_size l dC dI ad cI cZ sa sv lt_count lw_begin lw_end lw_depth lw_signed lw_led pr_written pr_within st_size tx_size tt_count tt_pieces tt_kinds lt_begins lt_marks st_word st_vowels tx_characters tt_begins tt_lengths tt_stemLengths tt_places tt_addresses tt_smalls tt_stems tt_slots tt_nexts h) (cwV 0 hts gX3_endingTag_X5_size rfl rfl rfl hdX5_size ⟨Nat.le_of_ble_eq_true rfl, Nat.le_of_ble_eq_true rfl⟩) (va_recv hK hP (ci := 4) (q0 := 4) rfl rfl) hK hP hD hS hA hI rfl hl.1 rfl (Nat.le_of_ble_eq_true rfl) dX3_endingTag_88 ⟨Nat.zero_le _, Nat.zero_le _⟩ (fun r_3 u H locs h hP hD hS => ?_)
        exact W.iret (v := r_3) hx hb hr (fun t ht hW => hQ r_3 () t h (by rw [ht]; exact hP) (va_K.moved hW.alike hK) hD (hS.F ht)) hS.2.2 dX3_endingTag_91
      · have h := h.2 c9
        refine lv_aload_n hx hb dX3_endingTag_13 rfl (lv_at hl 0 rfl) ?_
        refine va_get (D := (dC, dI)) (ci := 2) (v := .ref (ad 4)) (C := RX3) (T := TX3) (N := 3) hx hb hts inX3 hown hK hP 2 rfl rfl 0 (by decide) (hts (.fieldLink RX3 9 "MailWords$PageReader" "text" "LMailWords$Text;") (List.mem_of_getElem? (i := 1) rfl)) (fun _ h9 => h9) rfl dX3_endingTag_14 ?_
        refine lv_iload_n hx hb dX3_endingTag_17 rfl (lv_at hl 2 rfl) ?_
        refine xc_vi (As := [.int x3]) (rest := []) xG Fx (sX5_get l dC dI ad cI cZ sa sv lt_count lw_begin lw_end lw_depth lw_signed lw_led pr_written pr_within st_size tx_size tt_count tt_pieces tt_kinds lt_begins lt_marks st_word st_vowels tx_characters tt_begins tt_lengths tt_stemLengths tt_places tt_addresses tt_smalls tt_stems tt_slots tt_nexts x3 h) (cwV 1 hts gX3_endingTag_X5_get rfl rfl rfl hdX5_get ⟨Nat.le_of_ble_eq_true rfl, Nat.le_of_ble_eq_true rfl⟩) (va_recv hK hP (ci := 4) (q0 := 4) rfl rfl) hK hP hD hS hA hI rfl hl.1 rfl (Nat.le_of_ble_eq_true rfl) dX3_endingTag_18 ⟨Nat.zero_le _, Nat.zero_le _⟩ (fun r_4 u H locs h hP hD hS => ?_)
        refine lv_bipush (v := 60) hx hb dX3_endingTag_21 (by decide) ?_
        refine lv_icmp_ne (tgt := 78) hx hb dX3_endingTag_23 (by decide) (fun c9 => ?_) (fun c9 => ?_)
        · have h := h.1 c9
          exact J78 x3 H locs ls (lv_sub hl [0, 1, 2] rfl) hP hD hS h
        · have h := h.2 c9
          refine lv_aload_n hx hb dX3_endingTag_26 rfl (lv_at hl 0 rfl) ?_
          refine va_get (D := (dC, dI)) (ci := 2) (v := .ref (ad 4)) (C := RX3) (T := TX3) (N := 3) hx hb hts inX3 hown hK hP 2 rfl rfl 0 (by decide) (hts (.fieldLink RX3 9 "MailWords$PageReader" "text" "LMailWords$Text;") (List.mem_of_getElem? (i := 1) rfl)) (fun _ h9 => h9) rfl dX3_endingTag_27 ?_
          refine lv_iload_n hx hb dX3_endingTag_30 rfl (lv_at hl 2 rfl) ?_
          refine lv_iconst (v := 1) hx hb dX3_endingTag_31 (by decide) ?_
          refine lv_iadd hx hb dX3_endingTag_32 ?_
          refine xc_vi (As := [.int (x3 + 1)]) (rest := []) xG Fx (sX5_get l dC dI ad cI cZ sa sv lt_count lw_begin lw_end lw_depth lw_signed lw_led pr_written pr_within st_size tx_size tt_count tt_pieces tt_kinds lt_begins lt_marks st_word st_vowels tx_characters tt_begins tt_lengths tt_stemLengths tt_places tt_addresses tt_smalls tt_stems tt_slots tt_nexts (x3 + 1) h) (cwV 1 hts gX3_endingTag_X5_get rfl rfl rfl hdX5_get ⟨Nat.le_of_ble_eq_true rfl, Nat.le_of_ble_eq_true rfl⟩) (va_recv hK hP (ci := 4) (q0 := 4) rfl rfl) hK hP hD hS hA hI rfl hl.1 rfl (Nat.le_of_ble_eq_true rfl) dX3_endingTag_33 ⟨Nat.zero_le _, Nat.zero_le _⟩ (fun r_5 u H locs h hP hD hS => ?_)
          refine lv_bipush (v := 47) hx hb dX3_endingTag_36 (by decide) ?_
          refine lv_icmp_ne (tgt := 78) hx hb dX3_endingTag_38 (by decide) (fun c9 => ?_) (fun c9 => ?_)
          · have h := h.1 c9
            exact J78 x3 H locs ls (lv_sub hl [0, 1, 2] rfl) hP hD hS h
          · have h := h.2 c9
            refine lv_aload_n hx hb dX3_endingTag_41 rfl (lv_at hl 0 rfl) ?_
            refine va_get (D := (dC, dI)) (ci := 2) (v := .ref (ad 4)) (C := RX3) (T := TX3) (N := 3) hx hb hts inX3 hown hK hP 2 rfl rfl 0 (by decide) (hts (.fieldLink RX3 9 "MailWords$PageReader" "text" "LMailWords$Text;") (List.mem_of_getElem? (i := 1) rfl)) (fun _ h9 => h9) rfl dX3_endingTag_42 ?_
            refine lv_iload_n hx hb dX3_endingTag_45 rfl (lv_at hl 2 rfl) ?_
            refine lv_iconst (v := 2) hx hb dX3_endingTag_46 (by decide) ?_
            refine lv_iadd hx hb dX3_endingTag_47 ?_
            refine lv_aload_n hx hb dX3_endingTag_48 rfl (lv_at hl 1 rfl) ?_
            refine xc_vi (As := [.int (x3 + 2), .ref (sa x1)]) (rest := []) xG Fx (sX5_holdsInAnyCase l dC dI ad cI cZ sa sv lt_count lw_begin lw_end lw_depth lw_signed lw_led pr_written pr_within st_size tx_size tt_count tt_pieces tt_kinds lt_begins lt_marks st_word st_vowels tx_characters tt_begins tt_lengths tt_stemLengths tt_places tt_addresses tt_smalls tt_stems tt_slots tt_nexts (x3 + 2) x1 h) (cwV 2 hts gX3_endingTag_X5_holdsInAnyCase rfl rfl rfl hdX5_holdsInAnyCase ⟨Nat.le_of_ble_eq_true rfl, Nat.le_of_ble_eq_true rfl⟩) (va_recv hK hP (ci := 4) (q0 := 4) rfl rfl) hK hP hD hS hA hI rfl hl.1 rfl (Nat.le_of_ble_eq_true rfl) dX3_endingTag_49 ⟨Nat.zero_le _, Nat.zero_le _⟩ (fun r_6 u H locs h hP hD hS => ?_)
            refine lv_if_eq (tgt := 78) hx hb dX3_endingTag_52 (by decide) (fun c9 => ?_) (fun c9 => ?_)
            · have h := h.1 c9
              exact J78 x3 H locs ls (lv_sub hl [0, 1, 2] rfl) hP hD hS h
            · have h := h.2 c9
              refine lv_aload_n hx hb dX3_endingTag_55 rfl (lv_at hl 0 rfl) ?_
              refine va_get (D := (dC, dI)) (ci := 2) (v := .ref (ad 4)) (C := RX3) (T := TX3) (N := 3) hx hb hts inX3 hown hK hP 2 rfl rfl 0 (by decide) (hts (.fieldLink RX3 9 "MailWords$PageReader" "text" "LMailWords$Text;") (List.mem_of_getElem? (i := 1) rfl)) (fun _ h9 => h9) rfl dX3_endingTag_56 ?_
              refine lv_iload_n hx hb dX3_endingTag_59 rfl (lv_at hl 2 rfl) ?_
              refine lv_iconst (v := 2) hx hb dX3_endingTag_60 (by decide) ?_
              refine lv_iadd hx hb dX3_endingTag_61 ?_
              refine lv_aload_n hx hb dX3_endingTag_62 rfl (lv_at hl 1 rfl) ?_
              have hs9 := h.1
              have h := h.2
              refine xc_vi (As := []) (rest := [.int (x3 + 2), .ref (ad 4)]) xG Fx (sJ0_length_8abf5 l dC dI ad cI cZ sa sv lt_count lw_begin lw_end lw_depth lw_signed lw_led pr_written pr_within st_size tx_size tt_count tt_pieces tt_kinds lt_begins lt_marks st_word st_vowels tx_characters tt_begins tt_lengths tt_stemLengths tt_places tt_addresses tt_smalls tt_stems tt_slots tt_nexts x1 h) (cwV 0 hts gX3_endingTag_J0_length_8abf5 rfl rfl rfl hdJ0_length_8abf5 ⟨Nat.le_of_ble_eq_true rfl, Nat.le_of_ble_eq_true rfl⟩) (sI_recv hI hS hs9) hK hP hD hS hA hI rfl hl.1 rfl (Nat.le_of_ble_eq_true rfl) dX3_endingTag_63 ⟨Nat.zero_le _, Nat.zero_le _⟩ (fun r_7 u H locs h hP hD hS => ?_)
              refine lv_iadd hx hb dX3_endingTag_66 ?_
              refine xc_vi (As := [.int ((x3 + 2) + r_7)]) (rest := []) xG Fx (sX5_get l dC dI ad cI cZ sa sv lt_count lw_begin lw_end lw_depth lw_signed lw_led pr_written pr_within st_size tx_size tt_count tt_pieces tt_kinds lt_begins lt_marks st_word st_vowels tx_characters tt_begins tt_lengths tt_stemLengths tt_places tt_addresses tt_smalls tt_stems tt_slots tt_nexts ((x3 + 2) + r_7) h) (cwV 1 hts gX3_endingTag_X5_get rfl rfl rfl hdX5_get ⟨Nat.le_of_ble_eq_true rfl, Nat.le_of_ble_eq_true rfl⟩) (va_recv hK hP (ci := 4) (q0 := 4) rfl rfl) hK hP hD hS hA hI rfl hl.1 rfl (Nat.le_of_ble_eq_true rfl) dX3_endingTag_67 ⟨Nat.zero_le _, Nat.zero_le _⟩ (fun r_8 u H locs h hP hD hS => ?_)
              refine xc_si (As := [.int r_8]) (rest := []) xG Fx (sX0_isLetterOrDigit l dC dI ad cI cZ sa sv lt_count lw_begin lw_end lw_depth lw_signed lw_led pr_written pr_within st_size tx_size tt_count tt_pieces tt_kinds lt_begins lt_marks st_word st_vowels tx_characters tt_begins tt_lengths tt_stemLengths tt_places tt_addresses tt_smalls tt_stems tt_slots tt_nexts r_8 h) (va_cwS 1 hts gX3_endingTag_X0_isLetterOrDigit rfl rfl rfl hdX0_isLetterOrDigit ⟨Nat.le_of_ble_eq_true rfl, Nat.le_of_ble_eq_true rfl⟩) hK hP hD hS hA hI rfl hl.1 rfl (Nat.le_of_ble_eq_true rfl) dX3_endingTag_70 ⟨Nat.zero_le _, Nat.zero_le _⟩ (fun r_9 u H locs h hP hD hS => ?_)
              refine lv_if_ne (tgt := 78) hx hb dX3_endingTag_73 (by decide) (fun c9 => ?_) (fun c9 => ?_)
              · have h := h.1 c9
                exact J78 x3 H locs ls (lv_sub hl [0, 1, 2] rfl) hP hD hS h
              · have h := h.2 c9
                refine lv_iload_n hx hb dX3_endingTag_76 rfl (lv_at hl 2 rfl) ?_
                exact W.iret (v := x3) hx hb hr (fun t ht hW => hQ x3 () t h (by rw [ht]; exact hP) (va_K.moved hW.alike hK) hD (hS.F ht)) hS.2.2 dX3_endingTag_77
  intro H locs hP hD hS
  delta wpX3_endingTag at h
  refine lv_iload_n hx hb dX3_endingTag_0 rfl (lv_at hl 2 rfl) ?_
  refine lv_istore_n (lv' := [(3, .int x2), (0, .ref (ad 2)), (1, .ref (sa x1)), (2, .int x2)]) hx hb dX3_endingTag_1 rfl hl (by decide) rfl (fun ls hl => ?_)
  obtain ⟨n, h⟩ := h
  exact L2  n x2 H locs ls (lv_sub hl [1, 2, 0] rfl) hP hD hS h
set_option maxHeartbeats 4000000 in
set_option maxRecDepth 100000 in
theorem sX3_behindHidden (l : Launch) (dC : Nat → ClassId) (dI : Nat → Nat → Nat) (ad : Nat → Nat) (cI cZ : ClassId) (sa sv : Nat → Nat) (lt_count : Int32) (lw_begin : Int32) (lw_end : Int32) (lw_depth : Int32) (lw_signed : Int32) (lw_led : Int32) (pr_written : Int32) (pr_within : Int32) (st_size : Int32) (tx_size : Int32) (tt_count : Int32) (tt_pieces : Int32) (tt_kinds : Int32) (lt_begins : Nat → Int32) (lt_marks : Nat → Int32) (st_word : Nat → Int32) (st_vowels : Nat → Int32) (tx_characters : Nat → Int32) (tt_begins : Nat → Int32) (tt_lengths : Nat → Int32) (tt_stemLengths : Nat → Int32) (tt_places : Nat → Int32) (tt_addresses : Nat → Int32) (tt_smalls : Nat → Int32) (tt_stems : Nat → Int32) (tt_slots : Nat → Int32) (tt_nexts : Nat → Int32) (x1 : Int32) (x2 : Int32) (x3 : Int32) {post : Int32 → Prop} (h : wpX3_behindHidden post tx_size tx_characters x1 x2 x3) : xMi l (dC, dI) vwCl [(cI, .int), (cZ, .boolean)] (sI sa sv) yX3_behindHidden wsX3_behindHidden ({ frames := 6, cells := 0, slots := 0, locals := 132 }) (xW ad cI cZ lt_count lw_begin lw_end lw_depth lw_signed lw_led pr_written pr_within st_size tx_size tt_count tt_pieces tt_kinds lt_begins lt_marks st_word st_vowels tx_characters tt_begins tt_lengths tt_stemLengths tt_places tt_addresses tt_smalls tt_stems tt_slots tt_nexts) [.ref (ad 2), .int x1, .int x2, .int x3] (fun (r : Int32) (u : Unit) => post r ) (fun u : Unit => (xW ad cI cZ lt_count lw_begin lw_end lw_depth lw_signed lw_led pr_written pr_within st_size tx_size tt_count tt_pieces tt_kinds lt_begins lt_marks st_word st_vowels tx_characters tt_begins tt_lengths tt_stemLengths tt_places tt_addresses tt_smalls tt_stems tt_slots tt_nexts)) := by
  intro sz
  refine Met.ofW (cc := cX3_behindHidden) (maxL := 4) (ret := (some .int)) (by decide) rfl ?_
  intro p e s m args below meth c s₁ B hml hv
  obtain ⟨rfl, hsz, hP, hK, hD0, hI⟩ := hv
  have hx := B.exec
  have hb := B.bytes
  have hr := B.returns
  have hts := atoms_spec (ws := wsX3_behindHidden) B.pre
  have hown : s.vm.findClass RX3 = some m.cls := findClass_of_methodNamed B.named
  have hlocks := B.notSynchronized
  subst hsz
  have hD := hD0.self (sz := s.heap.size)
  generalize hAe : va_A (xW ad cI cZ lt_count lw_begin lw_end lw_depth lw_signed lw_led pr_written pr_within st_size tx_size tt_count tt_pieces tt_kinds lt_begins lt_marks st_word st_vowels tx_characters tt_begins tt_lengths tt_stemLengths tt_places tt_addresses tt_smalls tt_stems tt_slots tt_nexts) s.heap.size = A at hD hI ⊢
  have hA : ∀ q : Nat, s.heap.size ≤ q → A q := fun q h => by rw [← hAe]; exact Or.inr h
  have hS : va_S A s.heap s.heap [] := va_S.rf
  have Fx : CallFix p m c cX3_behindHidden 4 s ([.ref (ad 2), .int x1, .int x2, .int x3] : List Value).toArray wsX3_behindHidden RX3 := ⟨hx, hb, hml, hown, hts⟩
  have hQ : ∀ (r : Int32) (u : Unit) (t : State), (fun (r : Int32) (u : Unit) => post r ) r u → va_P (dC, dI) vwCl ((fun u : Unit => (xW ad cI cZ lt_count lw_begin lw_end lw_depth lw_signed lw_led pr_written pr_within st_size tx_size tt_count tt_pieces tt_kinds lt_begins lt_marks st_word st_vowels tx_characters tt_begins tt_lengths tt_stemLengths tt_places tt_addresses tt_smalls tt_stems tt_slots tt_nexts)) u) t.heap → va_K (dC, dI) vwCl [(cI, .int), (cZ, .boolean)] t → va_D A ((fun u : Unit => (xW ad cI cZ lt_count lw_begin lw_end lw_depth lw_signed lw_led pr_written pr_within st_size tx_size tt_count tt_pieces tt_kinds lt_begins lt_marks st_word st_vowels tx_characters tt_begins tt_lengths tt_stemLengths tt_places tt_addresses tt_smalls tt_stems tt_slots tt_nexts)) u) → va_F A s t → (va_Qi (fun (r : Int32) (u : Unit) => post r ) (xB (dC, dI) vwCl [(cI, .int), (cZ, .boolean)] A (fun u : Unit => (xW ad cI cZ lt_count lw_begin lw_end lw_depth lw_signed lw_led pr_written pr_within st_size tx_size tt_count tt_pieces tt_kinds lt_begins lt_marks st_word st_vowels tx_characters tt_begins tt_lengths tt_stemLengths tt_places tt_addresses tt_smalls tt_stems tt_slots tt_nexts))) A) ([.ref (ad 2), .int x1, .int x2, .int x3] : List Value).toArray s (.returned (some (.int r))) t := fun r u t h1 h2 h3 h4 h5 => ⟨⟨r, u, rfl, h1, h2, h3, h4⟩, h5⟩
  generalize (va_Qi (fun (r : Int32) (u : Unit) => post r ) (xB (dC, dI) vwCl [(cI, .int), (cZ, .boolean)] A (fun u : Unit => (xW ad cI cZ lt_count lw_begin lw_end lw_depth lw_signed lw_led pr_written pr_within st_size tx_size tt_count tt_pieces tt_kinds lt_begins lt_marks st_word st_vowels tx_characters tt_begins tt_lengths tt_stemLengths tt_places tt_addresses tt_smalls tt_stems tt_slots tt_nexts))) A) = Qc at hQ ⊢
  have hl := lv_entry ([.ref (ad 2), .int x1, .int x2, .int x3]) (n := 4) (Nat.le_of_ble_eq_true rfl)
  rw [lg_entry_eq]
  generalize (lg_sl ([.ref (ad 2), .int x1, .int x2, .int x3]) ++ List.replicate (4 - (lg_sl ([.ref (ad 2), .int x1, .int x2, .int x3])).length) Slot.unset).toArray = ls at hl ⊢
  have hl : lv_has ls 4 [(0, .ref (ad 2)), (1, .int x1), (2, .int x2), (3, .int x3)] := hl
  refine (fun (key : ∀ (H : Heap) (locs : List Loc), va_P (dC, dI) vwCl (xW ad cI cZ lt_count lw_begin lw_end lw_depth lw_signed lw_led pr_written pr_within st_size tx_size tt_count tt_pieces tt_kinds lt_begins lt_marks st_word st_vowels tx_characters tt_begins tt_lengths tt_stemLengths tt_places tt_addresses tt_smalls tt_stems tt_slots tt_nexts) H → va_D A (xW ad cI cZ lt_count lw_begin lw_end lw_depth lw_signed lw_led pr_written pr_within st_size tx_size tt_count tt_pieces tt_kinds lt_begins lt_marks st_word st_vowels tx_characters tt_begins tt_lengths tt_stemLengths tt_places tt_addresses tt_smalls tt_stems tt_slots tt_nexts) → va_S A s.heap H locs → W p l e (headSpec wsX3_behindHidden ({ frames := 6, cells := 0, slots := 0, locals := 132 })).room s m ([.ref (ad 2), .int x1, .int x2, .int x3] : List Value).toArray below meth c H locs 0 0 (MQ below Qc ([.ref (ad 2), .int x1, .int x2, .int x3] : List Value).toArray s 0 0 A) (F0 m 0 ls [])) => key _ _ hP hD hS) ?_
  intro H locs hP hD hS
  delta wpX3_behindHidden at h
  refine lv_aload_n hx hb dX3_behindHidden_0 rfl (lv_at hl 0 rfl) ?_
  refine lv_iload_n hx hb dX3_behindHidden_1 rfl (lv_at hl 1 rfl) ?_
  refine lv_iload_n hx hb dX3_behindHidden_2 rfl (lv_at hl 2 rfl) ?_
  refine va_ldcS hx hb hown (show vk_R RX3 150 "script" (sa 14) s from sI_ref hI (i := 14) (by decide)) dX3_behindHidden_3 ?_
  refine xc_vi (As := [.int x1, .int x2, .ref (sa 14)]) (rest := []) xG Fx (sX3_isNamed l dC dI ad cI cZ sa sv lt_count lw_begin lw_end lw_depth lw_signed lw_led pr_written pr_within st_size tx_size tt_count tt_pieces tt_kinds lt_begins lt_marks st_word st_vowels tx_characters tt_begins tt_lengths tt_stemLengths tt_places tt_addresses tt_smalls tt_stems tt_slots tt_nexts x1 x2 14 h) (cwV 3 hts gX3_behindHidden_X3_isNamed rfl rfl rfl hdX3_isNamed ⟨Nat.le_of_ble_eq_true rfl, Nat.le_of_ble_eq_true rfl⟩) (va_recv hK hP (ci := 2) (q0 := 2) rfl rfl) hK hP hD hS hA hI rfl hl.1 rfl (Nat.le_of_ble_eq_true rfl) dX3_behindHidden_5 ⟨Nat.zero_le _, Nat.zero_le _⟩ (fun r_1 u H locs h hP hD hS => ?_)
  refine lv_if_eq (tgt := 19) hx hb dX3_behindHidden_8 (by decide) (fun c9 => ?_) (fun c9 => ?_)
  · have h := h.1 c9
    refine lv_aload_n hx hb dX3_behindHidden_19 rfl (lv_at hl 0 rfl) ?_
    refine lv_iload_n hx hb dX3_behindHidden_20 rfl (lv_at hl 1 rfl) ?_
    refine lv_iload_n hx hb dX3_behindHidden_21 rfl (lv_at hl 2 rfl) ?_
    refine va_ldcS hx hb hown (show vk_R RX3 155 "style" (sa 15) s from sI_ref hI (i := 15) (by decide)) dX3_behindHidden_22 ?_
    refine xc_vi (As := [.int x1, .int x2, .ref (sa 15)]) (rest := []) xG Fx (sX3_isNamed l dC dI ad cI cZ sa sv lt_count lw_begin lw_end lw_depth lw_signed lw_led pr_written pr_within st_size tx_size tt_count tt_pieces tt_kinds lt_begins lt_marks st_word st_vowels tx_characters tt_begins tt_lengths tt_stemLengths tt_places tt_addresses tt_smalls tt_stems tt_slots tt_nexts x1 x2 15 h) (cwV 3 hts gX3_behindHidden_X3_isNamed rfl rfl rfl hdX3_isNamed ⟨Nat.le_of_ble_eq_true rfl, Nat.le_of_ble_eq_true rfl⟩) (va_recv hK hP (ci := 2) (q0 := 2) rfl rfl) hK hP hD hS hA hI rfl hl.1 rfl (Nat.le_of_ble_eq_true rfl) dX3_behindHidden_24 ⟨Nat.zero_le _, Nat.zero_le _⟩ (fun r_2 u H locs h hP hD hS => ?_)
    refine lv_if_eq (tgt := 38) hx hb dX3_behindHidden_27 (by decide) (fun c9 => ?_) (fun c9 => ?_)
    · have h := h.1 c9
      refine lv_aload_n hx hb dX3_behindHidden_38 rfl (lv_at hl 0 rfl) ?_
      refine lv_iload_n hx hb dX3_behindHidden_39 rfl (lv_at hl 1 rfl) ?_
      refine lv_iload_n hx hb dX3_behindHidden_40 rfl (lv_at hl 2 rfl) ?_
      refine va_ldcS hx hb hown (show vk_R RX3 157 "title" (sa 16) s from sI_ref hI (i := 16) (by decide)) dX3_behindHidden_41 ?_
      refine xc_vi (As := [.int x1, .int x2, .ref (sa 16)]) (rest := []) xG Fx (sX3_isNamed l dC dI ad cI cZ sa sv lt_count lw_begin lw_end lw_depth lw_signed lw_led pr_written pr_within st_size tx_size tt_count tt_pieces tt_kinds lt_begins lt_marks st_word st_vowels tx_characters tt_begins tt_lengths tt_stemLengths tt_places tt_addresses tt_smalls tt_stems tt_slots tt_nexts x1 x2 16 h) (cwV 3 hts gX3_behindHidden_X3_isNamed rfl rfl rfl hdX3_isNamed ⟨Nat.le_of_ble_eq_true rfl, Nat.le_of_ble_eq_true rfl⟩) (va_recv hK hP (ci := 2) (q0 := 2) rfl rfl) hK hP hD hS hA hI rfl hl.1 rfl (Nat.le_of_ble_eq_true rfl) dX3_behindHidden_43 ⟨Nat.zero_le _, Nat.zero_le _⟩ (fun r_3 u H locs h hP hD hS => ?_)
      refine lv_if_eq (tgt := 59) hx hb dX3_behindHidden_46 (by decide) (fun c9 => ?_) (fun c9 => ?_)
      · have h := h.1 c9
        refine lv_iload_n hx hb dX3_behindHidden_59 rfl (lv_at hl 3 rfl) ?_
        exact W.iret (v := x3) hx hb hr (fun t ht hW => hQ x3 () t h (by rw [ht]; exact hP) (va_K.moved hW.alike hK) hD (hS.F ht)) hS.2.2 dX3_behindHidden_60
      · have h := h.2 c9
        refine lv_aload_n hx hb dX3_behindHidden_49 rfl (lv_at hl 0 rfl) ?_
        refine va_ldcS hx hb hown (show vk_R RX3 157 "title" (sa 16) s from sI_ref hI (i := 16) (by decide)) dX3_behindHidden_50 ?_
        refine lv_iload_n hx hb dX3_behindHidden_52 rfl (lv_at hl 3 rfl) ?_
        refine xc_vi (As := [.ref (sa 16), .int x3]) (rest := []) xG Fx (sX3_endingTag l dC dI ad cI cZ sa sv lt_count lw_begin lw_end lw_depth lw_signed lw_led pr_written pr_within st_size tx_size tt_count tt_pieces tt_kinds lt_begins lt_marks st_word st_vowels tx_characters tt_begins tt_lengths tt_stemLengths tt_places tt_addresses tt_smalls tt_stems tt_slots tt_nexts 16 x3 h) (cwV 2 hts gX3_behindHidden_X3_endingTag rfl rfl rfl hdX3_endingTag ⟨Nat.le_of_ble_eq_true rfl, Nat.le_of_ble_eq_true rfl⟩) (va_recv hK hP (ci := 2) (q0 := 2) rfl rfl) hK hP hD hS hA hI rfl hl.1 rfl (Nat.le_of_ble_eq_true rfl) dX3_behindHidden_53 ⟨Nat.zero_le _, Nat.zero_le _⟩ (fun r_4 u H locs h hP hD hS => ?_)
        refine lv_goto (tgt := 60) hx hb dX3_behindHidden_56 (by decide) ?_
        exact W.iret (v := r_4) hx hb hr (fun t ht hW => hQ r_4 () t h (by rw [ht]; exact hP) (va_K.moved hW.alike hK) hD (hS.F ht)) hS.2.2 dX3_behindHidden_60
    · have h := h.2 c9
      refine lv_aload_n hx hb dX3_behindHidden_30 rfl (lv_at hl 0 rfl) ?_
      refine va_ldcS hx hb hown (show vk_R RX3 155 "style" (sa 15) s from sI_ref hI (i := 15) (by decide)) dX3_behindHidden_31 ?_
      refine lv_iload_n hx hb dX3_behindHidden_33 rfl (lv_at hl 3 rfl) ?_
      refine xc_vi (As := [.ref (sa 15), .int x3]) (rest := []) xG Fx (sX3_endingTag l dC dI ad cI cZ sa sv lt_count lw_begin lw_end lw_depth lw_signed lw_led pr_written pr_within st_size tx_size tt_count tt_pieces tt_kinds lt_begins lt_marks st_word st_vowels tx_characters tt_begins tt_lengths tt_stemLengths tt_places tt_addresses tt_smalls tt_stems tt_slots tt_nexts 15 x3 h) (cwV 2 hts gX3_behindHidden_X3_endingTag rfl rfl rfl hdX3_endingTag ⟨Nat.le_of_ble_eq_true rfl, Nat.le_of_ble_eq_true rfl⟩) (va_recv hK hP (ci := 2) (q0 := 2) rfl rfl) hK hP hD hS hA hI rfl hl.1 rfl (Nat.le_of_ble_eq_true rfl) dX3_behindHidden_34 ⟨Nat.zero_le _, Nat.zero_le _⟩ (fun r_5 u H locs h hP hD hS => ?_)
      exact W.iret (v := r_5) hx hb hr (fun t ht hW => hQ r_5 () t h (by rw [ht]; exact hP) (va_K.moved hW.alike hK) hD (hS.F ht)) hS.2.2 dX3_behindHidden_37
  · have h := h.2 c9
    refine lv_aload_n hx hb dX3_behindHidden_11 rfl (lv_at hl 0 rfl) ?_
    refine va_ldcS hx hb hown (show vk_R RX3 150 "script" (sa 14) s from sI_ref hI (i := 14) (by decide)) dX3_behindHidden_12 ?_
    refine lv_iload_n hx hb dX3_behindHidden_14 rfl (lv_at hl 3 rfl) ?_
    refine xc_vi (As := [.ref (sa 14), .int x3]) (rest := []) xG Fx (sX3_endingTag l dC dI ad cI cZ sa sv lt_count lw_begin lw_end lw_depth lw_signed lw_led pr_written pr_within st_size tx_size tt_count tt_pieces tt_kinds lt_begins lt_marks st_word st_vowels tx_characters tt_begins tt_lengths tt_stemLengths tt_places tt_addresses tt_smalls tt_stems tt_slots tt_nexts 14 x3 h) (cwV 2 hts gX3_behindHidden_X3_endingTag rfl rfl rfl hdX3_endingTag ⟨Nat.le_of_ble_eq_true rfl, Nat.le_of_ble_eq_true rfl⟩) (va_recv hK hP (ci := 2) (q0 := 2) rfl rfl) hK hP hD hS hA hI rfl hl.1 rfl (Nat.le_of_ble_eq_true rfl) dX3_behindHidden_15 ⟨Nat.zero_le _, Nat.zero_le _⟩ (fun r_6 u H locs h hP hD hS => ?_)
    exact W.iret (v := r_6) hx hb hr (fun t ht hW => hQ r_6 () t h (by rw [ht]; exact hP) (va_K.moved hW.alike hK) hD (hS.F ht)) hS.2.2 dX3_behindHidden_18
set_option maxHeartbeats 4000000 in
set_option maxRecDepth 100000 in
theorem sX3_readTag (l : Launch) (dC : Nat → ClassId) (dI : Nat → Nat → Nat) (ad : Nat → Nat) (cI cZ : ClassId) (sa sv : Nat → Nat) (lt_count : Int32) (lw_begin : Int32) (lw_end : Int32) (lw_depth : Int32) (lw_signed : Int32) (lw_led : Int32) (pr_written : Int32) (pr_within : Int32) (st_size : Int32) (tx_size : Int32) (tt_count : Int32) (tt_pieces : Int32) (tt_kinds : Int32) (lt_begins : Nat → Int32) (lt_marks : Nat → Int32) (st_word : Nat → Int32) (st_vowels : Nat → Int32) (tx_characters : Nat → Int32) (tt_begins : Nat → Int32) (tt_lengths : Nat → Int32) (tt_stemLengths : Nat → Int32) (tt_places : Nat → Int32) (tt_addresses : Nat → Int32) (tt_smalls : Nat → Int32) (tt_stems : Nat → Int32) (tt_slots : Nat → Int32) (tt_nexts : Nat → Int32) (x1 : Int32) (x2 : Int32) {post : Int32 → Int32 → Int32 → (Nat → Int32) → Prop} (h : wpX3_readTag post pr_written pr_within tx_size tx_characters x1 x2) : xMi l (dC, dI) vwCl [(cI, .int), (cZ, .boolean)] (sI sa sv) yX3_readTag wsX3_readTag ({ frames := 7, cells := 0, slots := 0, locals := 156 }) (xW ad cI cZ lt_count lw_begin lw_end lw_depth lw_signed lw_led pr_written pr_within st_size tx_size tt_count tt_pieces tt_kinds lt_begins lt_marks st_word st_vowels tx_characters tt_begins tt_lengths tt_stemLengths tt_places tt_addresses tt_smalls tt_stems tt_slots tt_nexts) [.ref (ad 2), .int x1, .int x2] (fun (r : Int32) (u : Int32 × Int32 × (Nat → Int32)) => post r u.1 u.2.1 u.2.2) (fun u : Int32 × Int32 × (Nat → Int32) => (xW ad cI cZ lt_count lw_begin lw_end lw_depth lw_signed lw_led u.1 u.2.1 st_size tx_size tt_count tt_pieces tt_kinds lt_begins lt_marks st_word st_vowels u.2.2 tt_begins tt_lengths tt_stemLengths tt_places tt_addresses tt_smalls tt_stems tt_slots tt_nexts)) := by
  intro sz
  refine Met.ofW (cc := cX3_readTag) (maxL := 5) (ret := (some .int)) (by decide) rfl ?_
  intro p e s m args below meth c s₁ B hml hv
  obtain ⟨rfl, hsz, hP, hK, hD0, hI⟩ := hv
  have hx := B.exec
  have hb := B.bytes
  have hr := B.returns
  have hts := atoms_spec (ws := wsX3_readTag) B.pre
  have hown : s.vm.findClass RX3 = some m.cls := findClass_of_methodNamed B.named
  have hlocks := B.notSynchronized
  subst hsz
  have hD := hD0.self (sz := s.heap.size)
  generalize hAe : va_A (xW ad cI cZ lt_count lw_begin lw_end lw_depth lw_signed lw_led pr_written pr_within st_size tx_size tt_count tt_pieces tt_kinds lt_begins lt_marks st_word st_vowels tx_characters tt_begins tt_lengths tt_stemLengths tt_places tt_addresses tt_smalls tt_stems tt_slots tt_nexts) s.heap.size = A at hD hI ⊢
  have hA : ∀ q : Nat, s.heap.size ≤ q → A q := fun q h => by rw [← hAe]; exact Or.inr h
  have hS : va_S A s.heap s.heap [] := va_S.rf
  have Fx : CallFix p m c cX3_readTag 5 s ([.ref (ad 2), .int x1, .int x2] : List Value).toArray wsX3_readTag RX3 := ⟨hx, hb, hml, hown, hts⟩
  have hQ : ∀ (r : Int32) (u : Int32 × Int32 × (Nat → Int32)) (t : State), (fun (r : Int32) (u : Int32 × Int32 × (Nat → Int32)) => post r u.1 u.2.1 u.2.2) r u → va_P (dC, dI) vwCl ((fun u : Int32 × Int32 × (Nat → Int32) => (xW ad cI cZ lt_count lw_begin lw_end lw_depth lw_signed lw_led u.1 u.2.1 st_size tx_size tt_count tt_pieces tt_kinds lt_begins lt_marks st_word st_vowels u.2.2 tt_begins tt_lengths tt_stemLengths tt_places tt_addresses tt_smalls tt_stems tt_slots tt_nexts)) u) t.heap → va_K (dC, dI) vwCl [(cI, .int), (cZ, .boolean)] t → va_D A ((fun u : Int32 × Int32 × (Nat → Int32) => (xW ad cI cZ lt_count lw_begin lw_end lw_depth lw_signed lw_led u.1 u.2.1 st_size tx_size tt_count tt_pieces tt_kinds lt_begins lt_marks st_word st_vowels u.2.2 tt_begins tt_lengths tt_stemLengths tt_places tt_addresses tt_smalls tt_stems tt_slots tt_nexts)) u) → va_F A s t → (va_Qi (fun (r : Int32) (u : Int32 × Int32 × (Nat → Int32)) => post r u.1 u.2.1 u.2.2) (xB (dC, dI) vwCl [(cI, .int), (cZ, .boolean)] A (fun u : Int32 × Int32 × (Nat → Int32) => (xW ad cI cZ lt_count lw_begin lw_end lw_depth lw_signed lw_led u.1 u.2.1 st_size tx_size tt_count tt_pieces tt_kinds lt_begins lt_marks st_word st_vowels u.2.2 tt_begins tt_lengths tt_stemLengths tt_places tt_addresses tt_smalls tt_stems tt_slots tt_nexts))) A) ([.ref (ad 2), .int x1, .int x2] : List Value).toArray s (.returned (some (.int r))) t := fun r u t h1 h2 h3 h4 h5 => ⟨⟨r, u, rfl, h1, h2, h3, h4⟩, h5⟩
  generalize (va_Qi (fun (r : Int32) (u : Int32 × Int32 × (Nat → Int32)) => post r u.1 u.2.1 u.2.2) (xB (dC, dI) vwCl [(cI, .int), (cZ, .boolean)] A (fun u : Int32 × Int32 × (Nat → Int32) => (xW ad cI cZ lt_count lw_begin lw_end lw_depth lw_signed lw_led u.1 u.2.1 st_size tx_size tt_count tt_pieces tt_kinds lt_begins lt_marks st_word st_vowels u.2.2 tt_begins tt_lengths tt_stemLengths tt_places tt_addresses tt_smalls tt_stems tt_slots tt_nexts))) A) = Qc at hQ ⊢
  have hl := lv_entry ([.ref (ad 2), .int x1, .int x2]) (n := 5) (Nat.le_of_ble_eq_true rfl)
  rw [lg_entry_eq]
  generalize (lg_sl ([.ref (ad 2), .int x1, .int x2]) ++ List.replicate (5 - (lg_sl ([.ref (ad 2), .int x1, .int x2])).length) Slot.unset).toArray = ls at hl ⊢
  have hl : lv_has ls 5 [(0, .ref (ad 2)), (1, .int x1), (2, .int x2)] := hl
  refine (fun (key : ∀ (H : Heap) (locs : List Loc), va_P (dC, dI) vwCl (xW ad cI cZ lt_count lw_begin lw_end lw_depth lw_signed lw_led pr_written pr_within st_size tx_size tt_count tt_pieces tt_kinds lt_begins lt_marks st_word st_vowels tx_characters tt_begins tt_lengths tt_stemLengths tt_places tt_addresses tt_smalls tt_stems tt_slots tt_nexts) H → va_D A (xW ad cI cZ lt_count lw_begin lw_end lw_depth lw_signed lw_led pr_written pr_within st_size tx_size tt_count tt_pieces tt_kinds lt_begins lt_marks st_word st_vowels tx_characters tt_begins tt_lengths tt_stemLengths tt_places tt_addresses tt_smalls tt_stems tt_slots tt_nexts) → va_S A s.heap H locs → W p l e (headSpec wsX3_readTag ({ frames := 7, cells := 0, slots := 0, locals := 156 })).room s m ([.ref (ad 2), .int x1, .int x2] : List Value).toArray below meth c H locs 0 0 (MQ below Qc ([.ref (ad 2), .int x1, .int x2] : List Value).toArray s 0 0 A) (F0 m 0 ls [])) => key _ _ hP hD hS) ?_
  have inX3 : ∀ w ∈ wsX30, w ∈ wsX3_readTag := (fun _ h9 => List.mem_cons_of_mem _ (List.mem_append_left _ (List.mem_append_right _ h9)))
  have J102 : ∀ (pr_written : Int32) (pr_within : Int32) (tx_characters : Nat → Int32) (x4 : Int32) (H : Heap) (locs : List Loc) (ls : Array Slot), lv_has ls 5 [(0, .ref (ad 2)), (4, .int x4)] → va_P (dC, dI) vwCl (xW ad cI cZ lt_count lw_begin lw_end lw_depth lw_signed lw_led pr_written pr_within st_size tx_size tt_count tt_pieces tt_kinds lt_begins lt_marks st_word st_vowels tx_characters tt_begins tt_lengths tt_stemLengths tt_places tt_addresses tt_smalls tt_stems tt_slots tt_nexts) H → va_D A (xW ad cI cZ lt_count lw_begin lw_end lw_depth lw_signed lw_led pr_written pr_within st_size tx_size tt_count tt_pieces tt_kinds lt_begins lt_marks st_word st_vowels tx_characters tt_begins tt_lengths tt_stemLengths tt_places tt_addresses tt_smalls tt_stems tt_slots tt_nexts) → va_S A s.heap H locs → wjX3_readTag_102 post tx_size x1 x2 pr_written pr_within tx_characters x4 → W p l e (headSpec wsX3_readTag ({ frames := 7, cells := 0, slots := 0, locals := 156 })).room s m ([.ref (ad 2), .int x1, .int x2] : List Value).toArray below meth c H locs 0 0 (MQ below Qc ([.ref (ad 2), .int x1, .int x2] : List Value).toArray s 0 0 A) (F0 m 102 ls []) := by
    intro pr_written pr_within tx_characters x4 H locs ls hl hP hD hS h
    delta wjX3_readTag_102 at h
    refine lv_aload_n hx hb dX3_readTag_102 rfl (lv_at hl 0 rfl) ?_
    refine lv_bipush (v := 32) hx hb dX3_readTag_103 (by decide) ?_
    refine xc_vv (As := [.int 32]) (rest := []) xG Fx (sX3_writeBlank l dC dI ad cI cZ sa sv lt_count lw_begin lw_end lw_depth lw_signed lw_led pr_written pr_within st_size tx_size tt_count tt_pieces tt_kinds lt_begins lt_marks st_word st_vowels tx_characters tt_begins tt_lengths tt_stemLengths tt_places tt_addresses tt_smalls tt_stems tt_slots tt_nexts 32 h) (cwV 1 hts gX3_readTag_X3_writeBlank rfl rfl rfl hdX3_writeBlank ⟨Nat.le_of_ble_eq_true rfl, Nat.le_of_ble_eq_true rfl⟩) (va_recv hK hP (ci := 2) (q0 := 2) rfl rfl) hK hP hD hS hA hI rfl hl.1 rfl (Nat.le_of_ble_eq_true rfl) dX3_readTag_105 ⟨Nat.zero_le _, Nat.zero_le _⟩ (fun u H locs h hP hD hS => ?_)
    obtain ⟨pr_written_2, tx_characters_3⟩ := u
    have hP : va_P (dC, dI) vwCl (xW ad cI cZ lt_count lw_begin lw_end lw_depth lw_signed lw_led pr_written_2 pr_within st_size tx_size tt_count tt_pieces tt_kinds lt_begins lt_marks st_word st_vowels tx_characters_3 tt_begins tt_lengths tt_stemLengths tt_places tt_addresses tt_smalls tt_stems tt_slots tt_nexts) H := hP
    have hD : va_D A (xW ad cI cZ lt_count lw_begin lw_end lw_depth lw_signed lw_led pr_written_2 pr_within st_size tx_size tt_count tt_pieces tt_kinds lt_begins lt_marks st_word st_vowels tx_characters_3 tt_begins tt_lengths tt_stemLengths tt_places tt_addresses tt_smalls tt_stems tt_slots tt_nexts) := hD
    refine lv_goto (tgt := 124) hx hb dX3_readTag_108 (by decide) ?_
    refine lv_iload hx hb dX3_readTag_124 (lv_at hl 1 rfl) ?_
    exact W.iret (v := x4) hx hb hr (fun t ht hW => hQ x4 (pr_written_2, pr_within, tx_characters_3) t h (by rw [ht]; exact hP) (va_K.moved hW.alike hK) hD (hS.F ht)) hS.2.2 dX3_readTag_126
  have J58 : ∀ (pr_written : Int32) (pr_within : Int32) (tx_characters : Nat → Int32) (x4 : Int32) (s0 : Int32) (H : Heap) (locs : List Loc) (ls : Array Slot), lv_has ls 5 [(4, .int x4)] → va_P (dC, dI) vwCl (xW ad cI cZ lt_count lw_begin lw_end lw_depth lw_signed lw_led pr_written pr_within st_size tx_size tt_count tt_pieces tt_kinds lt_begins lt_marks st_word st_vowels tx_characters tt_begins tt_lengths tt_stemLengths tt_places tt_addresses tt_smalls tt_stems tt_slots tt_nexts) H → va_D A (xW ad cI cZ lt_count lw_begin lw_end lw_depth lw_signed lw_led pr_written pr_within st_size tx_size tt_count tt_pieces tt_kinds lt_begins lt_marks st_word st_vowels tx_characters tt_begins tt_lengths tt_stemLengths tt_places tt_addresses tt_smalls tt_stems tt_slots tt_nexts) → va_S A s.heap H locs → wjX3_readTag_58 post tx_size x1 x2 pr_written pr_within tx_characters x4 s0 → W p l e (headSpec wsX3_readTag ({ frames := 7, cells := 0, slots := 0, locals := 156 })).room s m ([.ref (ad 2), .int x1, .int x2] : List Value).toArray below meth c H locs 0 0 (MQ below Qc ([.ref (ad 2), .int x1, .int x2] : List Value).toArray s 0 0 A) (F0 m 58 ls [.int s0, .ref (ad 2)]) := by
    intro pr_written pr_within tx_characters x4 s0 H locs ls hl hP hD hS h
    delta wjX3_readTag_58 at h
    have hb9 := h.1
    have h := h.2
    refine va_put (D := (dC, dI)) (ci := 2) (v := .int s0) (ty := .boolean) (C := RX3) (T := TX3) (N := 3) hx hb hts inX3 tyX3 tyX3_ok nmX3 hown hK hP hD hS 2 rfl rfl 2 (by decide) (hts (.fieldLink RX3 19 "MailWords$PageReader" "within" "Z") (List.mem_of_getElem? (i := 1) rfl)) (fun _ h9 => h9) rfl (tyX3_ok 2 (by decide)) (bN_nar hb9) (bN_fit hb9) (Nat.le_of_ble_eq_true rfl) dX3_readTag_58 (fun H locs hP hD hS => ?_)
    have hP : va_P (dC, dI) vwCl (xW ad cI cZ lt_count lw_begin lw_end lw_depth lw_signed lw_led pr_written s0 st_size tx_size tt_count tt_pieces tt_kinds lt_begins lt_marks st_word st_vowels tx_characters tt_begins tt_lengths tt_stemLengths tt_places tt_addresses tt_smalls tt_stems tt_slots tt_nexts) H := hP
    have hD : va_D A (xW ad cI cZ lt_count lw_begin lw_end lw_depth lw_signed lw_led pr_written s0 st_size tx_size tt_count tt_pieces tt_kinds lt_begins lt_marks st_word st_vowels tx_characters tt_begins tt_lengths tt_stemLengths tt_places tt_addresses tt_smalls tt_stems tt_slots tt_nexts) := hD
    refine lv_goto (tgt := 124) hx hb dX3_readTag_61 (by decide) ?_
    refine lv_iload hx hb dX3_readTag_124 (lv_at hl 0 rfl) ?_
    exact W.iret (v := x4) hx hb hr (fun t ht hW => hQ x4 (pr_written, s0, tx_characters) t h (by rw [ht]; exact hP) (va_K.moved hW.alike hK) hD (hS.F ht)) hS.2.2 dX3_readTag_126
  have J41 : ∀ (pr_written : Int32) (pr_within : Int32) (tx_characters : Nat → Int32) (x4 : Int32) (s0 : Int32) (H : Heap) (locs : List Loc) (ls : Array Slot), lv_has ls 5 [(0, .ref (ad 2)), (2, .int x2), (4, .int x4)] → va_P (dC, dI) vwCl (xW ad cI cZ lt_count lw_begin lw_end lw_depth lw_signed lw_led pr_written pr_within st_size tx_size tt_count tt_pieces tt_kinds lt_begins lt_marks st_word st_vowels tx_characters tt_begins tt_lengths tt_stemLengths tt_places tt_addresses tt_smalls tt_stems tt_slots tt_nexts) H → va_D A (xW ad cI cZ lt_count lw_begin lw_end lw_depth lw_signed lw_led pr_written pr_within st_size tx_size tt_count tt_pieces tt_kinds lt_begins lt_marks st_word st_vowels tx_characters tt_begins tt_lengths tt_stemLengths tt_places tt_addresses tt_smalls tt_stems tt_slots tt_nexts) → va_S A s.heap H locs → wjX3_readTag_41 post tx_size x1 x2 pr_written pr_within tx_characters x4 s0 → W p l e (headSpec wsX3_readTag ({ frames := 7, cells := 0, slots := 0, locals := 156 })).room s m ([.ref (ad 2), .int x1, .int x2] : List Value).toArray below meth c H locs 0 0 (MQ below Qc ([.ref (ad 2), .int x1, .int x2] : List Value).toArray s 0 0 A) (F0 m 41 ls [.int s0, .ref (ad 2)]) := by
    intro pr_written pr_within tx_characters x4 s0 H locs ls hl hP hD hS h
    delta wjX3_readTag_41 at h
    have hb9 := h.1
    have h := h.2
    refine va_put (D := (dC, dI)) (ci := 2) (v := .int s0) (ty := .boolean) (C := RX3) (T := TX3) (N := 3) hx hb hts inX3 tyX3 tyX3_ok nmX3 hown hK hP hD hS 2 rfl rfl 2 (by decide) (hts (.fieldLink RX3 19 "MailWords$PageReader" "within" "Z") (List.mem_of_getElem? (i := 1) rfl)) (fun _ h9 => h9) rfl (tyX3_ok 2 (by decide)) (bN_nar hb9) (bN_fit hb9) (Nat.le_of_ble_eq_true rfl) dX3_readTag_41 (fun H locs hP hD hS => ?_)
    have hP : va_P (dC, dI) vwCl (xW ad cI cZ lt_count lw_begin lw_end lw_depth lw_signed lw_led pr_written s0 st_size tx_size tt_count tt_pieces tt_kinds lt_begins lt_marks st_word st_vowels tx_characters tt_begins tt_lengths tt_stemLengths tt_places tt_addresses tt_smalls tt_stems tt_slots tt_nexts) H := hP
    have hD : va_D A (xW ad cI cZ lt_count lw_begin lw_end lw_depth lw_signed lw_led pr_written s0 st_size tx_size tt_count tt_pieces tt_kinds lt_begins lt_marks st_word st_vowels tx_characters tt_begins tt_lengths tt_stemLengths tt_places tt_addresses tt_smalls tt_stems tt_slots tt_nexts) := hD
    refine lv_aload_n hx hb dX3_readTag_44 rfl (lv_at hl 0 rfl) ?_
    refine xc_vv (As := []) (rest := []) xG Fx (sX3_writeBreak l dC dI ad cI cZ sa sv lt_count lw_begin lw_end lw_depth lw_signed lw_led pr_written s0 st_size tx_size tt_count tt_pieces tt_kinds lt_begins lt_marks st_word st_vowels tx_characters tt_begins tt_lengths tt_stemLengths tt_places tt_addresses tt_smalls tt_stems tt_slots tt_nexts h) (cwV 0 hts gX3_readTag_X3_writeBreak rfl rfl rfl hdX3_writeBreak ⟨Nat.le_of_ble_eq_true rfl, Nat.le_of_ble_eq_true rfl⟩) (va_recv hK hP (ci := 2) (q0 := 2) rfl rfl) hK hP hD hS hA hI rfl hl.1 rfl (Nat.le_of_ble_eq_true rfl) dX3_readTag_45 ⟨Nat.zero_le _, Nat.zero_le _⟩ (fun u H locs h hP hD hS => ?_)
    obtain ⟨pr_written_5, tx_characters_6⟩ := u
    have hP : va_P (dC, dI) vwCl (xW ad cI cZ lt_count lw_begin lw_end lw_depth lw_signed lw_led pr_written_5 s0 st_size tx_size tt_count tt_pieces tt_kinds lt_begins lt_marks st_word st_vowels tx_characters_6 tt_begins tt_lengths tt_stemLengths tt_places tt_addresses tt_smalls tt_stems tt_slots tt_nexts) H := hP
    have hD : va_D A (xW ad cI cZ lt_count lw_begin lw_end lw_depth lw_signed lw_led pr_written_5 s0 st_size tx_size tt_count tt_pieces tt_kinds lt_begins lt_marks st_word st_vowels tx_characters_6 tt_begins tt_lengths tt_stemLengths tt_places tt_addresses tt_smalls tt_stems tt_slots tt_nexts) := hD
    refine lv_aload_n hx hb dX3_readTag_48 rfl (lv_at hl 0 rfl) ?_
    refine lv_iload_n hx hb dX3_readTag_49 rfl (lv_at hl 1 rfl) ?_
    refine lv_if_ne (tgt := 57) hx hb dX3_readTag_50 (by decide) (fun c9 => ?_) (fun c9 => ?_)
    · have h := h.1 c9
      refine lv_iconst (v := 0) hx hb dX3_readTag_57 (by decide) ?_
      exact J58 pr_written_5 s0 tx_characters_6 x4 0 H locs ls (lv_sub hl [2] rfl) hP hD hS h
    · have h := h.2 c9
      refine lv_iconst (v := 1) hx hb dX3_readTag_53 (by decide) ?_
      refine lv_goto (tgt := 58) hx hb dX3_readTag_54 (by decide) ?_
      exact J58 pr_written_5 s0 tx_characters_6 x4 1 H locs ls (lv_sub hl [2] rfl) hP hD hS h
  have J40 : ∀ (pr_written : Int32) (pr_within : Int32) (tx_characters : Nat → Int32) (x4 : Int32) (H : Heap) (locs : List Loc) (ls : Array Slot), lv_has ls 5 [(0, .ref (ad 2)), (2, .int x2), (4, .int x4)] → va_P (dC, dI) vwCl (xW ad cI cZ lt_count lw_begin lw_end lw_depth lw_signed lw_led pr_written pr_within st_size tx_size tt_count tt_pieces tt_kinds lt_begins lt_marks st_word st_vowels tx_characters tt_begins tt_lengths tt_stemLengths tt_places tt_addresses tt_smalls tt_stems tt_slots tt_nexts) H → va_D A (xW ad cI cZ lt_count lw_begin lw_end lw_depth lw_signed lw_led pr_written pr_within st_size tx_size tt_count tt_pieces tt_kinds lt_begins lt_marks st_word st_vowels tx_characters tt_begins tt_lengths tt_stemLengths tt_places tt_addresses tt_smalls tt_stems tt_slots tt_nexts) → va_S A s.heap H locs → wjX3_readTag_40 post tx_size x1 x2 pr_written pr_within tx_characters x4 → W p l e (headSpec wsX3_readTag ({ frames := 7, cells := 0, slots := 0, locals := 156 })).room s m ([.ref (ad 2), .int x1, .int x2] : List Value).toArray below meth c H locs 0 0 (MQ below Qc ([.ref (ad 2), .int x1, .int x2] : List Value).toArray s 0 0 A) (F0 m 40 ls [.ref (ad 2)]) := by
    intro pr_written pr_within tx_characters x4 H locs ls hl hP hD hS h
    delta wjX3_readTag_40 at h
    refine lv_iconst (v := 0) hx hb dX3_readTag_40 (by decide) ?_
    exact J41 pr_written pr_within tx_characters x4 0 H locs ls (lv_sub hl [0, 1, 2] rfl) hP hD hS h
  intro H locs hP hD hS
  delta wpX3_readTag at h
  refine lv_aload_n hx hb dX3_readTag_0 rfl (lv_at hl 0 rfl) ?_
  refine lv_iload_n hx hb dX3_readTag_1 rfl (lv_at hl 1 rfl) ?_
  refine xc_vi (As := [.int x1]) (rest := []) xG Fx (sX3_behindName l dC dI ad cI cZ sa sv lt_count lw_begin lw_end lw_depth lw_signed lw_led pr_written pr_within st_size tx_size tt_count tt_pieces tt_kinds lt_begins lt_marks st_word st_vowels tx_characters tt_begins tt_lengths tt_stemLengths tt_places tt_addresses tt_smalls tt_stems tt_slots tt_nexts x1 h) (cwV 1 hts gX3_readTag_X3_behindName rfl rfl rfl hdX3_behindName ⟨Nat.le_of_ble_eq_true rfl, Nat.le_of_ble_eq_true rfl⟩) (va_recv hK hP (ci := 2) (q0 := 2) rfl rfl) hK hP hD hS hA hI rfl hl.1 rfl (Nat.le_of_ble_eq_true rfl) dX3_readTag_2 ⟨Nat.zero_le _, Nat.zero_le _⟩ (fun r_7 u H locs h hP hD hS => ?_)
  refine lv_istore_n (lv' := [(3, .int r_7), (0, .ref (ad 2)), (1, .int x1), (2, .int x2)]) hx hb dX3_readTag_5 rfl hl (by decide) rfl (fun ls hl => ?_)
  refine lv_aload_n hx hb dX3_readTag_6 rfl (lv_at hl 1 rfl) ?_
  refine lv_iload_n hx hb dX3_readTag_7 rfl (lv_at hl 0 rfl) ?_
  refine xc_vi (As := [.int r_7]) (rest := []) xG Fx (sX3_behindTag l dC dI ad cI cZ sa sv lt_count lw_begin lw_end lw_depth lw_signed lw_led pr_written pr_within st_size tx_size tt_count tt_pieces tt_kinds lt_begins lt_marks st_word st_vowels tx_characters tt_begins tt_lengths tt_stemLengths tt_places tt_addresses tt_smalls tt_stems tt_slots tt_nexts r_7 h) (cwV 1 hts gX3_readTag_X3_behindTag rfl rfl rfl hdX3_behindTag ⟨Nat.le_of_ble_eq_true rfl, Nat.le_of_ble_eq_true rfl⟩) (va_recv hK hP (ci := 2) (q0 := 2) rfl rfl) hK hP hD hS hA hI rfl hl.1 rfl (Nat.le_of_ble_eq_true rfl) dX3_readTag_8 ⟨Nat.zero_le _, Nat.zero_le _⟩ (fun r_8 u H locs h hP hD hS => ?_)
  refine lv_istore (lv' := [(4, .int r_8), (3, .int r_7), (0, .ref (ad 2)), (1, .int x1), (2, .int x2)]) hx hb dX3_readTag_11 hl (by decide) rfl (fun ls hl => ?_)
  refine lv_aload_n hx hb dX3_readTag_13 rfl (lv_at hl 2 rfl) ?_
  refine lv_iload_n hx hb dX3_readTag_14 rfl (lv_at hl 3 rfl) ?_
  refine lv_iload_n hx hb dX3_readTag_15 rfl (lv_at hl 1 rfl) ?_
  refine va_ldcS hx hb hown (show vk_R RX3 101 "pre" (sa 0) s from sI_ref hI (i := 0) (by decide)) dX3_readTag_16 ?_
  refine xc_vi (As := [.int x1, .int r_7, .ref (sa 0)]) (rest := []) xG Fx (sX3_isNamed l dC dI ad cI cZ sa sv lt_count lw_begin lw_end lw_depth lw_signed lw_led pr_written pr_within st_size tx_size tt_count tt_pieces tt_kinds lt_begins lt_marks st_word st_vowels tx_characters tt_begins tt_lengths tt_stemLengths tt_places tt_addresses tt_smalls tt_stems tt_slots tt_nexts x1 r_7 0 h) (cwV 3 hts gX3_readTag_X3_isNamed rfl rfl rfl hdX3_isNamed ⟨Nat.le_of_ble_eq_true rfl, Nat.le_of_ble_eq_true rfl⟩) (va_recv hK hP (ci := 2) (q0 := 2) rfl rfl) hK hP hD hS hA hI rfl hl.1 rfl (Nat.le_of_ble_eq_true rfl) dX3_readTag_18 ⟨Nat.zero_le _, Nat.zero_le _⟩ (fun r_9 u H locs h hP hD hS => ?_)
  refine lv_if_eq (tgt := 64) hx hb dX3_readTag_21 (by decide) (fun c9 => ?_) (fun c9 => ?_)
  · have h := h.1 c9
    refine lv_aload_n hx hb dX3_readTag_64 rfl (lv_at hl 2 rfl) ?_
    refine lv_iload_n hx hb dX3_readTag_65 rfl (lv_at hl 3 rfl) ?_
    refine lv_iload_n hx hb dX3_readTag_66 rfl (lv_at hl 1 rfl) ?_
    refine xc_vi (As := [.int x1, .int r_7]) (rest := []) xG Fx (sX3_isBreak l dC dI ad cI cZ sa sv lt_count lw_begin lw_end lw_depth lw_signed lw_led pr_written pr_within st_size tx_size tt_count tt_pieces tt_kinds lt_begins lt_marks st_word st_vowels tx_characters tt_begins tt_lengths tt_stemLengths tt_places tt_addresses tt_smalls tt_stems tt_slots tt_nexts x1 r_7 h) (cwV 2 hts gX3_readTag_X3_isBreak rfl rfl rfl hdX3_isBreak ⟨Nat.le_of_ble_eq_true rfl, Nat.le_of_ble_eq_true rfl⟩) (va_recv hK hP (ci := 2) (q0 := 2) rfl rfl) hK hP hD hS hA hI rfl hl.1 rfl (Nat.le_of_ble_eq_true rfl) dX3_readTag_67 ⟨Nat.zero_le _, Nat.zero_le _⟩ (fun r_10 u H locs h hP hD hS => ?_)
    refine lv_if_eq (tgt := 80) hx hb dX3_readTag_70 (by decide) (fun c9 => ?_) (fun c9 => ?_)
    · have h := h.1 c9
      refine lv_aload_n hx hb dX3_readTag_80 rfl (lv_at hl 2 rfl) ?_
      refine lv_iload_n hx hb dX3_readTag_81 rfl (lv_at hl 3 rfl) ?_
      refine lv_iload_n hx hb dX3_readTag_82 rfl (lv_at hl 1 rfl) ?_
      refine va_ldcS hx hb hown (show vk_R RX3 114 "td" (sa 12) s from sI_ref hI (i := 12) (by decide)) dX3_readTag_83 ?_
      refine xc_vi (As := [.int x1, .int r_7, .ref (sa 12)]) (rest := []) xG Fx (sX3_isNamed l dC dI ad cI cZ sa sv lt_count lw_begin lw_end lw_depth lw_signed lw_led pr_written pr_within st_size tx_size tt_count tt_pieces tt_kinds lt_begins lt_marks st_word st_vowels tx_characters tt_begins tt_lengths tt_stemLengths tt_places tt_addresses tt_smalls tt_stems tt_slots tt_nexts x1 r_7 12 h) (cwV 3 hts gX3_readTag_X3_isNamed rfl rfl rfl hdX3_isNamed ⟨Nat.le_of_ble_eq_true rfl, Nat.le_of_ble_eq_true rfl⟩) (va_recv hK hP (ci := 2) (q0 := 2) rfl rfl) hK hP hD hS hA hI rfl hl.1 rfl (Nat.le_of_ble_eq_true rfl) dX3_readTag_85 ⟨Nat.zero_le _, Nat.zero_le _⟩ (fun r_11 u H locs h hP hD hS => ?_)
      refine lv_if_ne (tgt := 102) hx hb dX3_readTag_88 (by decide) (fun c9 => ?_) (fun c9 => ?_)
      · have h := h.1 c9
        exact J102 pr_written pr_within tx_characters r_8 H locs ls (lv_sub hl [2, 0] rfl) hP hD hS h
      · have h := h.2 c9
        refine lv_aload_n hx hb dX3_readTag_91 rfl (lv_at hl 2 rfl) ?_
        refine lv_iload_n hx hb dX3_readTag_92 rfl (lv_at hl 3 rfl) ?_
        refine lv_iload_n hx hb dX3_readTag_93 rfl (lv_at hl 1 rfl) ?_
        refine va_ldcS hx hb hown (show vk_R RX3 116 "th" (sa 13) s from sI_ref hI (i := 13) (by decide)) dX3_readTag_94 ?_
        refine xc_vi (As := [.int x1, .int r_7, .ref (sa 13)]) (rest := []) xG Fx (sX3_isNamed l dC dI ad cI cZ sa sv lt_count lw_begin lw_end lw_depth lw_signed lw_led pr_written pr_within st_size tx_size tt_count tt_pieces tt_kinds lt_begins lt_marks st_word st_vowels tx_characters tt_begins tt_lengths tt_stemLengths tt_places tt_addresses tt_smalls tt_stems tt_slots tt_nexts x1 r_7 13 h) (cwV 3 hts gX3_readTag_X3_isNamed rfl rfl rfl hdX3_isNamed ⟨Nat.le_of_ble_eq_true rfl, Nat.le_of_ble_eq_true rfl⟩) (va_recv hK hP (ci := 2) (q0 := 2) rfl rfl) hK hP hD hS hA hI rfl hl.1 rfl (Nat.le_of_ble_eq_true rfl) dX3_readTag_96 ⟨Nat.zero_le _, Nat.zero_le _⟩ (fun r_12 u H locs h hP hD hS => ?_)
        refine lv_if_eq (tgt := 111) hx hb dX3_readTag_99 (by decide) (fun c9 => ?_) (fun c9 => ?_)
        · have h := h.1 c9
          refine lv_iload_n hx hb dX3_readTag_111 rfl (lv_at hl 4 rfl) ?_
          refine lv_if_ne (tgt := 124) hx hb dX3_readTag_112 (by decide) (fun c9 => ?_) (fun c9 => ?_)
          · have h := h.1 c9
            refine lv_iload hx hb dX3_readTag_124 (lv_at hl 0 rfl) ?_
            exact W.iret (v := r_8) hx hb hr (fun t ht hW => hQ r_8 (pr_written, pr_within, tx_characters) t h (by rw [ht]; exact hP) (va_K.moved hW.alike hK) hD (hS.F ht)) hS.2.2 dX3_readTag_126
          · have h := h.2 c9
            refine lv_aload_n hx hb dX3_readTag_115 rfl (lv_at hl 2 rfl) ?_
            refine lv_iload_n hx hb dX3_readTag_116 rfl (lv_at hl 3 rfl) ?_
            refine lv_iload_n hx hb dX3_readTag_117 rfl (lv_at hl 1 rfl) ?_
            refine lv_iload hx hb dX3_readTag_118 (lv_at hl 0 rfl) ?_
            refine xc_vi (As := [.int x1, .int r_7, .int r_8]) (rest := []) xG Fx (sX3_behindHidden l dC dI ad cI cZ sa sv lt_count lw_begin lw_end lw_depth lw_signed lw_led pr_written pr_within st_size tx_size tt_count tt_pieces tt_kinds lt_begins lt_marks st_word st_vowels tx_characters tt_begins tt_lengths tt_stemLengths tt_places tt_addresses tt_smalls tt_stems tt_slots tt_nexts x1 r_7 r_8 h) (cwV 3 hts gX3_readTag_X3_behindHidden rfl rfl rfl hdX3_behindHidden ⟨Nat.le_of_ble_eq_true rfl, Nat.le_of_ble_eq_true rfl⟩) (va_recv hK hP (ci := 2) (q0 := 2) rfl rfl) hK hP hD hS hA hI rfl hl.1 rfl (Nat.le_of_ble_eq_true rfl) dX3_readTag_120 ⟨Nat.zero_le _, Nat.zero_le _⟩ (fun r_13 u H locs h hP hD hS => ?_)
            exact W.iret (v := r_13) hx hb hr (fun t ht hW => hQ r_13 (pr_written, pr_within, tx_characters) t h (by rw [ht]; exact hP) (va_K.moved hW.alike hK) hD (hS.F ht)) hS.2.2 dX3_readTag_123
        · have h := h.2 c9
          exact J102 pr_written pr_within tx_characters r_8 H locs ls (lv_sub hl [2, 0] rfl) hP hD hS h
    · have h := h.2 c9
      refine lv_aload_n hx hb dX3_readTag_73 rfl (lv_at hl 2 rfl) ?_
      refine xc_vv (As := []) (rest := []) xG Fx (sX3_writeBreak l dC dI ad cI cZ sa sv lt_count lw_begin lw_end lw_depth lw_signed lw_led pr_written pr_within st_size tx_size tt_count tt_pieces tt_kinds lt_begins lt_marks st_word st_vowels tx_characters tt_begins tt_lengths tt_stemLengths tt_places tt_addresses tt_smalls tt_stems tt_slots tt_nexts h) (cwV 0 hts gX3_readTag_X3_writeBreak rfl rfl rfl hdX3_writeBreak ⟨Nat.le_of_ble_eq_true rfl, Nat.le_of_ble_eq_true rfl⟩) (va_recv hK hP (ci := 2) (q0 := 2) rfl rfl) hK hP hD hS hA hI rfl hl.1 rfl (Nat.le_of_ble_eq_true rfl) dX3_readTag_74 ⟨Nat.zero_le _, Nat.zero_le _⟩ (fun u H locs h hP hD hS => ?_)
      obtain ⟨pr_written_15, tx_characters_16⟩ := u
      have hP : va_P (dC, dI) vwCl (xW ad cI cZ lt_count lw_begin lw_end lw_depth lw_signed lw_led pr_written_15 pr_within st_size tx_size tt_count tt_pieces tt_kinds lt_begins lt_marks st_word st_vowels tx_characters_16 tt_begins tt_lengths tt_stemLengths tt_places tt_addresses tt_smalls tt_stems tt_slots tt_nexts) H := hP
      have hD : va_D A (xW ad cI cZ lt_count lw_begin lw_end lw_depth lw_signed lw_led pr_written_15 pr_within st_size tx_size tt_count tt_pieces tt_kinds lt_begins lt_marks st_word st_vowels tx_characters_16 tt_begins tt_lengths tt_stemLengths tt_places tt_addresses tt_smalls tt_stems tt_slots tt_nexts) := hD
      refine lv_goto (tgt := 124) hx hb dX3_readTag_77 (by decide) ?_
      refine lv_iload hx hb dX3_readTag_124 (lv_at hl 0 rfl) ?_
      exact W.iret (v := r_8) hx hb hr (fun t ht hW => hQ r_8 (pr_written_15, pr_within, tx_characters_16) t h (by rw [ht]; exact hP) (va_K.moved hW.alike hK) hD (hS.F ht)) hS.2.2 dX3_readTag_126
  · have h := h.2 c9
    refine lv_aload_n hx hb dX3_readTag_24 rfl (lv_at hl 2 rfl) ?_
    refine lv_aload_n hx hb dX3_readTag_25 rfl (lv_at hl 2 rfl) ?_
    refine va_get (D := (dC, dI)) (ci := 2) (v := .int pr_within) (C := RX3) (T := TX3) (N := 3) hx hb hts inX3 hown hK hP 2 rfl rfl 2 (by decide) (hts (.fieldLink RX3 19 "MailWords$PageReader" "within" "Z") (List.mem_of_getElem? (i := 1) rfl)) (fun _ h9 => h9) rfl dX3_readTag_26 ?_
    refine lv_if_eq (tgt := 40) hx hb dX3_readTag_29 (by decide) (fun c9 => ?_) (fun c9 => ?_)
    · have h := h.1 c9
      exact J40 pr_written pr_within tx_characters r_8 H locs ls (lv_sub hl [2, 4, 0] rfl) hP hD hS h
    · have h := h.2 c9
      refine lv_iload_n hx hb dX3_readTag_32 rfl (lv_at hl 4 rfl) ?_
      refine lv_if_ne (tgt := 40) hx hb dX3_readTag_33 (by decide) (fun c9 => ?_) (fun c9 => ?_)
      · have h := h.1 c9
        exact J40 pr_written pr_within tx_characters r_8 H locs ls (lv_sub hl [2, 4, 0] rfl) hP hD hS h
      · have h := h.2 c9
        refine lv_iconst (v := 1) hx hb dX3_readTag_36 (by decide) ?_
        refine lv_goto (tgt := 41) hx hb dX3_readTag_37 (by decide) ?_
        exact J41 pr_written pr_within tx_characters r_8 1 H locs ls (lv_sub hl [2, 4, 0] rfl) hP hD hS h
