set_option maxHeartbeats 4000000 in
set_option maxRecDepth 100000 in
theorem sX6_haveSameStem (l : Launch) (dC : Nat → ClassId) (dI : Nat → Nat → Nat) (ad : Nat → Nat) (cI cZ : ClassId) (sa sv : Nat → Nat) (lt_count : Int32) (lw_begin : Int32) (lw_end : Int32) (lw_depth : Int32) (lw_signed : Int32) (lw_led : Int32) (pr_written : Int32) (pr_within : Int32) (st_size : Int32) (tx_size : Int32) (tt_count : Int32) (tt_pieces : Int32) (tt_kinds : Int32) (lt_begins : Nat → Int32) (lt_marks : Nat → Int32) (st_word : Nat → Int32) (st_vowels : Nat → Int32) (tx_characters : Nat → Int32) (tt_begins : Nat → Int32) (tt_lengths : Nat → Int32) (tt_stemLengths : Nat → Int32) (tt_places : Nat → Int32) (tt_addresses : Nat → Int32) (tt_smalls : Nat → Int32) (tt_stems : Nat → Int32) (tt_slots : Nat → Int32) (tt_nexts : Nat → Int32) (x1 : Int32) (x2 : Int32) {post : Int32 → Prop} (h : wpX6_haveSameStem post tt_begins tt_stemLengths tt_addresses tt_smalls tt_stems x1 x2) : xMi l (dC, dI) vwCl [(cI, .int), (cZ, .boolean)] (sI sa sv) yX6_haveSameStem wsX6_haveSameStem ({ frames := 2, cells := 0, slots := 0, locals := 43 }) (xW ad cI cZ lt_count lw_begin lw_end lw_depth lw_signed lw_led pr_written pr_within st_size tx_size tt_count tt_pieces tt_kinds lt_begins lt_marks st_word st_vowels tx_characters tt_begins tt_lengths tt_stemLengths tt_places tt_addresses tt_smalls tt_stems tt_slots tt_nexts) [.ref (ad 5), .int x1, .int x2] (fun (r : Int32) (u : Unit) => post r ) (fun u : Unit => (xW ad cI cZ lt_count lw_begin lw_end lw_depth lw_signed lw_led pr_written pr_within st_size tx_size tt_count tt_pieces tt_kinds lt_begins lt_marks st_word st_vowels tx_characters tt_begins tt_lengths tt_stemLengths tt_places tt_addresses tt_smalls tt_stems tt_slots tt_nexts)) := by
  intro sz
  refine Met.ofW (cc := cX6_haveSameStem) (maxL := 4) (ret := (some .boolean)) (by decide) rfl ?_
  intro p e s m args below meth c s₁ B hml hv
  obtain ⟨rfl, hsz, hP, hK, hD0, hI⟩ := hv
  have hx := B.exec
  have hb := B.bytes
  have hr := B.returns
  have hts := atoms_spec (ws := wsX6_haveSameStem) B.pre
  have hown : s.vm.findClass RX6 = some m.cls := findClass_of_methodNamed B.named
  have hlocks := B.notSynchronized
  subst hsz
  have hD := hD0.self (sz := s.heap.size)
  generalize hAe : va_A (xW ad cI cZ lt_count lw_begin lw_end lw_depth lw_signed lw_led pr_written pr_within st_size tx_size tt_count tt_pieces tt_kinds lt_begins lt_marks st_word st_vowels tx_characters tt_begins tt_lengths tt_stemLengths tt_places tt_addresses tt_smalls tt_stems tt_slots tt_nexts) s.heap.size = A at hD hI ⊢
  have hA : ∀ q : Nat, s.heap.size ≤ q → A q := fun q h => by rw [← hAe]; exact Or.inr h
  have hS : va_S A s.heap s.heap [] := va_S.rf
  have Fx : CallFix p m c cX6_haveSameStem 4 s ([.ref (ad 5), .int x1, .int x2] : List Value).toArray wsX6_haveSameStem RX6 := ⟨hx, hb, hml, hown, hts⟩
  have hQ : ∀ (r : Int32) (u : Unit) (t : State), (fun (r : Int32) (u : Unit) => post r ) r u → va_P (dC, dI) vwCl ((fun u : Unit => (xW ad cI cZ lt_count lw_begin lw_end lw_depth lw_signed lw_led pr_written pr_within st_size tx_size tt_count tt_pieces tt_kinds lt_begins lt_marks st_word st_vowels tx_characters tt_begins tt_lengths tt_stemLengths tt_places tt_addresses tt_smalls tt_stems tt_slots tt_nexts)) u) t.heap → va_K (dC, dI) vwCl [(cI, .int), (cZ, .boolean)] t → va_D A ((fun u : Unit => (xW ad cI cZ lt_count lw_begin lw_end lw_depth lw_signed lw_led pr_written pr_within st_size tx_size tt_count tt_pieces tt_kinds lt_begins lt_marks st_word st_vowels tx_characters tt_begins tt_lengths tt_stemLengths tt_places tt_addresses tt_smalls tt_stems tt_slots tt_nexts)) u) → va_F A s t → (va_Qi (fun (r : Int32) (u : Unit) => post r ) (xB (dC, dI) vwCl [(cI, .int), (cZ, .boolean)] A (fun u : Unit => (xW ad cI cZ lt_count lw_begin lw_end lw_depth lw_signed lw_led pr_written pr_within st_size tx_size tt_count tt_pieces tt_kinds lt_begins lt_marks st_word st_vowels tx_characters tt_begins tt_lengths tt_stemLengths tt_places tt_addresses tt_smalls tt_stems tt_slots tt_nexts))) A) ([.ref (ad 5), .int x1, .int x2] : List Value).toArray s (.returned (some (.int r))) t := fun r u t h1 h2 h3 h4 h5 => ⟨⟨r, u, rfl, h1, h2, h3, h4⟩, h5⟩
  generalize (va_Qi (fun (r : Int32) (u : Unit) => post r ) (xB (dC, dI) vwCl [(cI, .int), (cZ, .boolean)] A (fun u : Unit => (xW ad cI cZ lt_count lw_begin lw_end lw_depth lw_signed lw_led pr_written pr_within st_size tx_size tt_count tt_pieces tt_kinds lt_begins lt_marks st_word st_vowels tx_characters tt_begins tt_lengths tt_stemLengths tt_places tt_addresses tt_smalls tt_stems tt_slots tt_nexts))) A) = Qc at hQ ⊢
  have hl := lv_entry ([.ref (ad 5), .int x1, .int x2]) (n := 4) (Nat.le_of_ble_eq_true rfl)
  rw [lg_entry_eq]
  generalize (lg_sl ([.ref (ad 5), .int x1, .int x2]) ++ List.replicate (4 - (lg_sl ([.ref (ad 5), .int x1, .int x2])).length) Slot.unset).toArray = ls at hl ⊢
  have hl : lv_has ls 4 [(0, .ref (ad 5)), (1, .int x1), (2, .int x2)] := hl
  refine (fun (key : ∀ (H : Heap) (locs : List Loc), va_P (dC, dI) vwCl (xW ad cI cZ lt_count lw_begin lw_end lw_depth lw_signed lw_led pr_written pr_within st_size tx_size tt_count tt_pieces tt_kinds lt_begins lt_marks st_word st_vowels tx_characters tt_begins tt_lengths tt_stemLengths tt_places tt_addresses tt_smalls tt_stems tt_slots tt_nexts) H → va_D A (xW ad cI cZ lt_count lw_begin lw_end lw_depth lw_signed lw_led pr_written pr_within st_size tx_size tt_count tt_pieces tt_kinds lt_begins lt_marks st_word st_vowels tx_characters tt_begins tt_lengths tt_stemLengths tt_places tt_addresses tt_smalls tt_stems tt_slots tt_nexts) → va_S A s.heap H locs → W p l e (headSpec wsX6_haveSameStem ({ frames := 2, cells := 0, slots := 0, locals := 43 })).room s m ([.ref (ad 5), .int x1, .int x2] : List Value).toArray below meth c H locs 0 0 (MQ below Qc ([.ref (ad 5), .int x1, .int x2] : List Value).toArray s 0 0 A) (F0 m 0 ls [])) => key _ _ hP hD hS) ?_
  have inX6 : ∀ w ∈ wsX60, w ∈ wsX6_haveSameStem := (fun _ h9 => List.mem_cons_of_mem _ (List.mem_append_right _ h9))
  have L19 : ∀ (n : Nat) (x3 : Int32) (H : Heap) (locs : List Loc) (ls : Array Slot), lv_has ls 4 [(0, .ref (ad 5)), (1, .int x1), (2, .int x2), (3, .int x3)] → va_P (dC, dI) vwCl (xW ad cI cZ lt_count lw_begin lw_end lw_depth lw_signed lw_led pr_written pr_within st_size tx_size tt_count tt_pieces tt_kinds lt_begins lt_marks st_word st_vowels tx_characters tt_begins tt_lengths tt_stemLengths tt_places tt_addresses tt_smalls tt_stems tt_slots tt_nexts) H → va_D A (xW ad cI cZ lt_count lw_begin lw_end lw_depth lw_signed lw_led pr_written pr_within st_size tx_size tt_count tt_pieces tt_kinds lt_begins lt_marks st_word st_vowels tx_characters tt_begins tt_lengths tt_stemLengths tt_places tt_addresses tt_smalls tt_stems tt_slots tt_nexts) → va_S A s.heap H locs → wlX6_haveSameStem_19 post tt_begins tt_stemLengths tt_addresses tt_smalls tt_stems x1 x2 n x3 → W p l e (headSpec wsX6_haveSameStem ({ frames := 2, cells := 0, slots := 0, locals := 43 })).room s m ([.ref (ad 5), .int x1, .int x2] : List Value).toArray below meth c H locs 0 0 (MQ below Qc ([.ref (ad 5), .int x1, .int x2] : List Value).toArray s 0 0 A) (F0 m 19 ls []) := by
    intro n
    induction n with
    | zero => intro x3 H locs ls _ _ _ _ h; exact absurd h (fun z => z)
    | succ n19 ih19 =>
      intro x3 H locs ls hl hP hD hS h
      rw [wlX6_haveSameStem_19] at h
      refine lv_iload_n hx hb dX6_haveSameStem_19 rfl (lv_at hl 3 rfl) ?_
      refine lv_aload_n hx hb dX6_haveSameStem_20 rfl (lv_at hl 0 rfl) ?_
      refine va_get (D := (dC, dI)) (ci := 5) (v := .ref (ad 14)) (C := RX6) (T := TX6) (N := 15) hx hb hts inX6 hown hK hP 5 rfl rfl 5 (by decide) (hts (.fieldLink RX6 25 "MailWords$TokenTable" "stemLengths" "[I") (List.mem_of_getElem? (i := 1) rfl)) (fun _ h9 => h9) rfl dX6_haveSameStem_21 ?_
      refine lv_iload_n hx hb dX6_haveSameStem_24 rfl (lv_at hl 1 rfl) ?_
      have hi9 := h.1
      have h := h.2
      refine va_iald hx hb hK hP 14 0 rfl rfl hi9 dX6_haveSameStem_25 ?_
      refine lv_icmp_ge (tgt := 52) hx hb dX6_haveSameStem_26 (by decide) (fun c9 => ?_) (fun c9 => ?_)
      · have h := h.1 c9
        refine lv_iconst (v := 1) hx hb dX6_haveSameStem_52 (by decide) ?_
        exact W.zret (v := 1) hx hb hr (bN_nar bN1) (fun t ht hW => hQ 1 () t h (by rw [ht]; exact hP) (va_K.moved hW.alike hK) hD (hS.F ht)) hS.2.2 dX6_haveSameStem_53
      · have h := h.2 c9
        refine lv_aload_n hx hb dX6_haveSameStem_29 rfl (lv_at hl 0 rfl) ?_
        refine lv_iload_n hx hb dX6_haveSameStem_30 rfl (lv_at hl 1 rfl) ?_
        refine lv_iload_n hx hb dX6_haveSameStem_31 rfl (lv_at hl 3 rfl) ?_
        refine xc_vi (As := [.int x1, .int x3]) (rest := []) xG Fx (sX6_stemCharacter l dC dI ad cI cZ sa sv lt_count lw_begin lw_end lw_depth lw_signed lw_led pr_written pr_within st_size tx_size tt_count tt_pieces tt_kinds lt_begins lt_marks st_word st_vowels tx_characters tt_begins tt_lengths tt_stemLengths tt_places tt_addresses tt_smalls tt_stems tt_slots tt_nexts x1 x3 h) (cwV 2 hts gX6_haveSameStem_X6_stemCharacter rfl rfl rfl hdX6_stemCharacter ⟨Nat.le_of_ble_eq_true rfl, Nat.le_of_ble_eq_true rfl⟩) (va_recv hK hP (ci := 5) (q0 := 5) rfl rfl) hK hP hD hS hA hI rfl hl.1 rfl (Nat.le_of_ble_eq_true rfl) dX6_haveSameStem_32 ⟨Nat.zero_le _, Nat.zero_le _⟩ (fun r_1 u H locs h hP hD hS => ?_)
        refine lv_aload_n hx hb dX6_haveSameStem_35 rfl (lv_at hl 0 rfl) ?_
        refine lv_iload_n hx hb dX6_haveSameStem_36 rfl (lv_at hl 2 rfl) ?_
        refine lv_iload_n hx hb dX6_haveSameStem_37 rfl (lv_at hl 3 rfl) ?_
        refine xc_vi (As := [.int x2, .int x3]) (rest := [.int r_1]) xG Fx (sX6_stemCharacter l dC dI ad cI cZ sa sv lt_count lw_begin lw_end lw_depth lw_signed lw_led pr_written pr_within st_size tx_size tt_count tt_pieces tt_kinds lt_begins lt_marks st_word st_vowels tx_characters tt_begins tt_lengths tt_stemLengths tt_places tt_addresses tt_smalls tt_stems tt_slots tt_nexts x2 x3 h) (cwV 2 hts gX6_haveSameStem_X6_stemCharacter rfl rfl rfl hdX6_stemCharacter ⟨Nat.le_of_ble_eq_true rfl, Nat.le_of_ble_eq_true rfl⟩) (va_recv hK hP (ci := 5) (q0 := 5) rfl rfl) hK hP hD hS hA hI rfl hl.1 rfl (Nat.le_of_ble_eq_true rfl) dX6_haveSameStem_38 ⟨Nat.zero_le _, Nat.zero_le _⟩ (fun r_2 u H locs h hP hD hS => ?_)
        refine lv_icmp_eq (tgt := 46) hx hb dX6_haveSameStem_41 (by decide) (fun c9 => ?_) (fun c9 => ?_)
        · have h := h.1 c9
          obtain ⟨x3_3, ex3_3⟩ : ∃ y : Int32, y = x3 + 1 := ⟨_, rfl⟩
          have h := h x3_3 ex3_3
          refine lv_iinc (v := x3_3) (lv' := [(3, .int x3_3), (0, .ref (ad 5)), (1, .int x1), (2, .int x2)]) hx hb dX6_haveSameStem_46 hl (k := 3) rfl (by rw [ex3_3]; rfl) (by decide) rfl (fun ls hl => ?_)
          refine lv_goto (tgt := 19) hx hb dX6_haveSameStem_49 (by decide) ?_
          exact ih19 x3_3 H locs ls (lv_sub hl [1, 2, 3, 0] rfl) hP hD hS h
        · have h := h.2 c9
          refine lv_iconst (v := 0) hx hb dX6_haveSameStem_44 (by decide) ?_
          exact W.zret (v := 0) hx hb hr (bN_nar bN0) (fun t ht hW => hQ 0 () t h (by rw [ht]; exact hP) (va_K.moved hW.alike hK) hD (hS.F ht)) hS.2.2 dX6_haveSameStem_45
  intro H locs hP hD hS
  delta wpX6_haveSameStem at h
  refine lv_aload_n hx hb dX6_haveSameStem_0 rfl (lv_at hl 0 rfl) ?_
  refine va_get (D := (dC, dI)) (ci := 5) (v := .ref (ad 14)) (C := RX6) (T := TX6) (N := 15) hx hb hts inX6 hown hK hP 5 rfl rfl 5 (by decide) (hts (.fieldLink RX6 25 "MailWords$TokenTable" "stemLengths" "[I") (List.mem_of_getElem? (i := 1) rfl)) (fun _ h9 => h9) rfl dX6_haveSameStem_1 ?_
  refine lv_iload_n hx hb dX6_haveSameStem_4 rfl (lv_at hl 1 rfl) ?_
  have hi9 := h.1
  have h := h.2
  refine va_iald hx hb hK hP 14 0 rfl rfl hi9 dX6_haveSameStem_5 ?_
  refine lv_aload_n hx hb dX6_haveSameStem_6 rfl (lv_at hl 0 rfl) ?_
  refine va_get (D := (dC, dI)) (ci := 5) (v := .ref (ad 14)) (C := RX6) (T := TX6) (N := 15) hx hb hts inX6 hown hK hP 5 rfl rfl 5 (by decide) (hts (.fieldLink RX6 25 "MailWords$TokenTable" "stemLengths" "[I") (List.mem_of_getElem? (i := 1) rfl)) (fun _ h9 => h9) rfl dX6_haveSameStem_7 ?_
  refine lv_iload_n hx hb dX6_haveSameStem_10 rfl (lv_at hl 2 rfl) ?_
  have hi9 := h.1
  have h := h.2
  refine va_iald hx hb hK hP 14 0 rfl rfl hi9 dX6_haveSameStem_11 ?_
  refine lv_icmp_eq (tgt := 17) hx hb dX6_haveSameStem_12 (by decide) (fun c9 => ?_) (fun c9 => ?_)
  · have h := h.1 c9
    refine lv_iconst (v := 0) hx hb dX6_haveSameStem_17 (by decide) ?_
    refine lv_istore_n (lv' := [(3, .int 0), (0, .ref (ad 5)), (1, .int x1), (2, .int x2)]) hx hb dX6_haveSameStem_18 rfl hl (by decide) rfl (fun ls hl => ?_)
    obtain ⟨n, h⟩ := h
    exact L19  n 0 H locs ls (lv_sub hl [1, 2, 3, 0] rfl) hP hD hS h
  · have h := h.2 c9
    refine lv_iconst (v := 0) hx hb dX6_haveSameStem_15 (by decide) ?_
    exact W.zret (v := 0) hx hb hr (bN_nar bN0) (fun t ht hW => hQ 0 () t h (by rw [ht]; exact hP) (va_K.moved hW.alike hK) hD (hS.F ht)) hS.2.2 dX6_haveSameStem_16
set_option maxHeartbeats 4000000 in
set_option maxRecDepth 100000 in
theorem sX6_enterStem (l : Launch) (dC : Nat → ClassId) (dI : Nat → Nat → Nat) (ad : Nat → Nat) (cI cZ : ClassId) (sa sv : Nat → Nat) (lt_count : Int32) (lw_begin : Int32) (lw_end : Int32) (lw_depth : Int32) (lw_signed : Int32) (lw_led : Int32) (pr_written : Int32) (pr_within : Int32) (st_size : Int32) (tx_size : Int32) (tt_count : Int32) (tt_pieces : Int32) (tt_kinds : Int32) (lt_begins : Nat → Int32) (lt_marks : Nat → Int32) (st_word : Nat → Int32) (st_vowels : Nat → Int32) (tx_characters : Nat → Int32) (tt_begins : Nat → Int32) (tt_lengths : Nat → Int32) (tt_stemLengths : Nat → Int32) (tt_places : Nat → Int32) (tt_addresses : Nat → Int32) (tt_smalls : Nat → Int32) (tt_stems : Nat → Int32) (tt_slots : Nat → Int32) (tt_nexts : Nat → Int32) (x1 : Int32) {post : Int32 → (Nat → Int32) → (Nat → Int32) → Prop} (h : wpX6_enterStem post tt_count tt_kinds tt_begins tt_stemLengths tt_addresses tt_smalls tt_stems tt_slots tt_nexts x1) : xMv l (dC, dI) vwCl [(cI, .int), (cZ, .boolean)] (sI sa sv) yX6_enterStem wsX6_enterStem ({ frames := 3, cells := 0, slots := 0, locals := 66 }) (xW ad cI cZ lt_count lw_begin lw_end lw_depth lw_signed lw_led pr_written pr_within st_size tx_size tt_count tt_pieces tt_kinds lt_begins lt_marks st_word st_vowels tx_characters tt_begins tt_lengths tt_stemLengths tt_places tt_addresses tt_smalls tt_stems tt_slots tt_nexts) [.ref (ad 5), .int x1] (fun u : Int32 × (Nat → Int32) × (Nat → Int32) => post u.1 u.2.1 u.2.2) (fun u : Int32 × (Nat → Int32) × (Nat → Int32) => (xW ad cI cZ lt_count lw_begin lw_end lw_depth lw_signed lw_led pr_written pr_within st_size tx_size tt_count tt_pieces u.1 lt_begins lt_marks st_word st_vowels tx_characters tt_begins tt_lengths tt_stemLengths tt_places tt_addresses tt_smalls tt_stems u.2.1 u.2.2)) := by
  intro sz
  refine Met.ofW (cc := cX6_enterStem) (maxL := 5) (ret := none) (by decide) rfl ?_
  intro p e s m args below meth c s₁ B hml hv
  obtain ⟨rfl, hsz, hP, hK, hD0, hI⟩ := hv
  have hx := B.exec
  have hb := B.bytes
  have hr := B.returns
  have hts := atoms_spec (ws := wsX6_enterStem) B.pre
  have hown : s.vm.findClass RX6 = some m.cls := findClass_of_methodNamed B.named
  have hlocks := B.notSynchronized
  subst hsz
  have hD := hD0.self (sz := s.heap.size)
  generalize hAe : va_A (xW ad cI cZ lt_count lw_begin lw_end lw_depth lw_signed lw_led pr_written pr_within st_size tx_size tt_count tt_pieces tt_kinds lt_begins lt_marks st_word st_vowels tx_characters tt_begins tt_lengths tt_stemLengths tt_places tt_addresses tt_smalls tt_stems tt_slots tt_nexts) s.heap.size = A at hD hI ⊢
  have hA : ∀ q : Nat, s.heap.size ≤ q → A q := fun q h => by rw [← hAe]; exact Or.inr h
  have hS : va_S A s.heap s.heap [] := va_S.rf
  have Fx : CallFix p m c cX6_enterStem 5 s ([.ref (ad 5), .int x1] : List Value).toArray wsX6_enterStem RX6 := ⟨hx, hb, hml, hown, hts⟩
  have hQ : ∀ (u : Int32 × (Nat → Int32) × (Nat → Int32)) (t : State), (fun u : Int32 × (Nat → Int32) × (Nat → Int32) => post u.1 u.2.1 u.2.2) u → va_P (dC, dI) vwCl ((fun u : Int32 × (Nat → Int32) × (Nat → Int32) => (xW ad cI cZ lt_count lw_begin lw_end lw_depth lw_signed lw_led pr_written pr_within st_size tx_size tt_count tt_pieces u.1 lt_begins lt_marks st_word st_vowels tx_characters tt_begins tt_lengths tt_stemLengths tt_places tt_addresses tt_smalls tt_stems u.2.1 u.2.2)) u) t.heap → va_K (dC, dI) vwCl [(cI, .int), (cZ, .boolean)] t → va_D A ((fun u : Int32 × (Nat → Int32) × (Nat → Int32) => (xW ad cI cZ lt_count lw_begin lw_end lw_depth lw_signed lw_led pr_written pr_within st_size tx_size tt_count tt_pieces u.1 lt_begins lt_marks st_word st_vowels tx_characters tt_begins tt_lengths tt_stemLengths tt_places tt_addresses tt_smalls tt_stems u.2.1 u.2.2)) u) → va_F A s t → (va_Qv (fun u : Int32 × (Nat → Int32) × (Nat → Int32) => post u.1 u.2.1 u.2.2) (xB (dC, dI) vwCl [(cI, .int), (cZ, .boolean)] A (fun u : Int32 × (Nat → Int32) × (Nat → Int32) => (xW ad cI cZ lt_count lw_begin lw_end lw_depth lw_signed lw_led pr_written pr_within st_size tx_size tt_count tt_pieces u.1 lt_begins lt_marks st_word st_vowels tx_characters tt_begins tt_lengths tt_stemLengths tt_places tt_addresses tt_smalls tt_stems u.2.1 u.2.2))) A) ([.ref (ad 5), .int x1] : List Value).toArray s (.returned none) t := fun u t h1 h2 h3 h4 h5 => ⟨⟨u, rfl, h1, h2, h3, h4⟩, h5⟩
  generalize (va_Qv (fun u : Int32 × (Nat → Int32) × (Nat → Int32) => post u.1 u.2.1 u.2.2) (xB (dC, dI) vwCl [(cI, .int), (cZ, .boolean)] A (fun u : Int32 × (Nat → Int32) × (Nat → Int32) => (xW ad cI cZ lt_count lw_begin lw_end lw_depth lw_signed lw_led pr_written pr_within st_size tx_size tt_count tt_pieces u.1 lt_begins lt_marks st_word st_vowels tx_characters tt_begins tt_lengths tt_stemLengths tt_places tt_addresses tt_smalls tt_stems u.2.1 u.2.2))) A) = Qc at hQ ⊢
  have hl := lv_entry ([.ref (ad 5), .int x1]) (n := 5) (Nat.le_of_ble_eq_true rfl)
  rw [lg_entry_eq]
  generalize (lg_sl ([.ref (ad 5), .int x1]) ++ List.replicate (5 - (lg_sl ([.ref (ad 5), .int x1])).length) Slot.unset).toArray = ls at hl ⊢
  have hl : lv_has ls 5 [(0, .ref (ad 5)), (1, .int x1)] := hl
  refine (fun (key : ∀ (H : Heap) (locs : List Loc), va_P (dC, dI) vwCl (xW ad cI cZ lt_count lw_begin lw_end lw_depth lw_signed lw_led pr_written pr_within st_size tx_size tt_count tt_pieces tt_kinds lt_begins lt_marks st_word st_vowels tx_characters tt_begins tt_lengths tt_stemLengths tt_places tt_addresses tt_smalls tt_stems tt_slots tt_nexts) H → va_D A (xW ad cI cZ lt_count lw_begin lw_end lw_depth lw_signed lw_led pr_written pr_within st_size tx_size tt_count tt_pieces tt_kinds lt_begins lt_marks st_word st_vowels tx_characters tt_begins tt_lengths tt_stemLengths tt_places tt_addresses tt_smalls tt_stems tt_slots tt_nexts) → va_S A s.heap H locs → W p l e (headSpec wsX6_enterStem ({ frames := 3, cells := 0, slots := 0, locals := 66 })).room s m ([.ref (ad 5), .int x1] : List Value).toArray below meth c H locs 0 0 (MQ below Qc ([.ref (ad 5), .int x1] : List Value).toArray s 0 0 A) (F0 m 0 ls [])) => key _ _ hP hD hS) ?_
  have inX6 : ∀ w ∈ wsX60, w ∈ wsX6_enterStem := (fun _ h9 => List.mem_cons_of_mem _ (List.mem_append_right _ h9))
  have J56 : ∀ (tt_kinds : Int32) (tt_slots : Nat → Int32) (tt_nexts : Nat → Int32) (x2 : Int32) (H : Heap) (locs : List Loc) (ls : Array Slot), lv_has ls 5 [(0, .ref (ad 5)), (1, .int x1), (2, .int x2)] → va_P (dC, dI) vwCl (xW ad cI cZ lt_count lw_begin lw_end lw_depth lw_signed lw_led pr_written pr_within st_size tx_size tt_count tt_pieces tt_kinds lt_begins lt_marks st_word st_vowels tx_characters tt_begins tt_lengths tt_stemLengths tt_places tt_addresses tt_smalls tt_stems tt_slots tt_nexts) H → va_D A (xW ad cI cZ lt_count lw_begin lw_end lw_depth lw_signed lw_led pr_written pr_within st_size tx_size tt_count tt_pieces tt_kinds lt_begins lt_marks st_word st_vowels tx_characters tt_begins tt_lengths tt_stemLengths tt_places tt_addresses tt_smalls tt_stems tt_slots tt_nexts) → va_S A s.heap H locs → wjX6_enterStem_56 post tt_count tt_begins tt_stemLengths tt_addresses tt_smalls tt_stems x1 tt_kinds tt_slots tt_nexts x2 → W p l e (headSpec wsX6_enterStem ({ frames := 3, cells := 0, slots := 0, locals := 66 })).room s m ([.ref (ad 5), .int x1] : List Value).toArray below meth c H locs 0 0 (MQ below Qc ([.ref (ad 5), .int x1] : List Value).toArray s 0 0 A) (F0 m 56 ls []) := by
    intro tt_kinds tt_slots tt_nexts x2 H locs ls hl hP hD hS h
    delta wjX6_enterStem_56 at h
    refine lv_aload_n hx hb dX6_enterStem_56 rfl (lv_at hl 0 rfl) ?_
    refine va_get (D := (dC, dI)) (ci := 5) (v := .ref (ad 20)) (C := RX6) (T := TX6) (N := 15) hx hb hts inX6 hown hK hP 5 rfl rfl 11 (by decide) (hts (.fieldLink RX6 44 "MailWords$TokenTable" "nexts" "[I") (List.mem_of_getElem? (i := 3) rfl)) (fun _ h9 => h9) rfl dX6_enterStem_57 ?_
    refine lv_iload_n hx hb dX6_enterStem_60 rfl (lv_at hl 1 rfl) ?_
    refine lv_aload_n hx hb dX6_enterStem_61 rfl (lv_at hl 0 rfl) ?_
    refine va_get (D := (dC, dI)) (ci := 5) (v := .ref (ad 19)) (C := RX6) (T := TX6) (N := 15) hx hb hts inX6 hown hK hP 5 rfl rfl 10 (by decide) (hts (.fieldLink RX6 41 "MailWords$TokenTable" "slots" "[I") (List.mem_of_getElem? (i := 1) rfl)) (fun _ h9 => h9) rfl dX6_enterStem_62 ?_
    refine lv_iload_n hx hb dX6_enterStem_65 rfl (lv_at hl 2 rfl) ?_
    have hi9 := h.1
    have h := h.2
    refine va_iald hx hb hK hP 19 0 rfl rfl hi9 dX6_enterStem_66 ?_
    have hi9 := h.1
    have h := h.2
    refine va_iast hx hb hK hP hD hS 20 0 rfl rfl hi9 dX6_enterStem_67 (fun H locs hP hD hS => ?_)
    have hP : va_P (dC, dI) vwCl (xW ad cI cZ lt_count lw_begin lw_end lw_depth lw_signed lw_led pr_written pr_within st_size tx_size tt_count tt_pieces tt_kinds lt_begins lt_marks st_word st_vowels tx_characters tt_begins tt_lengths tt_stemLengths tt_places tt_addresses tt_smalls tt_stems tt_slots (upd tt_nexts x1.toNatClampNeg (tt_slots x2.toNatClampNeg))) H := hP
    have hD : va_D A (xW ad cI cZ lt_count lw_begin lw_end lw_depth lw_signed lw_led pr_written pr_within st_size tx_size tt_count tt_pieces tt_kinds lt_begins lt_marks st_word st_vowels tx_characters tt_begins tt_lengths tt_stemLengths tt_places tt_addresses tt_smalls tt_stems tt_slots (upd tt_nexts x1.toNatClampNeg (tt_slots x2.toNatClampNeg))) := hD
    refine lv_aload_n hx hb dX6_enterStem_68 rfl (lv_at hl 0 rfl) ?_
    refine va_get (D := (dC, dI)) (ci := 5) (v := .ref (ad 19)) (C := RX6) (T := TX6) (N := 15) hx hb hts inX6 hown hK hP 5 rfl rfl 10 (by decide) (hts (.fieldLink RX6 41 "MailWords$TokenTable" "slots" "[I") (List.mem_of_getElem? (i := 1) rfl)) (fun _ h9 => h9) rfl dX6_enterStem_69 ?_
    refine lv_iload_n hx hb dX6_enterStem_72 rfl (lv_at hl 2 rfl) ?_
    refine lv_iload_n hx hb dX6_enterStem_73 rfl (lv_at hl 1 rfl) ?_
    have hi9 := h.1
    have h := h.2
    refine va_iast hx hb hK hP hD hS 19 0 rfl rfl hi9 dX6_enterStem_74 (fun H locs hP hD hS => ?_)
    have hP : va_P (dC, dI) vwCl (xW ad cI cZ lt_count lw_begin lw_end lw_depth lw_signed lw_led pr_written pr_within st_size tx_size tt_count tt_pieces tt_kinds lt_begins lt_marks st_word st_vowels tx_characters tt_begins tt_lengths tt_stemLengths tt_places tt_addresses tt_smalls tt_stems (upd tt_slots x2.toNatClampNeg x1) (upd tt_nexts x1.toNatClampNeg (tt_slots x2.toNatClampNeg))) H := hP
    have hD : va_D A (xW ad cI cZ lt_count lw_begin lw_end lw_depth lw_signed lw_led pr_written pr_within st_size tx_size tt_count tt_pieces tt_kinds lt_begins lt_marks st_word st_vowels tx_characters tt_begins tt_lengths tt_stemLengths tt_places tt_addresses tt_smalls tt_stems (upd tt_slots x2.toNatClampNeg x1) (upd tt_nexts x1.toNatClampNeg (tt_slots x2.toNatClampNeg))) := hD
    refine lv_aload_n hx hb dX6_enterStem_75 rfl (lv_at hl 0 rfl) ?_
    refine lv_dup hx hb dX6_enterStem_76 rfl ?_
    refine va_get (D := (dC, dI)) (ci := 5) (v := .int tt_kinds) (C := RX6) (T := TX6) (N := 15) hx hb hts inX6 hown hK hP 5 rfl rfl 14 (by decide) (hts (.fieldLink RX6 99 "MailWords$TokenTable" "kinds" "I") (List.mem_of_getElem? (i := 4) rfl)) (fun _ h9 => h9) rfl dX6_enterStem_77 ?_
    refine lv_iconst (v := 1) hx hb dX6_enterStem_80 (by decide) ?_
    refine lv_iadd hx hb dX6_enterStem_81 ?_
    refine lv_topi (fun tt_kinds_1 ett_kinds_1 => ?_)
    have h := h tt_kinds_1 ett_kinds_1
    refine va_put (D := (dC, dI)) (ci := 5) (v := .int tt_kinds_1) (ty := .int) (C := RX6) (T := TX6) (N := 15) hx hb hts inX6 tyX6 tyX6_ok nmX6 hown hK hP hD hS 5 rfl rfl 14 (by decide) (hts (.fieldLink RX6 99 "MailWords$TokenTable" "kinds" "I") (List.mem_of_getElem? (i := 4) rfl)) (fun _ h9 => h9) rfl (tyX6_ok 14 (by decide)) rfl rfl (Nat.le_of_ble_eq_true rfl) dX6_enterStem_82 (fun H locs hP hD hS => ?_)
    have hP : va_P (dC, dI) vwCl (xW ad cI cZ lt_count lw_begin lw_end lw_depth lw_signed lw_led pr_written pr_within st_size tx_size tt_count tt_pieces tt_kinds_1 lt_begins lt_marks st_word st_vowels tx_characters tt_begins tt_lengths tt_stemLengths tt_places tt_addresses tt_smalls tt_stems (upd tt_slots x2.toNatClampNeg x1) (upd tt_nexts x1.toNatClampNeg (tt_slots x2.toNatClampNeg))) H := hP
    have hD : va_D A (xW ad cI cZ lt_count lw_begin lw_end lw_depth lw_signed lw_led pr_written pr_within st_size tx_size tt_count tt_pieces tt_kinds_1 lt_begins lt_marks st_word st_vowels tx_characters tt_begins tt_lengths tt_stemLengths tt_places tt_addresses tt_smalls tt_stems (upd tt_slots x2.toNatClampNeg x1) (upd tt_nexts x1.toNatClampNeg (tt_slots x2.toNatClampNeg))) := hD
    exact W.vret hx hb hr (fun t ht hW => hQ (tt_kinds_1, (upd tt_slots x2.toNatClampNeg x1), (upd tt_nexts x1.toNatClampNeg (tt_slots x2.toNatClampNeg))) t h (by rw [ht]; exact hP) (va_K.moved hW.alike hK) hD (hS.F ht)) hS.2.2 dX6_enterStem_85
  have L16 : ∀ (tt_kinds : Int32) (tt_slots : Nat → Int32) (tt_nexts : Nat → Int32) (x2 : Int32) (n : Nat) (x3 : Int32) (x4 : Int32) (H : Heap) (locs : List Loc) (ls : Array Slot), lv_has ls 5 [(0, .ref (ad 5)), (1, .int x1), (2, .int x2), (3, .int x3), (4, .int x4)] → va_P (dC, dI) vwCl (xW ad cI cZ lt_count lw_begin lw_end lw_depth lw_signed lw_led pr_written pr_within st_size tx_size tt_count tt_pieces tt_kinds lt_begins lt_marks st_word st_vowels tx_characters tt_begins tt_lengths tt_stemLengths tt_places tt_addresses tt_smalls tt_stems tt_slots tt_nexts) H → va_D A (xW ad cI cZ lt_count lw_begin lw_end lw_depth lw_signed lw_led pr_written pr_within st_size tx_size tt_count tt_pieces tt_kinds lt_begins lt_marks st_word st_vowels tx_characters tt_begins tt_lengths tt_stemLengths tt_places tt_addresses tt_smalls tt_stems tt_slots tt_nexts) → va_S A s.heap H locs → wlX6_enterStem_16 post tt_count tt_begins tt_stemLengths tt_addresses tt_smalls tt_stems x1 tt_kinds tt_slots tt_nexts x2 n x3 x4 → W p l e (headSpec wsX6_enterStem ({ frames := 3, cells := 0, slots := 0, locals := 66 })).room s m ([.ref (ad 5), .int x1] : List Value).toArray below meth c H locs 0 0 (MQ below Qc ([.ref (ad 5), .int x1] : List Value).toArray s 0 0 A) (F0 m 16 ls []) := by
    intro tt_kinds tt_slots tt_nexts x2
    intro n
    induction n with
    | zero => intro x3 x4 H locs ls _ _ _ _ h; exact absurd h (fun z => z)
    | succ n16 ih16 =>
      intro x3 x4 H locs ls hl hP hD hS h
      rw [wlX6_enterStem_16] at h
      refine lv_iload hx hb dX6_enterStem_16 (lv_at hl 4 rfl) ?_
      refine lv_aload_n hx hb dX6_enterStem_18 rfl (lv_at hl 0 rfl) ?_
      refine va_get (D := (dC, dI)) (ci := 5) (v := .int tt_count) (C := RX6) (T := TX6) (N := 15) hx hb hts inX6 hown hK hP 5 rfl rfl 12 (by decide) (hts (.fieldLink RX6 55 "MailWords$TokenTable" "count" "I") (List.mem_of_getElem? (i := 2) rfl)) (fun _ h9 => h9) rfl dX6_enterStem_19 ?_
      refine lv_icmp_ge (tgt := 56) hx hb dX6_enterStem_22 (by decide) (fun c9 => ?_) (fun c9 => ?_)
      · have h := h.1 c9
        exact J56 tt_kinds tt_slots tt_nexts x2 H locs ls (lv_sub hl [0, 1, 2] rfl) hP hD hS h
      · have h := h.2 c9
        refine lv_aload_n hx hb dX6_enterStem_25 rfl (lv_at hl 0 rfl) ?_
        refine lv_iload_n hx hb dX6_enterStem_26 rfl (lv_at hl 3 rfl) ?_
        refine xc_vi (As := [.int x3]) (rest := []) xG Fx (sX6_exists l dC dI ad cI cZ sa sv lt_count lw_begin lw_end lw_depth lw_signed lw_led pr_written pr_within st_size tx_size tt_count tt_pieces tt_kinds lt_begins lt_marks st_word st_vowels tx_characters tt_begins tt_lengths tt_stemLengths tt_places tt_addresses tt_smalls tt_stems tt_slots tt_nexts x3 h) (cwV 1 hts gX6_enterStem_X6_exists rfl rfl rfl hdX6_exists ⟨Nat.le_of_ble_eq_true rfl, Nat.le_of_ble_eq_true rfl⟩) (va_recv hK hP (ci := 5) (q0 := 5) rfl rfl) hK hP hD hS hA hI rfl hl.1 rfl (Nat.le_of_ble_eq_true rfl) dX6_enterStem_27 ⟨Nat.zero_le _, Nat.zero_le _⟩ (fun r_2 u H locs h hP hD hS => ?_)
        refine lv_if_eq (tgt := 56) hx hb dX6_enterStem_30 (by decide) (fun c9 => ?_) (fun c9 => ?_)
        · have h := h.1 c9
          exact J56 tt_kinds tt_slots tt_nexts x2 H locs ls (lv_sub hl [0, 1, 2] rfl) hP hD hS h
        · have h := h.2 c9
          refine lv_aload_n hx hb dX6_enterStem_33 rfl (lv_at hl 0 rfl) ?_
          refine lv_iload_n hx hb dX6_enterStem_34 rfl (lv_at hl 1 rfl) ?_
          refine lv_iload_n hx hb dX6_enterStem_35 rfl (lv_at hl 3 rfl) ?_
          refine xc_vi (As := [.int x1, .int x3]) (rest := []) xG Fx (sX6_haveSameStem l dC dI ad cI cZ sa sv lt_count lw_begin lw_end lw_depth lw_signed lw_led pr_written pr_within st_size tx_size tt_count tt_pieces tt_kinds lt_begins lt_marks st_word st_vowels tx_characters tt_begins tt_lengths tt_stemLengths tt_places tt_addresses tt_smalls tt_stems tt_slots tt_nexts x1 x3 h) (cwV 2 hts gX6_enterStem_X6_haveSameStem rfl rfl rfl hdX6_haveSameStem ⟨Nat.le_of_ble_eq_true rfl, Nat.le_of_ble_eq_true rfl⟩) (va_recv hK hP (ci := 5) (q0 := 5) rfl rfl) hK hP hD hS hA hI rfl hl.1 rfl (Nat.le_of_ble_eq_true rfl) dX6_enterStem_36 ⟨Nat.zero_le _, Nat.zero_le _⟩ (fun r_3 u H locs h hP hD hS => ?_)
          refine lv_if_eq (tgt := 43) hx hb dX6_enterStem_39 (by decide) (fun c9 => ?_) (fun c9 => ?_)
          · have h := h.1 c9
            refine lv_aload_n hx hb dX6_enterStem_43 rfl (lv_at hl 0 rfl) ?_
            refine va_get (D := (dC, dI)) (ci := 5) (v := .ref (ad 20)) (C := RX6) (T := TX6) (N := 15) hx hb hts inX6 hown hK hP 5 rfl rfl 11 (by decide) (hts (.fieldLink RX6 44 "MailWords$TokenTable" "nexts" "[I") (List.mem_of_getElem? (i := 3) rfl)) (fun _ h9 => h9) rfl dX6_enterStem_44 ?_
            refine lv_iload_n hx hb dX6_enterStem_47 rfl (lv_at hl 3 rfl) ?_
            have hi9 := h.1
            have h := h.2
            refine va_iald hx hb hK hP 20 0 rfl rfl hi9 dX6_enterStem_48 ?_
            refine lv_topi (fun x3_4 ex3_4 => ?_)
            have h := h x3_4 ex3_4
            refine lv_istore_n (lv' := [(3, .int x3_4), (0, .ref (ad 5)), (1, .int x1), (2, .int x2), (4, .int x4)]) hx hb dX6_enterStem_49 rfl hl (by decide) rfl (fun ls hl => ?_)
            obtain ⟨x4_5, ex4_5⟩ : ∃ y : Int32, y = x4 + 1 := ⟨_, rfl⟩
            have h := h x4_5 ex4_5
            refine lv_iinc (v := x4_5) (lv' := [(4, .int x4_5), (3, .int x3_4), (0, .ref (ad 5)), (1, .int x1), (2, .int x2)]) hx hb dX6_enterStem_50 hl (k := 4) rfl (by rw [ex4_5]; rfl) (by decide) rfl (fun ls hl => ?_)
            refine lv_goto (tgt := 16) hx hb dX6_enterStem_53 (by decide) ?_
            exact ih16 x3_4 x4_5 H locs ls (lv_sub hl [2, 3, 4, 1, 0] rfl) hP hD hS h
          · have h := h.2 c9
            exact W.vret hx hb hr (fun t ht hW => hQ (tt_kinds, tt_slots, tt_nexts) t h (by rw [ht]; exact hP) (va_K.moved hW.alike hK) hD (hS.F ht)) hS.2.2 dX6_enterStem_42
  intro H locs hP hD hS
  delta wpX6_enterStem at h
  refine lv_aload_n hx hb dX6_enterStem_0 rfl (lv_at hl 0 rfl) ?_
  refine lv_iload_n hx hb dX6_enterStem_1 rfl (lv_at hl 1 rfl) ?_
  refine xc_vi (As := [.int x1]) (rest := []) xG Fx (sX6_slotOf l dC dI ad cI cZ sa sv lt_count lw_begin lw_end lw_depth lw_signed lw_led pr_written pr_within st_size tx_size tt_count tt_pieces tt_kinds lt_begins lt_marks st_word st_vowels tx_characters tt_begins tt_lengths tt_stemLengths tt_places tt_addresses tt_smalls tt_stems tt_slots tt_nexts x1 h) (cwV 1 hts gX6_enterStem_X6_slotOf rfl rfl rfl hdX6_slotOf ⟨Nat.le_of_ble_eq_true rfl, Nat.le_of_ble_eq_true rfl⟩) (va_recv hK hP (ci := 5) (q0 := 5) rfl rfl) hK hP hD hS hA hI rfl hl.1 rfl (Nat.le_of_ble_eq_true rfl) dX6_enterStem_2 ⟨Nat.zero_le _, Nat.zero_le _⟩ (fun r_6 u H locs h hP hD hS => ?_)
  refine lv_istore_n (lv' := [(2, .int r_6), (0, .ref (ad 5)), (1, .int x1)]) hx hb dX6_enterStem_5 rfl hl (by decide) rfl (fun ls hl => ?_)
  refine lv_aload_n hx hb dX6_enterStem_6 rfl (lv_at hl 1 rfl) ?_
  refine va_get (D := (dC, dI)) (ci := 5) (v := .ref (ad 19)) (C := RX6) (T := TX6) (N := 15) hx hb hts inX6 hown hK hP 5 rfl rfl 10 (by decide) (hts (.fieldLink RX6 41 "MailWords$TokenTable" "slots" "[I") (List.mem_of_getElem? (i := 1) rfl)) (fun _ h9 => h9) rfl dX6_enterStem_7 ?_
  refine lv_iload_n hx hb dX6_enterStem_10 rfl (lv_at hl 0 rfl) ?_
  have hi9 := h.1
  have h := h.2
  refine va_iald hx hb hK hP 19 0 rfl rfl hi9 dX6_enterStem_11 ?_
  refine lv_topi (fun x3_7 ex3_7 => ?_)
  have h := h x3_7 ex3_7
  refine lv_istore_n (lv' := [(3, .int x3_7), (2, .int r_6), (0, .ref (ad 5)), (1, .int x1)]) hx hb dX6_enterStem_12 rfl hl (by decide) rfl (fun ls hl => ?_)
  refine lv_iconst (v := 0) hx hb dX6_enterStem_13 (by decide) ?_
  refine lv_istore (lv' := [(4, .int 0), (3, .int x3_7), (2, .int r_6), (0, .ref (ad 5)), (1, .int x1)]) hx hb dX6_enterStem_14 hl (by decide) rfl (fun ls hl => ?_)
  obtain ⟨n, h⟩ := h
  exact L16 tt_kinds tt_slots tt_nexts r_6 n x3_7 0 H locs ls (lv_sub hl [3, 4, 2, 1, 0] rfl) hP hD hS h
set_option maxHeartbeats 4000000 in
set_option maxRecDepth 100000 in
theorem sX6_findStems (l : Launch) (dC : Nat → ClassId) (dI : Nat → Nat → Nat) (ad : Nat → Nat) (cI cZ : ClassId) (sa sv : Nat → Nat) (lt_count : Int32) (lw_begin : Int32) (lw_end : Int32) (lw_depth : Int32) (lw_signed : Int32) (lw_led : Int32) (pr_written : Int32) (pr_within : Int32) (st_size : Int32) (tx_size : Int32) (tt_count : Int32) (tt_pieces : Int32) (tt_kinds : Int32) (lt_begins : Nat → Int32) (lt_marks : Nat → Int32) (st_word : Nat → Int32) (st_vowels : Nat → Int32) (tx_characters : Nat → Int32) (tt_begins : Nat → Int32) (tt_lengths : Nat → Int32) (tt_stemLengths : Nat → Int32) (tt_places : Nat → Int32) (tt_addresses : Nat → Int32) (tt_smalls : Nat → Int32) (tt_stems : Nat → Int32) (tt_slots : Nat → Int32) (tt_nexts : Nat → Int32)  {post : Int32 → Int32 → (Nat → Int32) → (Nat → Int32) → (Nat → Int32) → (Nat → Int32) → (Nat → Int32) → (Nat → Int32) → Prop} (h : wpX6_findStems post st_size tt_count tt_kinds st_word st_vowels tt_begins tt_lengths tt_stemLengths tt_addresses tt_smalls tt_stems tt_slots tt_nexts) : xMv l (dC, dI) vwCl [(cI, .int), (cZ, .boolean)] (sI sa sv) yX6_findStems wsX6_findStems ({ frames := 8, cells := 0, slots := 0, locals := 179 }) (xW ad cI cZ lt_count lw_begin lw_end lw_depth lw_signed lw_led pr_written pr_within st_size tx_size tt_count tt_pieces tt_kinds lt_begins lt_marks st_word st_vowels tx_characters tt_begins tt_lengths tt_stemLengths tt_places tt_addresses tt_smalls tt_stems tt_slots tt_nexts) [.ref (ad 5)] (fun u : Int32 × Int32 × (Nat → Int32) × (Nat → Int32) × (Nat → Int32) × (Nat → Int32) × (Nat → Int32) × (Nat → Int32) => post u.1 u.2.1 u.2.2.1 u.2.2.2.1 u.2.2.2.2.1 u.2.2.2.2.2.1 u.2.2.2.2.2.2.1 u.2.2.2.2.2.2.2) (fun u : Int32 × Int32 × (Nat → Int32) × (Nat → Int32) × (Nat → Int32) × (Nat → Int32) × (Nat → Int32) × (Nat → Int32) => (xW ad cI cZ lt_count lw_begin lw_end lw_depth lw_signed lw_led pr_written pr_within u.1 tx_size tt_count tt_pieces u.2.1 lt_begins lt_marks u.2.2.1 u.2.2.2.1 tx_characters tt_begins tt_lengths u.2.2.2.2.1 tt_places tt_addresses tt_smalls u.2.2.2.2.2.1 u.2.2.2.2.2.2.1 u.2.2.2.2.2.2.2)) := by
  intro sz
  refine Met.ofW (cc := cX6_findStems) (maxL := 2) (ret := none) (by decide) rfl ?_
  intro p e s m args below meth c s₁ B hml hv
  obtain ⟨rfl, hsz, hP, hK, hD0, hI⟩ := hv
  have hx := B.exec
  have hb := B.bytes
  have hr := B.returns
  have hts := atoms_spec (ws := wsX6_findStems) B.pre
  have hown : s.vm.findClass RX6 = some m.cls := findClass_of_methodNamed B.named
  have hlocks := B.notSynchronized
  subst hsz
  have hD := hD0.self (sz := s.heap.size)
  generalize hAe : va_A (xW ad cI cZ lt_count lw_begin lw_end lw_depth lw_signed lw_led pr_written pr_within st_size tx_size tt_count tt_pieces tt_kinds lt_begins lt_marks st_word st_vowels tx_characters tt_begins tt_lengths tt_stemLengths tt_places tt_addresses tt_smalls tt_stems tt_slots tt_nexts) s.heap.size = A at hD hI ⊢
  have hA : ∀ q : Nat, s.heap.size ≤ q → A q := fun q h => by rw [← hAe]; exact Or.inr h
  have hS : va_S A s.heap s.heap [] := va_S.rf
  have Fx : CallFix p m c cX6_findStems 2 s ([.ref (ad 5)] : List Value).toArray wsX6_findStems RX6 := ⟨hx, hb, hml, hown, hts⟩
  have hQ : ∀ (u : Int32 × Int32 × (Nat → Int32) × (Nat → Int32) × (Nat → Int32) × (Nat → Int32) × (Nat → Int32) × (Nat → Int32)) (t : State), (fun u : Int32 × Int32 × (Nat → Int32) × (Nat → Int32) × (Nat → Int32) × (Nat → Int32) × (Nat → Int32) × (Nat → Int32) => post u.1 u.2.1 u.2.2.1 u.2.2.2.1 u.2.2.2.2.1 u.2.2.2.2.2.1 u.2.2.2.2.2.2.1 u.2.2.2.2.2.2.2) u → va_P (dC, dI) vwCl ((fun u : Int32 × Int32 × (Nat → Int32) × (Nat → Int32) × (Nat → Int32) × (Nat → Int32) × (Nat → Int32) × (Nat → Int32) => (xW ad cI cZ lt_count lw_begin lw_end lw_depth lw_signed lw_led pr_written pr_within u.1 tx_size tt_count tt_pieces u.2.1 lt_begins lt_marks u.2.2.1 u.2.2.2.1 tx_characters tt_begins tt_lengths u.2.2.2.2.1 tt_places tt_addresses tt_smalls u.2.2.2.2.2.1 u.2.2.2.2.2.2.1 u.2.2.2.2.2.2.2)) u) t.heap → va_K (dC, dI) vwCl [(cI, .int), (cZ, .boolean)] t → va_D A ((fun u : Int32 × Int32 × (Nat → Int32) × (Nat → Int32) × (Nat → Int32) × (Nat → Int32) × (Nat → Int32) × (Nat → Int32) => (xW ad cI cZ lt_count lw_begin lw_end lw_depth lw_signed lw_led pr_written pr_within u.1 tx_size tt_count tt_pieces u.2.1 lt_begins lt_marks u.2.2.1 u.2.2.2.1 tx_characters tt_begins tt_lengths u.2.2.2.2.1 tt_places tt_addresses tt_smalls u.2.2.2.2.2.1 u.2.2.2.2.2.2.1 u.2.2.2.2.2.2.2)) u) → va_F A s t → (va_Qv (fun u : Int32 × Int32 × (Nat → Int32) × (Nat → Int32) × (Nat → Int32) × (Nat → Int32) × (Nat → Int32) × (Nat → Int32) => post u.1 u.2.1 u.2.2.1 u.2.2.2.1 u.2.2.2.2.1 u.2.2.2.2.2.1 u.2.2.2.2.2.2.1 u.2.2.2.2.2.2.2) (xB (dC, dI) vwCl [(cI, .int), (cZ, .boolean)] A (fun u : Int32 × Int32 × (Nat → Int32) × (Nat → Int32) × (Nat → Int32) × (Nat → Int32) × (Nat → Int32) × (Nat → Int32) => (xW ad cI cZ lt_count lw_begin lw_end lw_depth lw_signed lw_led pr_written pr_within u.1 tx_size tt_count tt_pieces u.2.1 lt_begins lt_marks u.2.2.1 u.2.2.2.1 tx_characters tt_begins tt_lengths u.2.2.2.2.1 tt_places tt_addresses tt_smalls u.2.2.2.2.2.1 u.2.2.2.2.2.2.1 u.2.2.2.2.2.2.2))) A) ([.ref (ad 5)] : List Value).toArray s (.returned none) t := fun u t h1 h2 h3 h4 h5 => ⟨⟨u, rfl, h1, h2, h3, h4⟩, h5⟩
  generalize (va_Qv (fun u : Int32 × Int32 × (Nat → Int32) × (Nat → Int32) × (Nat → Int32) × (Nat → Int32) × (Nat → Int32) × (Nat → Int32) => post u.1 u.2.1 u.2.2.1 u.2.2.2.1 u.2.2.2.2.1 u.2.2.2.2.2.1 u.2.2.2.2.2.2.1 u.2.2.2.2.2.2.2) (xB (dC, dI) vwCl [(cI, .int), (cZ, .boolean)] A (fun u : Int32 × Int32 × (Nat → Int32) × (Nat → Int32) × (Nat → Int32) × (Nat → Int32) × (Nat → Int32) × (Nat → Int32) => (xW ad cI cZ lt_count lw_begin lw_end lw_depth lw_signed lw_led pr_written pr_within u.1 tx_size tt_count tt_pieces u.2.1 lt_begins lt_marks u.2.2.1 u.2.2.2.1 tx_characters tt_begins tt_lengths u.2.2.2.2.1 tt_places tt_addresses tt_smalls u.2.2.2.2.2.1 u.2.2.2.2.2.2.1 u.2.2.2.2.2.2.2))) A) = Qc at hQ ⊢
  have hl := lv_entry ([.ref (ad 5)]) (n := 2) (Nat.le_of_ble_eq_true rfl)
  rw [lg_entry_eq]
  generalize (lg_sl ([.ref (ad 5)]) ++ List.replicate (2 - (lg_sl ([.ref (ad 5)])).length) Slot.unset).toArray = ls at hl ⊢
  have hl : lv_has ls 2 [(0, .ref (ad 5))] := hl
  refine (fun (key : ∀ (H : Heap) (locs : List Loc), va_P (dC, dI) vwCl (xW ad cI cZ lt_count lw_begin lw_end lw_depth lw_signed lw_led pr_written pr_within st_size tx_size tt_count tt_pieces tt_kinds lt_begins lt_marks st_word st_vowels tx_characters tt_begins tt_lengths tt_stemLengths tt_places tt_addresses tt_smalls tt_stems tt_slots tt_nexts) H → va_D A (xW ad cI cZ lt_count lw_begin lw_end lw_depth lw_signed lw_led pr_written pr_within st_size tx_size tt_count tt_pieces tt_kinds lt_begins lt_marks st_word st_vowels tx_characters tt_begins tt_lengths tt_stemLengths tt_places tt_addresses tt_smalls tt_stems tt_slots tt_nexts) → va_S A s.heap H locs → W p l e (headSpec wsX6_findStems ({ frames := 8, cells := 0, slots := 0, locals := 179 })).room s m ([.ref (ad 5)] : List Value).toArray below meth c H locs 0 0 (MQ below Qc ([.ref (ad 5)] : List Value).toArray s 0 0 A) (F0 m 0 ls [])) => key _ _ hP hD hS) ?_
  have inX6 : ∀ w ∈ wsX60, w ∈ wsX6_findStems := (fun _ h9 => List.mem_cons_of_mem _ (List.mem_append_left _ (List.mem_append_right _ h9)))
  have L29 : ∀ (n : Nat) (st_size : Int32) (tt_kinds : Int32) (st_word : Nat → Int32) (st_vowels : Nat → Int32) (tt_stemLengths : Nat → Int32) (tt_stems : Nat → Int32) (tt_slots : Nat → Int32) (tt_nexts : Nat → Int32) (x1 : Int32) (H : Heap) (locs : List Loc) (ls : Array Slot), lv_has ls 2 [(0, .ref (ad 5)), (1, .int x1)] → va_P (dC, dI) vwCl (xW ad cI cZ lt_count lw_begin lw_end lw_depth lw_signed lw_led pr_written pr_within st_size tx_size tt_count tt_pieces tt_kinds lt_begins lt_marks st_word st_vowels tx_characters tt_begins tt_lengths tt_stemLengths tt_places tt_addresses tt_smalls tt_stems tt_slots tt_nexts) H → va_D A (xW ad cI cZ lt_count lw_begin lw_end lw_depth lw_signed lw_led pr_written pr_within st_size tx_size tt_count tt_pieces tt_kinds lt_begins lt_marks st_word st_vowels tx_characters tt_begins tt_lengths tt_stemLengths tt_places tt_addresses tt_smalls tt_stems tt_slots tt_nexts) → va_S A s.heap H locs → wlX6_findStems_29 post tt_count tt_begins tt_lengths tt_addresses tt_smalls n st_size tt_kinds st_word st_vowels tt_stemLengths tt_stems tt_slots tt_nexts x1 → W p l e (headSpec wsX6_findStems ({ frames := 8, cells := 0, slots := 0, locals := 179 })).room s m ([.ref (ad 5)] : List Value).toArray below meth c H locs 0 0 (MQ below Qc ([.ref (ad 5)] : List Value).toArray s 0 0 A) (F0 m 29 ls []) := by
    intro n
    induction n with
    | zero => intro st_size tt_kinds st_word st_vowels tt_stemLengths tt_stems tt_slots tt_nexts x1 H locs ls _ _ _ _ h; exact absurd h (fun z => z)
    | succ n29 ih29 =>
      intro st_size tt_kinds st_word st_vowels tt_stemLengths tt_stems tt_slots tt_nexts x1 H locs ls hl hP hD hS h
      have J99 : ∀ (st_size : Int32) (tt_kinds : Int32) (st_word : Nat → Int32) (st_vowels : Nat → Int32) (tt_stemLengths : Nat → Int32) (tt_stems : Nat → Int32) (tt_slots : Nat → Int32) (tt_nexts : Nat → Int32) (x1 : Int32) (H : Heap) (locs : List Loc) (ls : Array Slot), lv_has ls 2 [(0, .ref (ad 5)), (1, .int x1)] → va_P (dC, dI) vwCl (xW ad cI cZ lt_count lw_begin lw_end lw_depth lw_signed lw_led pr_written pr_within st_size tx_size tt_count tt_pieces tt_kinds lt_begins lt_marks st_word st_vowels tx_characters tt_begins tt_lengths tt_stemLengths tt_places tt_addresses tt_smalls tt_stems tt_slots tt_nexts) H → va_D A (xW ad cI cZ lt_count lw_begin lw_end lw_depth lw_signed lw_led pr_written pr_within st_size tx_size tt_count tt_pieces tt_kinds lt_begins lt_marks st_word st_vowels tx_characters tt_begins tt_lengths tt_stemLengths tt_places tt_addresses tt_smalls tt_stems tt_slots tt_nexts) → va_S A s.heap H locs → wjX6_findStems_99 (fun st_size tt_kinds st_word st_vowels tt_stemLengths tt_stems tt_slots tt_nexts x1 => wlX6_findStems_29 post tt_count tt_begins tt_lengths tt_addresses tt_smalls n29 st_size tt_kinds st_word st_vowels tt_stemLengths tt_stems tt_slots tt_nexts x1) post tt_count tt_begins tt_lengths tt_addresses tt_smalls st_size tt_kinds st_word st_vowels tt_stemLengths tt_stems tt_slots tt_nexts x1 → W p l e (headSpec wsX6_findStems ({ frames := 8, cells := 0, slots := 0, locals := 179 })).room s m ([.ref (ad 5)] : List Value).toArray below meth c H locs 0 0 (MQ below Qc ([.ref (ad 5)] : List Value).toArray s 0 0 A) (F0 m 99 ls []) := by
        intro st_size tt_kinds st_word st_vowels tt_stemLengths tt_stems tt_slots tt_nexts x1 H locs ls hl hP hD hS h
        delta wjX6_findStems_99 at h
        obtain ⟨x1_1, ex1_1⟩ : ∃ y : Int32, y = x1 + 1 := ⟨_, rfl⟩
        have h := h x1_1 ex1_1
        refine lv_iinc (v := x1_1) (lv' := [(1, .int x1_1), (0, .ref (ad 5))]) hx hb dX6_findStems_99 hl (k := 1) rfl (by rw [ex1_1]; rfl) (by decide) rfl (fun ls hl => ?_)
        refine lv_goto (tgt := 29) hx hb dX6_findStems_102 (by decide) ?_
        exact ih29 st_size tt_kinds st_word st_vowels tt_stemLengths tt_stems tt_slots tt_nexts x1_1 H locs ls (lv_sub hl [1, 0] rfl) hP hD hS h
      rw [wlX6_findStems_29] at h
      refine lv_iload_n hx hb dX6_findStems_29 rfl (lv_at hl 1 rfl) ?_
      refine lv_aload_n hx hb dX6_findStems_30 rfl (lv_at hl 0 rfl) ?_
      refine va_get (D := (dC, dI)) (ci := 5) (v := .int tt_count) (C := RX6) (T := TX6) (N := 15) hx hb hts inX6 hown hK hP 5 rfl rfl 12 (by decide) (hts (.fieldLink RX6 55 "MailWords$TokenTable" "count" "I") (List.mem_of_getElem? (i := 3) rfl)) (fun _ h9 => h9) rfl dX6_findStems_31 ?_
      refine lv_icmp_ge (tgt := 105) hx hb dX6_findStems_34 (by decide) (fun c9 => ?_) (fun c9 => ?_)
      · have h := h.1 c9
        exact W.vret hx hb hr (fun t ht hW => hQ (st_size, tt_kinds, st_word, st_vowels, tt_stemLengths, tt_stems, tt_slots, tt_nexts) t h (by rw [ht]; exact hP) (va_K.moved hW.alike hK) hD (hS.F ht)) hS.2.2 dX6_findStems_105
      · have h := h.2 c9
        refine lv_aload_n hx hb dX6_findStems_37 rfl (lv_at hl 0 rfl) ?_
        refine va_get (D := (dC, dI)) (ci := 5) (v := .ref (ad 16)) (C := RX6) (T := TX6) (N := 15) hx hb hts inX6 hown hK hP 5 rfl rfl 7 (by decide) (hts (.fieldLink RX6 31 "MailWords$TokenTable" "addresses" "[Z") (List.mem_of_getElem? (i := 4) rfl)) (fun _ h9 => h9) rfl dX6_findStems_38 ?_
        refine lv_iload_n hx hb dX6_findStems_41 rfl (lv_at hl 1 rfl) ?_
        have hi9 := h.1
        have h := h.2
        refine va_zald hx hb hK hP 16 1 rfl rfl hi9 dX6_findStems_42 ?_
        refine lv_if_eq (tgt := 61) hx hb dX6_findStems_43 (by decide) (fun c9 => ?_) (fun c9 => ?_)
        · have h := h.1 c9
          refine lv_aload_n hx hb dX6_findStems_61 rfl (lv_at hl 0 rfl) ?_
          refine va_get (D := (dC, dI)) (ci := 5) (v := .ref (ad 14)) (C := RX6) (T := TX6) (N := 15) hx hb hts inX6 hown hK hP 5 rfl rfl 5 (by decide) (hts (.fieldLink RX6 25 "MailWords$TokenTable" "stemLengths" "[I") (List.mem_of_getElem? (i := 5) rfl)) (fun _ h9 => h9) rfl dX6_findStems_62 ?_
          refine lv_iload_n hx hb dX6_findStems_65 rfl (lv_at hl 1 rfl) ?_
          refine lv_aload_n hx hb dX6_findStems_66 rfl (lv_at hl 0 rfl) ?_
          refine va_get (D := (dC, dI)) (ci := 5) (v := .ref (ad 3)) (C := RX6) (T := TX6) (N := 15) hx hb hts inX6 hown hK hP 5 rfl rfl 2 (by decide) (hts (.fieldLink RX6 12 "MailWords$TokenTable" "stemmer" "LMailWords$Stemmer;") (List.mem_of_getElem? (i := 7) rfl)) (fun _ h9 => h9) rfl dX6_findStems_67 ?_
          refine lv_aload_n hx hb dX6_findStems_70 rfl (lv_at hl 0 rfl) ?_
          refine va_get (D := (dC, dI)) (ci := 5) (v := .ref (ad 17)) (C := RX6) (T := TX6) (N := 15) hx hb hts inX6 hown hK hP 5 rfl rfl 8 (by decide) (hts (.fieldLink RX6 35 "MailWords$TokenTable" "smalls" "[I") (List.mem_of_getElem? (i := 8) rfl)) (fun _ h9 => h9) rfl dX6_findStems_71 ?_
          refine lv_aload_n hx hb dX6_findStems_74 rfl (lv_at hl 0 rfl) ?_
          refine va_get (D := (dC, dI)) (ci := 5) (v := .ref (ad 18)) (C := RX6) (T := TX6) (N := 15) hx hb hts inX6 hown hK hP 5 rfl rfl 9 (by decide) (hts (.fieldLink RX6 38 "MailWords$TokenTable" "stems" "[I") (List.mem_of_getElem? (i := 9) rfl)) (fun _ h9 => h9) rfl dX6_findStems_75 ?_
          refine lv_aload_n hx hb dX6_findStems_78 rfl (lv_at hl 0 rfl) ?_
          refine va_get (D := (dC, dI)) (ci := 5) (v := .ref (ad 12)) (C := RX6) (T := TX6) (N := 15) hx hb hts inX6 hown hK hP 5 rfl rfl 3 (by decide) (hts (.fieldLink RX6 18 "MailWords$TokenTable" "begins" "[I") (List.mem_of_getElem? (i := 10) rfl)) (fun _ h9 => h9) rfl dX6_findStems_79 ?_
          refine lv_iload_n hx hb dX6_findStems_82 rfl (lv_at hl 1 rfl) ?_
          have hi9 := h.1
          have h := h.2
          refine va_iald hx hb hK hP 12 0 rfl rfl hi9 dX6_findStems_83 ?_
          refine lv_aload_n hx hb dX6_findStems_84 rfl (lv_at hl 0 rfl) ?_
          refine va_get (D := (dC, dI)) (ci := 5) (v := .ref (ad 13)) (C := RX6) (T := TX6) (N := 15) hx hb hts inX6 hown hK hP 5 rfl rfl 4 (by decide) (hts (.fieldLink RX6 22 "MailWords$TokenTable" "lengths" "[I") (List.mem_of_getElem? (i := 6) rfl)) (fun _ h9 => h9) rfl dX6_findStems_85 ?_
          refine lv_iload_n hx hb dX6_findStems_88 rfl (lv_at hl 1 rfl) ?_
          have hi9 := h.1
          have h := h.2
          refine va_iald hx hb hK hP 13 0 rfl rfl hi9 dX6_findStems_89 ?_
          refine xc_vi (As := [.ref (ad 17), .ref (ad 18), .int (tt_begins x1.toNatClampNeg), .int (tt_lengths x1.toNatClampNeg)]) (rest := [.int x1, .ref (ad 14)]) xG Fx (sX4_stem_tt_smalls_tt_stems l dC dI ad cI cZ sa sv lt_count lw_begin lw_end lw_depth lw_signed lw_led pr_written pr_within st_size tx_size tt_count tt_pieces tt_kinds lt_begins lt_marks st_word st_vowels tx_characters tt_begins tt_lengths tt_stemLengths tt_places tt_addresses tt_smalls tt_stems tt_slots tt_nexts (tt_begins x1.toNatClampNeg) (tt_lengths x1.toNatClampNeg) h) (cwV 4 hts gX6_findStems_X4_stem rfl rfl rfl hdX4_stem ⟨Nat.le_of_ble_eq_true rfl, Nat.le_of_ble_eq_true rfl⟩) (va_recv hK hP (ci := 3) (q0 := 3) rfl rfl) hK hP hD hS hA hI rfl hl.1 rfl (Nat.le_of_ble_eq_true rfl) dX6_findStems_90 ⟨Nat.zero_le _, Nat.zero_le _⟩ (fun r_2 u H locs h hP hD hS => ?_)
          obtain ⟨st_size_3, st_word_4, st_vowels_5, tt_stems_6⟩ := u
          have hP : va_P (dC, dI) vwCl (xW ad cI cZ lt_count lw_begin lw_end lw_depth lw_signed lw_led pr_written pr_within st_size_3 tx_size tt_count tt_pieces tt_kinds lt_begins lt_marks st_word_4 st_vowels_5 tx_characters tt_begins tt_lengths tt_stemLengths tt_places tt_addresses tt_smalls tt_stems_6 tt_slots tt_nexts) H := hP
          have hD : va_D A (xW ad cI cZ lt_count lw_begin lw_end lw_depth lw_signed lw_led pr_written pr_within st_size_3 tx_size tt_count tt_pieces tt_kinds lt_begins lt_marks st_word_4 st_vowels_5 tx_characters tt_begins tt_lengths tt_stemLengths tt_places tt_addresses tt_smalls tt_stems_6 tt_slots tt_nexts) := hD
          have hi9 := h.1
          have h := h.2
          refine va_iast hx hb hK hP hD hS 14 0 rfl rfl hi9 dX6_findStems_93 (fun H locs hP hD hS => ?_)
          have hP : va_P (dC, dI) vwCl (xW ad cI cZ lt_count lw_begin lw_end lw_depth lw_signed lw_led pr_written pr_within st_size_3 tx_size tt_count tt_pieces tt_kinds lt_begins lt_marks st_word_4 st_vowels_5 tx_characters tt_begins tt_lengths (upd tt_stemLengths x1.toNatClampNeg r_2) tt_places tt_addresses tt_smalls tt_stems_6 tt_slots tt_nexts) H := hP
          have hD : va_D A (xW ad cI cZ lt_count lw_begin lw_end lw_depth lw_signed lw_led pr_written pr_within st_size_3 tx_size tt_count tt_pieces tt_kinds lt_begins lt_marks st_word_4 st_vowels_5 tx_characters tt_begins tt_lengths (upd tt_stemLengths x1.toNatClampNeg r_2) tt_places tt_addresses tt_smalls tt_stems_6 tt_slots tt_nexts) := hD
          refine lv_aload_n hx hb dX6_findStems_94 rfl (lv_at hl 0 rfl) ?_
          refine lv_iload_n hx hb dX6_findStems_95 rfl (lv_at hl 1 rfl) ?_
          refine xc_vv (As := [.int x1]) (rest := []) xG Fx (sX6_enterStem l dC dI ad cI cZ sa sv lt_count lw_begin lw_end lw_depth lw_signed lw_led pr_written pr_within st_size_3 tx_size tt_count tt_pieces tt_kinds lt_begins lt_marks st_word_4 st_vowels_5 tx_characters tt_begins tt_lengths (upd tt_stemLengths x1.toNatClampNeg r_2) tt_places tt_addresses tt_smalls tt_stems_6 tt_slots tt_nexts x1 h) (cwV 1 hts gX6_findStems_X6_enterStem rfl rfl rfl hdX6_enterStem ⟨Nat.le_of_ble_eq_true rfl, Nat.le_of_ble_eq_true rfl⟩) (va_recv hK hP (ci := 5) (q0 := 5) rfl rfl) hK hP hD hS hA hI rfl hl.1 rfl (Nat.le_of_ble_eq_true rfl) dX6_findStems_96 ⟨Nat.zero_le _, Nat.zero_le _⟩ (fun u H locs h hP hD hS => ?_)
          obtain ⟨tt_kinds_8, tt_slots_9, tt_nexts_10⟩ := u
          have hP : va_P (dC, dI) vwCl (xW ad cI cZ lt_count lw_begin lw_end lw_depth lw_signed lw_led pr_written pr_within st_size_3 tx_size tt_count tt_pieces tt_kinds_8 lt_begins lt_marks st_word_4 st_vowels_5 tx_characters tt_begins tt_lengths (upd tt_stemLengths x1.toNatClampNeg r_2) tt_places tt_addresses tt_smalls tt_stems_6 tt_slots_9 tt_nexts_10) H := hP
          have hD : va_D A (xW ad cI cZ lt_count lw_begin lw_end lw_depth lw_signed lw_led pr_written pr_within st_size_3 tx_size tt_count tt_pieces tt_kinds_8 lt_begins lt_marks st_word_4 st_vowels_5 tx_characters tt_begins tt_lengths (upd tt_stemLengths x1.toNatClampNeg r_2) tt_places tt_addresses tt_smalls tt_stems_6 tt_slots_9 tt_nexts_10) := hD
          exact J99 st_size_3 tt_kinds_8 st_word_4 st_vowels_5 (upd tt_stemLengths x1.toNatClampNeg r_2) tt_stems_6 tt_slots_9 tt_nexts_10 x1 H locs ls (lv_sub hl [0, 1] rfl) hP hD hS h
        · have h := h.2 c9
          refine lv_aload_n hx hb dX6_findStems_46 rfl (lv_at hl 0 rfl) ?_
          refine va_get (D := (dC, dI)) (ci := 5) (v := .ref (ad 14)) (C := RX6) (T := TX6) (N := 15) hx hb hts inX6 hown hK hP 5 rfl rfl 5 (by decide) (hts (.fieldLink RX6 25 "MailWords$TokenTable" "stemLengths" "[I") (List.mem_of_getElem? (i := 5) rfl)) (fun _ h9 => h9) rfl dX6_findStems_47 ?_
          refine lv_iload_n hx hb dX6_findStems_50 rfl (lv_at hl 1 rfl) ?_
          refine lv_aload_n hx hb dX6_findStems_51 rfl (lv_at hl 0 rfl) ?_
          refine va_get (D := (dC, dI)) (ci := 5) (v := .ref (ad 13)) (C := RX6) (T := TX6) (N := 15) hx hb hts inX6 hown hK hP 5 rfl rfl 4 (by decide) (hts (.fieldLink RX6 22 "MailWords$TokenTable" "lengths" "[I") (List.mem_of_getElem? (i := 6) rfl)) (fun _ h9 => h9) rfl dX6_findStems_52 ?_
          refine lv_iload_n hx hb dX6_findStems_55 rfl (lv_at hl 1 rfl) ?_
          have hi9 := h.1
          have h := h.2
          refine va_iald hx hb hK hP 13 0 rfl rfl hi9 dX6_findStems_56 ?_
          have hi9 := h.1
          have h := h.2
          refine va_iast hx hb hK hP hD hS 14 0 rfl rfl hi9 dX6_findStems_57 (fun H locs hP hD hS => ?_)
          have hP : va_P (dC, dI) vwCl (xW ad cI cZ lt_count lw_begin lw_end lw_depth lw_signed lw_led pr_written pr_within st_size tx_size tt_count tt_pieces tt_kinds lt_begins lt_marks st_word st_vowels tx_characters tt_begins tt_lengths (upd tt_stemLengths x1.toNatClampNeg (tt_lengths x1.toNatClampNeg)) tt_places tt_addresses tt_smalls tt_stems tt_slots tt_nexts) H := hP
          have hD : va_D A (xW ad cI cZ lt_count lw_begin lw_end lw_depth lw_signed lw_led pr_written pr_within st_size tx_size tt_count tt_pieces tt_kinds lt_begins lt_marks st_word st_vowels tx_characters tt_begins tt_lengths (upd tt_stemLengths x1.toNatClampNeg (tt_lengths x1.toNatClampNeg)) tt_places tt_addresses tt_smalls tt_stems tt_slots tt_nexts) := hD
          refine lv_goto (tgt := 99) hx hb dX6_findStems_58 (by decide) ?_
          exact J99 st_size tt_kinds st_word st_vowels (upd tt_stemLengths x1.toNatClampNeg (tt_lengths x1.toNatClampNeg)) tt_stems tt_slots tt_nexts x1 H locs ls (lv_sub hl [0, 1] rfl) hP hD hS h
  have L7 : ∀ (st_size : Int32) (tt_kinds : Int32) (st_word : Nat → Int32) (st_vowels : Nat → Int32) (tt_stemLengths : Nat → Int32) (tt_stems : Nat → Int32) (tt_nexts : Nat → Int32) (n : Nat) (tt_slots : Nat → Int32) (x1 : Int32) (H : Heap) (locs : List Loc) (ls : Array Slot), lv_has ls 2 [(0, .ref (ad 5)), (1, .int x1)] → va_P (dC, dI) vwCl (xW ad cI cZ lt_count lw_begin lw_end lw_depth lw_signed lw_led pr_written pr_within st_size tx_size tt_count tt_pieces tt_kinds lt_begins lt_marks st_word st_vowels tx_characters tt_begins tt_lengths tt_stemLengths tt_places tt_addresses tt_smalls tt_stems tt_slots tt_nexts) H → va_D A (xW ad cI cZ lt_count lw_begin lw_end lw_depth lw_signed lw_led pr_written pr_within st_size tx_size tt_count tt_pieces tt_kinds lt_begins lt_marks st_word st_vowels tx_characters tt_begins tt_lengths tt_stemLengths tt_places tt_addresses tt_smalls tt_stems tt_slots tt_nexts) → va_S A s.heap H locs → wlX6_findStems_7 post tt_count tt_begins tt_lengths tt_addresses tt_smalls st_size tt_kinds st_word st_vowels tt_stemLengths tt_stems tt_nexts n tt_slots x1 → W p l e (headSpec wsX6_findStems ({ frames := 8, cells := 0, slots := 0, locals := 179 })).room s m ([.ref (ad 5)] : List Value).toArray below meth c H locs 0 0 (MQ below Qc ([.ref (ad 5)] : List Value).toArray s 0 0 A) (F0 m 7 ls []) := by
    intro st_size tt_kinds st_word st_vowels tt_stemLengths tt_stems tt_nexts
    intro n
    induction n with
    | zero => intro tt_slots x1 H locs ls _ _ _ _ h; exact absurd h (fun z => z)
    | succ n7 ih7 =>
      intro tt_slots x1 H locs ls hl hP hD hS h
      rw [wlX6_findStems_7] at h
      refine lv_iload_n hx hb dX6_findStems_7 rfl (lv_at hl 1 rfl) ?_
      refine lv_sipush (v := 128) hx hb dX6_findStems_8 (by decide) ?_
      refine lv_icmp_ge (tgt := 27) hx hb dX6_findStems_11 (by decide) (fun c9 => ?_) (fun c9 => ?_)
      · have h := h.1 c9
        refine lv_iconst (v := 0) hx hb dX6_findStems_27 (by decide) ?_
        refine lv_istore_n (lv' := [(1, .int 0), (0, .ref (ad 5))]) hx hb dX6_findStems_28 rfl hl (by decide) rfl (fun ls hl => ?_)
        obtain ⟨n, h⟩ := h
        exact L29  n st_size tt_kinds st_word st_vowels tt_stemLengths tt_stems tt_slots tt_nexts 0 H locs ls (lv_sub hl [1, 0] rfl) hP hD hS h
      · have h := h.2 c9
        refine lv_aload_n hx hb dX6_findStems_14 rfl (lv_at hl 0 rfl) ?_
        refine va_get (D := (dC, dI)) (ci := 5) (v := .ref (ad 19)) (C := RX6) (T := TX6) (N := 15) hx hb hts inX6 hown hK hP 5 rfl rfl 10 (by decide) (hts (.fieldLink RX6 41 "MailWords$TokenTable" "slots" "[I") (List.mem_of_getElem? (i := 2) rfl)) (fun _ h9 => h9) rfl dX6_findStems_15 ?_
        refine lv_iload_n hx hb dX6_findStems_18 rfl (lv_at hl 1 rfl) ?_
        refine lv_iconst (v := (-1)) hx hb dX6_findStems_19 (by decide) ?_
        have hi9 := h.1
        have h := h.2
        refine va_iast hx hb hK hP hD hS 19 0 rfl rfl hi9 dX6_findStems_20 (fun H locs hP hD hS => ?_)
        have hP : va_P (dC, dI) vwCl (xW ad cI cZ lt_count lw_begin lw_end lw_depth lw_signed lw_led pr_written pr_within st_size tx_size tt_count tt_pieces tt_kinds lt_begins lt_marks st_word st_vowels tx_characters tt_begins tt_lengths tt_stemLengths tt_places tt_addresses tt_smalls tt_stems (upd tt_slots x1.toNatClampNeg (-1)) tt_nexts) H := hP
        have hD : va_D A (xW ad cI cZ lt_count lw_begin lw_end lw_depth lw_signed lw_led pr_written pr_within st_size tx_size tt_count tt_pieces tt_kinds lt_begins lt_marks st_word st_vowels tx_characters tt_begins tt_lengths tt_stemLengths tt_places tt_addresses tt_smalls tt_stems (upd tt_slots x1.toNatClampNeg (-1)) tt_nexts) := hD
        obtain ⟨x1_11, ex1_11⟩ : ∃ y : Int32, y = x1 + 1 := ⟨_, rfl⟩
        have h := h x1_11 ex1_11
        refine lv_iinc (v := x1_11) (lv' := [(1, .int x1_11), (0, .ref (ad 5))]) hx hb dX6_findStems_21 hl (k := 1) rfl (by rw [ex1_11]; rfl) (by decide) rfl (fun ls hl => ?_)
        refine lv_goto (tgt := 7) hx hb dX6_findStems_24 (by decide) ?_
        exact ih7 (upd tt_slots x1.toNatClampNeg (-1)) x1_11 H locs ls (lv_sub hl [1, 0] rfl) hP hD hS h
  intro H locs hP hD hS
  delta wpX6_findStems at h
  refine lv_aload_n hx hb dX6_findStems_0 rfl (lv_at hl 0 rfl) ?_
  refine lv_iconst (v := 0) hx hb dX6_findStems_1 (by decide) ?_
  refine va_put (D := (dC, dI)) (ci := 5) (v := .int 0) (ty := .int) (C := RX6) (T := TX6) (N := 15) hx hb hts inX6 tyX6 tyX6_ok nmX6 hown hK hP hD hS 5 rfl rfl 14 (by decide) (hts (.fieldLink RX6 99 "MailWords$TokenTable" "kinds" "I") (List.mem_of_getElem? (i := 1) rfl)) (fun _ h9 => h9) rfl (tyX6_ok 14 (by decide)) rfl rfl (Nat.le_of_ble_eq_true rfl) dX6_findStems_2 (fun H locs hP hD hS => ?_)
  have hP : va_P (dC, dI) vwCl (xW ad cI cZ lt_count lw_begin lw_end lw_depth lw_signed lw_led pr_written pr_within st_size tx_size tt_count tt_pieces 0 lt_begins lt_marks st_word st_vowels tx_characters tt_begins tt_lengths tt_stemLengths tt_places tt_addresses tt_smalls tt_stems tt_slots tt_nexts) H := hP
  have hD : va_D A (xW ad cI cZ lt_count lw_begin lw_end lw_depth lw_signed lw_led pr_written pr_within st_size tx_size tt_count tt_pieces 0 lt_begins lt_marks st_word st_vowels tx_characters tt_begins tt_lengths tt_stemLengths tt_places tt_addresses tt_smalls tt_stems tt_slots tt_nexts) := hD
  refine lv_iconst (v := 0) hx hb dX6_findStems_5 (by decide) ?_
  refine lv_istore_n (lv' := [(1, .int 0), (0, .ref (ad 5))]) hx hb dX6_findStems_6 rfl hl (by decide) rfl (fun ls hl => ?_)
  obtain ⟨n, h⟩ := h
  exact L7 st_size 0 st_word st_vowels tt_stemLengths tt_stems tt_nexts n tt_slots 0 H locs ls (lv_sub hl [1, 0] rfl) hP hD hS h
set_option maxHeartbeats 4000000 in
set_option maxRecDepth 100000 in
theorem sX6_count (l : Launch) (dC : Nat → ClassId) (dI : Nat → Nat → Nat) (ad : Nat → Nat) (cI cZ : ClassId) (sa sv : Nat → Nat) (lt_count : Int32) (lw_begin : Int32) (lw_end : Int32) (lw_depth : Int32) (lw_signed : Int32) (lw_led : Int32) (pr_written : Int32) (pr_within : Int32) (st_size : Int32) (tx_size : Int32) (tt_count : Int32) (tt_pieces : Int32) (tt_kinds : Int32) (lt_begins : Nat → Int32) (lt_marks : Nat → Int32) (st_word : Nat → Int32) (st_vowels : Nat → Int32) (tx_characters : Nat → Int32) (tt_begins : Nat → Int32) (tt_lengths : Nat → Int32) (tt_stemLengths : Nat → Int32) (tt_places : Nat → Int32) (tt_addresses : Nat → Int32) (tt_smalls : Nat → Int32) (tt_stems : Nat → Int32) (tt_slots : Nat → Int32) (tt_nexts : Nat → Int32)  {post : Int32 → Prop} (h : wpX6_count post tt_count) : xMi l (dC, dI) vwCl [(cI, .int), (cZ, .boolean)] (sI sa sv) yX6_count wsX6_count ({ frames := 0, cells := 0, slots := 0, locals := 0 }) (xW ad cI cZ lt_count lw_begin lw_end lw_depth lw_signed lw_led pr_written pr_within st_size tx_size tt_count tt_pieces tt_kinds lt_begins lt_marks st_word st_vowels tx_characters tt_begins tt_lengths tt_stemLengths tt_places tt_addresses tt_smalls tt_stems tt_slots tt_nexts) [.ref (ad 5)] (fun (r : Int32) (u : Unit) => post r ) (fun u : Unit => (xW ad cI cZ lt_count lw_begin lw_end lw_depth lw_signed lw_led pr_written pr_within st_size tx_size tt_count tt_pieces tt_kinds lt_begins lt_marks st_word st_vowels tx_characters tt_begins tt_lengths tt_stemLengths tt_places tt_addresses tt_smalls tt_stems tt_slots tt_nexts)) := by
  intro sz
  refine Met.ofW (cc := cX6_count) (maxL := 1) (ret := (some .int)) (by decide) rfl ?_
  intro p e s m args below meth c s₁ B hml hv
  obtain ⟨rfl, hsz, hP, hK, hD0, hI⟩ := hv
  have hx := B.exec
  have hb := B.bytes
  have hr := B.returns
  have hts := atoms_spec (ws := wsX6_count) B.pre
  have hown : s.vm.findClass RX6 = some m.cls := findClass_of_methodNamed B.named
  have hlocks := B.notSynchronized
  subst hsz
  have hD := hD0.self (sz := s.heap.size)
  generalize hAe : va_A (xW ad cI cZ lt_count lw_begin lw_end lw_depth lw_signed lw_led pr_written pr_within st_size tx_size tt_count tt_pieces tt_kinds lt_begins lt_marks st_word st_vowels tx_characters tt_begins tt_lengths tt_stemLengths tt_places tt_addresses tt_smalls tt_stems tt_slots tt_nexts) s.heap.size = A at hD hI ⊢
  have hA : ∀ q : Nat, s.heap.size ≤ q → A q := fun q h => by rw [← hAe]; exact Or.inr h
  have hS : va_S A s.heap s.heap [] := va_S.rf
  have Fx : CallFix p m c cX6_count 1 s ([.ref (ad 5)] : List Value).toArray wsX6_count RX6 := ⟨hx, hb, hml, hown, hts⟩
  have hQ : ∀ (r : Int32) (u : Unit) (t : State), (fun (r : Int32) (u : Unit) => post r ) r u → va_P (dC, dI) vwCl ((fun u : Unit => (xW ad cI cZ lt_count lw_begin lw_end lw_depth lw_signed lw_led pr_written pr_within st_size tx_size tt_count tt_pieces tt_kinds lt_begins lt_marks st_word st_vowels tx_characters tt_begins tt_lengths tt_stemLengths tt_places tt_addresses tt_smalls tt_stems tt_slots tt_nexts)) u) t.heap → va_K (dC, dI) vwCl [(cI, .int), (cZ, .boolean)] t → va_D A ((fun u : Unit => (xW ad cI cZ lt_count lw_begin lw_end lw_depth lw_signed lw_led pr_written pr_within st_size tx_size tt_count tt_pieces tt_kinds lt_begins lt_marks st_word st_vowels tx_characters tt_begins tt_lengths tt_stemLengths tt_places tt_addresses tt_smalls tt_stems tt_slots tt_nexts)) u) → va_F A s t → (va_Qi (fun (r : Int32) (u : Unit) => post r ) (xB (dC, dI) vwCl [(cI, .int), (cZ, .boolean)] A (fun u : Unit => (xW ad cI cZ lt_count lw_begin lw_end lw_depth lw_signed lw_led pr_written pr_within st_size tx_size tt_count tt_pieces tt_kinds lt_begins lt_marks st_word st_vowels tx_characters tt_begins tt_lengths tt_stemLengths tt_places tt_addresses tt_smalls tt_stems tt_slots tt_nexts))) A) ([.ref (ad 5)] : List Value).toArray s (.returned (some (.int r))) t := fun r u t h1 h2 h3 h4 h5 => ⟨⟨r, u, rfl, h1, h2, h3, h4⟩, h5⟩
  generalize (va_Qi (fun (r : Int32) (u : Unit) => post r ) (xB (dC, dI) vwCl [(cI, .int), (cZ, .boolean)] A (fun u : Unit => (xW ad cI cZ lt_count lw_begin lw_end lw_depth lw_signed lw_led pr_written pr_within st_size tx_size tt_count tt_pieces tt_kinds lt_begins lt_marks st_word st_vowels tx_characters tt_begins tt_lengths tt_stemLengths tt_places tt_addresses tt_smalls tt_stems tt_slots tt_nexts))) A) = Qc at hQ ⊢
  have hl := lv_entry ([.ref (ad 5)]) (n := 1) (Nat.le_of_ble_eq_true rfl)
  rw [lg_entry_eq]
  generalize (lg_sl ([.ref (ad 5)]) ++ List.replicate (1 - (lg_sl ([.ref (ad 5)])).length) Slot.unset).toArray = ls at hl ⊢
  have hl : lv_has ls 1 [(0, .ref (ad 5))] := hl
  refine (fun (key : ∀ (H : Heap) (locs : List Loc), va_P (dC, dI) vwCl (xW ad cI cZ lt_count lw_begin lw_end lw_depth lw_signed lw_led pr_written pr_within st_size tx_size tt_count tt_pieces tt_kinds lt_begins lt_marks st_word st_vowels tx_characters tt_begins tt_lengths tt_stemLengths tt_places tt_addresses tt_smalls tt_stems tt_slots tt_nexts) H → va_D A (xW ad cI cZ lt_count lw_begin lw_end lw_depth lw_signed lw_led pr_written pr_within st_size tx_size tt_count tt_pieces tt_kinds lt_begins lt_marks st_word st_vowels tx_characters tt_begins tt_lengths tt_stemLengths tt_places tt_addresses tt_smalls tt_stems tt_slots tt_nexts) → va_S A s.heap H locs → W p l e (headSpec wsX6_count ({ frames := 0, cells := 0, slots := 0, locals := 0 })).room s m ([.ref (ad 5)] : List Value).toArray below meth c H locs 0 0 (MQ below Qc ([.ref (ad 5)] : List Value).toArray s 0 0 A) (F0 m 0 ls [])) => key _ _ hP hD hS) ?_
  have inX6 : ∀ w ∈ wsX60, w ∈ wsX6_count := (fun _ h9 => List.mem_cons_of_mem _ (List.mem_append_right _ h9))
  intro H locs hP hD hS
  delta wpX6_count at h
  refine lv_aload_n hx hb dX6_count_0 rfl (lv_at hl 0 rfl) ?_
  refine va_get (D := (dC, dI)) (ci := 5) (v := .int tt_count) (C := RX6) (T := TX6) (N := 15) hx hb hts inX6 hown hK hP 5 rfl rfl 12 (by decide) (hts (.fieldLink RX6 55 "MailWords$TokenTable" "count" "I") (List.mem_of_getElem? (i := 1) rfl)) (fun _ h9 => h9) rfl dX6_count_1 ?_
  exact W.iret (v := tt_count) hx hb hr (fun t ht hW => hQ tt_count () t h (by rw [ht]; exact hP) (va_K.moved hW.alike hK) hD (hS.F ht)) hS.2.2 dX6_count_4
set_option maxHeartbeats 4000000 in
set_option maxRecDepth 100000 in
theorem sX6_tell (l : Launch) (dC : Nat → ClassId) (dI : Nat → Nat → Nat) (ad : Nat → Nat) (cI cZ : ClassId) (sa sv : Nat → Nat) (lt_count : Int32) (lw_begin : Int32) (lw_end : Int32) (lw_depth : Int32) (lw_signed : Int32) (lw_led : Int32) (pr_written : Int32) (pr_within : Int32) (st_size : Int32) (tx_size : Int32) (tt_count : Int32) (tt_pieces : Int32) (tt_kinds : Int32) (lt_begins : Nat → Int32) (lt_marks : Nat → Int32) (st_word : Nat → Int32) (st_vowels : Nat → Int32) (tx_characters : Nat → Int32) (tt_begins : Nat → Int32) (tt_lengths : Nat → Int32) (tt_stemLengths : Nat → Int32) (tt_places : Nat → Int32) (tt_addresses : Nat → Int32) (tt_smalls : Nat → Int32) (tt_stems : Nat → Int32) (tt_slots : Nat → Int32) (tt_nexts : Nat → Int32) (x1 : Int32) (x2 : Int32) {post : Int32 → Prop} (h : wpX6_tell post tt_count tt_begins tt_lengths tt_stemLengths tt_places tt_addresses x1 x2) : xMi l (dC, dI) vwCl [(cI, .int), (cZ, .boolean)] (sI sa sv) yX6_tell wsX6_tell ({ frames := 1, cells := 0, slots := 0, locals := 21 }) (xW ad cI cZ lt_count lw_begin lw_end lw_depth lw_signed lw_led pr_written pr_within st_size tx_size tt_count tt_pieces tt_kinds lt_begins lt_marks st_word st_vowels tx_characters tt_begins tt_lengths tt_stemLengths tt_places tt_addresses tt_smalls tt_stems tt_slots tt_nexts) [.ref (ad 5), .int x1, .int x2] (fun (r : Int32) (u : Unit) => post r ) (fun u : Unit => (xW ad cI cZ lt_count lw_begin lw_end lw_depth lw_signed lw_led pr_written pr_within st_size tx_size tt_count tt_pieces tt_kinds lt_begins lt_marks st_word st_vowels tx_characters tt_begins tt_lengths tt_stemLengths tt_places tt_addresses tt_smalls tt_stems tt_slots tt_nexts)) := by
  intro sz
  refine Met.ofW (cc := cX6_tell) (maxL := 3) (ret := (some .int)) (by decide) rfl ?_
  intro p e s m args below meth c s₁ B hml hv
  obtain ⟨rfl, hsz, hP, hK, hD0, hI⟩ := hv
  have hx := B.exec
  have hb := B.bytes
  have hr := B.returns
  have hts := atoms_spec (ws := wsX6_tell) B.pre
  have hown : s.vm.findClass RX6 = some m.cls := findClass_of_methodNamed B.named
  have hlocks := B.notSynchronized
  subst hsz
  have hD := hD0.self (sz := s.heap.size)
  generalize hAe : va_A (xW ad cI cZ lt_count lw_begin lw_end lw_depth lw_signed lw_led pr_written pr_within st_size tx_size tt_count tt_pieces tt_kinds lt_begins lt_marks st_word st_vowels tx_characters tt_begins tt_lengths tt_stemLengths tt_places tt_addresses tt_smalls tt_stems tt_slots tt_nexts) s.heap.size = A at hD hI ⊢
  have hA : ∀ q : Nat, s.heap.size ≤ q → A q := fun q h => by rw [← hAe]; exact Or.inr h
  have hS : va_S A s.heap s.heap [] := va_S.rf
  have Fx : CallFix p m c cX6_tell 3 s ([.ref (ad 5), .int x1, .int x2] : List Value).toArray wsX6_tell RX6 := ⟨hx, hb, hml, hown, hts⟩
  have hQ : ∀ (r : Int32) (u : Unit) (t : State), (fun (r : Int32) (u : Unit) => post r ) r u → va_P (dC, dI) vwCl ((fun u : Unit => (xW ad cI cZ lt_count lw_begin lw_end lw_depth lw_signed lw_led pr_written pr_within st_size tx_size tt_count tt_pieces tt_kinds lt_begins lt_marks st_word st_vowels tx_characters tt_begins tt_lengths tt_stemLengths tt_places tt_addresses tt_smalls tt_stems tt_slots tt_nexts)) u) t.heap → va_K (dC, dI) vwCl [(cI, .int), (cZ, .boolean)] t → va_D A ((fun u : Unit => (xW ad cI cZ lt_count lw_begin lw_end lw_depth lw_signed lw_led pr_written pr_within st_size tx_size tt_count tt_pieces tt_kinds lt_begins lt_marks st_word st_vowels tx_characters tt_begins tt_lengths tt_stemLengths tt_places tt_addresses tt_smalls tt_stems tt_slots tt_nexts)) u) → va_F A s t → (va_Qi (fun (r : Int32) (u : Unit) => post r ) (xB (dC, dI) vwCl [(cI, .int), (cZ, .boolean)] A (fun u : Unit => (xW ad cI cZ lt_count lw_begin lw_end lw_depth lw_signed lw_led pr_written pr_within st_size tx_size tt_count tt_pieces tt_kinds lt_begins lt_marks st_word st_vowels tx_characters tt_begins tt_lengths tt_stemLengths tt_places tt_addresses tt_smalls tt_stems tt_slots tt_nexts))) A) ([.ref (ad 5), .int x1, .int x2] : List Value).toArray s (.returned (some (.int r))) t := fun r u t h1 h2 h3 h4 h5 => ⟨⟨r, u, rfl, h1, h2, h3, h4⟩, h5⟩
  generalize (va_Qi (fun (r : Int32) (u : Unit) => post r ) (xB (dC, dI) vwCl [(cI, .int), (cZ, .boolean)] A (fun u : Unit => (xW ad cI cZ lt_count lw_begin lw_end lw_depth lw_signed lw_led pr_written pr_within st_size tx_size tt_count tt_pieces tt_kinds lt_begins lt_marks st_word st_vowels tx_characters tt_begins tt_lengths tt_stemLengths tt_places tt_addresses tt_smalls tt_stems tt_slots tt_nexts))) A) = Qc at hQ ⊢
  have hl := lv_entry ([.ref (ad 5), .int x1, .int x2]) (n := 3) (Nat.le_of_ble_eq_true rfl)
  rw [lg_entry_eq]
  generalize (lg_sl ([.ref (ad 5), .int x1, .int x2]) ++ List.replicate (3 - (lg_sl ([.ref (ad 5), .int x1, .int x2])).length) Slot.unset).toArray = ls at hl ⊢
  have hl : lv_has ls 3 [(0, .ref (ad 5)), (1, .int x1), (2, .int x2)] := hl
  refine (fun (key : ∀ (H : Heap) (locs : List Loc), va_P (dC, dI) vwCl (xW ad cI cZ lt_count lw_begin lw_end lw_depth lw_signed lw_led pr_written pr_within st_size tx_size tt_count tt_pieces tt_kinds lt_begins lt_marks st_word st_vowels tx_characters tt_begins tt_lengths tt_stemLengths tt_places tt_addresses tt_smalls tt_stems tt_slots tt_nexts) H → va_D A (xW ad cI cZ lt_count lw_begin lw_end lw_depth lw_signed lw_led pr_written pr_within st_size tx_size tt_count tt_pieces tt_kinds lt_begins lt_marks st_word st_vowels tx_characters tt_begins tt_lengths tt_stemLengths tt_places tt_addresses tt_smalls tt_stems tt_slots tt_nexts) → va_S A s.heap H locs → W p l e (headSpec wsX6_tell ({ frames := 1, cells := 0, slots := 0, locals := 21 })).room s m ([.ref (ad 5), .int x1, .int x2] : List Value).toArray below meth c H locs 0 0 (MQ below Qc ([.ref (ad 5), .int x1, .int x2] : List Value).toArray s 0 0 A) (F0 m 0 ls [])) => key _ _ hP hD hS) ?_
  have inX6 : ∀ w ∈ wsX60, w ∈ wsX6_tell := (fun _ h9 => List.mem_cons_of_mem _ (List.mem_append_right _ h9))
  intro H locs hP hD hS
  delta wpX6_tell at h
  refine lv_aload_n hx hb dX6_tell_0 rfl (lv_at hl 0 rfl) ?_
  refine lv_iload_n hx hb dX6_tell_1 rfl (lv_at hl 1 rfl) ?_
  refine xc_vi (As := [.int x1]) (rest := []) xG Fx (sX6_exists l dC dI ad cI cZ sa sv lt_count lw_begin lw_end lw_depth lw_signed lw_led pr_written pr_within st_size tx_size tt_count tt_pieces tt_kinds lt_begins lt_marks st_word st_vowels tx_characters tt_begins tt_lengths tt_stemLengths tt_places tt_addresses tt_smalls tt_stems tt_slots tt_nexts x1 h) (cwV 1 hts gX6_tell_X6_exists rfl rfl rfl hdX6_exists ⟨Nat.le_of_ble_eq_true rfl, Nat.le_of_ble_eq_true rfl⟩) (va_recv hK hP (ci := 5) (q0 := 5) rfl rfl) hK hP hD hS hA hI rfl hl.1 rfl (Nat.le_of_ble_eq_true rfl) dX6_tell_2 ⟨Nat.zero_le _, Nat.zero_le _⟩ (fun r_1 u H locs h hP hD hS => ?_)
  refine lv_if_ne (tgt := 10) hx hb dX6_tell_5 (by decide) (fun c9 => ?_) (fun c9 => ?_)
  · have h := h.1 c9
    refine lv_iload_n hx hb dX6_tell_10 rfl (lv_at hl 2 rfl) ?_
    by_cases c0 : x2 = 0
    · have h := h.1 c0
      refine lv_tableIn (tgt := 44) hx hb dX6_tell_11 (by rw [c0]; decide) (by rw [c0]; decide) (by rw [c0]; rfl) (by decide) ?_
      refine lv_aload_n hx hb dX6_tell_44 rfl (lv_at hl 0 rfl) ?_
      refine va_get (D := (dC, dI)) (ci := 5) (v := .ref (ad 15)) (C := RX6) (T := TX6) (N := 15) hx hb hts inX6 hown hK hP 5 rfl rfl 6 (by decide) (hts (.fieldLink RX6 28 "MailWords$TokenTable" "places" "[I") (List.mem_of_getElem? (i := 1) rfl)) (fun _ h9 => h9) rfl dX6_tell_45 ?_
      refine lv_iload_n hx hb dX6_tell_48 rfl (lv_at hl 1 rfl) ?_
      have hi9 := h.1
      have h := h.2
      refine va_iald hx hb hK hP 15 0 rfl rfl hi9 dX6_tell_49 ?_
      exact W.iret (v := (tt_places x1.toNatClampNeg)) hx hb hr (fun t ht hW => hQ (tt_places x1.toNatClampNeg) () t h (by rw [ht]; exact hP) (va_K.moved hW.alike hK) hD (hS.F ht)) hS.2.2 dX6_tell_50
    by_cases c1 : x2 = 1
    · have h := h.2.1 c1
      refine lv_tableIn (tgt := 51) hx hb dX6_tell_11 (by rw [c1]; decide) (by rw [c1]; decide) (by rw [c1]; rfl) (by decide) ?_
      refine lv_aload_n hx hb dX6_tell_51 rfl (lv_at hl 0 rfl) ?_
      refine va_get (D := (dC, dI)) (ci := 5) (v := .ref (ad 13)) (C := RX6) (T := TX6) (N := 15) hx hb hts inX6 hown hK hP 5 rfl rfl 4 (by decide) (hts (.fieldLink RX6 22 "MailWords$TokenTable" "lengths" "[I") (List.mem_of_getElem? (i := 2) rfl)) (fun _ h9 => h9) rfl dX6_tell_52 ?_
      refine lv_iload_n hx hb dX6_tell_55 rfl (lv_at hl 1 rfl) ?_
      have hi9 := h.1
      have h := h.2
      refine va_iald hx hb hK hP 13 0 rfl rfl hi9 dX6_tell_56 ?_
      exact W.iret (v := (tt_lengths x1.toNatClampNeg)) hx hb hr (fun t ht hW => hQ (tt_lengths x1.toNatClampNeg) () t h (by rw [ht]; exact hP) (va_K.moved hW.alike hK) hD (hS.F ht)) hS.2.2 dX6_tell_57
    by_cases c2 : x2 = 2
    · have h := h.2.2.1 c2
      refine lv_tableIn (tgt := 58) hx hb dX6_tell_11 (by rw [c2]; decide) (by rw [c2]; decide) (by rw [c2]; rfl) (by decide) ?_
      refine lv_aload_n hx hb dX6_tell_58 rfl (lv_at hl 0 rfl) ?_
      refine va_get (D := (dC, dI)) (ci := 5) (v := .ref (ad 14)) (C := RX6) (T := TX6) (N := 15) hx hb hts inX6 hown hK hP 5 rfl rfl 5 (by decide) (hts (.fieldLink RX6 25 "MailWords$TokenTable" "stemLengths" "[I") (List.mem_of_getElem? (i := 3) rfl)) (fun _ h9 => h9) rfl dX6_tell_59 ?_
      refine lv_iload_n hx hb dX6_tell_62 rfl (lv_at hl 1 rfl) ?_
      have hi9 := h.1
      have h := h.2
      refine va_iald hx hb hK hP 14 0 rfl rfl hi9 dX6_tell_63 ?_
      exact W.iret (v := (tt_stemLengths x1.toNatClampNeg)) hx hb hr (fun t ht hW => hQ (tt_stemLengths x1.toNatClampNeg) () t h (by rw [ht]; exact hP) (va_K.moved hW.alike hK) hD (hS.F ht)) hS.2.2 dX6_tell_64
    by_cases c3 : x2 = 3
    · have h := h.2.2.2.1 c3
      refine lv_tableIn (tgt := 65) hx hb dX6_tell_11 (by rw [c3]; decide) (by rw [c3]; decide) (by rw [c3]; rfl) (by decide) ?_
      refine lv_aload_n hx hb dX6_tell_65 rfl (lv_at hl 0 rfl) ?_
      refine va_get (D := (dC, dI)) (ci := 5) (v := .ref (ad 16)) (C := RX6) (T := TX6) (N := 15) hx hb hts inX6 hown hK hP 5 rfl rfl 7 (by decide) (hts (.fieldLink RX6 31 "MailWords$TokenTable" "addresses" "[Z") (List.mem_of_getElem? (i := 4) rfl)) (fun _ h9 => h9) rfl dX6_tell_66 ?_
      refine lv_iload_n hx hb dX6_tell_69 rfl (lv_at hl 1 rfl) ?_
      have hi9 := h.1
      have h := h.2
      refine va_zald hx hb hK hP 16 1 rfl rfl hi9 dX6_tell_70 ?_
      refine lv_if_eq (tgt := 78) hx hb dX6_tell_71 (by decide) (fun c9 => ?_) (fun c9 => ?_)
      · have h := h.1 c9
        refine lv_iconst (v := 0) hx hb dX6_tell_78 (by decide) ?_
        exact W.iret (v := 0) hx hb hr (fun t ht hW => hQ 0 () t h (by rw [ht]; exact hP) (va_K.moved hW.alike hK) hD (hS.F ht)) hS.2.2 dX6_tell_79
      · have h := h.2 c9
        refine lv_iconst (v := 1) hx hb dX6_tell_74 (by decide) ?_
        refine lv_goto (tgt := 79) hx hb dX6_tell_75 (by decide) ?_
        exact W.iret (v := 1) hx hb hr (fun t ht hW => hQ 1 () t h (by rw [ht]; exact hP) (va_K.moved hW.alike hK) hD (hS.F ht)) hS.2.2 dX6_tell_79
    by_cases c4 : x2 = 4
    · have h := h.2.2.2.2.1 c4
      refine lv_tableIn (tgt := 80) hx hb dX6_tell_11 (by rw [c4]; decide) (by rw [c4]; decide) (by rw [c4]; rfl) (by decide) ?_
      refine lv_aload_n hx hb dX6_tell_80 rfl (lv_at hl 0 rfl) ?_
      refine va_get (D := (dC, dI)) (ci := 5) (v := .ref (ad 12)) (C := RX6) (T := TX6) (N := 15) hx hb hts inX6 hown hK hP 5 rfl rfl 3 (by decide) (hts (.fieldLink RX6 18 "MailWords$TokenTable" "begins" "[I") (List.mem_of_getElem? (i := 5) rfl)) (fun _ h9 => h9) rfl dX6_tell_81 ?_
      refine lv_iload_n hx hb dX6_tell_84 rfl (lv_at hl 1 rfl) ?_
      have hi9 := h.1
      have h := h.2
      refine va_iald hx hb hK hP 12 0 rfl rfl hi9 dX6_tell_85 ?_
      exact W.iret (v := (tt_begins x1.toNatClampNeg)) hx hb hr (fun t ht hW => hQ (tt_begins x1.toNatClampNeg) () t h (by rw [ht]; exact hP) (va_K.moved hW.alike hK) hD (hS.F ht)) hS.2.2 dX6_tell_86
    have h := h.2.2.2.2.2 c0 c1 c2 c3 c4
    refine lv_tableOut (tgt := 87) hx hb dX6_tell_11 (sw_out0_4 c0 c1 c2 c3 c4) (by decide) ?_
    refine lv_iconst (v := (-1)) hx hb dX6_tell_87 (by decide) ?_
    exact W.iret (v := (-1)) hx hb hr (fun t ht hW => hQ (-1) () t h (by rw [ht]; exact hP) (va_K.moved hW.alike hK) hD (hS.F ht)) hS.2.2 dX6_tell_88
  · have h := h.2 c9
    refine lv_iconst (v := (-1)) hx hb dX6_tell_8 (by decide) ?_
    exact W.iret (v := (-1)) hx hb hr (fun t ht hW => hQ (-1) () t h (by rw [ht]; exact hP) (va_K.moved hW.alike hK) hD (hS.F ht)) hS.2.2 dX6_tell_9
set_option maxHeartbeats 4000000 in
set_option maxRecDepth 100000 in
theorem sX6_character (l : Launch) (dC : Nat → ClassId) (dI : Nat → Nat → Nat) (ad : Nat → Nat) (cI cZ : ClassId) (sa sv : Nat → Nat) (lt_count : Int32) (lw_begin : Int32) (lw_end : Int32) (lw_depth : Int32) (lw_signed : Int32) (lw_led : Int32) (pr_written : Int32) (pr_within : Int32) (st_size : Int32) (tx_size : Int32) (tt_count : Int32) (tt_pieces : Int32) (tt_kinds : Int32) (lt_begins : Nat → Int32) (lt_marks : Nat → Int32) (st_word : Nat → Int32) (st_vowels : Nat → Int32) (tx_characters : Nat → Int32) (tt_begins : Nat → Int32) (tt_lengths : Nat → Int32) (tt_stemLengths : Nat → Int32) (tt_places : Nat → Int32) (tt_addresses : Nat → Int32) (tt_smalls : Nat → Int32) (tt_stems : Nat → Int32) (tt_slots : Nat → Int32) (tt_nexts : Nat → Int32) (x1 : Int32) (x2 : Int32) (x3 : Int32) {post : Int32 → Prop} (h : wpX6_character post tt_count tt_begins tt_lengths tt_stemLengths tt_addresses tt_smalls tt_stems x1 x2 x3) : xMi l (dC, dI) vwCl [(cI, .int), (cZ, .boolean)] (sI sa sv) yX6_character wsX6_character ({ frames := 2, cells := 0, slots := 0, locals := 43 }) (xW ad cI cZ lt_count lw_begin lw_end lw_depth lw_signed lw_led pr_written pr_within st_size tx_size tt_count tt_pieces tt_kinds lt_begins lt_marks st_word st_vowels tx_characters tt_begins tt_lengths tt_stemLengths tt_places tt_addresses tt_smalls tt_stems tt_slots tt_nexts) [.ref (ad 5), .int x1, .int x2, .int x3] (fun (r : Int32) (u : Unit) => post r ) (fun u : Unit => (xW ad cI cZ lt_count lw_begin lw_end lw_depth lw_signed lw_led pr_written pr_within st_size tx_size tt_count tt_pieces tt_kinds lt_begins lt_marks st_word st_vowels tx_characters tt_begins tt_lengths tt_stemLengths tt_places tt_addresses tt_smalls tt_stems tt_slots tt_nexts)) := by
  intro sz
  refine Met.ofW (cc := cX6_character) (maxL := 4) (ret := (some .int)) (by decide) rfl ?_
  intro p e s m args below meth c s₁ B hml hv
  obtain ⟨rfl, hsz, hP, hK, hD0, hI⟩ := hv
  have hx := B.exec
  have hb := B.bytes
  have hr := B.returns
  have hts := atoms_spec (ws := wsX6_character) B.pre
  have hown : s.vm.findClass RX6 = some m.cls := findClass_of_methodNamed B.named
  have hlocks := B.notSynchronized
  subst hsz
  have hD := hD0.self (sz := s.heap.size)
  generalize hAe : va_A (xW ad cI cZ lt_count lw_begin lw_end lw_depth lw_signed lw_led pr_written pr_within st_size tx_size tt_count tt_pieces tt_kinds lt_begins lt_marks st_word st_vowels tx_characters tt_begins tt_lengths tt_stemLengths tt_places tt_addresses tt_smalls tt_stems tt_slots tt_nexts) s.heap.size = A at hD hI ⊢
  have hA : ∀ q : Nat, s.heap.size ≤ q → A q := fun q h => by rw [← hAe]; exact Or.inr h
  have hS : va_S A s.heap s.heap [] := va_S.rf
  have Fx : CallFix p m c cX6_character 4 s ([.ref (ad 5), .int x1, .int x2, .int x3] : List Value).toArray wsX6_character RX6 := ⟨hx, hb, hml, hown, hts⟩
  have hQ : ∀ (r : Int32) (u : Unit) (t : State), (fun (r : Int32) (u : Unit) => post r ) r u → va_P (dC, dI) vwCl ((fun u : Unit => (xW ad cI cZ lt_count lw_begin lw_end lw_depth lw_signed lw_led pr_written pr_within st_size tx_size tt_count tt_pieces tt_kinds lt_begins lt_marks st_word st_vowels tx_characters tt_begins tt_lengths tt_stemLengths tt_places tt_addresses tt_smalls tt_stems tt_slots tt_nexts)) u) t.heap → va_K (dC, dI) vwCl [(cI, .int), (cZ, .boolean)] t → va_D A ((fun u : Unit => (xW ad cI cZ lt_count lw_begin lw_end lw_depth lw_signed lw_led pr_written pr_within st_size tx_size tt_count tt_pieces tt_kinds lt_begins lt_marks st_word st_vowels tx_characters tt_begins tt_lengths tt_stemLengths tt_places tt_addresses tt_smalls tt_stems tt_slots tt_nexts)) u) → va_F A s t → (va_Qi (fun (r : Int32) (u : Unit) => post r ) (xB (dC, dI) vwCl [(cI, .int), (cZ, .boolean)] A (fun u : Unit => (xW ad cI cZ lt_count lw_begin lw_end lw_depth lw_signed lw_led pr_written pr_within st_size tx_size tt_count tt_pieces tt_kinds lt_begins lt_marks st_word st_vowels tx_characters tt_begins tt_lengths tt_stemLengths tt_places tt_addresses tt_smalls tt_stems tt_slots tt_nexts))) A) ([.ref (ad 5), .int x1, .int x2, .int x3] : List Value).toArray s (.returned (some (.int r))) t := fun r u t h1 h2 h3 h4 h5 => ⟨⟨r, u, rfl, h1, h2, h3, h4⟩, h5⟩
  generalize (va_Qi (fun (r : Int32) (u : Unit) => post r ) (xB (dC, dI) vwCl [(cI, .int), (cZ, .boolean)] A (fun u : Unit => (xW ad cI cZ lt_count lw_begin lw_end lw_depth lw_signed lw_led pr_written pr_within st_size tx_size tt_count tt_pieces tt_kinds lt_begins lt_marks st_word st_vowels tx_characters tt_begins tt_lengths tt_stemLengths tt_places tt_addresses tt_smalls tt_stems tt_slots tt_nexts))) A) = Qc at hQ ⊢
  have hl := lv_entry ([.ref (ad 5), .int x1, .int x2, .int x3]) (n := 4) (Nat.le_of_ble_eq_true rfl)
  rw [lg_entry_eq]
  generalize (lg_sl ([.ref (ad 5), .int x1, .int x2, .int x3]) ++ List.replicate (4 - (lg_sl ([.ref (ad 5), .int x1, .int x2, .int x3])).length) Slot.unset).toArray = ls at hl ⊢
  have hl : lv_has ls 4 [(0, .ref (ad 5)), (1, .int x1), (2, .int x2), (3, .int x3)] := hl
  refine (fun (key : ∀ (H : Heap) (locs : List Loc), va_P (dC, dI) vwCl (xW ad cI cZ lt_count lw_begin lw_end lw_depth lw_signed lw_led pr_written pr_within st_size tx_size tt_count tt_pieces tt_kinds lt_begins lt_marks st_word st_vowels tx_characters tt_begins tt_lengths tt_stemLengths tt_places tt_addresses tt_smalls tt_stems tt_slots tt_nexts) H → va_D A (xW ad cI cZ lt_count lw_begin lw_end lw_depth lw_signed lw_led pr_written pr_within st_size tx_size tt_count tt_pieces tt_kinds lt_begins lt_marks st_word st_vowels tx_characters tt_begins tt_lengths tt_stemLengths tt_places tt_addresses tt_smalls tt_stems tt_slots tt_nexts) → va_S A s.heap H locs → W p l e (headSpec wsX6_character ({ frames := 2, cells := 0, slots := 0, locals := 43 })).room s m ([.ref (ad 5), .int x1, .int x2, .int x3] : List Value).toArray below meth c H locs 0 0 (MQ below Qc ([.ref (ad 5), .int x1, .int x2, .int x3] : List Value).toArray s 0 0 A) (F0 m 0 ls [])) => key _ _ hP hD hS) ?_
  have inX6 : ∀ w ∈ wsX60, w ∈ wsX6_character := (fun _ h9 => List.mem_cons_of_mem _ (List.mem_append_right _ h9))
  have J32 : ∀ (s0 : Int32) (s1 : Int32) (H : Heap) (locs : List Loc) (ls : Array Slot), lv_has ls 4 [(0, .ref (ad 5)), (1, .int x1), (2, .int x2), (3, .int x3)] → va_P (dC, dI) vwCl (xW ad cI cZ lt_count lw_begin lw_end lw_depth lw_signed lw_led pr_written pr_within st_size tx_size tt_count tt_pieces tt_kinds lt_begins lt_marks st_word st_vowels tx_characters tt_begins tt_lengths tt_stemLengths tt_places tt_addresses tt_smalls tt_stems tt_slots tt_nexts) H → va_D A (xW ad cI cZ lt_count lw_begin lw_end lw_depth lw_signed lw_led pr_written pr_within st_size tx_size tt_count tt_pieces tt_kinds lt_begins lt_marks st_word st_vowels tx_characters tt_begins tt_lengths tt_stemLengths tt_places tt_addresses tt_smalls tt_stems tt_slots tt_nexts) → va_S A s.heap H locs → wjX6_character_32 post tt_count tt_begins tt_lengths tt_stemLengths tt_addresses tt_smalls tt_stems x1 x2 x3 s0 s1 → W p l e (headSpec wsX6_character ({ frames := 2, cells := 0, slots := 0, locals := 43 })).room s m ([.ref (ad 5), .int x1, .int x2, .int x3] : List Value).toArray below meth c H locs 0 0 (MQ below Qc ([.ref (ad 5), .int x1, .int x2, .int x3] : List Value).toArray s 0 0 A) (F0 m 32 ls [.int s0, .int s1]) := by
    intro s0 s1 H locs ls hl hP hD hS h
    delta wjX6_character_32 at h
    refine lv_icmp_lt (tgt := 37) hx hb dX6_character_32 (by decide) (fun c9 => ?_) (fun c9 => ?_)
    · have h := h.1 c9
      refine lv_iload_n hx hb dX6_character_37 rfl (lv_at hl 2 rfl) ?_
      refine lv_if_eq (tgt := 50) hx hb dX6_character_38 (by decide) (fun c9 => ?_) (fun c9 => ?_)
      · have h := h.1 c9
        refine lv_aload_n hx hb dX6_character_50 rfl (lv_at hl 0 rfl) ?_
        refine va_get (D := (dC, dI)) (ci := 5) (v := .ref (ad 17)) (C := RX6) (T := TX6) (N := 15) hx hb hts inX6 hown hK hP 5 rfl rfl 8 (by decide) (hts (.fieldLink RX6 35 "MailWords$TokenTable" "smalls" "[I") (List.mem_of_getElem? (i := 3) rfl)) (fun _ h9 => h9) rfl dX6_character_51 ?_
        refine lv_aload_n hx hb dX6_character_54 rfl (lv_at hl 0 rfl) ?_
        refine va_get (D := (dC, dI)) (ci := 5) (v := .ref (ad 12)) (C := RX6) (T := TX6) (N := 15) hx hb hts inX6 hown hK hP 5 rfl rfl 3 (by decide) (hts (.fieldLink RX6 18 "MailWords$TokenTable" "begins" "[I") (List.mem_of_getElem? (i := 4) rfl)) (fun _ h9 => h9) rfl dX6_character_55 ?_
        refine lv_iload_n hx hb dX6_character_58 rfl (lv_at hl 1 rfl) ?_
        have hi9 := h.1
        have h := h.2
        refine va_iald hx hb hK hP 12 0 rfl rfl hi9 dX6_character_59 ?_
        refine lv_iload_n hx hb dX6_character_60 rfl (lv_at hl 3 rfl) ?_
        refine lv_iadd hx hb dX6_character_61 ?_
        refine xc_si (As := [.ref (ad 17), .int ((tt_begins x1.toNatClampNeg) + x3)]) (rest := []) xG Fx (sX6_characterOf_tt_smalls l dC dI ad cI cZ sa sv lt_count lw_begin lw_end lw_depth lw_signed lw_led pr_written pr_within st_size tx_size tt_count tt_pieces tt_kinds lt_begins lt_marks st_word st_vowels tx_characters tt_begins tt_lengths tt_stemLengths tt_places tt_addresses tt_smalls tt_stems tt_slots tt_nexts ((tt_begins x1.toNatClampNeg) + x3) h) (va_cwS 2 hts gX6_character_X6_characterOf rfl rfl rfl hdX6_characterOf ⟨Nat.le_of_ble_eq_true rfl, Nat.le_of_ble_eq_true rfl⟩) hK hP hD hS hA hI rfl hl.1 rfl (Nat.le_of_ble_eq_true rfl) dX6_character_62 ⟨Nat.zero_le _, Nat.zero_le _⟩ (fun r_1 u H locs h hP hD hS => ?_)
        exact W.iret (v := r_1) hx hb hr (fun t ht hW => hQ r_1 () t h (by rw [ht]; exact hP) (va_K.moved hW.alike hK) hD (hS.F ht)) hS.2.2 dX6_character_65
      · have h := h.2 c9
        refine lv_aload_n hx hb dX6_character_41 rfl (lv_at hl 0 rfl) ?_
        refine lv_iload_n hx hb dX6_character_42 rfl (lv_at hl 1 rfl) ?_
        refine lv_iload_n hx hb dX6_character_43 rfl (lv_at hl 3 rfl) ?_
        refine xc_vi (As := [.int x1, .int x3]) (rest := []) xG Fx (sX6_stemCharacter l dC dI ad cI cZ sa sv lt_count lw_begin lw_end lw_depth lw_signed lw_led pr_written pr_within st_size tx_size tt_count tt_pieces tt_kinds lt_begins lt_marks st_word st_vowels tx_characters tt_begins tt_lengths tt_stemLengths tt_places tt_addresses tt_smalls tt_stems tt_slots tt_nexts x1 x3 h) (cwV 2 hts gX6_character_X6_stemCharacter rfl rfl rfl hdX6_stemCharacter ⟨Nat.le_of_ble_eq_true rfl, Nat.le_of_ble_eq_true rfl⟩) (va_recv hK hP (ci := 5) (q0 := 5) rfl rfl) hK hP hD hS hA hI rfl hl.1 rfl (Nat.le_of_ble_eq_true rfl) dX6_character_44 ⟨Nat.zero_le _, Nat.zero_le _⟩ (fun r_2 u H locs h hP hD hS => ?_)
        refine lv_goto (tgt := 65) hx hb dX6_character_47 (by decide) ?_
        exact W.iret (v := r_2) hx hb hr (fun t ht hW => hQ r_2 () t h (by rw [ht]; exact hP) (va_K.moved hW.alike hK) hD (hS.F ht)) hS.2.2 dX6_character_65
    · have h := h.2 c9
      refine lv_iconst (v := (-1)) hx hb dX6_character_35 (by decide) ?_
      exact W.iret (v := (-1)) hx hb hr (fun t ht hW => hQ (-1) () t h (by rw [ht]; exact hP) (va_K.moved hW.alike hK) hD (hS.F ht)) hS.2.2 dX6_character_36
  intro H locs hP hD hS
  delta wpX6_character at h
  refine lv_aload_n hx hb dX6_character_0 rfl (lv_at hl 0 rfl) ?_
  refine lv_iload_n hx hb dX6_character_1 rfl (lv_at hl 1 rfl) ?_
  refine xc_vi (As := [.int x1]) (rest := []) xG Fx (sX6_exists l dC dI ad cI cZ sa sv lt_count lw_begin lw_end lw_depth lw_signed lw_led pr_written pr_within st_size tx_size tt_count tt_pieces tt_kinds lt_begins lt_marks st_word st_vowels tx_characters tt_begins tt_lengths tt_stemLengths tt_places tt_addresses tt_smalls tt_stems tt_slots tt_nexts x1 h) (cwV 1 hts gX6_character_X6_exists rfl rfl rfl hdX6_exists ⟨Nat.le_of_ble_eq_true rfl, Nat.le_of_ble_eq_true rfl⟩) (va_recv hK hP (ci := 5) (q0 := 5) rfl rfl) hK hP hD hS hA hI rfl hl.1 rfl (Nat.le_of_ble_eq_true rfl) dX6_character_2 ⟨Nat.zero_le _, Nat.zero_le _⟩ (fun r_3 u H locs h hP hD hS => ?_)
  refine lv_if_eq (tgt := 35) hx hb dX6_character_5 (by decide) (fun c9 => ?_) (fun c9 => ?_)
  · have h := h.1 c9
    refine lv_iconst (v := (-1)) hx hb dX6_character_35 (by decide) ?_
    exact W.iret (v := (-1)) hx hb hr (fun t ht hW => hQ (-1) () t h (by rw [ht]; exact hP) (va_K.moved hW.alike hK) hD (hS.F ht)) hS.2.2 dX6_character_36
  · have h := h.2 c9
    refine lv_iload_n hx hb dX6_character_8 rfl (lv_at hl 3 rfl) ?_
    refine lv_if_lt (tgt := 35) hx hb dX6_character_9 (by decide) (fun c9 => ?_) (fun c9 => ?_)
    · have h := h.1 c9
      refine lv_iconst (v := (-1)) hx hb dX6_character_35 (by decide) ?_
      exact W.iret (v := (-1)) hx hb hr (fun t ht hW => hQ (-1) () t h (by rw [ht]; exact hP) (va_K.moved hW.alike hK) hD (hS.F ht)) hS.2.2 dX6_character_36
    · have h := h.2 c9
      refine lv_iload_n hx hb dX6_character_12 rfl (lv_at hl 3 rfl) ?_
      refine lv_iload_n hx hb dX6_character_13 rfl (lv_at hl 2 rfl) ?_
      refine lv_if_eq (tgt := 26) hx hb dX6_character_14 (by decide) (fun c9 => ?_) (fun c9 => ?_)
      · have h := h.1 c9
        refine lv_aload_n hx hb dX6_character_26 rfl (lv_at hl 0 rfl) ?_
        refine va_get (D := (dC, dI)) (ci := 5) (v := .ref (ad 13)) (C := RX6) (T := TX6) (N := 15) hx hb hts inX6 hown hK hP 5 rfl rfl 4 (by decide) (hts (.fieldLink RX6 22 "MailWords$TokenTable" "lengths" "[I") (List.mem_of_getElem? (i := 2) rfl)) (fun _ h9 => h9) rfl dX6_character_27 ?_
        refine lv_iload_n hx hb dX6_character_30 rfl (lv_at hl 1 rfl) ?_
        have hi9 := h.1
        have h := h.2
        refine va_iald hx hb hK hP 13 0 rfl rfl hi9 dX6_character_31 ?_
        exact J32 (tt_lengths x1.toNatClampNeg) x3 H locs ls (lv_sub hl [0, 1, 2, 3] rfl) hP hD hS h
      · have h := h.2 c9
        refine lv_aload_n hx hb dX6_character_17 rfl (lv_at hl 0 rfl) ?_
        refine va_get (D := (dC, dI)) (ci := 5) (v := .ref (ad 14)) (C := RX6) (T := TX6) (N := 15) hx hb hts inX6 hown hK hP 5 rfl rfl 5 (by decide) (hts (.fieldLink RX6 25 "MailWords$TokenTable" "stemLengths" "[I") (List.mem_of_getElem? (i := 1) rfl)) (fun _ h9 => h9) rfl dX6_character_18 ?_
        refine lv_iload_n hx hb dX6_character_21 rfl (lv_at hl 1 rfl) ?_
        have hi9 := h.1
        have h := h.2
        refine va_iald hx hb hK hP 14 0 rfl rfl hi9 dX6_character_22 ?_
        refine lv_goto (tgt := 32) hx hb dX6_character_23 (by decide) ?_
        exact J32 (tt_stemLengths x1.toNatClampNeg) x3 H locs ls (lv_sub hl [0, 1, 2, 3] rfl) hP hD hS h
set_option maxHeartbeats 4000000 in
set_option maxRecDepth 100000 in
theorem sX6_stemKinds (l : Launch) (dC : Nat → ClassId) (dI : Nat → Nat → Nat) (ad : Nat → Nat) (cI cZ : ClassId) (sa sv : Nat → Nat) (lt_count : Int32) (lw_begin : Int32) (lw_end : Int32) (lw_depth : Int32) (lw_signed : Int32) (lw_led : Int32) (pr_written : Int32) (pr_within : Int32) (st_size : Int32) (tx_size : Int32) (tt_count : Int32) (tt_pieces : Int32) (tt_kinds : Int32) (lt_begins : Nat → Int32) (lt_marks : Nat → Int32) (st_word : Nat → Int32) (st_vowels : Nat → Int32) (tx_characters : Nat → Int32) (tt_begins : Nat → Int32) (tt_lengths : Nat → Int32) (tt_stemLengths : Nat → Int32) (tt_places : Nat → Int32) (tt_addresses : Nat → Int32) (tt_smalls : Nat → Int32) (tt_stems : Nat → Int32) (tt_slots : Nat → Int32) (tt_nexts : Nat → Int32)  {post : Int32 → Prop} (h : wpX6_stemKinds post tt_kinds) : xMi l (dC, dI) vwCl [(cI, .int), (cZ, .boolean)] (sI sa sv) yX6_stemKinds wsX6_stemKinds ({ frames := 0, cells := 0, slots := 0, locals := 0 }) (xW ad cI cZ lt_count lw_begin lw_end lw_depth lw_signed lw_led pr_written pr_within st_size tx_size tt_count tt_pieces tt_kinds lt_begins lt_marks st_word st_vowels tx_characters tt_begins tt_lengths tt_stemLengths tt_places tt_addresses tt_smalls tt_stems tt_slots tt_nexts) [.ref (ad 5)] (fun (r : Int32) (u : Unit) => post r ) (fun u : Unit => (xW ad cI cZ lt_count lw_begin lw_end lw_depth lw_signed lw_led pr_written pr_within st_size tx_size tt_count tt_pieces tt_kinds lt_begins lt_marks st_word st_vowels tx_characters tt_begins tt_lengths tt_stemLengths tt_places tt_addresses tt_smalls tt_stems tt_slots tt_nexts)) := by
  intro sz
  refine Met.ofW (cc := cX6_stemKinds) (maxL := 1) (ret := (some .int)) (by decide) rfl ?_
  intro p e s m args below meth c s₁ B hml hv
  obtain ⟨rfl, hsz, hP, hK, hD0, hI⟩ := hv
  have hx := B.exec
  have hb := B.bytes
  have hr := B.returns
  have hts := atoms_spec (ws := wsX6_stemKinds) B.pre
  have hown : s.vm.findClass RX6 = some m.cls := findClass_of_methodNamed B.named
  have hlocks := B.notSynchronized
  subst hsz
  have hD := hD0.self (sz := s.heap.size)
  generalize hAe : va_A (xW ad cI cZ lt_count lw_begin lw_end lw_depth lw_signed lw_led pr_written pr_within st_size tx_size tt_count tt_pieces tt_kinds lt_begins lt_marks st_word st_vowels tx_characters tt_begins tt_lengths tt_stemLengths tt_places tt_addresses tt_smalls tt_stems tt_slots tt_nexts) s.heap.size = A at hD hI ⊢
  have hA : ∀ q : Nat, s.heap.size ≤ q → A q := fun q h => by rw [← hAe]; exact Or.inr h
  have hS : va_S A s.heap s.heap [] := va_S.rf
  have Fx : CallFix p m c cX6_stemKinds 1 s ([.ref (ad 5)] : List Value).toArray wsX6_stemKinds RX6 := ⟨hx, hb, hml, hown, hts⟩
  have hQ : ∀ (r : Int32) (u : Unit) (t : State), (fun (r : Int32) (u : Unit) => post r ) r u → va_P (dC, dI) vwCl ((fun u : Unit => (xW ad cI cZ lt_count lw_begin lw_end lw_depth lw_signed lw_led pr_written pr_within st_size tx_size tt_count tt_pieces tt_kinds lt_begins lt_marks st_word st_vowels tx_characters tt_begins tt_lengths tt_stemLengths tt_places tt_addresses tt_smalls tt_stems tt_slots tt_nexts)) u) t.heap → va_K (dC, dI) vwCl [(cI, .int), (cZ, .boolean)] t → va_D A ((fun u : Unit => (xW ad cI cZ lt_count lw_begin lw_end lw_depth lw_signed lw_led pr_written pr_within st_size tx_size tt_count tt_pieces tt_kinds lt_begins lt_marks st_word st_vowels tx_characters tt_begins tt_lengths tt_stemLengths tt_places tt_addresses tt_smalls tt_stems tt_slots tt_nexts)) u) → va_F A s t → (va_Qi (fun (r : Int32) (u : Unit) => post r ) (xB (dC, dI) vwCl [(cI, .int), (cZ, .boolean)] A (fun u : Unit => (xW ad cI cZ lt_count lw_begin lw_end lw_depth lw_signed lw_led pr_written pr_within st_size tx_size tt_count tt_pieces tt_kinds lt_begins lt_marks st_word st_vowels tx_characters tt_begins tt_lengths tt_stemLengths tt_places tt_addresses tt_smalls tt_stems tt_slots tt_nexts))) A) ([.ref (ad 5)] : List Value).toArray s (.returned (some (.int r))) t := fun r u t h1 h2 h3 h4 h5 => ⟨⟨r, u, rfl, h1, h2, h3, h4⟩, h5⟩
  generalize (va_Qi (fun (r : Int32) (u : Unit) => post r ) (xB (dC, dI) vwCl [(cI, .int), (cZ, .boolean)] A (fun u : Unit => (xW ad cI cZ lt_count lw_begin lw_end lw_depth lw_signed lw_led pr_written pr_within st_size tx_size tt_count tt_pieces tt_kinds lt_begins lt_marks st_word st_vowels tx_characters tt_begins tt_lengths tt_stemLengths tt_places tt_addresses tt_smalls tt_stems tt_slots tt_nexts))) A) = Qc at hQ ⊢
  have hl := lv_entry ([.ref (ad 5)]) (n := 1) (Nat.le_of_ble_eq_true rfl)
  rw [lg_entry_eq]
  generalize (lg_sl ([.ref (ad 5)]) ++ List.replicate (1 - (lg_sl ([.ref (ad 5)])).length) Slot.unset).toArray = ls at hl ⊢
  have hl : lv_has ls 1 [(0, .ref (ad 5))] := hl
  refine (fun (key : ∀ (H : Heap) (locs : List Loc), va_P (dC, dI) vwCl (xW ad cI cZ lt_count lw_begin lw_end lw_depth lw_signed lw_led pr_written pr_within st_size tx_size tt_count tt_pieces tt_kinds lt_begins lt_marks st_word st_vowels tx_characters tt_begins tt_lengths tt_stemLengths tt_places tt_addresses tt_smalls tt_stems tt_slots tt_nexts) H → va_D A (xW ad cI cZ lt_count lw_begin lw_end lw_depth lw_signed lw_led pr_written pr_within st_size tx_size tt_count tt_pieces tt_kinds lt_begins lt_marks st_word st_vowels tx_characters tt_begins tt_lengths tt_stemLengths tt_places tt_addresses tt_smalls tt_stems tt_slots tt_nexts) → va_S A s.heap H locs → W p l e (headSpec wsX6_stemKinds ({ frames := 0, cells := 0, slots := 0, locals := 0 })).room s m ([.ref (ad 5)] : List Value).toArray below meth c H locs 0 0 (MQ below Qc ([.ref (ad 5)] : List Value).toArray s 0 0 A) (F0 m 0 ls [])) => key _ _ hP hD hS) ?_
  have inX6 : ∀ w ∈ wsX60, w ∈ wsX6_stemKinds := (fun _ h9 => List.mem_cons_of_mem _ (List.mem_append_right _ h9))
  intro H locs hP hD hS
  delta wpX6_stemKinds at h
  refine lv_aload_n hx hb dX6_stemKinds_0 rfl (lv_at hl 0 rfl) ?_
  refine va_get (D := (dC, dI)) (ci := 5) (v := .int tt_kinds) (C := RX6) (T := TX6) (N := 15) hx hb hts inX6 hown hK hP 5 rfl rfl 14 (by decide) (hts (.fieldLink RX6 99 "MailWords$TokenTable" "kinds" "I") (List.mem_of_getElem? (i := 1) rfl)) (fun _ h9 => h9) rfl dX6_stemKinds_1 ?_
  exact W.iret (v := tt_kinds) hx hb hr (fun t ht hW => hQ tt_kinds () t h (by rw [ht]; exact hP) (va_K.moved hW.alike hK) hD (hS.F ht)) hS.2.2 dX6_stemKinds_4
set_option maxHeartbeats 4000000 in
set_option maxRecDepth 100000 in
theorem sX6_timesOfStem (l : Launch) (dC : Nat → ClassId) (dI : Nat → Nat → Nat) (ad : Nat → Nat) (cI cZ : ClassId) (sa sv : Nat → Nat) (lt_count : Int32) (lw_begin : Int32) (lw_end : Int32) (lw_depth : Int32) (lw_signed : Int32) (lw_led : Int32) (pr_written : Int32) (pr_within : Int32) (st_size : Int32) (tx_size : Int32) (tt_count : Int32) (tt_pieces : Int32) (tt_kinds : Int32) (lt_begins : Nat → Int32) (lt_marks : Nat → Int32) (st_word : Nat → Int32) (st_vowels : Nat → Int32) (tx_characters : Nat → Int32) (tt_begins : Nat → Int32) (tt_lengths : Nat → Int32) (tt_stemLengths : Nat → Int32) (tt_places : Nat → Int32) (tt_addresses : Nat → Int32) (tt_smalls : Nat → Int32) (tt_stems : Nat → Int32) (tt_slots : Nat → Int32) (tt_nexts : Nat → Int32) (x1 : Int32) {post : Int32 → Prop} (h : wpX6_timesOfStem post tt_count tt_begins tt_stemLengths tt_addresses tt_smalls tt_stems x1) : xMi l (dC, dI) vwCl [(cI, .int), (cZ, .boolean)] (sI sa sv) yX6_timesOfStem wsX6_timesOfStem ({ frames := 3, cells := 0, slots := 0, locals := 66 }) (xW ad cI cZ lt_count lw_begin lw_end lw_depth lw_signed lw_led pr_written pr_within st_size tx_size tt_count tt_pieces tt_kinds lt_begins lt_marks st_word st_vowels tx_characters tt_begins tt_lengths tt_stemLengths tt_places tt_addresses tt_smalls tt_stems tt_slots tt_nexts) [.ref (ad 5), .int x1] (fun (r : Int32) (u : Unit) => post r ) (fun u : Unit => (xW ad cI cZ lt_count lw_begin lw_end lw_depth lw_signed lw_led pr_written pr_within st_size tx_size tt_count tt_pieces tt_kinds lt_begins lt_marks st_word st_vowels tx_characters tt_begins tt_lengths tt_stemLengths tt_places tt_addresses tt_smalls tt_stems tt_slots tt_nexts)) := by
  intro sz
  refine Met.ofW (cc := cX6_timesOfStem) (maxL := 4) (ret := (some .int)) (by decide) rfl ?_
  intro p e s m args below meth c s₁ B hml hv
  obtain ⟨rfl, hsz, hP, hK, hD0, hI⟩ := hv
  have hx := B.exec
  have hb := B.bytes
  have hr := B.returns
  have hts := atoms_spec (ws := wsX6_timesOfStem) B.pre
  have hown : s.vm.findClass RX6 = some m.cls := findClass_of_methodNamed B.named
  have hlocks := B.notSynchronized
  subst hsz
  have hD := hD0.self (sz := s.heap.size)
  generalize hAe : va_A (xW ad cI cZ lt_count lw_begin lw_end lw_depth lw_signed lw_led pr_written pr_within st_size tx_size tt_count tt_pieces tt_kinds lt_begins lt_marks st_word st_vowels tx_characters tt_begins tt_lengths tt_stemLengths tt_places tt_addresses tt_smalls tt_stems tt_slots tt_nexts) s.heap.size = A at hD hI ⊢
  have hA : ∀ q : Nat, s.heap.size ≤ q → A q := fun q h => by rw [← hAe]; exact Or.inr h
  have hS : va_S A s.heap s.heap [] := va_S.rf
  have Fx : CallFix p m c cX6_timesOfStem 4 s ([.ref (ad 5), .int x1] : List Value).toArray wsX6_timesOfStem RX6 := ⟨hx, hb, hml, hown, hts⟩
  have hQ : ∀ (r : Int32) (u : Unit) (t : State), (fun (r : Int32) (u : Unit) => post r ) r u → va_P (dC, dI) vwCl ((fun u : Unit => (xW ad cI cZ lt_count lw_begin lw_end lw_depth lw_signed lw_led pr_written pr_within st_size tx_size tt_count tt_pieces tt_kinds lt_begins lt_marks st_word st_vowels tx_characters tt_begins tt_lengths tt_stemLengths tt_places tt_addresses tt_smalls tt_stems tt_slots tt_nexts)) u) t.heap → va_K (dC, dI) vwCl [(cI, .int), (cZ, .boolean)] t → va_D A ((fun u : Unit => (xW ad cI cZ lt_count lw_begin lw_end lw_depth lw_signed lw_led pr_written pr_within st_size tx_size tt_count tt_pieces tt_kinds lt_begins lt_marks st_word st_vowels tx_characters tt_begins tt_lengths tt_stemLengths tt_places tt_addresses tt_smalls tt_stems tt_slots tt_nexts)) u) → va_F A s t → (va_Qi (fun (r : Int32) (u : Unit) => post r ) (xB (dC, dI) vwCl [(cI, .int), (cZ, .boolean)] A (fun u : Unit => (xW ad cI cZ lt_count lw_begin lw_end lw_depth lw_signed lw_led pr_written pr_within st_size tx_size tt_count tt_pieces tt_kinds lt_begins lt_marks st_word st_vowels tx_characters tt_begins tt_lengths tt_stemLengths tt_places tt_addresses tt_smalls tt_stems tt_slots tt_nexts))) A) ([.ref (ad 5), .int x1] : List Value).toArray s (.returned (some (.int r))) t := fun r u t h1 h2 h3 h4 h5 => ⟨⟨r, u, rfl, h1, h2, h3, h4⟩, h5⟩
  generalize (va_Qi (fun (r : Int32) (u : Unit) => post r ) (xB (dC, dI) vwCl [(cI, .int), (cZ, .boolean)] A (fun u : Unit => (xW ad cI cZ lt_count lw_begin lw_end lw_depth lw_signed lw_led pr_written pr_within st_size tx_size tt_count tt_pieces tt_kinds lt_begins lt_marks st_word st_vowels tx_characters tt_begins tt_lengths tt_stemLengths tt_places tt_addresses tt_smalls tt_stems tt_slots tt_nexts))) A) = Qc at hQ ⊢
  have hl := lv_entry ([.ref (ad 5), .int x1]) (n := 4) (Nat.le_of_ble_eq_true rfl)
  rw [lg_entry_eq]
  generalize (lg_sl ([.ref (ad 5), .int x1]) ++ List.replicate (4 - (lg_sl ([.ref (ad 5), .int x1])).length) Slot.unset).toArray = ls at hl ⊢
  have hl : lv_has ls 4 [(0, .ref (ad 5)), (1, .int x1)] := hl
  refine (fun (key : ∀ (H : Heap) (locs : List Loc), va_P (dC, dI) vwCl (xW ad cI cZ lt_count lw_begin lw_end lw_depth lw_signed lw_led pr_written pr_within st_size tx_size tt_count tt_pieces tt_kinds lt_begins lt_marks st_word st_vowels tx_characters tt_begins tt_lengths tt_stemLengths tt_places tt_addresses tt_smalls tt_stems tt_slots tt_nexts) H → va_D A (xW ad cI cZ lt_count lw_begin lw_end lw_depth lw_signed lw_led pr_written pr_within st_size tx_size tt_count tt_pieces tt_kinds lt_begins lt_marks st_word st_vowels tx_characters tt_begins tt_lengths tt_stemLengths tt_places tt_addresses tt_smalls tt_stems tt_slots tt_nexts) → va_S A s.heap H locs → W p l e (headSpec wsX6_timesOfStem ({ frames := 3, cells := 0, slots := 0, locals := 66 })).room s m ([.ref (ad 5), .int x1] : List Value).toArray below meth c H locs 0 0 (MQ below Qc ([.ref (ad 5), .int x1] : List Value).toArray s 0 0 A) (F0 m 0 ls [])) => key _ _ hP hD hS) ?_
  have inX6 : ∀ w ∈ wsX60, w ∈ wsX6_timesOfStem := (fun _ h9 => List.mem_cons_of_mem _ (List.mem_append_right _ h9))
  have L14 : ∀ (n : Nat) (x2 : Int32) (x3 : Int32) (H : Heap) (locs : List Loc) (ls : Array Slot), lv_has ls 4 [(0, .ref (ad 5)), (1, .int x1), (2, .int x2), (3, .int x3)] → va_P (dC, dI) vwCl (xW ad cI cZ lt_count lw_begin lw_end lw_depth lw_signed lw_led pr_written pr_within st_size tx_size tt_count tt_pieces tt_kinds lt_begins lt_marks st_word st_vowels tx_characters tt_begins tt_lengths tt_stemLengths tt_places tt_addresses tt_smalls tt_stems tt_slots tt_nexts) H → va_D A (xW ad cI cZ lt_count lw_begin lw_end lw_depth lw_signed lw_led pr_written pr_within st_size tx_size tt_count tt_pieces tt_kinds lt_begins lt_marks st_word st_vowels tx_characters tt_begins tt_lengths tt_stemLengths tt_places tt_addresses tt_smalls tt_stems tt_slots tt_nexts) → va_S A s.heap H locs → wlX6_timesOfStem_14 post tt_count tt_begins tt_stemLengths tt_addresses tt_smalls tt_stems x1 n x2 x3 → W p l e (headSpec wsX6_timesOfStem ({ frames := 3, cells := 0, slots := 0, locals := 66 })).room s m ([.ref (ad 5), .int x1] : List Value).toArray below meth c H locs 0 0 (MQ below Qc ([.ref (ad 5), .int x1] : List Value).toArray s 0 0 A) (F0 m 14 ls []) := by
    intro n
    induction n with
    | zero => intro x2 x3 H locs ls _ _ _ _ h; exact absurd h (fun z => z)
    | succ n14 ih14 =>
      intro x2 x3 H locs ls hl hP hD hS h
      have J43 : ∀ (x2 : Int32) (x3 : Int32) (H : Heap) (locs : List Loc) (ls : Array Slot), lv_has ls 4 [(0, .ref (ad 5)), (1, .int x1), (2, .int x2), (3, .int x3)] → va_P (dC, dI) vwCl (xW ad cI cZ lt_count lw_begin lw_end lw_depth lw_signed lw_led pr_written pr_within st_size tx_size tt_count tt_pieces tt_kinds lt_begins lt_marks st_word st_vowels tx_characters tt_begins tt_lengths tt_stemLengths tt_places tt_addresses tt_smalls tt_stems tt_slots tt_nexts) H → va_D A (xW ad cI cZ lt_count lw_begin lw_end lw_depth lw_signed lw_led pr_written pr_within st_size tx_size tt_count tt_pieces tt_kinds lt_begins lt_marks st_word st_vowels tx_characters tt_begins tt_lengths tt_stemLengths tt_places tt_addresses tt_smalls tt_stems tt_slots tt_nexts) → va_S A s.heap H locs → wjX6_timesOfStem_43 (fun x2 x3 => wlX6_timesOfStem_14 post tt_count tt_begins tt_stemLengths tt_addresses tt_smalls tt_stems x1 n14 x2 x3) post tt_count tt_begins tt_stemLengths tt_addresses tt_smalls tt_stems x1 x2 x3 → W p l e (headSpec wsX6_timesOfStem ({ frames := 3, cells := 0, slots := 0, locals := 66 })).room s m ([.ref (ad 5), .int x1] : List Value).toArray below meth c H locs 0 0 (MQ below Qc ([.ref (ad 5), .int x1] : List Value).toArray s 0 0 A) (F0 m 43 ls []) := by
        intro x2 x3 H locs ls hl hP hD hS h
        delta wjX6_timesOfStem_43 at h
        obtain ⟨x3_1, ex3_1⟩ : ∃ y : Int32, y = x3 + 1 := ⟨_, rfl⟩
        have h := h x3_1 ex3_1
        refine lv_iinc (v := x3_1) (lv' := [(3, .int x3_1), (0, .ref (ad 5)), (1, .int x1), (2, .int x2)]) hx hb dX6_timesOfStem_43 hl (k := 3) rfl (by rw [ex3_1]; rfl) (by decide) rfl (fun ls hl => ?_)
        refine lv_goto (tgt := 14) hx hb dX6_timesOfStem_46 (by decide) ?_
        exact ih14 x2 x3_1 H locs ls (lv_sub hl [1, 2, 3, 0] rfl) hP hD hS h
      rw [wlX6_timesOfStem_14] at h
      refine lv_iload_n hx hb dX6_timesOfStem_14 rfl (lv_at hl 3 rfl) ?_
      refine lv_aload_n hx hb dX6_timesOfStem_15 rfl (lv_at hl 0 rfl) ?_
      refine va_get (D := (dC, dI)) (ci := 5) (v := .int tt_count) (C := RX6) (T := TX6) (N := 15) hx hb hts inX6 hown hK hP 5 rfl rfl 12 (by decide) (hts (.fieldLink RX6 55 "MailWords$TokenTable" "count" "I") (List.mem_of_getElem? (i := 1) rfl)) (fun _ h9 => h9) rfl dX6_timesOfStem_16 ?_
      refine lv_icmp_ge (tgt := 49) hx hb dX6_timesOfStem_19 (by decide) (fun c9 => ?_) (fun c9 => ?_)
      · have h := h.1 c9
        refine lv_iload_n hx hb dX6_timesOfStem_49 rfl (lv_at hl 2 rfl) ?_
        exact W.iret (v := x2) hx hb hr (fun t ht hW => hQ x2 () t h (by rw [ht]; exact hP) (va_K.moved hW.alike hK) hD (hS.F ht)) hS.2.2 dX6_timesOfStem_50
      · have h := h.2 c9
        refine lv_aload_n hx hb dX6_timesOfStem_22 rfl (lv_at hl 0 rfl) ?_
        refine va_get (D := (dC, dI)) (ci := 5) (v := .ref (ad 16)) (C := RX6) (T := TX6) (N := 15) hx hb hts inX6 hown hK hP 5 rfl rfl 7 (by decide) (hts (.fieldLink RX6 31 "MailWords$TokenTable" "addresses" "[Z") (List.mem_of_getElem? (i := 2) rfl)) (fun _ h9 => h9) rfl dX6_timesOfStem_23 ?_
        refine lv_iload_n hx hb dX6_timesOfStem_26 rfl (lv_at hl 3 rfl) ?_
        have hi9 := h.1
        have h := h.2
        refine va_zald hx hb hK hP 16 1 rfl rfl hi9 dX6_timesOfStem_27 ?_
        refine lv_if_ne (tgt := 43) hx hb dX6_timesOfStem_28 (by decide) (fun c9 => ?_) (fun c9 => ?_)
        · have h := h.1 c9
          exact J43 x2 x3 H locs ls (lv_sub hl [0, 1, 2, 3] rfl) hP hD hS h
        · have h := h.2 c9
          refine lv_aload_n hx hb dX6_timesOfStem_31 rfl (lv_at hl 0 rfl) ?_
          refine lv_iload_n hx hb dX6_timesOfStem_32 rfl (lv_at hl 1 rfl) ?_
          refine lv_iload_n hx hb dX6_timesOfStem_33 rfl (lv_at hl 3 rfl) ?_
          refine xc_vi (As := [.int x1, .int x3]) (rest := []) xG Fx (sX6_haveSameStem l dC dI ad cI cZ sa sv lt_count lw_begin lw_end lw_depth lw_signed lw_led pr_written pr_within st_size tx_size tt_count tt_pieces tt_kinds lt_begins lt_marks st_word st_vowels tx_characters tt_begins tt_lengths tt_stemLengths tt_places tt_addresses tt_smalls tt_stems tt_slots tt_nexts x1 x3 h) (cwV 2 hts gX6_timesOfStem_X6_haveSameStem rfl rfl rfl hdX6_haveSameStem ⟨Nat.le_of_ble_eq_true rfl, Nat.le_of_ble_eq_true rfl⟩) (va_recv hK hP (ci := 5) (q0 := 5) rfl rfl) hK hP hD hS hA hI rfl hl.1 rfl (Nat.le_of_ble_eq_true rfl) dX6_timesOfStem_34 ⟨Nat.zero_le _, Nat.zero_le _⟩ (fun r_2 u H locs h hP hD hS => ?_)
          refine lv_if_eq (tgt := 43) hx hb dX6_timesOfStem_37 (by decide) (fun c9 => ?_) (fun c9 => ?_)
          · have h := h.1 c9
            exact J43 x2 x3 H locs ls (lv_sub hl [0, 1, 2, 3] rfl) hP hD hS h
          · have h := h.2 c9
            obtain ⟨x2_3, ex2_3⟩ : ∃ y : Int32, y = x2 + 1 := ⟨_, rfl⟩
            have h := h x2_3 ex2_3
            refine lv_iinc (v := x2_3) (lv' := [(2, .int x2_3), (0, .ref (ad 5)), (1, .int x1), (3, .int x3)]) hx hb dX6_timesOfStem_40 hl (k := 2) rfl (by rw [ex2_3]; rfl) (by decide) rfl (fun ls hl => ?_)
            exact J43 x2_3 x3 H locs ls (lv_sub hl [1, 2, 0, 3] rfl) hP hD hS h
  intro H locs hP hD hS
  delta wpX6_timesOfStem at h
  refine lv_aload_n hx hb dX6_timesOfStem_0 rfl (lv_at hl 0 rfl) ?_
  refine lv_iload_n hx hb dX6_timesOfStem_1 rfl (lv_at hl 1 rfl) ?_
  refine xc_vi (As := [.int x1]) (rest := []) xG Fx (sX6_exists l dC dI ad cI cZ sa sv lt_count lw_begin lw_end lw_depth lw_signed lw_led pr_written pr_within st_size tx_size tt_count tt_pieces tt_kinds lt_begins lt_marks st_word st_vowels tx_characters tt_begins tt_lengths tt_stemLengths tt_places tt_addresses tt_smalls tt_stems tt_slots tt_nexts x1 h) (cwV 1 hts gX6_timesOfStem_X6_exists rfl rfl rfl hdX6_exists ⟨Nat.le_of_ble_eq_true rfl, Nat.le_of_ble_eq_true rfl⟩) (va_recv hK hP (ci := 5) (q0 := 5) rfl rfl) hK hP hD hS hA hI rfl hl.1 rfl (Nat.le_of_ble_eq_true rfl) dX6_timesOfStem_2 ⟨Nat.zero_le _, Nat.zero_le _⟩ (fun r_4 u H locs h hP hD hS => ?_)
  refine lv_if_ne (tgt := 10) hx hb dX6_timesOfStem_5 (by decide) (fun c9 => ?_) (fun c9 => ?_)
  · have h := h.1 c9
    refine lv_iconst (v := 0) hx hb dX6_timesOfStem_10 (by decide) ?_
    refine lv_istore_n (lv' := [(2, .int 0), (0, .ref (ad 5)), (1, .int x1)]) hx hb dX6_timesOfStem_11 rfl hl (by decide) rfl (fun ls hl => ?_)
    refine lv_iconst (v := 0) hx hb dX6_timesOfStem_12 (by decide) ?_
    refine lv_istore_n (lv' := [(3, .int 0), (2, .int 0), (0, .ref (ad 5)), (1, .int x1)]) hx hb dX6_timesOfStem_13 rfl hl (by decide) rfl (fun ls hl => ?_)
    obtain ⟨n, h⟩ := h
    exact L14  n 0 0 H locs ls (lv_sub hl [2, 3, 1, 0] rfl) hP hD hS h
  · have h := h.2 c9
    refine lv_iconst (v := 0) hx hb dX6_timesOfStem_8 (by decide) ?_
    exact W.iret (v := 0) hx hb hr (fun t ht hW => hQ 0 () t h (by rw [ht]; exact hP) (va_K.moved hW.alike hK) hD (hS.F ht)) hS.2.2 dX6_timesOfStem_9
