set_option maxHeartbeats 4000000 in
set_option maxRecDepth 100000 in
theorem sX6_behindRow (l : Launch) (dC : Nat → ClassId) (dI : Nat → Nat → Nat) (ad : Nat → Nat) (cI cZ : ClassId) (sa sv : Nat → Nat) (lt_count : Int32) (lw_begin : Int32) (lw_end : Int32) (lw_depth : Int32) (lw_signed : Int32) (lw_led : Int32) (pr_written : Int32) (pr_within : Int32) (st_size : Int32) (tx_size : Int32) (tt_count : Int32) (tt_pieces : Int32) (tt_kinds : Int32) (lt_begins : Nat → Int32) (lt_marks : Nat → Int32) (st_word : Nat → Int32) (st_vowels : Nat → Int32) (tx_characters : Nat → Int32) (tt_begins : Nat → Int32) (tt_lengths : Nat → Int32) (tt_stemLengths : Nat → Int32) (tt_places : Nat → Int32) (tt_addresses : Nat → Int32) (tt_smalls : Nat → Int32) (tt_stems : Nat → Int32) (tt_slots : Nat → Int32) (tt_nexts : Nat → Int32) (x1 : Int32) (x2 : Int32) {post : Int32 → Prop} (h : wpX6_behindRow post tx_size tx_characters x1 x2) : xMi l (dC, dI) vwCl [(cI, .int), (cZ, .boolean)] (sI sa sv) yX6_behindRow wsX6_behindRow ({ frames := 2, cells := 0, slots := 0, locals := 40 }) (xW ad cI cZ lt_count lw_begin lw_end lw_depth lw_signed lw_led pr_written pr_within st_size tx_size tt_count tt_pieces tt_kinds lt_begins lt_marks st_word st_vowels tx_characters tt_begins tt_lengths tt_stemLengths tt_places tt_addresses tt_smalls tt_stems tt_slots tt_nexts) [.ref (ad 5), .int x1, .int x2] (fun (r : Int32) (u : Unit) => post r ) (fun u : Unit => (xW ad cI cZ lt_count lw_begin lw_end lw_depth lw_signed lw_led pr_written pr_within st_size tx_size tt_count tt_pieces tt_kinds lt_begins lt_marks st_word st_vowels tx_characters tt_begins tt_lengths tt_stemLengths tt_places tt_addresses tt_smalls tt_stems tt_slots tt_nexts)) := by
  intro sz
  refine Met.ofW (cc := cX6_behindRow) (maxL := 5) (ret := (some .int)) (by decide) rfl ?_
  intro p e s m args below meth c s₁ B hml hv
  obtain ⟨rfl, hsz, hP, hK, hD0, hI⟩ := hv
  have hx := B.exec
  have hb := B.bytes
  have hr := B.returns
  have hts := atoms_spec (ws := wsX6_behindRow) B.pre
  have hown : s.vm.findClass RX6 = some m.cls := findClass_of_methodNamed B.named
  have hlocks := B.notSynchronized
  subst hsz
  have hD := hD0.self (sz := s.heap.size)
  generalize hAe : va_A (xW ad cI cZ lt_count lw_begin lw_end lw_depth lw_signed lw_led pr_written pr_within st_size tx_size tt_count tt_pieces tt_kinds lt_begins lt_marks st_word st_vowels tx_characters tt_begins tt_lengths tt_stemLengths tt_places tt_addresses tt_smalls tt_stems tt_slots tt_nexts) s.heap.size = A at hD hI ⊢
  have hA : ∀ q : Nat, s.heap.size ≤ q → A q := fun q h => by rw [← hAe]; exact Or.inr h
  have hS : va_S A s.heap s.heap [] := va_S.rf
  have Fx : CallFix p m c cX6_behindRow 5 s ([.ref (ad 5), .int x1, .int x2] : List Value).toArray wsX6_behindRow RX6 := ⟨hx, hb, hml, hown, hts⟩
  have hQ : ∀ (r : Int32) (u : Unit) (t : State), (fun (r : Int32) (u : Unit) => post r ) r u → va_P (dC, dI) vwCl ((fun u : Unit => (xW ad cI cZ lt_count lw_begin lw_end lw_depth lw_signed lw_led pr_written pr_within st_size tx_size tt_count tt_pieces tt_kinds lt_begins lt_marks st_word st_vowels tx_characters tt_begins tt_lengths tt_stemLengths tt_places tt_addresses tt_smalls tt_stems tt_slots tt_nexts)) u) t.heap → va_K (dC, dI) vwCl [(cI, .int), (cZ, .boolean)] t → va_D A ((fun u : Unit => (xW ad cI cZ lt_count lw_begin lw_end lw_depth lw_signed lw_led pr_written pr_within st_size tx_size tt_count tt_pieces tt_kinds lt_begins lt_marks st_word st_vowels tx_characters tt_begins tt_lengths tt_stemLengths tt_places tt_addresses tt_smalls tt_stems tt_slots tt_nexts)) u) → va_F A s t → (va_Qi (fun (r : Int32) (u : Unit) => post r ) (xB (dC, dI) vwCl [(cI, .int), (cZ, .boolean)] A (fun u : Unit => (xW ad cI cZ lt_count lw_begin lw_end lw_depth lw_signed lw_led pr_written pr_within st_size tx_size tt_count tt_pieces tt_kinds lt_begins lt_marks st_word st_vowels tx_characters tt_begins tt_lengths tt_stemLengths tt_places tt_addresses tt_smalls tt_stems tt_slots tt_nexts))) A) ([.ref (ad 5), .int x1, .int x2] : List Value).toArray s (.returned (some (.int r))) t := fun r u t h1 h2 h3 h4 h5 => ⟨⟨r, u, rfl, h1, h2, h3, h4⟩, h5⟩
  generalize (va_Qi (fun (r : Int32) (u : Unit) => post r ) (xB (dC, dI) vwCl [(cI, .int), (cZ, .boolean)] A (fun u : Unit => (xW ad cI cZ lt_count lw_begin lw_end lw_depth lw_signed lw_led pr_written pr_within st_size tx_size tt_count tt_pieces tt_kinds lt_begins lt_marks st_word st_vowels tx_characters tt_begins tt_lengths tt_stemLengths tt_places tt_addresses tt_smalls tt_stems tt_slots tt_nexts))) A) = Qc at hQ ⊢
  have hl := lv_entry ([.ref (ad 5), .int x1, .int x2]) (n := 5) (Nat.le_of_ble_eq_true rfl)
  rw [lg_entry_eq]
  generalize (lg_sl ([.ref (ad 5), .int x1, .int x2]) ++ List.replicate (5 - (lg_sl ([.ref (ad 5), .int x1, .int x2])).length) Slot.unset).toArray = ls at hl ⊢
  have hl : lv_has ls 5 [(0, .ref (ad 5)), (1, .int x1), (2, .int x2)] := hl
  refine (fun (key : ∀ (H : Heap) (locs : List Loc), va_P (dC, dI) vwCl (xW ad cI cZ lt_count lw_begin lw_end lw_depth lw_signed lw_led pr_written pr_within st_size tx_size tt_count tt_pieces tt_kinds lt_begins lt_marks st_word st_vowels tx_characters tt_begins tt_lengths tt_stemLengths tt_places tt_addresses tt_smalls tt_stems tt_slots tt_nexts) H → va_D A (xW ad cI cZ lt_count lw_begin lw_end lw_depth lw_signed lw_led pr_written pr_within st_size tx_size tt_count tt_pieces tt_kinds lt_begins lt_marks st_word st_vowels tx_characters tt_begins tt_lengths tt_stemLengths tt_places tt_addresses tt_smalls tt_stems tt_slots tt_nexts) → va_S A s.heap H locs → W p l e (headSpec wsX6_behindRow ({ frames := 2, cells := 0, slots := 0, locals := 40 })).room s m ([.ref (ad 5), .int x1, .int x2] : List Value).toArray below meth c H locs 0 0 (MQ below Qc ([.ref (ad 5), .int x1, .int x2] : List Value).toArray s 0 0 A) (F0 m 0 ls [])) => key _ _ hP hD hS) ?_
  have inX6 : ∀ w ∈ wsX60, w ∈ wsX6_behindRow := (fun _ h9 => List.mem_cons_of_mem _ (List.mem_append_left _ (List.mem_append_right _ h9)))
  have L5 : ∀ (n : Nat) (x3 : Int32) (x4 : Int32) (H : Heap) (locs : List Loc) (ls : Array Slot), lv_has ls 5 [(0, .ref (ad 5)), (1, .int x1), (2, .int x2), (3, .int x3), (4, .int x4)] → va_P (dC, dI) vwCl (xW ad cI cZ lt_count lw_begin lw_end lw_depth lw_signed lw_led pr_written pr_within st_size tx_size tt_count tt_pieces tt_kinds lt_begins lt_marks st_word st_vowels tx_characters tt_begins tt_lengths tt_stemLengths tt_places tt_addresses tt_smalls tt_stems tt_slots tt_nexts) H → va_D A (xW ad cI cZ lt_count lw_begin lw_end lw_depth lw_signed lw_led pr_written pr_within st_size tx_size tt_count tt_pieces tt_kinds lt_begins lt_marks st_word st_vowels tx_characters tt_begins tt_lengths tt_stemLengths tt_places tt_addresses tt_smalls tt_stems tt_slots tt_nexts) → va_S A s.heap H locs → wlX6_behindRow_5 post tx_size tx_characters x1 x2 n x3 x4 → W p l e (headSpec wsX6_behindRow ({ frames := 2, cells := 0, slots := 0, locals := 40 })).room s m ([.ref (ad 5), .int x1, .int x2] : List Value).toArray below meth c H locs 0 0 (MQ below Qc ([.ref (ad 5), .int x1, .int x2] : List Value).toArray s 0 0 A) (F0 m 5 ls []) := by
    intro n
    induction n with
    | zero => intro x3 x4 H locs ls _ _ _ _ h; exact absurd h (fun z => z)
    | succ n5 ih5 =>
      intro x3 x4 H locs ls hl hP hD hS h
      have J64 : ∀ (x3 : Int32) (x4 : Int32) (H : Heap) (locs : List Loc) (ls : Array Slot), lv_has ls 5 [(0, .ref (ad 5)), (1, .int x1), (2, .int x2), (3, .int x3), (4, .int x4)] → va_P (dC, dI) vwCl (xW ad cI cZ lt_count lw_begin lw_end lw_depth lw_signed lw_led pr_written pr_within st_size tx_size tt_count tt_pieces tt_kinds lt_begins lt_marks st_word st_vowels tx_characters tt_begins tt_lengths tt_stemLengths tt_places tt_addresses tt_smalls tt_stems tt_slots tt_nexts) H → va_D A (xW ad cI cZ lt_count lw_begin lw_end lw_depth lw_signed lw_led pr_written pr_within st_size tx_size tt_count tt_pieces tt_kinds lt_begins lt_marks st_word st_vowels tx_characters tt_begins tt_lengths tt_stemLengths tt_places tt_addresses tt_smalls tt_stems tt_slots tt_nexts) → va_S A s.heap H locs → wjX6_behindRow_64 (fun x3 x4 => wlX6_behindRow_5 post tx_size tx_characters x1 x2 n5 x3 x4) post tx_size tx_characters x1 x2 x3 x4 → W p l e (headSpec wsX6_behindRow ({ frames := 2, cells := 0, slots := 0, locals := 40 })).room s m ([.ref (ad 5), .int x1, .int x2] : List Value).toArray below meth c H locs 0 0 (MQ below Qc ([.ref (ad 5), .int x1, .int x2] : List Value).toArray s 0 0 A) (F0 m 64 ls []) := by
        intro x3 x4 H locs ls hl hP hD hS h
        delta wjX6_behindRow_64 at h
        obtain ⟨x4_1, ex4_1⟩ : ∃ y : Int32, y = x4 + 1 := ⟨_, rfl⟩
        have h := h x4_1 ex4_1
        refine lv_iinc (v := x4_1) (lv' := [(4, .int x4_1), (0, .ref (ad 5)), (1, .int x1), (2, .int x2), (3, .int x3)]) hx hb dX6_behindRow_64 hl (k := 4) rfl (by rw [ex4_1]; rfl) (by decide) rfl (fun ls hl => ?_)
        refine lv_goto (tgt := 5) hx hb dX6_behindRow_67 (by decide) ?_
        exact ih5 x3 x4_1 H locs ls (lv_sub hl [1, 2, 3, 4, 0] rfl) hP hD hS h
      rw [wlX6_behindRow_5] at h
      refine lv_iload hx hb dX6_behindRow_5 (lv_at hl 4 rfl) ?_
      refine lv_iload_n hx hb dX6_behindRow_7 rfl (lv_at hl 2 rfl) ?_
      refine lv_icmp_ge (tgt := 70) hx hb dX6_behindRow_8 (by decide) (fun c9 => ?_) (fun c9 => ?_)
      · have h := h.1 c9
        refine lv_iload_n hx hb dX6_behindRow_70 rfl (lv_at hl 3 rfl) ?_
        exact W.iret (v := x3) hx hb hr (fun t ht hW => hQ x3 () t h (by rw [ht]; exact hP) (va_K.moved hW.alike hK) hD (hS.F ht)) hS.2.2 dX6_behindRow_71
      · have h := h.2 c9
        refine lv_aload_n hx hb dX6_behindRow_11 rfl (lv_at hl 0 rfl) ?_
        refine va_get (D := (dC, dI)) (ci := 5) (v := .ref (ad 4)) (C := RX6) (T := TX6) (N := 15) hx hb hts inX6 hown hK hP 5 rfl rfl 0 (by decide) (hts (.fieldLink RX6 47 "MailWords$TokenTable" "text" "LMailWords$Text;") (List.mem_of_getElem? (i := 1) rfl)) (fun _ h9 => h9) rfl dX6_behindRow_12 ?_
        refine lv_iload hx hb dX6_behindRow_15 (lv_at hl 4 rfl) ?_
        refine xc_vi (As := [.int x4]) (rest := []) xG Fx (sX5_get l dC dI ad cI cZ sa sv lt_count lw_begin lw_end lw_depth lw_signed lw_led pr_written pr_within st_size tx_size tt_count tt_pieces tt_kinds lt_begins lt_marks st_word st_vowels tx_characters tt_begins tt_lengths tt_stemLengths tt_places tt_addresses tt_smalls tt_stems tt_slots tt_nexts x4 h) (cwV 1 hts gX6_behindRow_X5_get rfl rfl rfl hdX5_get ⟨Nat.le_of_ble_eq_true rfl, Nat.le_of_ble_eq_true rfl⟩) (va_recv hK hP (ci := 4) (q0 := 4) rfl rfl) hK hP hD hS hA hI rfl hl.1 rfl (Nat.le_of_ble_eq_true rfl) dX6_behindRow_17 ⟨Nat.zero_le _, Nat.zero_le _⟩ (fun r_2 u H locs h hP hD hS => ?_)
        refine xc_si (As := [.int r_2]) (rest := []) xG Fx (sX0_isLetterOrDigit l dC dI ad cI cZ sa sv lt_count lw_begin lw_end lw_depth lw_signed lw_led pr_written pr_within st_size tx_size tt_count tt_pieces tt_kinds lt_begins lt_marks st_word st_vowels tx_characters tt_begins tt_lengths tt_stemLengths tt_places tt_addresses tt_smalls tt_stems tt_slots tt_nexts r_2 h) (va_cwS 1 hts gX6_behindRow_X0_isLetterOrDigit rfl rfl rfl hdX0_isLetterOrDigit ⟨Nat.le_of_ble_eq_true rfl, Nat.le_of_ble_eq_true rfl⟩) hK hP hD hS hA hI rfl hl.1 rfl (Nat.le_of_ble_eq_true rfl) dX6_behindRow_20 ⟨Nat.zero_le _, Nat.zero_le _⟩ (fun r_3 u H locs h hP hD hS => ?_)
        refine lv_if_eq (tgt := 34) hx hb dX6_behindRow_23 (by decide) (fun c9 => ?_) (fun c9 => ?_)
        · have h := h.1 c9
          refine lv_iload hx hb dX6_behindRow_34 (lv_at hl 4 rfl) ?_
          refine lv_iload_n hx hb dX6_behindRow_36 rfl (lv_at hl 3 rfl) ?_
          refine lv_icmp_gt (tgt := 70) hx hb dX6_behindRow_37 (by decide) (fun c9 => ?_) (fun c9 => ?_)
          · have h := h.1 c9
            refine lv_iload_n hx hb dX6_behindRow_70 rfl (lv_at hl 3 rfl) ?_
            exact W.iret (v := x3) hx hb hr (fun t ht hW => hQ x3 () t h (by rw [ht]; exact hP) (va_K.moved hW.alike hK) hD (hS.F ht)) hS.2.2 dX6_behindRow_71
          · have h := h.2 c9
            refine lv_iload hx hb dX6_behindRow_40 (lv_at hl 4 rfl) ?_
            refine lv_iload_n hx hb dX6_behindRow_42 rfl (lv_at hl 1 rfl) ?_
            refine lv_icmp_eq (tgt := 70) hx hb dX6_behindRow_43 (by decide) (fun c9 => ?_) (fun c9 => ?_)
            · have h := h.1 c9
              refine lv_iload_n hx hb dX6_behindRow_70 rfl (lv_at hl 3 rfl) ?_
              exact W.iret (v := x3) hx hb hr (fun t ht hW => hQ x3 () t h (by rw [ht]; exact hP) (va_K.moved hW.alike hK) hD (hS.F ht)) hS.2.2 dX6_behindRow_71
            · have h := h.2 c9
              refine lv_aload_n hx hb dX6_behindRow_46 rfl (lv_at hl 0 rfl) ?_
              refine va_get (D := (dC, dI)) (ci := 5) (v := .ref (ad 4)) (C := RX6) (T := TX6) (N := 15) hx hb hts inX6 hown hK hP 5 rfl rfl 0 (by decide) (hts (.fieldLink RX6 47 "MailWords$TokenTable" "text" "LMailWords$Text;") (List.mem_of_getElem? (i := 1) rfl)) (fun _ h9 => h9) rfl dX6_behindRow_47 ?_
              refine lv_iload hx hb dX6_behindRow_50 (lv_at hl 4 rfl) ?_
              refine xc_vi (As := [.int x4]) (rest := []) xG Fx (sX5_get l dC dI ad cI cZ sa sv lt_count lw_begin lw_end lw_depth lw_signed lw_led pr_written pr_within st_size tx_size tt_count tt_pieces tt_kinds lt_begins lt_marks st_word st_vowels tx_characters tt_begins tt_lengths tt_stemLengths tt_places tt_addresses tt_smalls tt_stems tt_slots tt_nexts x4 h) (cwV 1 hts gX6_behindRow_X5_get rfl rfl rfl hdX5_get ⟨Nat.le_of_ble_eq_true rfl, Nat.le_of_ble_eq_true rfl⟩) (va_recv hK hP (ci := 4) (q0 := 4) rfl rfl) hK hP hD hS hA hI rfl hl.1 rfl (Nat.le_of_ble_eq_true rfl) dX6_behindRow_52 ⟨Nat.zero_le _, Nat.zero_le _⟩ (fun r_4 u H locs h hP hD hS => ?_)
              refine xc_si (As := [.int r_4]) (rest := []) xG Fx (sX0_isJoin l dC dI ad cI cZ sa sv lt_count lw_begin lw_end lw_depth lw_signed lw_led pr_written pr_within st_size tx_size tt_count tt_pieces tt_kinds lt_begins lt_marks st_word st_vowels tx_characters tt_begins tt_lengths tt_stemLengths tt_places tt_addresses tt_smalls tt_stems tt_slots tt_nexts r_4 h) (va_cwS 1 hts gX6_behindRow_X0_isJoin rfl rfl rfl hdX0_isJoin ⟨Nat.le_of_ble_eq_true rfl, Nat.le_of_ble_eq_true rfl⟩) hK hP hD hS hA hI rfl hl.1 rfl (Nat.le_of_ble_eq_true rfl) dX6_behindRow_55 ⟨Nat.zero_le _, Nat.zero_le _⟩ (fun r_5 u H locs h hP hD hS => ?_)
              refine lv_if_ne (tgt := 64) hx hb dX6_behindRow_58 (by decide) (fun c9 => ?_) (fun c9 => ?_)
              · have h := h.1 c9
                exact J64 x3 x4 H locs ls (lv_sub hl [0, 1, 2, 3, 4] rfl) hP hD hS h
              · have h := h.2 c9
                refine lv_goto (tgt := 70) hx hb dX6_behindRow_61 (by decide) ?_
                refine lv_iload_n hx hb dX6_behindRow_70 rfl (lv_at hl 3 rfl) ?_
                exact W.iret (v := x3) hx hb hr (fun t ht hW => hQ x3 () t h (by rw [ht]; exact hP) (va_K.moved hW.alike hK) hD (hS.F ht)) hS.2.2 dX6_behindRow_71
        · have h := h.2 c9
          refine lv_iload hx hb dX6_behindRow_26 (lv_at hl 4 rfl) ?_
          refine lv_iconst (v := 1) hx hb dX6_behindRow_28 (by decide) ?_
          refine lv_iadd hx hb dX6_behindRow_29 ?_
          refine lv_topi (fun x3_6 ex3_6 => ?_)
          have h := h x3_6 ex3_6
          refine lv_istore_n (lv' := [(3, .int x3_6), (0, .ref (ad 5)), (1, .int x1), (2, .int x2), (4, .int x4)]) hx hb dX6_behindRow_30 rfl hl (by decide) rfl (fun ls hl => ?_)
          refine lv_goto (tgt := 64) hx hb dX6_behindRow_31 (by decide) ?_
          exact J64 x3_6 x4 H locs ls (lv_sub hl [1, 2, 3, 0, 4] rfl) hP hD hS h
  intro H locs hP hD hS
  delta wpX6_behindRow at h
  refine lv_iload_n hx hb dX6_behindRow_0 rfl (lv_at hl 1 rfl) ?_
  refine lv_istore_n (lv' := [(3, .int x1), (0, .ref (ad 5)), (1, .int x1), (2, .int x2)]) hx hb dX6_behindRow_1 rfl hl (by decide) rfl (fun ls hl => ?_)
  refine lv_iload_n hx hb dX6_behindRow_2 rfl (lv_at hl 2 rfl) ?_
  refine lv_istore (lv' := [(4, .int x1), (3, .int x1), (0, .ref (ad 5)), (1, .int x1), (2, .int x2)]) hx hb dX6_behindRow_3 hl (by decide) rfl (fun ls hl => ?_)
  obtain ⟨n, h⟩ := h
  exact L5  n x1 x1 H locs ls (lv_sub hl [2, 3, 4, 1, 0] rfl) hP hD hS h
set_option maxHeartbeats 4000000 in
set_option maxRecDepth 100000 in
theorem sX6_isAddress (l : Launch) (dC : Nat → ClassId) (dI : Nat → Nat → Nat) (ad : Nat → Nat) (cI cZ : ClassId) (sa sv : Nat → Nat) (lt_count : Int32) (lw_begin : Int32) (lw_end : Int32) (lw_depth : Int32) (lw_signed : Int32) (lw_led : Int32) (pr_written : Int32) (pr_within : Int32) (st_size : Int32) (tx_size : Int32) (tt_count : Int32) (tt_pieces : Int32) (tt_kinds : Int32) (lt_begins : Nat → Int32) (lt_marks : Nat → Int32) (st_word : Nat → Int32) (st_vowels : Nat → Int32) (tx_characters : Nat → Int32) (tt_begins : Nat → Int32) (tt_lengths : Nat → Int32) (tt_stemLengths : Nat → Int32) (tt_places : Nat → Int32) (tt_addresses : Nat → Int32) (tt_smalls : Nat → Int32) (tt_stems : Nat → Int32) (tt_slots : Nat → Int32) (tt_nexts : Nat → Int32) (x1 : Int32) (x2 : Int32) {post : Int32 → Prop} (h : wpX6_isAddress post tx_size tx_characters x1 x2) : xMi l (dC, dI) vwCl [(cI, .int), (cZ, .boolean)] (sI sa sv) yX6_isAddress wsX6_isAddress ({ frames := 1, cells := 0, slots := 0, locals := 21 }) (xW ad cI cZ lt_count lw_begin lw_end lw_depth lw_signed lw_led pr_written pr_within st_size tx_size tt_count tt_pieces tt_kinds lt_begins lt_marks st_word st_vowels tx_characters tt_begins tt_lengths tt_stemLengths tt_places tt_addresses tt_smalls tt_stems tt_slots tt_nexts) [.ref (ad 5), .int x1, .int x2] (fun (r : Int32) (u : Unit) => post r ) (fun u : Unit => (xW ad cI cZ lt_count lw_begin lw_end lw_depth lw_signed lw_led pr_written pr_within st_size tx_size tt_count tt_pieces tt_kinds lt_begins lt_marks st_word st_vowels tx_characters tt_begins tt_lengths tt_stemLengths tt_places tt_addresses tt_smalls tt_stems tt_slots tt_nexts)) := by
  intro sz
  refine Met.ofW (cc := cX6_isAddress) (maxL := 5) (ret := (some .boolean)) (by decide) rfl ?_
  intro p e s m args below meth c s₁ B hml hv
  obtain ⟨rfl, hsz, hP, hK, hD0, hI⟩ := hv
  have hx := B.exec
  have hb := B.bytes
  have hr := B.returns
  have hts := atoms_spec (ws := wsX6_isAddress) B.pre
  have hown : s.vm.findClass RX6 = some m.cls := findClass_of_methodNamed B.named
  have hlocks := B.notSynchronized
  subst hsz
  have hD := hD0.self (sz := s.heap.size)
  generalize hAe : va_A (xW ad cI cZ lt_count lw_begin lw_end lw_depth lw_signed lw_led pr_written pr_within st_size tx_size tt_count tt_pieces tt_kinds lt_begins lt_marks st_word st_vowels tx_characters tt_begins tt_lengths tt_stemLengths tt_places tt_addresses tt_smalls tt_stems tt_slots tt_nexts) s.heap.size = A at hD hI ⊢
  have hA : ∀ q : Nat, s.heap.size ≤ q → A q := fun q h => by rw [← hAe]; exact Or.inr h
  have hS : va_S A s.heap s.heap [] := va_S.rf
  have Fx : CallFix p m c cX6_isAddress 5 s ([.ref (ad 5), .int x1, .int x2] : List Value).toArray wsX6_isAddress RX6 := ⟨hx, hb, hml, hown, hts⟩
  have hQ : ∀ (r : Int32) (u : Unit) (t : State), (fun (r : Int32) (u : Unit) => post r ) r u → va_P (dC, dI) vwCl ((fun u : Unit => (xW ad cI cZ lt_count lw_begin lw_end lw_depth lw_signed lw_led pr_written pr_within st_size tx_size tt_count tt_pieces tt_kinds lt_begins lt_marks st_word st_vowels tx_characters tt_begins tt_lengths tt_stemLengths tt_places tt_addresses tt_smalls tt_stems tt_slots tt_nexts)) u) t.heap → va_K (dC, dI) vwCl [(cI, .int), (cZ, .boolean)] t → va_D A ((fun u : Unit => (xW ad cI cZ lt_count lw_begin lw_end lw_depth lw_signed lw_led pr_written pr_within st_size tx_size tt_count tt_pieces tt_kinds lt_begins lt_marks st_word st_vowels tx_characters tt_begins tt_lengths tt_stemLengths tt_places tt_addresses tt_smalls tt_stems tt_slots tt_nexts)) u) → va_F A s t → (va_Qi (fun (r : Int32) (u : Unit) => post r ) (xB (dC, dI) vwCl [(cI, .int), (cZ, .boolean)] A (fun u : Unit => (xW ad cI cZ lt_count lw_begin lw_end lw_depth lw_signed lw_led pr_written pr_within st_size tx_size tt_count tt_pieces tt_kinds lt_begins lt_marks st_word st_vowels tx_characters tt_begins tt_lengths tt_stemLengths tt_places tt_addresses tt_smalls tt_stems tt_slots tt_nexts))) A) ([.ref (ad 5), .int x1, .int x2] : List Value).toArray s (.returned (some (.int r))) t := fun r u t h1 h2 h3 h4 h5 => ⟨⟨r, u, rfl, h1, h2, h3, h4⟩, h5⟩
  generalize (va_Qi (fun (r : Int32) (u : Unit) => post r ) (xB (dC, dI) vwCl [(cI, .int), (cZ, .boolean)] A (fun u : Unit => (xW ad cI cZ lt_count lw_begin lw_end lw_depth lw_signed lw_led pr_written pr_within st_size tx_size tt_count tt_pieces tt_kinds lt_begins lt_marks st_word st_vowels tx_characters tt_begins tt_lengths tt_stemLengths tt_places tt_addresses tt_smalls tt_stems tt_slots tt_nexts))) A) = Qc at hQ ⊢
  have hl := lv_entry ([.ref (ad 5), .int x1, .int x2]) (n := 5) (Nat.le_of_ble_eq_true rfl)
  rw [lg_entry_eq]
  generalize (lg_sl ([.ref (ad 5), .int x1, .int x2]) ++ List.replicate (5 - (lg_sl ([.ref (ad 5), .int x1, .int x2])).length) Slot.unset).toArray = ls at hl ⊢
  have hl : lv_has ls 5 [(0, .ref (ad 5)), (1, .int x1), (2, .int x2)] := hl
  refine (fun (key : ∀ (H : Heap) (locs : List Loc), va_P (dC, dI) vwCl (xW ad cI cZ lt_count lw_begin lw_end lw_depth lw_signed lw_led pr_written pr_within st_size tx_size tt_count tt_pieces tt_kinds lt_begins lt_marks st_word st_vowels tx_characters tt_begins tt_lengths tt_stemLengths tt_places tt_addresses tt_smalls tt_stems tt_slots tt_nexts) H → va_D A (xW ad cI cZ lt_count lw_begin lw_end lw_depth lw_signed lw_led pr_written pr_within st_size tx_size tt_count tt_pieces tt_kinds lt_begins lt_marks st_word st_vowels tx_characters tt_begins tt_lengths tt_stemLengths tt_places tt_addresses tt_smalls tt_stems tt_slots tt_nexts) → va_S A s.heap H locs → W p l e (headSpec wsX6_isAddress ({ frames := 1, cells := 0, slots := 0, locals := 21 })).room s m ([.ref (ad 5), .int x1, .int x2] : List Value).toArray below meth c H locs 0 0 (MQ below Qc ([.ref (ad 5), .int x1, .int x2] : List Value).toArray s 0 0 A) (F0 m 0 ls [])) => key _ _ hP hD hS) ?_
  have inX6 : ∀ w ∈ wsX60, w ∈ wsX6_isAddress := (fun _ h9 => List.mem_cons_of_mem _ (List.mem_append_left _ (List.mem_append_right _ h9)))
  have L2 : ∀ (n : Nat) (x3 : Int32) (H : Heap) (locs : List Loc) (ls : Array Slot), lv_has ls 5 [(0, .ref (ad 5)), (2, .int x2), (3, .int x3)] → va_P (dC, dI) vwCl (xW ad cI cZ lt_count lw_begin lw_end lw_depth lw_signed lw_led pr_written pr_within st_size tx_size tt_count tt_pieces tt_kinds lt_begins lt_marks st_word st_vowels tx_characters tt_begins tt_lengths tt_stemLengths tt_places tt_addresses tt_smalls tt_stems tt_slots tt_nexts) H → va_D A (xW ad cI cZ lt_count lw_begin lw_end lw_depth lw_signed lw_led pr_written pr_within st_size tx_size tt_count tt_pieces tt_kinds lt_begins lt_marks st_word st_vowels tx_characters tt_begins tt_lengths tt_stemLengths tt_places tt_addresses tt_smalls tt_stems tt_slots tt_nexts) → va_S A s.heap H locs → wlX6_isAddress_2 post tx_size tx_characters x1 x2 n x3 → W p l e (headSpec wsX6_isAddress ({ frames := 1, cells := 0, slots := 0, locals := 21 })).room s m ([.ref (ad 5), .int x1, .int x2] : List Value).toArray below meth c H locs 0 0 (MQ below Qc ([.ref (ad 5), .int x1, .int x2] : List Value).toArray s 0 0 A) (F0 m 2 ls []) := by
    intro n
    induction n with
    | zero => intro x3 H locs ls _ _ _ _ h; exact absurd h (fun z => z)
    | succ n2 ih2 =>
      intro x3 H locs ls hl hP hD hS h
      have J65 : ∀ (x3 : Int32) (H : Heap) (locs : List Loc) (ls : Array Slot), lv_has ls 5 [(0, .ref (ad 5)), (2, .int x2), (3, .int x3)] → va_P (dC, dI) vwCl (xW ad cI cZ lt_count lw_begin lw_end lw_depth lw_signed lw_led pr_written pr_within st_size tx_size tt_count tt_pieces tt_kinds lt_begins lt_marks st_word st_vowels tx_characters tt_begins tt_lengths tt_stemLengths tt_places tt_addresses tt_smalls tt_stems tt_slots tt_nexts) H → va_D A (xW ad cI cZ lt_count lw_begin lw_end lw_depth lw_signed lw_led pr_written pr_within st_size tx_size tt_count tt_pieces tt_kinds lt_begins lt_marks st_word st_vowels tx_characters tt_begins tt_lengths tt_stemLengths tt_places tt_addresses tt_smalls tt_stems tt_slots tt_nexts) → va_S A s.heap H locs → wjX6_isAddress_65 (fun x3 => wlX6_isAddress_2 post tx_size tx_characters x1 x2 n2 x3) post tx_size tx_characters x1 x2 x3 → W p l e (headSpec wsX6_isAddress ({ frames := 1, cells := 0, slots := 0, locals := 21 })).room s m ([.ref (ad 5), .int x1, .int x2] : List Value).toArray below meth c H locs 0 0 (MQ below Qc ([.ref (ad 5), .int x1, .int x2] : List Value).toArray s 0 0 A) (F0 m 65 ls []) := by
        intro x3 H locs ls hl hP hD hS h
        delta wjX6_isAddress_65 at h
        obtain ⟨x3_1, ex3_1⟩ : ∃ y : Int32, y = x3 + 1 := ⟨_, rfl⟩
        have h := h x3_1 ex3_1
        refine lv_iinc (v := x3_1) (lv' := [(3, .int x3_1), (0, .ref (ad 5)), (2, .int x2)]) hx hb dX6_isAddress_65 hl (k := 2) rfl (by rw [ex3_1]; rfl) (by decide) rfl (fun ls hl => ?_)
        refine lv_goto (tgt := 2) hx hb dX6_isAddress_68 (by decide) ?_
        exact ih2 x3_1 H locs ls (lv_sub hl [1, 2, 0] rfl) hP hD hS h
      rw [wlX6_isAddress_2] at h
      refine lv_iload_n hx hb dX6_isAddress_2 rfl (lv_at hl 2 rfl) ?_
      refine lv_iload_n hx hb dX6_isAddress_3 rfl (lv_at hl 1 rfl) ?_
      refine lv_icmp_ge (tgt := 71) hx hb dX6_isAddress_4 (by decide) (fun c9 => ?_) (fun c9 => ?_)
      · have h := h.1 c9
        refine lv_iconst (v := 0) hx hb dX6_isAddress_71 (by decide) ?_
        exact W.zret (v := 0) hx hb hr (bN_nar bN0) (fun t ht hW => hQ 0 () t h (by rw [ht]; exact hP) (va_K.moved hW.alike hK) hD (hS.F ht)) hS.2.2 dX6_isAddress_72
      · have h := h.2 c9
        refine lv_aload_n hx hb dX6_isAddress_7 rfl (lv_at hl 0 rfl) ?_
        refine va_get (D := (dC, dI)) (ci := 5) (v := .ref (ad 4)) (C := RX6) (T := TX6) (N := 15) hx hb hts inX6 hown hK hP 5 rfl rfl 0 (by decide) (hts (.fieldLink RX6 47 "MailWords$TokenTable" "text" "LMailWords$Text;") (List.mem_of_getElem? (i := 1) rfl)) (fun _ h9 => h9) rfl dX6_isAddress_8 ?_
        refine lv_iload_n hx hb dX6_isAddress_11 rfl (lv_at hl 2 rfl) ?_
        refine xc_vi (As := [.int x3]) (rest := []) xG Fx (sX5_get l dC dI ad cI cZ sa sv lt_count lw_begin lw_end lw_depth lw_signed lw_led pr_written pr_within st_size tx_size tt_count tt_pieces tt_kinds lt_begins lt_marks st_word st_vowels tx_characters tt_begins tt_lengths tt_stemLengths tt_places tt_addresses tt_smalls tt_stems tt_slots tt_nexts x3 h) (cwV 1 hts gX6_isAddress_X5_get rfl rfl rfl hdX5_get ⟨Nat.le_of_ble_eq_true rfl, Nat.le_of_ble_eq_true rfl⟩) (va_recv hK hP (ci := 4) (q0 := 4) rfl rfl) hK hP hD hS hA hI rfl hl.1 rfl (Nat.le_of_ble_eq_true rfl) dX6_isAddress_12 ⟨Nat.zero_le _, Nat.zero_le _⟩ (fun r_2 u H locs h hP hD hS => ?_)
        refine lv_istore (lv' := [(4, .int r_2), (0, .ref (ad 5)), (2, .int x2), (3, .int x3)]) hx hb dX6_isAddress_15 hl (by decide) rfl (fun ls hl => ?_)
        refine lv_iload hx hb dX6_isAddress_17 (lv_at hl 0 rfl) ?_
        refine lv_bipush (v := 64) hx hb dX6_isAddress_19 (by decide) ?_
        refine lv_icmp_eq (tgt := 63) hx hb dX6_isAddress_21 (by decide) (fun c9 => ?_) (fun c9 => ?_)
        · have h := h.1 c9
          refine lv_iconst (v := 1) hx hb dX6_isAddress_63 (by decide) ?_
          exact W.zret (v := 1) hx hb hr (bN_nar bN1) (fun t ht hW => hQ 1 () t h (by rw [ht]; exact hP) (va_K.moved hW.alike hK) hD (hS.F ht)) hS.2.2 dX6_isAddress_64
        · have h := h.2 c9
          refine lv_iload hx hb dX6_isAddress_24 (lv_at hl 0 rfl) ?_
          refine lv_bipush (v := 46) hx hb dX6_isAddress_26 (by decide) ?_
          refine lv_icmp_ne (tgt := 65) hx hb dX6_isAddress_28 (by decide) (fun c9 => ?_) (fun c9 => ?_)
          · have h := h.1 c9
            exact J65 x3 H locs ls (lv_sub hl [1, 2, 3] rfl) hP hD hS h
          · have h := h.2 c9
            refine lv_aload_n hx hb dX6_isAddress_31 rfl (lv_at hl 1 rfl) ?_
            refine va_get (D := (dC, dI)) (ci := 5) (v := .ref (ad 4)) (C := RX6) (T := TX6) (N := 15) hx hb hts inX6 hown hK hP 5 rfl rfl 0 (by decide) (hts (.fieldLink RX6 47 "MailWords$TokenTable" "text" "LMailWords$Text;") (List.mem_of_getElem? (i := 1) rfl)) (fun _ h9 => h9) rfl dX6_isAddress_32 ?_
            refine lv_iload_n hx hb dX6_isAddress_35 rfl (lv_at hl 3 rfl) ?_
            refine lv_iconst (v := 1) hx hb dX6_isAddress_36 (by decide) ?_
            refine lv_isub hx hb dX6_isAddress_37 ?_
            refine xc_vi (As := [.int (x3 - 1)]) (rest := []) xG Fx (sX5_get l dC dI ad cI cZ sa sv lt_count lw_begin lw_end lw_depth lw_signed lw_led pr_written pr_within st_size tx_size tt_count tt_pieces tt_kinds lt_begins lt_marks st_word st_vowels tx_characters tt_begins tt_lengths tt_stemLengths tt_places tt_addresses tt_smalls tt_stems tt_slots tt_nexts (x3 - 1) h) (cwV 1 hts gX6_isAddress_X5_get rfl rfl rfl hdX5_get ⟨Nat.le_of_ble_eq_true rfl, Nat.le_of_ble_eq_true rfl⟩) (va_recv hK hP (ci := 4) (q0 := 4) rfl rfl) hK hP hD hS hA hI rfl hl.1 rfl (Nat.le_of_ble_eq_true rfl) dX6_isAddress_38 ⟨Nat.zero_le _, Nat.zero_le _⟩ (fun r_3 u H locs h hP hD hS => ?_)
            refine xc_si (As := [.int r_3]) (rest := []) xG Fx (sX0_isLetter l dC dI ad cI cZ sa sv lt_count lw_begin lw_end lw_depth lw_signed lw_led pr_written pr_within st_size tx_size tt_count tt_pieces tt_kinds lt_begins lt_marks st_word st_vowels tx_characters tt_begins tt_lengths tt_stemLengths tt_places tt_addresses tt_smalls tt_stems tt_slots tt_nexts r_3 h) (va_cwS 1 hts gX6_isAddress_X0_isLetter rfl rfl rfl hdX0_isLetter ⟨Nat.le_of_ble_eq_true rfl, Nat.le_of_ble_eq_true rfl⟩) hK hP hD hS hA hI rfl hl.1 rfl (Nat.le_of_ble_eq_true rfl) dX6_isAddress_41 ⟨Nat.zero_le _, Nat.zero_le _⟩ (fun r_4 u H locs h hP hD hS => ?_)
            refine lv_if_eq (tgt := 65) hx hb dX6_isAddress_44 (by decide) (fun c9 => ?_) (fun c9 => ?_)
            · have h := h.1 c9
              exact J65 x3 H locs ls (lv_sub hl [1, 2, 3] rfl) hP hD hS h
            · have h := h.2 c9
              refine lv_aload_n hx hb dX6_isAddress_47 rfl (lv_at hl 1 rfl) ?_
              refine va_get (D := (dC, dI)) (ci := 5) (v := .ref (ad 4)) (C := RX6) (T := TX6) (N := 15) hx hb hts inX6 hown hK hP 5 rfl rfl 0 (by decide) (hts (.fieldLink RX6 47 "MailWords$TokenTable" "text" "LMailWords$Text;") (List.mem_of_getElem? (i := 1) rfl)) (fun _ h9 => h9) rfl dX6_isAddress_48 ?_
              refine lv_iload_n hx hb dX6_isAddress_51 rfl (lv_at hl 3 rfl) ?_
              refine lv_iconst (v := 1) hx hb dX6_isAddress_52 (by decide) ?_
              refine lv_iadd hx hb dX6_isAddress_53 ?_
              refine xc_vi (As := [.int (x3 + 1)]) (rest := []) xG Fx (sX5_get l dC dI ad cI cZ sa sv lt_count lw_begin lw_end lw_depth lw_signed lw_led pr_written pr_within st_size tx_size tt_count tt_pieces tt_kinds lt_begins lt_marks st_word st_vowels tx_characters tt_begins tt_lengths tt_stemLengths tt_places tt_addresses tt_smalls tt_stems tt_slots tt_nexts (x3 + 1) h) (cwV 1 hts gX6_isAddress_X5_get rfl rfl rfl hdX5_get ⟨Nat.le_of_ble_eq_true rfl, Nat.le_of_ble_eq_true rfl⟩) (va_recv hK hP (ci := 4) (q0 := 4) rfl rfl) hK hP hD hS hA hI rfl hl.1 rfl (Nat.le_of_ble_eq_true rfl) dX6_isAddress_54 ⟨Nat.zero_le _, Nat.zero_le _⟩ (fun r_5 u H locs h hP hD hS => ?_)
              refine xc_si (As := [.int r_5]) (rest := []) xG Fx (sX0_isLetter l dC dI ad cI cZ sa sv lt_count lw_begin lw_end lw_depth lw_signed lw_led pr_written pr_within st_size tx_size tt_count tt_pieces tt_kinds lt_begins lt_marks st_word st_vowels tx_characters tt_begins tt_lengths tt_stemLengths tt_places tt_addresses tt_smalls tt_stems tt_slots tt_nexts r_5 h) (va_cwS 1 hts gX6_isAddress_X0_isLetter rfl rfl rfl hdX0_isLetter ⟨Nat.le_of_ble_eq_true rfl, Nat.le_of_ble_eq_true rfl⟩) hK hP hD hS hA hI rfl hl.1 rfl (Nat.le_of_ble_eq_true rfl) dX6_isAddress_57 ⟨Nat.zero_le _, Nat.zero_le _⟩ (fun r_6 u H locs h hP hD hS => ?_)
              refine lv_if_eq (tgt := 65) hx hb dX6_isAddress_60 (by decide) (fun c9 => ?_) (fun c9 => ?_)
              · have h := h.1 c9
                exact J65 x3 H locs ls (lv_sub hl [1, 2, 3] rfl) hP hD hS h
              · have h := h.2 c9
                refine lv_iconst (v := 1) hx hb dX6_isAddress_63 (by decide) ?_
                exact W.zret (v := 1) hx hb hr (bN_nar bN1) (fun t ht hW => hQ 1 () t h (by rw [ht]; exact hP) (va_K.moved hW.alike hK) hD (hS.F ht)) hS.2.2 dX6_isAddress_64
  intro H locs hP hD hS
  delta wpX6_isAddress at h
  refine lv_iload_n hx hb dX6_isAddress_0 rfl (lv_at hl 1 rfl) ?_
  refine lv_istore_n (lv' := [(3, .int x1), (0, .ref (ad 5)), (1, .int x1), (2, .int x2)]) hx hb dX6_isAddress_1 rfl hl (by decide) rfl (fun ls hl => ?_)
  obtain ⟨n, h⟩ := h
  exact L2  n x1 H locs ls (lv_sub hl [1, 3, 0] rfl) hP hD hS h
set_option maxHeartbeats 4000000 in
set_option maxRecDepth 100000 in
theorem sX6_addToken (l : Launch) (dC : Nat → ClassId) (dI : Nat → Nat → Nat) (ad : Nat → Nat) (cI cZ : ClassId) (sa sv : Nat → Nat) (lt_count : Int32) (lw_begin : Int32) (lw_end : Int32) (lw_depth : Int32) (lw_signed : Int32) (lw_led : Int32) (pr_written : Int32) (pr_within : Int32) (st_size : Int32) (tx_size : Int32) (tt_count : Int32) (tt_pieces : Int32) (tt_kinds : Int32) (lt_begins : Nat → Int32) (lt_marks : Nat → Int32) (st_word : Nat → Int32) (st_vowels : Nat → Int32) (tx_characters : Nat → Int32) (tt_begins : Nat → Int32) (tt_lengths : Nat → Int32) (tt_stemLengths : Nat → Int32) (tt_places : Nat → Int32) (tt_addresses : Nat → Int32) (tt_smalls : Nat → Int32) (tt_stems : Nat → Int32) (tt_slots : Nat → Int32) (tt_nexts : Nat → Int32) (x1 : Int32) (x2 : Int32) (x3 : Int32) (x4 : Int32) {post : Int32 → (Nat → Int32) → (Nat → Int32) → (Nat → Int32) → (Nat → Int32) → Prop} (h : wpX6_addToken post tt_count tt_begins tt_lengths tt_places tt_addresses x1 x2 x3 x4) : xMv l (dC, dI) vwCl [(cI, .int), (cZ, .boolean)] (sI sa sv) yX6_addToken wsX6_addToken ({ frames := 1, cells := 0, slots := 0, locals := 21 }) (xW ad cI cZ lt_count lw_begin lw_end lw_depth lw_signed lw_led pr_written pr_within st_size tx_size tt_count tt_pieces tt_kinds lt_begins lt_marks st_word st_vowels tx_characters tt_begins tt_lengths tt_stemLengths tt_places tt_addresses tt_smalls tt_stems tt_slots tt_nexts) [.ref (ad 5), .int x1, .int x2, .int x3, .int x4] (fun u : Int32 × (Nat → Int32) × (Nat → Int32) × (Nat → Int32) × (Nat → Int32) => post u.1 u.2.1 u.2.2.1 u.2.2.2.1 u.2.2.2.2) (fun u : Int32 × (Nat → Int32) × (Nat → Int32) × (Nat → Int32) × (Nat → Int32) => (xW ad cI cZ lt_count lw_begin lw_end lw_depth lw_signed lw_led pr_written pr_within st_size tx_size u.1 tt_pieces tt_kinds lt_begins lt_marks st_word st_vowels tx_characters u.2.1 u.2.2.1 tt_stemLengths u.2.2.2.1 u.2.2.2.2 tt_smalls tt_stems tt_slots tt_nexts)) := by
  intro sz
  refine Met.ofW (cc := cX6_addToken) (maxL := 5) (ret := none) (by decide) rfl ?_
  intro p e s m args below meth c s₁ B hml hv
  obtain ⟨rfl, hsz, hP, hK, hD0, hI⟩ := hv
  have hx := B.exec
  have hb := B.bytes
  have hr := B.returns
  have hts := atoms_spec (ws := wsX6_addToken) B.pre
  have hown : s.vm.findClass RX6 = some m.cls := findClass_of_methodNamed B.named
  have hlocks := B.notSynchronized
  subst hsz
  have hD := hD0.self (sz := s.heap.size)
  generalize hAe : va_A (xW ad cI cZ lt_count lw_begin lw_end lw_depth lw_signed lw_led pr_written pr_within st_size tx_size tt_count tt_pieces tt_kinds lt_begins lt_marks st_word st_vowels tx_characters tt_begins tt_lengths tt_stemLengths tt_places tt_addresses tt_smalls tt_stems tt_slots tt_nexts) s.heap.size = A at hD hI ⊢
  have hA : ∀ q : Nat, s.heap.size ≤ q → A q := fun q h => by rw [← hAe]; exact Or.inr h
  have hS : va_S A s.heap s.heap [] := va_S.rf
  have Fx : CallFix p m c cX6_addToken 5 s ([.ref (ad 5), .int x1, .int x2, .int x3, .int x4] : List Value).toArray wsX6_addToken RX6 := ⟨hx, hb, hml, hown, hts⟩
  have hQ : ∀ (u : Int32 × (Nat → Int32) × (Nat → Int32) × (Nat → Int32) × (Nat → Int32)) (t : State), (fun u : Int32 × (Nat → Int32) × (Nat → Int32) × (Nat → Int32) × (Nat → Int32) => post u.1 u.2.1 u.2.2.1 u.2.2.2.1 u.2.2.2.2) u → va_P (dC, dI) vwCl ((fun u : Int32 × (Nat → Int32) × (Nat → Int32) × (Nat → Int32) × (Nat → Int32) => (xW ad cI cZ lt_count lw_begin lw_end lw_depth lw_signed lw_led pr_written pr_within st_size tx_size u.1 tt_pieces tt_kinds lt_begins lt_marks st_word st_vowels tx_characters u.2.1 u.2.2.1 tt_stemLengths u.2.2.2.1 u.2.2.2.2 tt_smalls tt_stems tt_slots tt_nexts)) u) t.heap → va_K (dC, dI) vwCl [(cI, .int), (cZ, .boolean)] t → va_D A ((fun u : Int32 × (Nat → Int32) × (Nat → Int32) × (Nat → Int32) × (Nat → Int32) => (xW ad cI cZ lt_count lw_begin lw_end lw_depth lw_signed lw_led pr_written pr_within st_size tx_size u.1 tt_pieces tt_kinds lt_begins lt_marks st_word st_vowels tx_characters u.2.1 u.2.2.1 tt_stemLengths u.2.2.2.1 u.2.2.2.2 tt_smalls tt_stems tt_slots tt_nexts)) u) → va_F A s t → (va_Qv (fun u : Int32 × (Nat → Int32) × (Nat → Int32) × (Nat → Int32) × (Nat → Int32) => post u.1 u.2.1 u.2.2.1 u.2.2.2.1 u.2.2.2.2) (xB (dC, dI) vwCl [(cI, .int), (cZ, .boolean)] A (fun u : Int32 × (Nat → Int32) × (Nat → Int32) × (Nat → Int32) × (Nat → Int32) => (xW ad cI cZ lt_count lw_begin lw_end lw_depth lw_signed lw_led pr_written pr_within st_size tx_size u.1 tt_pieces tt_kinds lt_begins lt_marks st_word st_vowels tx_characters u.2.1 u.2.2.1 tt_stemLengths u.2.2.2.1 u.2.2.2.2 tt_smalls tt_stems tt_slots tt_nexts))) A) ([.ref (ad 5), .int x1, .int x2, .int x3, .int x4] : List Value).toArray s (.returned none) t := fun u t h1 h2 h3 h4 h5 => ⟨⟨u, rfl, h1, h2, h3, h4⟩, h5⟩
  generalize (va_Qv (fun u : Int32 × (Nat → Int32) × (Nat → Int32) × (Nat → Int32) × (Nat → Int32) => post u.1 u.2.1 u.2.2.1 u.2.2.2.1 u.2.2.2.2) (xB (dC, dI) vwCl [(cI, .int), (cZ, .boolean)] A (fun u : Int32 × (Nat → Int32) × (Nat → Int32) × (Nat → Int32) × (Nat → Int32) => (xW ad cI cZ lt_count lw_begin lw_end lw_depth lw_signed lw_led pr_written pr_within st_size tx_size u.1 tt_pieces tt_kinds lt_begins lt_marks st_word st_vowels tx_characters u.2.1 u.2.2.1 tt_stemLengths u.2.2.2.1 u.2.2.2.2 tt_smalls tt_stems tt_slots tt_nexts))) A) = Qc at hQ ⊢
  have hl := lv_entry ([.ref (ad 5), .int x1, .int x2, .int x3, .int x4]) (n := 5) (Nat.le_of_ble_eq_true rfl)
  rw [lg_entry_eq]
  generalize (lg_sl ([.ref (ad 5), .int x1, .int x2, .int x3, .int x4]) ++ List.replicate (5 - (lg_sl ([.ref (ad 5), .int x1, .int x2, .int x3, .int x4])).length) Slot.unset).toArray = ls at hl ⊢
  have hl : lv_has ls 5 [(0, .ref (ad 5)), (1, .int x1), (2, .int x2), (3, .int x3), (4, .int x4)] := hl
  refine (fun (key : ∀ (H : Heap) (locs : List Loc), va_P (dC, dI) vwCl (xW ad cI cZ lt_count lw_begin lw_end lw_depth lw_signed lw_led pr_written pr_within st_size tx_size tt_count tt_pieces tt_kinds lt_begins lt_marks st_word st_vowels tx_characters tt_begins tt_lengths tt_stemLengths tt_places tt_addresses tt_smalls tt_stems tt_slots tt_nexts) H → va_D A (xW ad cI cZ lt_count lw_begin lw_end lw_depth lw_signed lw_led pr_written pr_within st_size tx_size tt_count tt_pieces tt_kinds lt_begins lt_marks st_word st_vowels tx_characters tt_begins tt_lengths tt_stemLengths tt_places tt_addresses tt_smalls tt_stems tt_slots tt_nexts) → va_S A s.heap H locs → W p l e (headSpec wsX6_addToken ({ frames := 1, cells := 0, slots := 0, locals := 21 })).room s m ([.ref (ad 5), .int x1, .int x2, .int x3, .int x4] : List Value).toArray below meth c H locs 0 0 (MQ below Qc ([.ref (ad 5), .int x1, .int x2, .int x3, .int x4] : List Value).toArray s 0 0 A) (F0 m 0 ls [])) => key _ _ hP hD hS) ?_
  have inX6 : ∀ w ∈ wsX60, w ∈ wsX6_addToken := (fun _ h9 => List.mem_cons_of_mem _ (List.mem_append_right _ h9))
  intro H locs hP hD hS
  delta wpX6_addToken at h
  refine lv_aload_n hx hb dX6_addToken_0 rfl (lv_at hl 0 rfl) ?_
  refine va_get (D := (dC, dI)) (ci := 5) (v := .int tt_count) (C := RX6) (T := TX6) (N := 15) hx hb hts inX6 hown hK hP 5 rfl rfl 12 (by decide) (hts (.fieldLink RX6 55 "MailWords$TokenTable" "count" "I") (List.mem_of_getElem? (i := 1) rfl)) (fun _ h9 => h9) rfl dX6_addToken_1 ?_
  refine lv_sipush (v := 900) hx hb dX6_addToken_4 (by decide) ?_
  refine lv_icmp_ge (tgt := 68) hx hb dX6_addToken_7 (by decide) (fun c9 => ?_) (fun c9 => ?_)
  · have h := h.1 c9
    exact W.vret hx hb hr (fun t ht hW => hQ (tt_count, tt_begins, tt_lengths, tt_places, tt_addresses) t h (by rw [ht]; exact hP) (va_K.moved hW.alike hK) hD (hS.F ht)) hS.2.2 dX6_addToken_68
  · have h := h.2 c9
    refine lv_aload_n hx hb dX6_addToken_10 rfl (lv_at hl 0 rfl) ?_
    refine va_get (D := (dC, dI)) (ci := 5) (v := .ref (ad 12)) (C := RX6) (T := TX6) (N := 15) hx hb hts inX6 hown hK hP 5 rfl rfl 3 (by decide) (hts (.fieldLink RX6 18 "MailWords$TokenTable" "begins" "[I") (List.mem_of_getElem? (i := 2) rfl)) (fun _ h9 => h9) rfl dX6_addToken_11 ?_
    refine lv_aload_n hx hb dX6_addToken_14 rfl (lv_at hl 0 rfl) ?_
    refine va_get (D := (dC, dI)) (ci := 5) (v := .int tt_count) (C := RX6) (T := TX6) (N := 15) hx hb hts inX6 hown hK hP 5 rfl rfl 12 (by decide) (hts (.fieldLink RX6 55 "MailWords$TokenTable" "count" "I") (List.mem_of_getElem? (i := 1) rfl)) (fun _ h9 => h9) rfl dX6_addToken_15 ?_
    refine lv_iload_n hx hb dX6_addToken_18 rfl (lv_at hl 1 rfl) ?_
    have hi9 := h.1
    have h := h.2
    refine va_iast hx hb hK hP hD hS 12 0 rfl rfl hi9 dX6_addToken_19 (fun H locs hP hD hS => ?_)
    have hP : va_P (dC, dI) vwCl (xW ad cI cZ lt_count lw_begin lw_end lw_depth lw_signed lw_led pr_written pr_within st_size tx_size tt_count tt_pieces tt_kinds lt_begins lt_marks st_word st_vowels tx_characters (upd tt_begins tt_count.toNatClampNeg x1) tt_lengths tt_stemLengths tt_places tt_addresses tt_smalls tt_stems tt_slots tt_nexts) H := hP
    have hD : va_D A (xW ad cI cZ lt_count lw_begin lw_end lw_depth lw_signed lw_led pr_written pr_within st_size tx_size tt_count tt_pieces tt_kinds lt_begins lt_marks st_word st_vowels tx_characters (upd tt_begins tt_count.toNatClampNeg x1) tt_lengths tt_stemLengths tt_places tt_addresses tt_smalls tt_stems tt_slots tt_nexts) := hD
    refine lv_aload_n hx hb dX6_addToken_20 rfl (lv_at hl 0 rfl) ?_
    refine va_get (D := (dC, dI)) (ci := 5) (v := .ref (ad 13)) (C := RX6) (T := TX6) (N := 15) hx hb hts inX6 hown hK hP 5 rfl rfl 4 (by decide) (hts (.fieldLink RX6 22 "MailWords$TokenTable" "lengths" "[I") (List.mem_of_getElem? (i := 3) rfl)) (fun _ h9 => h9) rfl dX6_addToken_21 ?_
    refine lv_aload_n hx hb dX6_addToken_24 rfl (lv_at hl 0 rfl) ?_
    refine va_get (D := (dC, dI)) (ci := 5) (v := .int tt_count) (C := RX6) (T := TX6) (N := 15) hx hb hts inX6 hown hK hP 5 rfl rfl 12 (by decide) (hts (.fieldLink RX6 55 "MailWords$TokenTable" "count" "I") (List.mem_of_getElem? (i := 1) rfl)) (fun _ h9 => h9) rfl dX6_addToken_25 ?_
    refine lv_iload_n hx hb dX6_addToken_28 rfl (lv_at hl 2 rfl) ?_
    refine lv_iload_n hx hb dX6_addToken_29 rfl (lv_at hl 1 rfl) ?_
    refine lv_isub hx hb dX6_addToken_30 ?_
    refine lv_bipush (v := 30) hx hb dX6_addToken_31 (by decide) ?_
    refine va_mmin hx hb (hml.trans hl.1.symm) hown (hts (.methodLink RX6 153 Lib.Math.min.name) (List.mem_of_getElem? (i := 4) rfl)) (hts (.static Lib.Math.min.name) (List.mem_of_getElem? (i := 5) rfl)) (hts (.initialized "java/lang/Math") (List.mem_of_getElem? (i := 6) rfl)) (hts (.code Lib.Math.min.name Lib.Math.min.code 2 (some .int)) (List.mem_of_getElem? (i := 7) rfl)) (Nat.le_of_ble_eq_true rfl) (Nat.le_of_ble_eq_true rfl) (Nat.zero_le _) (Nat.zero_le _) dX6_addToken_33 ?_
    have hi9 := h.1
    have h := h.2
    refine va_iast hx hb hK hP hD hS 13 0 rfl rfl hi9 dX6_addToken_36 (fun H locs hP hD hS => ?_)
    have hP : va_P (dC, dI) vwCl (xW ad cI cZ lt_count lw_begin lw_end lw_depth lw_signed lw_led pr_written pr_within st_size tx_size tt_count tt_pieces tt_kinds lt_begins lt_marks st_word st_vowels tx_characters (upd tt_begins tt_count.toNatClampNeg x1) (upd tt_lengths tt_count.toNatClampNeg (if 30 < (x2 - x1) then 30 else (x2 - x1))) tt_stemLengths tt_places tt_addresses tt_smalls tt_stems tt_slots tt_nexts) H := hP
    have hD : va_D A (xW ad cI cZ lt_count lw_begin lw_end lw_depth lw_signed lw_led pr_written pr_within st_size tx_size tt_count tt_pieces tt_kinds lt_begins lt_marks st_word st_vowels tx_characters (upd tt_begins tt_count.toNatClampNeg x1) (upd tt_lengths tt_count.toNatClampNeg (if 30 < (x2 - x1) then 30 else (x2 - x1))) tt_stemLengths tt_places tt_addresses tt_smalls tt_stems tt_slots tt_nexts) := hD
    refine lv_aload_n hx hb dX6_addToken_37 rfl (lv_at hl 0 rfl) ?_
    refine va_get (D := (dC, dI)) (ci := 5) (v := .ref (ad 15)) (C := RX6) (T := TX6) (N := 15) hx hb hts inX6 hown hK hP 5 rfl rfl 6 (by decide) (hts (.fieldLink RX6 28 "MailWords$TokenTable" "places" "[I") (List.mem_of_getElem? (i := 8) rfl)) (fun _ h9 => h9) rfl dX6_addToken_38 ?_
    refine lv_aload_n hx hb dX6_addToken_41 rfl (lv_at hl 0 rfl) ?_
    refine va_get (D := (dC, dI)) (ci := 5) (v := .int tt_count) (C := RX6) (T := TX6) (N := 15) hx hb hts inX6 hown hK hP 5 rfl rfl 12 (by decide) (hts (.fieldLink RX6 55 "MailWords$TokenTable" "count" "I") (List.mem_of_getElem? (i := 1) rfl)) (fun _ h9 => h9) rfl dX6_addToken_42 ?_
    refine lv_iload_n hx hb dX6_addToken_45 rfl (lv_at hl 3 rfl) ?_
    have hi9 := h.1
    have h := h.2
    refine va_iast hx hb hK hP hD hS 15 0 rfl rfl hi9 dX6_addToken_46 (fun H locs hP hD hS => ?_)
    have hP : va_P (dC, dI) vwCl (xW ad cI cZ lt_count lw_begin lw_end lw_depth lw_signed lw_led pr_written pr_within st_size tx_size tt_count tt_pieces tt_kinds lt_begins lt_marks st_word st_vowels tx_characters (upd tt_begins tt_count.toNatClampNeg x1) (upd tt_lengths tt_count.toNatClampNeg (if 30 < (x2 - x1) then 30 else (x2 - x1))) tt_stemLengths (upd tt_places tt_count.toNatClampNeg x3) tt_addresses tt_smalls tt_stems tt_slots tt_nexts) H := hP
    have hD : va_D A (xW ad cI cZ lt_count lw_begin lw_end lw_depth lw_signed lw_led pr_written pr_within st_size tx_size tt_count tt_pieces tt_kinds lt_begins lt_marks st_word st_vowels tx_characters (upd tt_begins tt_count.toNatClampNeg x1) (upd tt_lengths tt_count.toNatClampNeg (if 30 < (x2 - x1) then 30 else (x2 - x1))) tt_stemLengths (upd tt_places tt_count.toNatClampNeg x3) tt_addresses tt_smalls tt_stems tt_slots tt_nexts) := hD
    refine lv_aload_n hx hb dX6_addToken_47 rfl (lv_at hl 0 rfl) ?_
    refine va_get (D := (dC, dI)) (ci := 5) (v := .ref (ad 16)) (C := RX6) (T := TX6) (N := 15) hx hb hts inX6 hown hK hP 5 rfl rfl 7 (by decide) (hts (.fieldLink RX6 31 "MailWords$TokenTable" "addresses" "[Z") (List.mem_of_getElem? (i := 9) rfl)) (fun _ h9 => h9) rfl dX6_addToken_48 ?_
    refine lv_aload_n hx hb dX6_addToken_51 rfl (lv_at hl 0 rfl) ?_
    refine va_get (D := (dC, dI)) (ci := 5) (v := .int tt_count) (C := RX6) (T := TX6) (N := 15) hx hb hts inX6 hown hK hP 5 rfl rfl 12 (by decide) (hts (.fieldLink RX6 55 "MailWords$TokenTable" "count" "I") (List.mem_of_getElem? (i := 1) rfl)) (fun _ h9 => h9) rfl dX6_addToken_52 ?_
    refine lv_iload hx hb dX6_addToken_55 (lv_at hl 4 rfl) ?_
    have hi9 := h.1
    have h := h.2
    have hb9 := h.1
    have h := h.2
    refine va_zast hx hb hK hP hD hS 16 1 rfl rfl hi9 dX6_addToken_57 (fun H locs hP hD hS => ?_)
    rw [bN_vp hb9] at hP hD
    have hP : va_P (dC, dI) vwCl (xW ad cI cZ lt_count lw_begin lw_end lw_depth lw_signed lw_led pr_written pr_within st_size tx_size tt_count tt_pieces tt_kinds lt_begins lt_marks st_word st_vowels tx_characters (upd tt_begins tt_count.toNatClampNeg x1) (upd tt_lengths tt_count.toNatClampNeg (if 30 < (x2 - x1) then 30 else (x2 - x1))) tt_stemLengths (upd tt_places tt_count.toNatClampNeg x3) (upd tt_addresses tt_count.toNatClampNeg x4) tt_smalls tt_stems tt_slots tt_nexts) H := hP
    have hD : va_D A (xW ad cI cZ lt_count lw_begin lw_end lw_depth lw_signed lw_led pr_written pr_within st_size tx_size tt_count tt_pieces tt_kinds lt_begins lt_marks st_word st_vowels tx_characters (upd tt_begins tt_count.toNatClampNeg x1) (upd tt_lengths tt_count.toNatClampNeg (if 30 < (x2 - x1) then 30 else (x2 - x1))) tt_stemLengths (upd tt_places tt_count.toNatClampNeg x3) (upd tt_addresses tt_count.toNatClampNeg x4) tt_smalls tt_stems tt_slots tt_nexts) := hD
    refine lv_aload_n hx hb dX6_addToken_58 rfl (lv_at hl 0 rfl) ?_
    refine lv_dup hx hb dX6_addToken_59 rfl ?_
    refine va_get (D := (dC, dI)) (ci := 5) (v := .int tt_count) (C := RX6) (T := TX6) (N := 15) hx hb hts inX6 hown hK hP 5 rfl rfl 12 (by decide) (hts (.fieldLink RX6 55 "MailWords$TokenTable" "count" "I") (List.mem_of_getElem? (i := 1) rfl)) (fun _ h9 => h9) rfl dX6_addToken_60 ?_
    refine lv_iconst (v := 1) hx hb dX6_addToken_63 (by decide) ?_
    refine lv_iadd hx hb dX6_addToken_64 ?_
    refine lv_topi (fun tt_count_1 ett_count_1 => ?_)
    have h := h tt_count_1 ett_count_1
    refine va_put (D := (dC, dI)) (ci := 5) (v := .int tt_count_1) (ty := .int) (C := RX6) (T := TX6) (N := 15) hx hb hts inX6 tyX6 tyX6_ok nmX6 hown hK hP hD hS 5 rfl rfl 12 (by decide) (hts (.fieldLink RX6 55 "MailWords$TokenTable" "count" "I") (List.mem_of_getElem? (i := 1) rfl)) (fun _ h9 => h9) rfl (tyX6_ok 12 (by decide)) rfl rfl (Nat.le_of_ble_eq_true rfl) dX6_addToken_65 (fun H locs hP hD hS => ?_)
    have hP : va_P (dC, dI) vwCl (xW ad cI cZ lt_count lw_begin lw_end lw_depth lw_signed lw_led pr_written pr_within st_size tx_size tt_count_1 tt_pieces tt_kinds lt_begins lt_marks st_word st_vowels tx_characters (upd tt_begins tt_count.toNatClampNeg x1) (upd tt_lengths tt_count.toNatClampNeg (if 30 < (x2 - x1) then 30 else (x2 - x1))) tt_stemLengths (upd tt_places tt_count.toNatClampNeg x3) (upd tt_addresses tt_count.toNatClampNeg x4) tt_smalls tt_stems tt_slots tt_nexts) H := hP
    have hD : va_D A (xW ad cI cZ lt_count lw_begin lw_end lw_depth lw_signed lw_led pr_written pr_within st_size tx_size tt_count_1 tt_pieces tt_kinds lt_begins lt_marks st_word st_vowels tx_characters (upd tt_begins tt_count.toNatClampNeg x1) (upd tt_lengths tt_count.toNatClampNeg (if 30 < (x2 - x1) then 30 else (x2 - x1))) tt_stemLengths (upd tt_places tt_count.toNatClampNeg x3) (upd tt_addresses tt_count.toNatClampNeg x4) tt_smalls tt_stems tt_slots tt_nexts) := hD
    exact W.vret hx hb hr (fun t ht hW => hQ (tt_count_1, (upd tt_begins tt_count.toNatClampNeg x1), (upd tt_lengths tt_count.toNatClampNeg (if 30 < (x2 - x1) then 30 else (x2 - x1))), (upd tt_places tt_count.toNatClampNeg x3), (upd tt_addresses tt_count.toNatClampNeg x4)) t h (by rw [ht]; exact hP) (va_K.moved hW.alike hK) hD (hS.F ht)) hS.2.2 dX6_addToken_68
set_option maxHeartbeats 4000000 in
set_option maxRecDepth 100000 in
theorem sX6_addRow (l : Launch) (dC : Nat → ClassId) (dI : Nat → Nat → Nat) (ad : Nat → Nat) (cI cZ : ClassId) (sa sv : Nat → Nat) (lt_count : Int32) (lw_begin : Int32) (lw_end : Int32) (lw_depth : Int32) (lw_signed : Int32) (lw_led : Int32) (pr_written : Int32) (pr_within : Int32) (st_size : Int32) (tx_size : Int32) (tt_count : Int32) (tt_pieces : Int32) (tt_kinds : Int32) (lt_begins : Nat → Int32) (lt_marks : Nat → Int32) (st_word : Nat → Int32) (st_vowels : Nat → Int32) (tx_characters : Nat → Int32) (tt_begins : Nat → Int32) (tt_lengths : Nat → Int32) (tt_stemLengths : Nat → Int32) (tt_places : Nat → Int32) (tt_addresses : Nat → Int32) (tt_smalls : Nat → Int32) (tt_stems : Nat → Int32) (tt_slots : Nat → Int32) (tt_nexts : Nat → Int32) (x1 : Int32) (x2 : Int32) {post : Int32 → Int32 → (Nat → Int32) → (Nat → Int32) → (Nat → Int32) → (Nat → Int32) → Prop} (h : wpX6_addRow post tx_size tt_count tt_pieces tx_characters tt_begins tt_lengths tt_places tt_addresses x1 x2) : xMv l (dC, dI) vwCl [(cI, .int), (cZ, .boolean)] (sI sa sv) yX6_addRow wsX6_addRow ({ frames := 2, cells := 0, slots := 0, locals := 45 }) (xW ad cI cZ lt_count lw_begin lw_end lw_depth lw_signed lw_led pr_written pr_within st_size tx_size tt_count tt_pieces tt_kinds lt_begins lt_marks st_word st_vowels tx_characters tt_begins tt_lengths tt_stemLengths tt_places tt_addresses tt_smalls tt_stems tt_slots tt_nexts) [.ref (ad 5), .int x1, .int x2] (fun u : Int32 × Int32 × (Nat → Int32) × (Nat → Int32) × (Nat → Int32) × (Nat → Int32) => post u.1 u.2.1 u.2.2.1 u.2.2.2.1 u.2.2.2.2.1 u.2.2.2.2.2) (fun u : Int32 × Int32 × (Nat → Int32) × (Nat → Int32) × (Nat → Int32) × (Nat → Int32) => (xW ad cI cZ lt_count lw_begin lw_end lw_depth lw_signed lw_led pr_written pr_within st_size tx_size u.1 u.2.1 tt_kinds lt_begins lt_marks st_word st_vowels tx_characters u.2.2.1 u.2.2.2.1 tt_stemLengths u.2.2.2.2.1 u.2.2.2.2.2 tt_smalls tt_stems tt_slots tt_nexts)) := by
  intro sz
  refine Met.ofW (cc := cX6_addRow) (maxL := 7) (ret := none) (by decide) rfl ?_
  intro p e s m args below meth c s₁ B hml hv
  obtain ⟨rfl, hsz, hP, hK, hD0, hI⟩ := hv
  have hx := B.exec
  have hb := B.bytes
  have hr := B.returns
  have hts := atoms_spec (ws := wsX6_addRow) B.pre
  have hown : s.vm.findClass RX6 = some m.cls := findClass_of_methodNamed B.named
  have hlocks := B.notSynchronized
  subst hsz
  have hD := hD0.self (sz := s.heap.size)
  generalize hAe : va_A (xW ad cI cZ lt_count lw_begin lw_end lw_depth lw_signed lw_led pr_written pr_within st_size tx_size tt_count tt_pieces tt_kinds lt_begins lt_marks st_word st_vowels tx_characters tt_begins tt_lengths tt_stemLengths tt_places tt_addresses tt_smalls tt_stems tt_slots tt_nexts) s.heap.size = A at hD hI ⊢
  have hA : ∀ q : Nat, s.heap.size ≤ q → A q := fun q h => by rw [← hAe]; exact Or.inr h
  have hS : va_S A s.heap s.heap [] := va_S.rf
  have Fx : CallFix p m c cX6_addRow 7 s ([.ref (ad 5), .int x1, .int x2] : List Value).toArray wsX6_addRow RX6 := ⟨hx, hb, hml, hown, hts⟩
  have hQ : ∀ (u : Int32 × Int32 × (Nat → Int32) × (Nat → Int32) × (Nat → Int32) × (Nat → Int32)) (t : State), (fun u : Int32 × Int32 × (Nat → Int32) × (Nat → Int32) × (Nat → Int32) × (Nat → Int32) => post u.1 u.2.1 u.2.2.1 u.2.2.2.1 u.2.2.2.2.1 u.2.2.2.2.2) u → va_P (dC, dI) vwCl ((fun u : Int32 × Int32 × (Nat → Int32) × (Nat → Int32) × (Nat → Int32) × (Nat → Int32) => (xW ad cI cZ lt_count lw_begin lw_end lw_depth lw_signed lw_led pr_written pr_within st_size tx_size u.1 u.2.1 tt_kinds lt_begins lt_marks st_word st_vowels tx_characters u.2.2.1 u.2.2.2.1 tt_stemLengths u.2.2.2.2.1 u.2.2.2.2.2 tt_smalls tt_stems tt_slots tt_nexts)) u) t.heap → va_K (dC, dI) vwCl [(cI, .int), (cZ, .boolean)] t → va_D A ((fun u : Int32 × Int32 × (Nat → Int32) × (Nat → Int32) × (Nat → Int32) × (Nat → Int32) => (xW ad cI cZ lt_count lw_begin lw_end lw_depth lw_signed lw_led pr_written pr_within st_size tx_size u.1 u.2.1 tt_kinds lt_begins lt_marks st_word st_vowels tx_characters u.2.2.1 u.2.2.2.1 tt_stemLengths u.2.2.2.2.1 u.2.2.2.2.2 tt_smalls tt_stems tt_slots tt_nexts)) u) → va_F A s t → (va_Qv (fun u : Int32 × Int32 × (Nat → Int32) × (Nat → Int32) × (Nat → Int32) × (Nat → Int32) => post u.1 u.2.1 u.2.2.1 u.2.2.2.1 u.2.2.2.2.1 u.2.2.2.2.2) (xB (dC, dI) vwCl [(cI, .int), (cZ, .boolean)] A (fun u : Int32 × Int32 × (Nat → Int32) × (Nat → Int32) × (Nat → Int32) × (Nat → Int32) => (xW ad cI cZ lt_count lw_begin lw_end lw_depth lw_signed lw_led pr_written pr_within st_size tx_size u.1 u.2.1 tt_kinds lt_begins lt_marks st_word st_vowels tx_characters u.2.2.1 u.2.2.2.1 tt_stemLengths u.2.2.2.2.1 u.2.2.2.2.2 tt_smalls tt_stems tt_slots tt_nexts))) A) ([.ref (ad 5), .int x1, .int x2] : List Value).toArray s (.returned none) t := fun u t h1 h2 h3 h4 h5 => ⟨⟨u, rfl, h1, h2, h3, h4⟩, h5⟩
  generalize (va_Qv (fun u : Int32 × Int32 × (Nat → Int32) × (Nat → Int32) × (Nat → Int32) × (Nat → Int32) => post u.1 u.2.1 u.2.2.1 u.2.2.2.1 u.2.2.2.2.1 u.2.2.2.2.2) (xB (dC, dI) vwCl [(cI, .int), (cZ, .boolean)] A (fun u : Int32 × Int32 × (Nat → Int32) × (Nat → Int32) × (Nat → Int32) × (Nat → Int32) => (xW ad cI cZ lt_count lw_begin lw_end lw_depth lw_signed lw_led pr_written pr_within st_size tx_size u.1 u.2.1 tt_kinds lt_begins lt_marks st_word st_vowels tx_characters u.2.2.1 u.2.2.2.1 tt_stemLengths u.2.2.2.2.1 u.2.2.2.2.2 tt_smalls tt_stems tt_slots tt_nexts))) A) = Qc at hQ ⊢
  have hl := lv_entry ([.ref (ad 5), .int x1, .int x2]) (n := 7) (Nat.le_of_ble_eq_true rfl)
  rw [lg_entry_eq]
  generalize (lg_sl ([.ref (ad 5), .int x1, .int x2]) ++ List.replicate (7 - (lg_sl ([.ref (ad 5), .int x1, .int x2])).length) Slot.unset).toArray = ls at hl ⊢
  have hl : lv_has ls 7 [(0, .ref (ad 5)), (1, .int x1), (2, .int x2)] := hl
  refine (fun (key : ∀ (H : Heap) (locs : List Loc), va_P (dC, dI) vwCl (xW ad cI cZ lt_count lw_begin lw_end lw_depth lw_signed lw_led pr_written pr_within st_size tx_size tt_count tt_pieces tt_kinds lt_begins lt_marks st_word st_vowels tx_characters tt_begins tt_lengths tt_stemLengths tt_places tt_addresses tt_smalls tt_stems tt_slots tt_nexts) H → va_D A (xW ad cI cZ lt_count lw_begin lw_end lw_depth lw_signed lw_led pr_written pr_within st_size tx_size tt_count tt_pieces tt_kinds lt_begins lt_marks st_word st_vowels tx_characters tt_begins tt_lengths tt_stemLengths tt_places tt_addresses tt_smalls tt_stems tt_slots tt_nexts) → va_S A s.heap H locs → W p l e (headSpec wsX6_addRow ({ frames := 2, cells := 0, slots := 0, locals := 45 })).room s m ([.ref (ad 5), .int x1, .int x2] : List Value).toArray below meth c H locs 0 0 (MQ below Qc ([.ref (ad 5), .int x1, .int x2] : List Value).toArray s 0 0 A) (F0 m 0 ls [])) => key _ _ hP hD hS) ?_
  have inX6 : ∀ w ∈ wsX60, w ∈ wsX6_addRow := (fun _ h9 => List.mem_cons_of_mem _ (List.mem_append_left _ (List.mem_append_right _ h9)))
  have L19 : ∀ (x3 : Int32) (x5 : Int32) (n : Nat) (tt_count : Int32) (tt_pieces : Int32) (tt_begins : Nat → Int32) (tt_lengths : Nat → Int32) (tt_places : Nat → Int32) (tt_addresses : Nat → Int32) (x4 : Int32) (x6 : Int32) (H : Heap) (locs : List Loc) (ls : Array Slot), lv_has ls 7 [(0, .ref (ad 5)), (1, .int x1), (2, .int x2), (3, .int x3), (4, .int x4), (5, .int x5), (6, .int x6)] → va_P (dC, dI) vwCl (xW ad cI cZ lt_count lw_begin lw_end lw_depth lw_signed lw_led pr_written pr_within st_size tx_size tt_count tt_pieces tt_kinds lt_begins lt_marks st_word st_vowels tx_characters tt_begins tt_lengths tt_stemLengths tt_places tt_addresses tt_smalls tt_stems tt_slots tt_nexts) H → va_D A (xW ad cI cZ lt_count lw_begin lw_end lw_depth lw_signed lw_led pr_written pr_within st_size tx_size tt_count tt_pieces tt_kinds lt_begins lt_marks st_word st_vowels tx_characters tt_begins tt_lengths tt_stemLengths tt_places tt_addresses tt_smalls tt_stems tt_slots tt_nexts) → va_S A s.heap H locs → wlX6_addRow_19 post tx_size tx_characters x1 x2 x3 x5 n tt_count tt_pieces tt_begins tt_lengths tt_places tt_addresses x4 x6 → W p l e (headSpec wsX6_addRow ({ frames := 2, cells := 0, slots := 0, locals := 45 })).room s m ([.ref (ad 5), .int x1, .int x2] : List Value).toArray below meth c H locs 0 0 (MQ below Qc ([.ref (ad 5), .int x1, .int x2] : List Value).toArray s 0 0 A) (F0 m 19 ls []) := by
    intro x3 x5
    intro n
    induction n with
    | zero => intro tt_count tt_pieces tt_begins tt_lengths tt_places tt_addresses x4 x6 H locs ls _ _ _ _ h; exact absurd h (fun z => z)
    | succ n19 ih19 =>
      intro tt_count tt_pieces tt_begins tt_lengths tt_places tt_addresses x4 x6 H locs ls hl hP hD hS h
      have J94 : ∀ (tt_count : Int32) (tt_pieces : Int32) (tt_begins : Nat → Int32) (tt_lengths : Nat → Int32) (tt_places : Nat → Int32) (tt_addresses : Nat → Int32) (x4 : Int32) (x6 : Int32) (H : Heap) (locs : List Loc) (ls : Array Slot), lv_has ls 7 [(0, .ref (ad 5)), (1, .int x1), (2, .int x2), (3, .int x3), (4, .int x4), (5, .int x5), (6, .int x6)] → va_P (dC, dI) vwCl (xW ad cI cZ lt_count lw_begin lw_end lw_depth lw_signed lw_led pr_written pr_within st_size tx_size tt_count tt_pieces tt_kinds lt_begins lt_marks st_word st_vowels tx_characters tt_begins tt_lengths tt_stemLengths tt_places tt_addresses tt_smalls tt_stems tt_slots tt_nexts) H → va_D A (xW ad cI cZ lt_count lw_begin lw_end lw_depth lw_signed lw_led pr_written pr_within st_size tx_size tt_count tt_pieces tt_kinds lt_begins lt_marks st_word st_vowels tx_characters tt_begins tt_lengths tt_stemLengths tt_places tt_addresses tt_smalls tt_stems tt_slots tt_nexts) → va_S A s.heap H locs → wjX6_addRow_94 (fun tt_count tt_pieces tt_begins tt_lengths tt_places tt_addresses x4 x6 => wlX6_addRow_19 post tx_size tx_characters x1 x2 x3 x5 n19 tt_count tt_pieces tt_begins tt_lengths tt_places tt_addresses x4 x6) post tx_size tx_characters x1 x2 tt_count tt_pieces tt_begins tt_lengths tt_places tt_addresses x3 x4 x5 x6 → W p l e (headSpec wsX6_addRow ({ frames := 2, cells := 0, slots := 0, locals := 45 })).room s m ([.ref (ad 5), .int x1, .int x2] : List Value).toArray below meth c H locs 0 0 (MQ below Qc ([.ref (ad 5), .int x1, .int x2] : List Value).toArray s 0 0 A) (F0 m 94 ls []) := by
        intro tt_count tt_pieces tt_begins tt_lengths tt_places tt_addresses x4 x6 H locs ls hl hP hD hS h
        delta wjX6_addRow_94 at h
        obtain ⟨x6_1, ex6_1⟩ : ∃ y : Int32, y = x6 + 1 := ⟨_, rfl⟩
        have h := h x6_1 ex6_1
        refine lv_iinc (v := x6_1) (lv' := [(6, .int x6_1), (0, .ref (ad 5)), (1, .int x1), (2, .int x2), (3, .int x3), (4, .int x4), (5, .int x5)]) hx hb dX6_addRow_94 hl (k := 6) rfl (by rw [ex6_1]; rfl) (by decide) rfl (fun ls hl => ?_)
        refine lv_goto (tgt := 19) hx hb dX6_addRow_97 (by decide) ?_
        exact ih19 tt_count tt_pieces tt_begins tt_lengths tt_places tt_addresses x4 x6_1 H locs ls (lv_sub hl [1, 2, 3, 4, 5, 6, 0] rfl) hP hD hS h
      have J88 : ∀ (tt_count : Int32) (tt_pieces : Int32) (tt_begins : Nat → Int32) (tt_lengths : Nat → Int32) (tt_places : Nat → Int32) (tt_addresses : Nat → Int32) (x6 : Int32) (H : Heap) (locs : List Loc) (ls : Array Slot), lv_has ls 7 [(0, .ref (ad 5)), (1, .int x1), (2, .int x2), (3, .int x3), (5, .int x5), (6, .int x6)] → va_P (dC, dI) vwCl (xW ad cI cZ lt_count lw_begin lw_end lw_depth lw_signed lw_led pr_written pr_within st_size tx_size tt_count tt_pieces tt_kinds lt_begins lt_marks st_word st_vowels tx_characters tt_begins tt_lengths tt_stemLengths tt_places tt_addresses tt_smalls tt_stems tt_slots tt_nexts) H → va_D A (xW ad cI cZ lt_count lw_begin lw_end lw_depth lw_signed lw_led pr_written pr_within st_size tx_size tt_count tt_pieces tt_kinds lt_begins lt_marks st_word st_vowels tx_characters tt_begins tt_lengths tt_stemLengths tt_places tt_addresses tt_smalls tt_stems tt_slots tt_nexts) → va_S A s.heap H locs → wjX6_addRow_88 (fun tt_count tt_pieces tt_begins tt_lengths tt_places tt_addresses x4 x6 => wlX6_addRow_19 post tx_size tx_characters x1 x2 x3 x5 n19 tt_count tt_pieces tt_begins tt_lengths tt_places tt_addresses x4 x6) post tx_size tx_characters x1 x2 tt_count tt_pieces tt_begins tt_lengths tt_places tt_addresses x3 x5 x6 → W p l e (headSpec wsX6_addRow ({ frames := 2, cells := 0, slots := 0, locals := 45 })).room s m ([.ref (ad 5), .int x1, .int x2] : List Value).toArray below meth c H locs 0 0 (MQ below Qc ([.ref (ad 5), .int x1, .int x2] : List Value).toArray s 0 0 A) (F0 m 88 ls []) := by
        intro tt_count tt_pieces tt_begins tt_lengths tt_places tt_addresses x6 H locs ls hl hP hD hS h
        delta wjX6_addRow_88 at h
        refine lv_iload hx hb dX6_addRow_88 (lv_at hl 5 rfl) ?_
        refine lv_iconst (v := 1) hx hb dX6_addRow_90 (by decide) ?_
        refine lv_iadd hx hb dX6_addRow_91 ?_
        refine lv_topi (fun x4_2 ex4_2 => ?_)
        have h := h x4_2 ex4_2
        refine lv_istore (lv' := [(4, .int x4_2), (0, .ref (ad 5)), (1, .int x1), (2, .int x2), (3, .int x3), (5, .int x5), (6, .int x6)]) hx hb dX6_addRow_92 hl (by decide) rfl (fun ls hl => ?_)
        exact J94 tt_count tt_pieces tt_begins tt_lengths tt_places tt_addresses x4_2 x6 H locs ls (lv_sub hl [1, 2, 3, 4, 0, 5, 6] rfl) hP hD hS h
      have J46 : ∀ (tt_count : Int32) (tt_pieces : Int32) (tt_begins : Nat → Int32) (tt_lengths : Nat → Int32) (tt_places : Nat → Int32) (tt_addresses : Nat → Int32) (x4 : Int32) (x6 : Int32) (H : Heap) (locs : List Loc) (ls : Array Slot), lv_has ls 7 [(0, .ref (ad 5)), (1, .int x1), (2, .int x2), (3, .int x3), (4, .int x4), (5, .int x5), (6, .int x6)] → va_P (dC, dI) vwCl (xW ad cI cZ lt_count lw_begin lw_end lw_depth lw_signed lw_led pr_written pr_within st_size tx_size tt_count tt_pieces tt_kinds lt_begins lt_marks st_word st_vowels tx_characters tt_begins tt_lengths tt_stemLengths tt_places tt_addresses tt_smalls tt_stems tt_slots tt_nexts) H → va_D A (xW ad cI cZ lt_count lw_begin lw_end lw_depth lw_signed lw_led pr_written pr_within st_size tx_size tt_count tt_pieces tt_kinds lt_begins lt_marks st_word st_vowels tx_characters tt_begins tt_lengths tt_stemLengths tt_places tt_addresses tt_smalls tt_stems tt_slots tt_nexts) → va_S A s.heap H locs → wjX6_addRow_46 (fun tt_count tt_pieces tt_begins tt_lengths tt_places tt_addresses x4 x6 => wlX6_addRow_19 post tx_size tx_characters x1 x2 x3 x5 n19 tt_count tt_pieces tt_begins tt_lengths tt_places tt_addresses x4 x6) post tx_size tx_characters x1 x2 tt_count tt_pieces tt_begins tt_lengths tt_places tt_addresses x3 x4 x5 x6 → W p l e (headSpec wsX6_addRow ({ frames := 2, cells := 0, slots := 0, locals := 45 })).room s m ([.ref (ad 5), .int x1, .int x2] : List Value).toArray below meth c H locs 0 0 (MQ below Qc ([.ref (ad 5), .int x1, .int x2] : List Value).toArray s 0 0 A) (F0 m 46 ls []) := by
        intro tt_count tt_pieces tt_begins tt_lengths tt_places tt_addresses x4 x6 H locs ls hl hP hD hS h
        delta wjX6_addRow_46 at h
        refine lv_aload_n hx hb dX6_addRow_46 rfl (lv_at hl 0 rfl) ?_
        refine lv_iload hx hb dX6_addRow_47 (lv_at hl 4 rfl) ?_
        refine lv_iload hx hb dX6_addRow_49 (lv_at hl 6 rfl) ?_
        refine lv_aload_n hx hb dX6_addRow_51 rfl (lv_at hl 0 rfl) ?_
        refine va_get (D := (dC, dI)) (ci := 5) (v := .int tt_pieces) (C := RX6) (T := TX6) (N := 15) hx hb hts inX6 hown hK hP 5 rfl rfl 13 (by decide) (hts (.fieldLink RX6 59 "MailWords$TokenTable" "pieces" "I") (List.mem_of_getElem? (i := 1) rfl)) (fun _ h9 => h9) rfl dX6_addRow_52 ?_
        refine lv_iconst (v := 0) hx hb dX6_addRow_55 (by decide) ?_
        refine xc_vv (As := [.int x4, .int x6, .int tt_pieces, .int 0]) (rest := []) xG Fx (sX6_addToken l dC dI ad cI cZ sa sv lt_count lw_begin lw_end lw_depth lw_signed lw_led pr_written pr_within st_size tx_size tt_count tt_pieces tt_kinds lt_begins lt_marks st_word st_vowels tx_characters tt_begins tt_lengths tt_stemLengths tt_places tt_addresses tt_smalls tt_stems tt_slots tt_nexts x4 x6 tt_pieces 0 h) (cwV 4 hts gX6_addRow_X6_addToken rfl rfl rfl hdX6_addToken ⟨Nat.le_of_ble_eq_true rfl, Nat.le_of_ble_eq_true rfl⟩) (va_recv hK hP (ci := 5) (q0 := 5) rfl rfl) hK hP hD hS hA hI rfl hl.1 rfl (Nat.le_of_ble_eq_true rfl) dX6_addRow_56 ⟨Nat.zero_le _, Nat.zero_le _⟩ (fun u H locs h hP hD hS => ?_)
        obtain ⟨tt_count_4, tt_begins_5, tt_lengths_6, tt_places_7, tt_addresses_8⟩ := u
        have hP : va_P (dC, dI) vwCl (xW ad cI cZ lt_count lw_begin lw_end lw_depth lw_signed lw_led pr_written pr_within st_size tx_size tt_count_4 tt_pieces tt_kinds lt_begins lt_marks st_word st_vowels tx_characters tt_begins_5 tt_lengths_6 tt_stemLengths tt_places_7 tt_addresses_8 tt_smalls tt_stems tt_slots tt_nexts) H := hP
        have hD : va_D A (xW ad cI cZ lt_count lw_begin lw_end lw_depth lw_signed lw_led pr_written pr_within st_size tx_size tt_count_4 tt_pieces tt_kinds lt_begins lt_marks st_word st_vowels tx_characters tt_begins_5 tt_lengths_6 tt_stemLengths tt_places_7 tt_addresses_8 tt_smalls tt_stems tt_slots tt_nexts) := hD
        refine lv_aload_n hx hb dX6_addRow_59 rfl (lv_at hl 0 rfl) ?_
        refine lv_dup hx hb dX6_addRow_60 rfl ?_
        refine va_get (D := (dC, dI)) (ci := 5) (v := .int tt_pieces) (C := RX6) (T := TX6) (N := 15) hx hb hts inX6 hown hK hP 5 rfl rfl 13 (by decide) (hts (.fieldLink RX6 59 "MailWords$TokenTable" "pieces" "I") (List.mem_of_getElem? (i := 1) rfl)) (fun _ h9 => h9) rfl dX6_addRow_61 ?_
        refine lv_iconst (v := 1) hx hb dX6_addRow_64 (by decide) ?_
        refine lv_iadd hx hb dX6_addRow_65 ?_
        refine lv_topi (fun tt_pieces_9 ett_pieces_9 => ?_)
        have h := h tt_pieces_9 ett_pieces_9
        refine va_put (D := (dC, dI)) (ci := 5) (v := .int tt_pieces_9) (ty := .int) (C := RX6) (T := TX6) (N := 15) hx hb hts inX6 tyX6 tyX6_ok nmX6 hown hK hP hD hS 5 rfl rfl 13 (by decide) (hts (.fieldLink RX6 59 "MailWords$TokenTable" "pieces" "I") (List.mem_of_getElem? (i := 1) rfl)) (fun _ h9 => h9) rfl (tyX6_ok 13 (by decide)) rfl rfl (Nat.le_of_ble_eq_true rfl) dX6_addRow_66 (fun H locs hP hD hS => ?_)
        have hP : va_P (dC, dI) vwCl (xW ad cI cZ lt_count lw_begin lw_end lw_depth lw_signed lw_led pr_written pr_within st_size tx_size tt_count_4 tt_pieces_9 tt_kinds lt_begins lt_marks st_word st_vowels tx_characters tt_begins_5 tt_lengths_6 tt_stemLengths tt_places_7 tt_addresses_8 tt_smalls tt_stems tt_slots tt_nexts) H := hP
        have hD : va_D A (xW ad cI cZ lt_count lw_begin lw_end lw_depth lw_signed lw_led pr_written pr_within st_size tx_size tt_count_4 tt_pieces_9 tt_kinds lt_begins lt_marks st_word st_vowels tx_characters tt_begins_5 tt_lengths_6 tt_stemLengths tt_places_7 tt_addresses_8 tt_smalls tt_stems tt_slots tt_nexts) := hD
        refine lv_iload hx hb dX6_addRow_69 (lv_at hl 5 rfl) ?_
        refine lv_if_eq (tgt := 88) hx hb dX6_addRow_71 (by decide) (fun c9 => ?_) (fun c9 => ?_)
        · have h := h.1 c9
          exact J88 tt_count_4 tt_pieces_9 tt_begins_5 tt_lengths_6 tt_places_7 tt_addresses_8 x6 H locs ls (lv_sub hl [0, 1, 2, 3, 5, 6] rfl) hP hD hS h
        · have h := h.2 c9
          refine lv_iload hx hb dX6_addRow_74 (lv_at hl 4 rfl) ?_
          refine lv_iload_n hx hb dX6_addRow_76 rfl (lv_at hl 1 rfl) ?_
          refine lv_icmp_ne (tgt := 88) hx hb dX6_addRow_77 (by decide) (fun c9 => ?_) (fun c9 => ?_)
          · have h := h.1 c9
            exact J88 tt_count_4 tt_pieces_9 tt_begins_5 tt_lengths_6 tt_places_7 tt_addresses_8 x6 H locs ls (lv_sub hl [0, 1, 2, 3, 5, 6] rfl) hP hD hS h
          · have h := h.2 c9
            refine lv_aload_n hx hb dX6_addRow_80 rfl (lv_at hl 0 rfl) ?_
            refine lv_iload_n hx hb dX6_addRow_81 rfl (lv_at hl 1 rfl) ?_
            refine lv_iload_n hx hb dX6_addRow_82 rfl (lv_at hl 2 rfl) ?_
            refine lv_iload_n hx hb dX6_addRow_83 rfl (lv_at hl 3 rfl) ?_
            refine lv_iconst (v := 1) hx hb dX6_addRow_84 (by decide) ?_
            refine xc_vv (As := [.int x1, .int x2, .int x3, .int 1]) (rest := []) xG Fx (sX6_addToken l dC dI ad cI cZ sa sv lt_count lw_begin lw_end lw_depth lw_signed lw_led pr_written pr_within st_size tx_size tt_count_4 tt_pieces_9 tt_kinds lt_begins lt_marks st_word st_vowels tx_characters tt_begins_5 tt_lengths_6 tt_stemLengths tt_places_7 tt_addresses_8 tt_smalls tt_stems tt_slots tt_nexts x1 x2 x3 1 h) (cwV 4 hts gX6_addRow_X6_addToken rfl rfl rfl hdX6_addToken ⟨Nat.le_of_ble_eq_true rfl, Nat.le_of_ble_eq_true rfl⟩) (va_recv hK hP (ci := 5) (q0 := 5) rfl rfl) hK hP hD hS hA hI rfl hl.1 rfl (Nat.le_of_ble_eq_true rfl) dX6_addRow_85 ⟨Nat.zero_le _, Nat.zero_le _⟩ (fun u H locs h hP hD hS => ?_)
            obtain ⟨tt_count_11, tt_begins_12, tt_lengths_13, tt_places_14, tt_addresses_15⟩ := u
            have hP : va_P (dC, dI) vwCl (xW ad cI cZ lt_count lw_begin lw_end lw_depth lw_signed lw_led pr_written pr_within st_size tx_size tt_count_11 tt_pieces_9 tt_kinds lt_begins lt_marks st_word st_vowels tx_characters tt_begins_12 tt_lengths_13 tt_stemLengths tt_places_14 tt_addresses_15 tt_smalls tt_stems tt_slots tt_nexts) H := hP
            have hD : va_D A (xW ad cI cZ lt_count lw_begin lw_end lw_depth lw_signed lw_led pr_written pr_within st_size tx_size tt_count_11 tt_pieces_9 tt_kinds lt_begins lt_marks st_word st_vowels tx_characters tt_begins_12 tt_lengths_13 tt_stemLengths tt_places_14 tt_addresses_15 tt_smalls tt_stems tt_slots tt_nexts) := hD
            exact J88 tt_count_11 tt_pieces_9 tt_begins_12 tt_lengths_13 tt_places_14 tt_addresses_15 x6 H locs ls (lv_sub hl [0, 1, 2, 3, 5, 6] rfl) hP hD hS h
      rw [wlX6_addRow_19] at h
      refine lv_iload hx hb dX6_addRow_19 (lv_at hl 6 rfl) ?_
      refine lv_iload_n hx hb dX6_addRow_21 rfl (lv_at hl 2 rfl) ?_
      refine lv_icmp_gt (tgt := 100) hx hb dX6_addRow_22 (by decide) (fun c9 => ?_) (fun c9 => ?_)
      · have h := h.1 c9
        exact W.vret hx hb hr (fun t ht hW => hQ (tt_count, tt_pieces, tt_begins, tt_lengths, tt_places, tt_addresses) t h (by rw [ht]; exact hP) (va_K.moved hW.alike hK) hD (hS.F ht)) hS.2.2 dX6_addRow_100
      · have h := h.2 c9
        refine lv_iload hx hb dX6_addRow_25 (lv_at hl 6 rfl) ?_
        refine lv_iload_n hx hb dX6_addRow_27 rfl (lv_at hl 2 rfl) ?_
        refine lv_icmp_eq (tgt := 46) hx hb dX6_addRow_28 (by decide) (fun c9 => ?_) (fun c9 => ?_)
        · have h := h.1 c9
          exact J46 tt_count tt_pieces tt_begins tt_lengths tt_places tt_addresses x4 x6 H locs ls (lv_sub hl [0, 1, 2, 3, 4, 5, 6] rfl) hP hD hS h
        · have h := h.2 c9
          refine lv_aload_n hx hb dX6_addRow_31 rfl (lv_at hl 0 rfl) ?_
          refine va_get (D := (dC, dI)) (ci := 5) (v := .ref (ad 4)) (C := RX6) (T := TX6) (N := 15) hx hb hts inX6 hown hK hP 5 rfl rfl 0 (by decide) (hts (.fieldLink RX6 47 "MailWords$TokenTable" "text" "LMailWords$Text;") (List.mem_of_getElem? (i := 2) rfl)) (fun _ h9 => h9) rfl dX6_addRow_32 ?_
          refine lv_iload hx hb dX6_addRow_35 (lv_at hl 6 rfl) ?_
          refine xc_vi (As := [.int x6]) (rest := []) xG Fx (sX5_get l dC dI ad cI cZ sa sv lt_count lw_begin lw_end lw_depth lw_signed lw_led pr_written pr_within st_size tx_size tt_count tt_pieces tt_kinds lt_begins lt_marks st_word st_vowels tx_characters tt_begins tt_lengths tt_stemLengths tt_places tt_addresses tt_smalls tt_stems tt_slots tt_nexts x6 h) (cwV 1 hts gX6_addRow_X5_get rfl rfl rfl hdX5_get ⟨Nat.le_of_ble_eq_true rfl, Nat.le_of_ble_eq_true rfl⟩) (va_recv hK hP (ci := 4) (q0 := 4) rfl rfl) hK hP hD hS hA hI rfl hl.1 rfl (Nat.le_of_ble_eq_true rfl) dX6_addRow_37 ⟨Nat.zero_le _, Nat.zero_le _⟩ (fun r_16 u H locs h hP hD hS => ?_)
          refine xc_si (As := [.int r_16]) (rest := []) xG Fx (sX0_isJoin l dC dI ad cI cZ sa sv lt_count lw_begin lw_end lw_depth lw_signed lw_led pr_written pr_within st_size tx_size tt_count tt_pieces tt_kinds lt_begins lt_marks st_word st_vowels tx_characters tt_begins tt_lengths tt_stemLengths tt_places tt_addresses tt_smalls tt_stems tt_slots tt_nexts r_16 h) (va_cwS 1 hts gX6_addRow_X0_isJoin rfl rfl rfl hdX0_isJoin ⟨Nat.le_of_ble_eq_true rfl, Nat.le_of_ble_eq_true rfl⟩) hK hP hD hS hA hI rfl hl.1 rfl (Nat.le_of_ble_eq_true rfl) dX6_addRow_40 ⟨Nat.zero_le _, Nat.zero_le _⟩ (fun r_17 u H locs h hP hD hS => ?_)
          refine lv_if_eq (tgt := 94) hx hb dX6_addRow_43 (by decide) (fun c9 => ?_) (fun c9 => ?_)
          · have h := h.1 c9
            exact J94 tt_count tt_pieces tt_begins tt_lengths tt_places tt_addresses x4 x6 H locs ls (lv_sub hl [0, 1, 2, 3, 4, 5, 6] rfl) hP hD hS h
          · have h := h.2 c9
            exact J46 tt_count tt_pieces tt_begins tt_lengths tt_places tt_addresses x4 x6 H locs ls (lv_sub hl [0, 1, 2, 3, 4, 5, 6] rfl) hP hD hS h
  intro H locs hP hD hS
  delta wpX6_addRow at h
  refine lv_aload_n hx hb dX6_addRow_0 rfl (lv_at hl 0 rfl) ?_
  refine va_get (D := (dC, dI)) (ci := 5) (v := .int tt_pieces) (C := RX6) (T := TX6) (N := 15) hx hb hts inX6 hown hK hP 5 rfl rfl 13 (by decide) (hts (.fieldLink RX6 59 "MailWords$TokenTable" "pieces" "I") (List.mem_of_getElem? (i := 1) rfl)) (fun _ h9 => h9) rfl dX6_addRow_1 ?_
  refine lv_istore_n (lv' := [(3, .int tt_pieces), (0, .ref (ad 5)), (1, .int x1), (2, .int x2)]) hx hb dX6_addRow_4 rfl hl (by decide) rfl (fun ls hl => ?_)
  refine lv_iload_n hx hb dX6_addRow_5 rfl (lv_at hl 2 rfl) ?_
  refine lv_istore (lv' := [(4, .int x1), (3, .int tt_pieces), (0, .ref (ad 5)), (1, .int x1), (2, .int x2)]) hx hb dX6_addRow_6 hl (by decide) rfl (fun ls hl => ?_)
  refine lv_aload_n hx hb dX6_addRow_8 rfl (lv_at hl 2 rfl) ?_
  refine lv_iload_n hx hb dX6_addRow_9 rfl (lv_at hl 3 rfl) ?_
  refine lv_iload_n hx hb dX6_addRow_10 rfl (lv_at hl 4 rfl) ?_
  refine xc_vi (As := [.int x1, .int x2]) (rest := []) xG Fx (sX6_isAddress l dC dI ad cI cZ sa sv lt_count lw_begin lw_end lw_depth lw_signed lw_led pr_written pr_within st_size tx_size tt_count tt_pieces tt_kinds lt_begins lt_marks st_word st_vowels tx_characters tt_begins tt_lengths tt_stemLengths tt_places tt_addresses tt_smalls tt_stems tt_slots tt_nexts x1 x2 h) (cwV 2 hts gX6_addRow_X6_isAddress rfl rfl rfl hdX6_isAddress ⟨Nat.le_of_ble_eq_true rfl, Nat.le_of_ble_eq_true rfl⟩) (va_recv hK hP (ci := 5) (q0 := 5) rfl rfl) hK hP hD hS hA hI rfl hl.1 rfl (Nat.le_of_ble_eq_true rfl) dX6_addRow_11 ⟨Nat.zero_le _, Nat.zero_le _⟩ (fun r_18 u H locs h hP hD hS => ?_)
  refine lv_istore (lv' := [(5, .int r_18), (4, .int x1), (3, .int tt_pieces), (0, .ref (ad 5)), (1, .int x1), (2, .int x2)]) hx hb dX6_addRow_14 hl (by decide) rfl (fun ls hl => ?_)
  refine lv_iload_n hx hb dX6_addRow_16 rfl (lv_at hl 4 rfl) ?_
  refine lv_istore (lv' := [(6, .int x1), (5, .int r_18), (4, .int x1), (3, .int tt_pieces), (0, .ref (ad 5)), (1, .int x1), (2, .int x2)]) hx hb dX6_addRow_17 hl (by decide) rfl (fun ls hl => ?_)
  obtain ⟨n, h⟩ := h
  exact L19 tt_pieces r_18 n tt_count tt_pieces tt_begins tt_lengths tt_places tt_addresses x1 x1 H locs ls (lv_sub hl [4, 5, 6, 3, 2, 1, 0] rfl) hP hD hS h
set_option maxHeartbeats 4000000 in
set_option maxRecDepth 100000 in
theorem sX6_cutRows (l : Launch) (dC : Nat → ClassId) (dI : Nat → Nat → Nat) (ad : Nat → Nat) (cI cZ : ClassId) (sa sv : Nat → Nat) (lt_count : Int32) (lw_begin : Int32) (lw_end : Int32) (lw_depth : Int32) (lw_signed : Int32) (lw_led : Int32) (pr_written : Int32) (pr_within : Int32) (st_size : Int32) (tx_size : Int32) (tt_count : Int32) (tt_pieces : Int32) (tt_kinds : Int32) (lt_begins : Nat → Int32) (lt_marks : Nat → Int32) (st_word : Nat → Int32) (st_vowels : Nat → Int32) (tx_characters : Nat → Int32) (tt_begins : Nat → Int32) (tt_lengths : Nat → Int32) (tt_stemLengths : Nat → Int32) (tt_places : Nat → Int32) (tt_addresses : Nat → Int32) (tt_smalls : Nat → Int32) (tt_stems : Nat → Int32) (tt_slots : Nat → Int32) (tt_nexts : Nat → Int32) (x1 : Int32) (x2 : Int32) {post : Int32 → Int32 → (Nat → Int32) → (Nat → Int32) → (Nat → Int32) → (Nat → Int32) → Prop} (h : wpX6_cutRows post tx_size tt_count tt_pieces tx_characters tt_begins tt_lengths tt_places tt_addresses x1 x2) : xMv l (dC, dI) vwCl [(cI, .int), (cZ, .boolean)] (sI sa sv) yX6_cutRows wsX6_cutRows ({ frames := 3, cells := 0, slots := 0, locals := 71 }) (xW ad cI cZ lt_count lw_begin lw_end lw_depth lw_signed lw_led pr_written pr_within st_size tx_size tt_count tt_pieces tt_kinds lt_begins lt_marks st_word st_vowels tx_characters tt_begins tt_lengths tt_stemLengths tt_places tt_addresses tt_smalls tt_stems tt_slots tt_nexts) [.ref (ad 5), .int x1, .int x2] (fun u : Int32 × Int32 × (Nat → Int32) × (Nat → Int32) × (Nat → Int32) × (Nat → Int32) => post u.1 u.2.1 u.2.2.1 u.2.2.2.1 u.2.2.2.2.1 u.2.2.2.2.2) (fun u : Int32 × Int32 × (Nat → Int32) × (Nat → Int32) × (Nat → Int32) × (Nat → Int32) => (xW ad cI cZ lt_count lw_begin lw_end lw_depth lw_signed lw_led pr_written pr_within st_size tx_size u.1 u.2.1 tt_kinds lt_begins lt_marks st_word st_vowels tx_characters u.2.2.1 u.2.2.2.1 tt_stemLengths u.2.2.2.2.1 u.2.2.2.2.2 tt_smalls tt_stems tt_slots tt_nexts)) := by
  intro sz
  refine Met.ofW (cc := cX6_cutRows) (maxL := 5) (ret := none) (by decide) rfl ?_
  intro p e s m args below meth c s₁ B hml hv
  obtain ⟨rfl, hsz, hP, hK, hD0, hI⟩ := hv
  have hx := B.exec
  have hb := B.bytes
  have hr := B.returns
  have hts := atoms_spec (ws := wsX6_cutRows) B.pre
  have hown : s.vm.findClass RX6 = some m.cls := findClass_of_methodNamed B.named
  have hlocks := B.notSynchronized
  subst hsz
  have hD := hD0.self (sz := s.heap.size)
  generalize hAe : va_A (xW ad cI cZ lt_count lw_begin lw_end lw_depth lw_signed lw_led pr_written pr_within st_size tx_size tt_count tt_pieces tt_kinds lt_begins lt_marks st_word st_vowels tx_characters tt_begins tt_lengths tt_stemLengths tt_places tt_addresses tt_smalls tt_stems tt_slots tt_nexts) s.heap.size = A at hD hI ⊢
  have hA : ∀ q : Nat, s.heap.size ≤ q → A q := fun q h => by rw [← hAe]; exact Or.inr h
  have hS : va_S A s.heap s.heap [] := va_S.rf
  have Fx : CallFix p m c cX6_cutRows 5 s ([.ref (ad 5), .int x1, .int x2] : List Value).toArray wsX6_cutRows RX6 := ⟨hx, hb, hml, hown, hts⟩
  have hQ : ∀ (u : Int32 × Int32 × (Nat → Int32) × (Nat → Int32) × (Nat → Int32) × (Nat → Int32)) (t : State), (fun u : Int32 × Int32 × (Nat → Int32) × (Nat → Int32) × (Nat → Int32) × (Nat → Int32) => post u.1 u.2.1 u.2.2.1 u.2.2.2.1 u.2.2.2.2.1 u.2.2.2.2.2) u → va_P (dC, dI) vwCl ((fun u : Int32 × Int32 × (Nat → Int32) × (Nat → Int32) × (Nat → Int32) × (Nat → Int32) => (xW ad cI cZ lt_count lw_begin lw_end lw_depth lw_signed lw_led pr_written pr_within st_size tx_size u.1 u.2.1 tt_kinds lt_begins lt_marks st_word st_vowels tx_characters u.2.2.1 u.2.2.2.1 tt_stemLengths u.2.2.2.2.1 u.2.2.2.2.2 tt_smalls tt_stems tt_slots tt_nexts)) u) t.heap → va_K (dC, dI) vwCl [(cI, .int), (cZ, .boolean)] t → va_D A ((fun u : Int32 × Int32 × (Nat → Int32) × (Nat → Int32) × (Nat → Int32) × (Nat → Int32) => (xW ad cI cZ lt_count lw_begin lw_end lw_depth lw_signed lw_led pr_written pr_within st_size tx_size u.1 u.2.1 tt_kinds lt_begins lt_marks st_word st_vowels tx_characters u.2.2.1 u.2.2.2.1 tt_stemLengths u.2.2.2.2.1 u.2.2.2.2.2 tt_smalls tt_stems tt_slots tt_nexts)) u) → va_F A s t → (va_Qv (fun u : Int32 × Int32 × (Nat → Int32) × (Nat → Int32) × (Nat → Int32) × (Nat → Int32) => post u.1 u.2.1 u.2.2.1 u.2.2.2.1 u.2.2.2.2.1 u.2.2.2.2.2) (xB (dC, dI) vwCl [(cI, .int), (cZ, .boolean)] A (fun u : Int32 × Int32 × (Nat → Int32) × (Nat → Int32) × (Nat → Int32) × (Nat → Int32) => (xW ad cI cZ lt_count lw_begin lw_end lw_depth lw_signed lw_led pr_written pr_within st_size tx_size u.1 u.2.1 tt_kinds lt_begins lt_marks st_word st_vowels tx_characters u.2.2.1 u.2.2.2.1 tt_stemLengths u.2.2.2.2.1 u.2.2.2.2.2 tt_smalls tt_stems tt_slots tt_nexts))) A) ([.ref (ad 5), .int x1, .int x2] : List Value).toArray s (.returned none) t := fun u t h1 h2 h3 h4 h5 => ⟨⟨u, rfl, h1, h2, h3, h4⟩, h5⟩
  generalize (va_Qv (fun u : Int32 × Int32 × (Nat → Int32) × (Nat → Int32) × (Nat → Int32) × (Nat → Int32) => post u.1 u.2.1 u.2.2.1 u.2.2.2.1 u.2.2.2.2.1 u.2.2.2.2.2) (xB (dC, dI) vwCl [(cI, .int), (cZ, .boolean)] A (fun u : Int32 × Int32 × (Nat → Int32) × (Nat → Int32) × (Nat → Int32) × (Nat → Int32) => (xW ad cI cZ lt_count lw_begin lw_end lw_depth lw_signed lw_led pr_written pr_within st_size tx_size u.1 u.2.1 tt_kinds lt_begins lt_marks st_word st_vowels tx_characters u.2.2.1 u.2.2.2.1 tt_stemLengths u.2.2.2.2.1 u.2.2.2.2.2 tt_smalls tt_stems tt_slots tt_nexts))) A) = Qc at hQ ⊢
  have hl := lv_entry ([.ref (ad 5), .int x1, .int x2]) (n := 5) (Nat.le_of_ble_eq_true rfl)
  rw [lg_entry_eq]
  generalize (lg_sl ([.ref (ad 5), .int x1, .int x2]) ++ List.replicate (5 - (lg_sl ([.ref (ad 5), .int x1, .int x2])).length) Slot.unset).toArray = ls at hl ⊢
  have hl : lv_has ls 5 [(0, .ref (ad 5)), (1, .int x1), (2, .int x2)] := hl
  refine (fun (key : ∀ (H : Heap) (locs : List Loc), va_P (dC, dI) vwCl (xW ad cI cZ lt_count lw_begin lw_end lw_depth lw_signed lw_led pr_written pr_within st_size tx_size tt_count tt_pieces tt_kinds lt_begins lt_marks st_word st_vowels tx_characters tt_begins tt_lengths tt_stemLengths tt_places tt_addresses tt_smalls tt_stems tt_slots tt_nexts) H → va_D A (xW ad cI cZ lt_count lw_begin lw_end lw_depth lw_signed lw_led pr_written pr_within st_size tx_size tt_count tt_pieces tt_kinds lt_begins lt_marks st_word st_vowels tx_characters tt_begins tt_lengths tt_stemLengths tt_places tt_addresses tt_smalls tt_stems tt_slots tt_nexts) → va_S A s.heap H locs → W p l e (headSpec wsX6_cutRows ({ frames := 3, cells := 0, slots := 0, locals := 71 })).room s m ([.ref (ad 5), .int x1, .int x2] : List Value).toArray below meth c H locs 0 0 (MQ below Qc ([.ref (ad 5), .int x1, .int x2] : List Value).toArray s 0 0 A) (F0 m 0 ls [])) => key _ _ hP hD hS) ?_
  have inX6 : ∀ w ∈ wsX60, w ∈ wsX6_cutRows := (fun _ h9 => List.mem_cons_of_mem _ (List.mem_append_left _ (List.mem_append_right _ h9)))
  have L2 : ∀ (n : Nat) (tt_count : Int32) (tt_pieces : Int32) (tt_begins : Nat → Int32) (tt_lengths : Nat → Int32) (tt_places : Nat → Int32) (tt_addresses : Nat → Int32) (x3 : Int32) (H : Heap) (locs : List Loc) (ls : Array Slot), lv_has ls 5 [(0, .ref (ad 5)), (2, .int x2), (3, .int x3)] → va_P (dC, dI) vwCl (xW ad cI cZ lt_count lw_begin lw_end lw_depth lw_signed lw_led pr_written pr_within st_size tx_size tt_count tt_pieces tt_kinds lt_begins lt_marks st_word st_vowels tx_characters tt_begins tt_lengths tt_stemLengths tt_places tt_addresses tt_smalls tt_stems tt_slots tt_nexts) H → va_D A (xW ad cI cZ lt_count lw_begin lw_end lw_depth lw_signed lw_led pr_written pr_within st_size tx_size tt_count tt_pieces tt_kinds lt_begins lt_marks st_word st_vowels tx_characters tt_begins tt_lengths tt_stemLengths tt_places tt_addresses tt_smalls tt_stems tt_slots tt_nexts) → va_S A s.heap H locs → wlX6_cutRows_2 post tx_size tx_characters x1 x2 n tt_count tt_pieces tt_begins tt_lengths tt_places tt_addresses x3 → W p l e (headSpec wsX6_cutRows ({ frames := 3, cells := 0, slots := 0, locals := 71 })).room s m ([.ref (ad 5), .int x1, .int x2] : List Value).toArray below meth c H locs 0 0 (MQ below Qc ([.ref (ad 5), .int x1, .int x2] : List Value).toArray s 0 0 A) (F0 m 2 ls []) := by
    intro n
    induction n with
    | zero => intro tt_count tt_pieces tt_begins tt_lengths tt_places tt_addresses x3 H locs ls _ _ _ _ h; exact absurd h (fun z => z)
    | succ n2 ih2 =>
      intro tt_count tt_pieces tt_begins tt_lengths tt_places tt_addresses x3 H locs ls hl hP hD hS h
      have J38 : ∀ (tt_count : Int32) (tt_pieces : Int32) (tt_begins : Nat → Int32) (tt_lengths : Nat → Int32) (tt_places : Nat → Int32) (tt_addresses : Nat → Int32) (x3 : Int32) (x4 : Int32) (H : Heap) (locs : List Loc) (ls : Array Slot), lv_has ls 5 [(0, .ref (ad 5)), (2, .int x2), (3, .int x3), (4, .int x4)] → va_P (dC, dI) vwCl (xW ad cI cZ lt_count lw_begin lw_end lw_depth lw_signed lw_led pr_written pr_within st_size tx_size tt_count tt_pieces tt_kinds lt_begins lt_marks st_word st_vowels tx_characters tt_begins tt_lengths tt_stemLengths tt_places tt_addresses tt_smalls tt_stems tt_slots tt_nexts) H → va_D A (xW ad cI cZ lt_count lw_begin lw_end lw_depth lw_signed lw_led pr_written pr_within st_size tx_size tt_count tt_pieces tt_kinds lt_begins lt_marks st_word st_vowels tx_characters tt_begins tt_lengths tt_stemLengths tt_places tt_addresses tt_smalls tt_stems tt_slots tt_nexts) → va_S A s.heap H locs → wjX6_cutRows_38 (fun tt_count tt_pieces tt_begins tt_lengths tt_places tt_addresses x3 => wlX6_cutRows_2 post tx_size tx_characters x1 x2 n2 tt_count tt_pieces tt_begins tt_lengths tt_places tt_addresses x3) post tx_size tx_characters x1 x2 tt_count tt_pieces tt_begins tt_lengths tt_places tt_addresses x3 x4 → W p l e (headSpec wsX6_cutRows ({ frames := 3, cells := 0, slots := 0, locals := 71 })).room s m ([.ref (ad 5), .int x1, .int x2] : List Value).toArray below meth c H locs 0 0 (MQ below Qc ([.ref (ad 5), .int x1, .int x2] : List Value).toArray s 0 0 A) (F0 m 38 ls []) := by
        intro tt_count tt_pieces tt_begins tt_lengths tt_places tt_addresses x3 x4 H locs ls hl hP hD hS h
        delta wjX6_cutRows_38 at h
        refine lv_iload_n hx hb dX6_cutRows_38 rfl (lv_at hl 2 rfl) ?_
        refine lv_iconst (v := 1) hx hb dX6_cutRows_39 (by decide) ?_
        refine lv_iadd hx hb dX6_cutRows_40 ?_
        refine lv_iload hx hb dX6_cutRows_41 (lv_at hl 3 rfl) ?_
        refine va_mmax hx hb (hml.trans hl.1.symm) hown (hts (.methodLink RX6 132 Lib.Math.max.name) (List.mem_of_getElem? (i := 2) rfl)) (hts (.static Lib.Math.max.name) (List.mem_of_getElem? (i := 3) rfl)) (hts (.initialized "java/lang/Math") (List.mem_of_getElem? (i := 4) rfl)) (hts (.code Lib.Math.max.name Lib.Math.max.code 2 (some .int)) (List.mem_of_getElem? (i := 5) rfl)) (Nat.le_of_ble_eq_true rfl) (Nat.le_of_ble_eq_true rfl) (Nat.zero_le _) (Nat.zero_le _) dX6_cutRows_43 ?_
        refine lv_topi (fun x3_1 ex3_1 => ?_)
        have h := h x3_1 ex3_1
        refine lv_istore_n (lv' := [(3, .int x3_1), (0, .ref (ad 5)), (2, .int x2), (4, .int x4)]) hx hb dX6_cutRows_46 rfl hl (by decide) rfl (fun ls hl => ?_)
        refine lv_goto (tgt := 2) hx hb dX6_cutRows_47 (by decide) ?_
        exact ih2 tt_count tt_pieces tt_begins tt_lengths tt_places tt_addresses x3_1 H locs ls (lv_sub hl [1, 2, 0] rfl) hP hD hS h
      rw [wlX6_cutRows_2] at h
      refine lv_iload_n hx hb dX6_cutRows_2 rfl (lv_at hl 2 rfl) ?_
      refine lv_iload_n hx hb dX6_cutRows_3 rfl (lv_at hl 1 rfl) ?_
      refine lv_icmp_ge (tgt := 50) hx hb dX6_cutRows_4 (by decide) (fun c9 => ?_) (fun c9 => ?_)
      · have h := h.1 c9
        exact W.vret hx hb hr (fun t ht hW => hQ (tt_count, tt_pieces, tt_begins, tt_lengths, tt_places, tt_addresses) t h (by rw [ht]; exact hP) (va_K.moved hW.alike hK) hD (hS.F ht)) hS.2.2 dX6_cutRows_50
      · have h := h.2 c9
        refine lv_aload_n hx hb dX6_cutRows_7 rfl (lv_at hl 0 rfl) ?_
        refine va_get (D := (dC, dI)) (ci := 5) (v := .int tt_pieces) (C := RX6) (T := TX6) (N := 15) hx hb hts inX6 hown hK hP 5 rfl rfl 13 (by decide) (hts (.fieldLink RX6 59 "MailWords$TokenTable" "pieces" "I") (List.mem_of_getElem? (i := 1) rfl)) (fun _ h9 => h9) rfl dX6_cutRows_8 ?_
        refine lv_sipush (v := 300) hx hb dX6_cutRows_11 (by decide) ?_
        refine lv_icmp_ge (tgt := 50) hx hb dX6_cutRows_14 (by decide) (fun c9 => ?_) (fun c9 => ?_)
        · have h := h.1 c9
          exact W.vret hx hb hr (fun t ht hW => hQ (tt_count, tt_pieces, tt_begins, tt_lengths, tt_places, tt_addresses) t h (by rw [ht]; exact hP) (va_K.moved hW.alike hK) hD (hS.F ht)) hS.2.2 dX6_cutRows_50
        · have h := h.2 c9
          refine lv_aload_n hx hb dX6_cutRows_17 rfl (lv_at hl 0 rfl) ?_
          refine lv_iload_n hx hb dX6_cutRows_18 rfl (lv_at hl 2 rfl) ?_
          refine lv_iload_n hx hb dX6_cutRows_19 rfl (lv_at hl 1 rfl) ?_
          refine xc_vi (As := [.int x3, .int x2]) (rest := []) xG Fx (sX6_behindRow l dC dI ad cI cZ sa sv lt_count lw_begin lw_end lw_depth lw_signed lw_led pr_written pr_within st_size tx_size tt_count tt_pieces tt_kinds lt_begins lt_marks st_word st_vowels tx_characters tt_begins tt_lengths tt_stemLengths tt_places tt_addresses tt_smalls tt_stems tt_slots tt_nexts x3 x2 h) (cwV 2 hts gX6_cutRows_X6_behindRow rfl rfl rfl hdX6_behindRow ⟨Nat.le_of_ble_eq_true rfl, Nat.le_of_ble_eq_true rfl⟩) (va_recv hK hP (ci := 5) (q0 := 5) rfl rfl) hK hP hD hS hA hI rfl hl.1 rfl (Nat.le_of_ble_eq_true rfl) dX6_cutRows_20 ⟨Nat.zero_le _, Nat.zero_le _⟩ (fun r_2 u H locs h hP hD hS => ?_)
          refine lv_istore (lv' := [(4, .int r_2), (0, .ref (ad 5)), (2, .int x2), (3, .int x3)]) hx hb dX6_cutRows_23 hl (by decide) rfl (fun ls hl => ?_)
          refine lv_iload hx hb dX6_cutRows_25 (lv_at hl 0 rfl) ?_
          refine lv_iload_n hx hb dX6_cutRows_27 rfl (lv_at hl 3 rfl) ?_
          refine lv_icmp_le (tgt := 38) hx hb dX6_cutRows_28 (by decide) (fun c9 => ?_) (fun c9 => ?_)
          · have h := h.1 c9
            exact J38 tt_count tt_pieces tt_begins tt_lengths tt_places tt_addresses x3 r_2 H locs ls (lv_sub hl [1, 2, 3, 0] rfl) hP hD hS h
          · have h := h.2 c9
            refine lv_aload_n hx hb dX6_cutRows_31 rfl (lv_at hl 1 rfl) ?_
            refine lv_iload_n hx hb dX6_cutRows_32 rfl (lv_at hl 3 rfl) ?_
            refine lv_iload hx hb dX6_cutRows_33 (lv_at hl 0 rfl) ?_
            refine xc_vv (As := [.int x3, .int r_2]) (rest := []) xG Fx (sX6_addRow l dC dI ad cI cZ sa sv lt_count lw_begin lw_end lw_depth lw_signed lw_led pr_written pr_within st_size tx_size tt_count tt_pieces tt_kinds lt_begins lt_marks st_word st_vowels tx_characters tt_begins tt_lengths tt_stemLengths tt_places tt_addresses tt_smalls tt_stems tt_slots tt_nexts x3 r_2 h) (cwV 2 hts gX6_cutRows_X6_addRow rfl rfl rfl hdX6_addRow ⟨Nat.le_of_ble_eq_true rfl, Nat.le_of_ble_eq_true rfl⟩) (va_recv hK hP (ci := 5) (q0 := 5) rfl rfl) hK hP hD hS hA hI rfl hl.1 rfl (Nat.le_of_ble_eq_true rfl) dX6_cutRows_35 ⟨Nat.zero_le _, Nat.zero_le _⟩ (fun u H locs h hP hD hS => ?_)
            obtain ⟨tt_count_4, tt_pieces_5, tt_begins_6, tt_lengths_7, tt_places_8, tt_addresses_9⟩ := u
            have hP : va_P (dC, dI) vwCl (xW ad cI cZ lt_count lw_begin lw_end lw_depth lw_signed lw_led pr_written pr_within st_size tx_size tt_count_4 tt_pieces_5 tt_kinds lt_begins lt_marks st_word st_vowels tx_characters tt_begins_6 tt_lengths_7 tt_stemLengths tt_places_8 tt_addresses_9 tt_smalls tt_stems tt_slots tt_nexts) H := hP
            have hD : va_D A (xW ad cI cZ lt_count lw_begin lw_end lw_depth lw_signed lw_led pr_written pr_within st_size tx_size tt_count_4 tt_pieces_5 tt_kinds lt_begins lt_marks st_word st_vowels tx_characters tt_begins_6 tt_lengths_7 tt_stemLengths tt_places_8 tt_addresses_9 tt_smalls tt_stems tt_slots tt_nexts) := hD
            exact J38 tt_count_4 tt_pieces_5 tt_begins_6 tt_lengths_7 tt_places_8 tt_addresses_9 x3 r_2 H locs ls (lv_sub hl [1, 2, 3, 0] rfl) hP hD hS h
  intro H locs hP hD hS
  delta wpX6_cutRows at h
  refine lv_iload_n hx hb dX6_cutRows_0 rfl (lv_at hl 1 rfl) ?_
  refine lv_istore_n (lv' := [(3, .int x1), (0, .ref (ad 5)), (1, .int x1), (2, .int x2)]) hx hb dX6_cutRows_1 rfl hl (by decide) rfl (fun ls hl => ?_)
  obtain ⟨n, h⟩ := h
  exact L2  n tt_count tt_pieces tt_begins tt_lengths tt_places tt_addresses x1 H locs ls (lv_sub hl [1, 3, 0] rfl) hP hD hS h
set_option maxHeartbeats 4000000 in
set_option maxRecDepth 100000 in
theorem sX6_fill (l : Launch) (dC : Nat → ClassId) (dI : Nat → Nat → Nat) (ad : Nat → Nat) (cI cZ : ClassId) (sa sv : Nat → Nat) (lt_count : Int32) (lw_begin : Int32) (lw_end : Int32) (lw_depth : Int32) (lw_signed : Int32) (lw_led : Int32) (pr_written : Int32) (pr_within : Int32) (st_size : Int32) (tx_size : Int32) (tt_count : Int32) (tt_pieces : Int32) (tt_kinds : Int32) (lt_begins : Nat → Int32) (lt_marks : Nat → Int32) (st_word : Nat → Int32) (st_vowels : Nat → Int32) (tx_characters : Nat → Int32) (tt_begins : Nat → Int32) (tt_lengths : Nat → Int32) (tt_stemLengths : Nat → Int32) (tt_places : Nat → Int32) (tt_addresses : Nat → Int32) (tt_smalls : Nat → Int32) (tt_stems : Nat → Int32) (tt_slots : Nat → Int32) (tt_nexts : Nat → Int32) (x1 : Int32) {post : Int32 → Int32 → Int32 → Int32 → Int32 → Int32 → Int32 → (Nat → Int32) → (Nat → Int32) → (Nat → Int32) → (Nat → Int32) → (Nat → Int32) → Prop} (h : wpX6_fill post lw_begin lw_end lw_depth lw_signed lw_led tx_size tt_count tt_pieces tx_characters tt_begins tt_lengths tt_places tt_addresses tt_smalls x1) : xMv l (dC, dI) vwCl [(cI, .int), (cZ, .boolean)] (sI sa sv) yX6_fill wsX6_fill ({ frames := 8, cells := 0, slots := 0, locals := 170 }) (xW ad cI cZ lt_count lw_begin lw_end lw_depth lw_signed lw_led pr_written pr_within st_size tx_size tt_count tt_pieces tt_kinds lt_begins lt_marks st_word st_vowels tx_characters tt_begins tt_lengths tt_stemLengths tt_places tt_addresses tt_smalls tt_stems tt_slots tt_nexts) [.ref (ad 5), .int x1] (fun u : Int32 × Int32 × Int32 × Int32 × Int32 × Int32 × Int32 × (Nat → Int32) × (Nat → Int32) × (Nat → Int32) × (Nat → Int32) × (Nat → Int32) => post u.1 u.2.1 u.2.2.1 u.2.2.2.1 u.2.2.2.2.1 u.2.2.2.2.2.1 u.2.2.2.2.2.2.1 u.2.2.2.2.2.2.2.1 u.2.2.2.2.2.2.2.2.1 u.2.2.2.2.2.2.2.2.2.1 u.2.2.2.2.2.2.2.2.2.2.1 u.2.2.2.2.2.2.2.2.2.2.2) (fun u : Int32 × Int32 × Int32 × Int32 × Int32 × Int32 × Int32 × (Nat → Int32) × (Nat → Int32) × (Nat → Int32) × (Nat → Int32) × (Nat → Int32) => (xW ad cI cZ lt_count u.1 u.2.1 u.2.2.1 u.2.2.2.1 u.2.2.2.2.1 pr_written pr_within st_size tx_size u.2.2.2.2.2.1 u.2.2.2.2.2.2.1 tt_kinds lt_begins lt_marks st_word st_vowels tx_characters u.2.2.2.2.2.2.2.1 u.2.2.2.2.2.2.2.2.1 tt_stemLengths u.2.2.2.2.2.2.2.2.2.1 u.2.2.2.2.2.2.2.2.2.2.1 u.2.2.2.2.2.2.2.2.2.2.2 tt_stems tt_slots tt_nexts)) := by
  intro sz
  refine Met.ofW (cc := cX6_fill) (maxL := 3) (ret := none) (by decide) rfl ?_
  intro p e s m args below meth c s₁ B hml hv
  obtain ⟨rfl, hsz, hP, hK, hD0, hI⟩ := hv
  have hx := B.exec
  have hb := B.bytes
  have hr := B.returns
  have hts := atoms_spec (ws := wsX6_fill) B.pre
  have hown : s.vm.findClass RX6 = some m.cls := findClass_of_methodNamed B.named
  have hlocks := B.notSynchronized
  subst hsz
  have hD := hD0.self (sz := s.heap.size)
  generalize hAe : va_A (xW ad cI cZ lt_count lw_begin lw_end lw_depth lw_signed lw_led pr_written pr_within st_size tx_size tt_count tt_pieces tt_kinds lt_begins lt_marks st_word st_vowels tx_characters tt_begins tt_lengths tt_stemLengths tt_places tt_addresses tt_smalls tt_stems tt_slots tt_nexts) s.heap.size = A at hD hI ⊢
  have hA : ∀ q : Nat, s.heap.size ≤ q → A q := fun q h => by rw [← hAe]; exact Or.inr h
  have hS : va_S A s.heap s.heap [] := va_S.rf
  have Fx : CallFix p m c cX6_fill 3 s ([.ref (ad 5), .int x1] : List Value).toArray wsX6_fill RX6 := ⟨hx, hb, hml, hown, hts⟩
  have hQ : ∀ (u : Int32 × Int32 × Int32 × Int32 × Int32 × Int32 × Int32 × (Nat → Int32) × (Nat → Int32) × (Nat → Int32) × (Nat → Int32) × (Nat → Int32)) (t : State), (fun u : Int32 × Int32 × Int32 × Int32 × Int32 × Int32 × Int32 × (Nat → Int32) × (Nat → Int32) × (Nat → Int32) × (Nat → Int32) × (Nat → Int32) => post u.1 u.2.1 u.2.2.1 u.2.2.2.1 u.2.2.2.2.1 u.2.2.2.2.2.1 u.2.2.2.2.2.2.1 u.2.2.2.2.2.2.2.1 u.2.2.2.2.2.2.2.2.1 u.2.2.2.2.2.2.2.2.2.1 u.2.2.2.2.2.2.2.2.2.2.1 u.2.2.2.2.2.2.2.2.2.2.2) u → va_P (dC, dI) vwCl ((fun u : Int32 × Int32 × Int32 × Int32 × Int32 × Int32 × Int32 × (Nat → Int32) × (Nat → Int32) × (Nat → Int32) × (Nat → Int32) × (Nat → Int32) => (xW ad cI cZ lt_count u.1 u.2.1 u.2.2.1 u.2.2.2.1 u.2.2.2.2.1 pr_written pr_within st_size tx_size u.2.2.2.2.2.1 u.2.2.2.2.2.2.1 tt_kinds lt_begins lt_marks st_word st_vowels tx_characters u.2.2.2.2.2.2.2.1 u.2.2.2.2.2.2.2.2.1 tt_stemLengths u.2.2.2.2.2.2.2.2.2.1 u.2.2.2.2.2.2.2.2.2.2.1 u.2.2.2.2.2.2.2.2.2.2.2 tt_stems tt_slots tt_nexts)) u) t.heap → va_K (dC, dI) vwCl [(cI, .int), (cZ, .boolean)] t → va_D A ((fun u : Int32 × Int32 × Int32 × Int32 × Int32 × Int32 × Int32 × (Nat → Int32) × (Nat → Int32) × (Nat → Int32) × (Nat → Int32) × (Nat → Int32) => (xW ad cI cZ lt_count u.1 u.2.1 u.2.2.1 u.2.2.2.1 u.2.2.2.2.1 pr_written pr_within st_size tx_size u.2.2.2.2.2.1 u.2.2.2.2.2.2.1 tt_kinds lt_begins lt_marks st_word st_vowels tx_characters u.2.2.2.2.2.2.2.1 u.2.2.2.2.2.2.2.2.1 tt_stemLengths u.2.2.2.2.2.2.2.2.2.1 u.2.2.2.2.2.2.2.2.2.2.1 u.2.2.2.2.2.2.2.2.2.2.2 tt_stems tt_slots tt_nexts)) u) → va_F A s t → (va_Qv (fun u : Int32 × Int32 × Int32 × Int32 × Int32 × Int32 × Int32 × (Nat → Int32) × (Nat → Int32) × (Nat → Int32) × (Nat → Int32) × (Nat → Int32) => post u.1 u.2.1 u.2.2.1 u.2.2.2.1 u.2.2.2.2.1 u.2.2.2.2.2.1 u.2.2.2.2.2.2.1 u.2.2.2.2.2.2.2.1 u.2.2.2.2.2.2.2.2.1 u.2.2.2.2.2.2.2.2.2.1 u.2.2.2.2.2.2.2.2.2.2.1 u.2.2.2.2.2.2.2.2.2.2.2) (xB (dC, dI) vwCl [(cI, .int), (cZ, .boolean)] A (fun u : Int32 × Int32 × Int32 × Int32 × Int32 × Int32 × Int32 × (Nat → Int32) × (Nat → Int32) × (Nat → Int32) × (Nat → Int32) × (Nat → Int32) => (xW ad cI cZ lt_count u.1 u.2.1 u.2.2.1 u.2.2.2.1 u.2.2.2.2.1 pr_written pr_within st_size tx_size u.2.2.2.2.2.1 u.2.2.2.2.2.2.1 tt_kinds lt_begins lt_marks st_word st_vowels tx_characters u.2.2.2.2.2.2.2.1 u.2.2.2.2.2.2.2.2.1 tt_stemLengths u.2.2.2.2.2.2.2.2.2.1 u.2.2.2.2.2.2.2.2.2.2.1 u.2.2.2.2.2.2.2.2.2.2.2 tt_stems tt_slots tt_nexts))) A) ([.ref (ad 5), .int x1] : List Value).toArray s (.returned none) t := fun u t h1 h2 h3 h4 h5 => ⟨⟨u, rfl, h1, h2, h3, h4⟩, h5⟩
  generalize (va_Qv (fun u : Int32 × Int32 × Int32 × Int32 × Int32 × Int32 × Int32 × (Nat → Int32) × (Nat → Int32) × (Nat → Int32) × (Nat → Int32) × (Nat → Int32) => post u.1 u.2.1 u.2.2.1 u.2.2.2.1 u.2.2.2.2.1 u.2.2.2.2.2.1 u.2.2.2.2.2.2.1 u.2.2.2.2.2.2.2.1 u.2.2.2.2.2.2.2.2.1 u.2.2.2.2.2.2.2.2.2.1 u.2.2.2.2.2.2.2.2.2.2.1 u.2.2.2.2.2.2.2.2.2.2.2) (xB (dC, dI) vwCl [(cI, .int), (cZ, .boolean)] A (fun u : Int32 × Int32 × Int32 × Int32 × Int32 × Int32 × Int32 × (Nat → Int32) × (Nat → Int32) × (Nat → Int32) × (Nat → Int32) × (Nat → Int32) => (xW ad cI cZ lt_count u.1 u.2.1 u.2.2.1 u.2.2.2.1 u.2.2.2.2.1 pr_written pr_within st_size tx_size u.2.2.2.2.2.1 u.2.2.2.2.2.2.1 tt_kinds lt_begins lt_marks st_word st_vowels tx_characters u.2.2.2.2.2.2.2.1 u.2.2.2.2.2.2.2.2.1 tt_stemLengths u.2.2.2.2.2.2.2.2.2.1 u.2.2.2.2.2.2.2.2.2.2.1 u.2.2.2.2.2.2.2.2.2.2.2 tt_stems tt_slots tt_nexts))) A) = Qc at hQ ⊢
  have hl := lv_entry ([.ref (ad 5), .int x1]) (n := 3) (Nat.le_of_ble_eq_true rfl)
  rw [lg_entry_eq]
  generalize (lg_sl ([.ref (ad 5), .int x1]) ++ List.replicate (3 - (lg_sl ([.ref (ad 5), .int x1])).length) Slot.unset).toArray = ls at hl ⊢
  have hl : lv_has ls 3 [(0, .ref (ad 5)), (1, .int x1)] := hl
  refine (fun (key : ∀ (H : Heap) (locs : List Loc), va_P (dC, dI) vwCl (xW ad cI cZ lt_count lw_begin lw_end lw_depth lw_signed lw_led pr_written pr_within st_size tx_size tt_count tt_pieces tt_kinds lt_begins lt_marks st_word st_vowels tx_characters tt_begins tt_lengths tt_stemLengths tt_places tt_addresses tt_smalls tt_stems tt_slots tt_nexts) H → va_D A (xW ad cI cZ lt_count lw_begin lw_end lw_depth lw_signed lw_led pr_written pr_within st_size tx_size tt_count tt_pieces tt_kinds lt_begins lt_marks st_word st_vowels tx_characters tt_begins tt_lengths tt_stemLengths tt_places tt_addresses tt_smalls tt_stems tt_slots tt_nexts) → va_S A s.heap H locs → W p l e (headSpec wsX6_fill ({ frames := 8, cells := 0, slots := 0, locals := 170 })).room s m ([.ref (ad 5), .int x1] : List Value).toArray below meth c H locs 0 0 (MQ below Qc ([.ref (ad 5), .int x1] : List Value).toArray s 0 0 A) (F0 m 0 ls [])) => key _ _ hP hD hS) ?_
  have inX6 : ∀ w ∈ wsX60, w ∈ wsX6_fill := (fun _ h9 => List.mem_cons_of_mem _ (List.mem_append_left _ (List.mem_append_left _ (List.mem_append_right _ h9))))
  have L81 : ∀ (tt_smalls : Nat → Int32) (n : Nat) (lw_begin : Int32) (lw_end : Int32) (lw_depth : Int32) (lw_signed : Int32) (lw_led : Int32) (tt_count : Int32) (tt_pieces : Int32) (tt_begins : Nat → Int32) (tt_lengths : Nat → Int32) (tt_places : Nat → Int32) (tt_addresses : Nat → Int32) (x2 : Int32) (H : Heap) (locs : List Loc) (ls : Array Slot), lv_has ls 3 [(0, .ref (ad 5)), (2, .int x2)] → va_P (dC, dI) vwCl (xW ad cI cZ lt_count lw_begin lw_end lw_depth lw_signed lw_led pr_written pr_within st_size tx_size tt_count tt_pieces tt_kinds lt_begins lt_marks st_word st_vowels tx_characters tt_begins tt_lengths tt_stemLengths tt_places tt_addresses tt_smalls tt_stems tt_slots tt_nexts) H → va_D A (xW ad cI cZ lt_count lw_begin lw_end lw_depth lw_signed lw_led pr_written pr_within st_size tx_size tt_count tt_pieces tt_kinds lt_begins lt_marks st_word st_vowels tx_characters tt_begins tt_lengths tt_stemLengths tt_places tt_addresses tt_smalls tt_stems tt_slots tt_nexts) → va_S A s.heap H locs → wlX6_fill_81 post tx_size tx_characters x1 tt_smalls n lw_begin lw_end lw_depth lw_signed lw_led tt_count tt_pieces tt_begins tt_lengths tt_places tt_addresses x2 → W p l e (headSpec wsX6_fill ({ frames := 8, cells := 0, slots := 0, locals := 170 })).room s m ([.ref (ad 5), .int x1] : List Value).toArray below meth c H locs 0 0 (MQ below Qc ([.ref (ad 5), .int x1] : List Value).toArray s 0 0 A) (F0 m 81 ls []) := by
    intro tt_smalls
    intro n
    induction n with
    | zero => intro lw_begin lw_end lw_depth lw_signed lw_led tt_count tt_pieces tt_begins tt_lengths tt_places tt_addresses x2 H locs ls _ _ _ _ h; exact absurd h (fun z => z)
    | succ n81 ih81 =>
      intro lw_begin lw_end lw_depth lw_signed lw_led tt_count tt_pieces tt_begins tt_lengths tt_places tt_addresses x2 H locs ls hl hP hD hS h
      have J126 : ∀ (lw_begin : Int32) (lw_end : Int32) (lw_depth : Int32) (lw_signed : Int32) (lw_led : Int32) (tt_count : Int32) (tt_pieces : Int32) (tt_begins : Nat → Int32) (tt_lengths : Nat → Int32) (tt_places : Nat → Int32) (tt_addresses : Nat → Int32) (x2 : Int32) (H : Heap) (locs : List Loc) (ls : Array Slot), lv_has ls 3 [(0, .ref (ad 5)), (2, .int x2)] → va_P (dC, dI) vwCl (xW ad cI cZ lt_count lw_begin lw_end lw_depth lw_signed lw_led pr_written pr_within st_size tx_size tt_count tt_pieces tt_kinds lt_begins lt_marks st_word st_vowels tx_characters tt_begins tt_lengths tt_stemLengths tt_places tt_addresses tt_smalls tt_stems tt_slots tt_nexts) H → va_D A (xW ad cI cZ lt_count lw_begin lw_end lw_depth lw_signed lw_led pr_written pr_within st_size tx_size tt_count tt_pieces tt_kinds lt_begins lt_marks st_word st_vowels tx_characters tt_begins tt_lengths tt_stemLengths tt_places tt_addresses tt_smalls tt_stems tt_slots tt_nexts) → va_S A s.heap H locs → wjX6_fill_126 (fun lw_begin lw_end lw_depth lw_signed lw_led tt_count tt_pieces tt_begins tt_lengths tt_places tt_addresses x2 => wlX6_fill_81 post tx_size tx_characters x1 tt_smalls n81 lw_begin lw_end lw_depth lw_signed lw_led tt_count tt_pieces tt_begins tt_lengths tt_places tt_addresses x2) post tx_size tx_characters x1 lw_begin lw_end lw_depth lw_signed lw_led tt_count tt_pieces tt_begins tt_lengths tt_places tt_addresses tt_smalls x2 → W p l e (headSpec wsX6_fill ({ frames := 8, cells := 0, slots := 0, locals := 170 })).room s m ([.ref (ad 5), .int x1] : List Value).toArray below meth c H locs 0 0 (MQ below Qc ([.ref (ad 5), .int x1] : List Value).toArray s 0 0 A) (F0 m 126 ls []) := by
        intro lw_begin lw_end lw_depth lw_signed lw_led tt_count tt_pieces tt_begins tt_lengths tt_places tt_addresses x2 H locs ls hl hP hD hS h
        delta wjX6_fill_126 at h
        obtain ⟨x2_1, ex2_1⟩ : ∃ y : Int32, y = x2 + 1 := ⟨_, rfl⟩
        have h := h x2_1 ex2_1
        refine lv_iinc (v := x2_1) (lv' := [(2, .int x2_1), (0, .ref (ad 5))]) hx hb dX6_fill_126 hl (k := 1) rfl (by rw [ex2_1]; rfl) (by decide) rfl (fun ls hl => ?_)
        refine lv_goto (tgt := 81) hx hb dX6_fill_129 (by decide) ?_
        exact ih81 lw_begin lw_end lw_depth lw_signed lw_led tt_count tt_pieces tt_begins tt_lengths tt_places tt_addresses x2_1 H locs ls (lv_sub hl [1, 0] rfl) hP hD hS h
      rw [wlX6_fill_81] at h
      refine lv_iload_n hx hb dX6_fill_81 rfl (lv_at hl 1 rfl) ?_
      refine lv_sipush (v := 1500) hx hb dX6_fill_82 (by decide) ?_
      refine lv_icmp_ge (tgt := 132) hx hb dX6_fill_85 (by decide) (fun c9 => ?_) (fun c9 => ?_)
      · have h := h.1 c9
        exact W.vret hx hb hr (fun t ht hW => hQ (lw_begin, lw_end, lw_depth, lw_signed, lw_led, tt_count, tt_pieces, tt_begins, tt_lengths, tt_places, tt_addresses, tt_smalls) t h (by rw [ht]; exact hP) (va_K.moved hW.alike hK) hD (hS.F ht)) hS.2.2 dX6_fill_132
      · have h := h.2 c9
        refine lv_aload_n hx hb dX6_fill_88 rfl (lv_at hl 0 rfl) ?_
        refine va_get (D := (dC, dI)) (ci := 5) (v := .ref (ad 1)) (C := RX6) (T := TX6) (N := 15) hx hb hts inX6 hown hK hP 5 rfl rfl 1 (by decide) (hts (.fieldLink RX6 51 "MailWords$TokenTable" "walker" "LMailWords$LineWalker;") (List.mem_of_getElem? (i := 5) rfl)) (fun _ h9 => h9) rfl dX6_fill_89 ?_
        refine xc_vi (As := []) (rest := []) xG Fx (sX2_advance l dC dI ad cI cZ sa sv lt_count lw_begin lw_end lw_depth lw_signed lw_led pr_written pr_within st_size tx_size tt_count tt_pieces tt_kinds lt_begins lt_marks st_word st_vowels tx_characters tt_begins tt_lengths tt_stemLengths tt_places tt_addresses tt_smalls tt_stems tt_slots tt_nexts h) (cwV 0 hts gX6_fill_X2_advance rfl rfl rfl hdX2_advance ⟨Nat.le_of_ble_eq_true rfl, Nat.le_of_ble_eq_true rfl⟩) (va_recv hK hP (ci := 1) (q0 := 1) rfl rfl) hK hP hD hS hA hI rfl hl.1 rfl (Nat.le_of_ble_eq_true rfl) dX6_fill_92 ⟨Nat.zero_le _, Nat.zero_le _⟩ (fun r_2 u H locs h hP hD hS => ?_)
        obtain ⟨lw_begin_3, lw_end_4, lw_depth_5, lw_signed_6, lw_led_7⟩ := u
        have hP : va_P (dC, dI) vwCl (xW ad cI cZ lt_count lw_begin_3 lw_end_4 lw_depth_5 lw_signed_6 lw_led_7 pr_written pr_within st_size tx_size tt_count tt_pieces tt_kinds lt_begins lt_marks st_word st_vowels tx_characters tt_begins tt_lengths tt_stemLengths tt_places tt_addresses tt_smalls tt_stems tt_slots tt_nexts) H := hP
        have hD : va_D A (xW ad cI cZ lt_count lw_begin_3 lw_end_4 lw_depth_5 lw_signed_6 lw_led_7 pr_written pr_within st_size tx_size tt_count tt_pieces tt_kinds lt_begins lt_marks st_word st_vowels tx_characters tt_begins tt_lengths tt_stemLengths tt_places tt_addresses tt_smalls tt_stems tt_slots tt_nexts) := hD
        refine lv_if_eq (tgt := 132) hx hb dX6_fill_95 (by decide) (fun c9 => ?_) (fun c9 => ?_)
        · have h := h.1 c9
          exact W.vret hx hb hr (fun t ht hW => hQ (lw_begin_3, lw_end_4, lw_depth_5, lw_signed_6, lw_led_7, tt_count, tt_pieces, tt_begins, tt_lengths, tt_places, tt_addresses, tt_smalls) t h (by rw [ht]; exact hP) (va_K.moved hW.alike hK) hD (hS.F ht)) hS.2.2 dX6_fill_132
        · have h := h.2 c9
          refine lv_aload_n hx hb dX6_fill_98 rfl (lv_at hl 0 rfl) ?_
          refine va_get (D := (dC, dI)) (ci := 5) (v := .ref (ad 1)) (C := RX6) (T := TX6) (N := 15) hx hb hts inX6 hown hK hP 5 rfl rfl 1 (by decide) (hts (.fieldLink RX6 51 "MailWords$TokenTable" "walker" "LMailWords$LineWalker;") (List.mem_of_getElem? (i := 5) rfl)) (fun _ h9 => h9) rfl dX6_fill_99 ?_
          refine xc_vi (As := []) (rest := []) xG Fx (sX2_isPlain l dC dI ad cI cZ sa sv lt_count lw_begin_3 lw_end_4 lw_depth_5 lw_signed_6 lw_led_7 pr_written pr_within st_size tx_size tt_count tt_pieces tt_kinds lt_begins lt_marks st_word st_vowels tx_characters tt_begins tt_lengths tt_stemLengths tt_places tt_addresses tt_smalls tt_stems tt_slots tt_nexts h) (cwV 0 hts gX6_fill_X2_isPlain rfl rfl rfl hdX2_isPlain ⟨Nat.le_of_ble_eq_true rfl, Nat.le_of_ble_eq_true rfl⟩) (va_recv hK hP (ci := 1) (q0 := 1) rfl rfl) hK hP hD hS hA hI rfl hl.1 rfl (Nat.le_of_ble_eq_true rfl) dX6_fill_102 ⟨Nat.zero_le _, Nat.zero_le _⟩ (fun r_8 u H locs h hP hD hS => ?_)
          refine lv_if_eq (tgt := 126) hx hb dX6_fill_105 (by decide) (fun c9 => ?_) (fun c9 => ?_)
          · have h := h.1 c9
            exact J126 lw_begin_3 lw_end_4 lw_depth_5 lw_signed_6 lw_led_7 tt_count tt_pieces tt_begins tt_lengths tt_places tt_addresses x2 H locs ls (lv_sub hl [0, 1] rfl) hP hD hS h
          · have h := h.2 c9
            refine lv_aload_n hx hb dX6_fill_108 rfl (lv_at hl 0 rfl) ?_
            refine lv_aload_n hx hb dX6_fill_109 rfl (lv_at hl 0 rfl) ?_
            refine va_get (D := (dC, dI)) (ci := 5) (v := .ref (ad 1)) (C := RX6) (T := TX6) (N := 15) hx hb hts inX6 hown hK hP 5 rfl rfl 1 (by decide) (hts (.fieldLink RX6 51 "MailWords$TokenTable" "walker" "LMailWords$LineWalker;") (List.mem_of_getElem? (i := 5) rfl)) (fun _ h9 => h9) rfl dX6_fill_110 ?_
            refine xc_vi (As := []) (rest := [.ref (ad 5)]) xG Fx (sX2_begin l dC dI ad cI cZ sa sv lt_count lw_begin_3 lw_end_4 lw_depth_5 lw_signed_6 lw_led_7 pr_written pr_within st_size tx_size tt_count tt_pieces tt_kinds lt_begins lt_marks st_word st_vowels tx_characters tt_begins tt_lengths tt_stemLengths tt_places tt_addresses tt_smalls tt_stems tt_slots tt_nexts h) (cwV 0 hts gX6_fill_X2_begin rfl rfl rfl hdX2_begin ⟨Nat.le_of_ble_eq_true rfl, Nat.le_of_ble_eq_true rfl⟩) (va_recv hK hP (ci := 1) (q0 := 1) rfl rfl) hK hP hD hS hA hI rfl hl.1 rfl (Nat.le_of_ble_eq_true rfl) dX6_fill_113 ⟨Nat.zero_le _, Nat.zero_le _⟩ (fun r_9 u H locs h hP hD hS => ?_)
            refine lv_aload_n hx hb dX6_fill_116 rfl (lv_at hl 0 rfl) ?_
            refine va_get (D := (dC, dI)) (ci := 5) (v := .ref (ad 1)) (C := RX6) (T := TX6) (N := 15) hx hb hts inX6 hown hK hP 5 rfl rfl 1 (by decide) (hts (.fieldLink RX6 51 "MailWords$TokenTable" "walker" "LMailWords$LineWalker;") (List.mem_of_getElem? (i := 5) rfl)) (fun _ h9 => h9) rfl dX6_fill_117 ?_
            refine xc_vi (As := []) (rest := [.int r_9, .ref (ad 5)]) xG Fx (sX2_end l dC dI ad cI cZ sa sv lt_count lw_begin_3 lw_end_4 lw_depth_5 lw_signed_6 lw_led_7 pr_written pr_within st_size tx_size tt_count tt_pieces tt_kinds lt_begins lt_marks st_word st_vowels tx_characters tt_begins tt_lengths tt_stemLengths tt_places tt_addresses tt_smalls tt_stems tt_slots tt_nexts h) (cwV 0 hts gX6_fill_X2_end rfl rfl rfl hdX2_end ⟨Nat.le_of_ble_eq_true rfl, Nat.le_of_ble_eq_true rfl⟩) (va_recv hK hP (ci := 1) (q0 := 1) rfl rfl) hK hP hD hS hA hI rfl hl.1 rfl (Nat.le_of_ble_eq_true rfl) dX6_fill_120 ⟨Nat.zero_le _, Nat.zero_le _⟩ (fun r_10 u H locs h hP hD hS => ?_)
            refine xc_vv (As := [.int r_9, .int r_10]) (rest := []) xG Fx (sX6_cutRows l dC dI ad cI cZ sa sv lt_count lw_begin_3 lw_end_4 lw_depth_5 lw_signed_6 lw_led_7 pr_written pr_within st_size tx_size tt_count tt_pieces tt_kinds lt_begins lt_marks st_word st_vowels tx_characters tt_begins tt_lengths tt_stemLengths tt_places tt_addresses tt_smalls tt_stems tt_slots tt_nexts r_9 r_10 h) (cwV 2 hts gX6_fill_X6_cutRows rfl rfl rfl hdX6_cutRows ⟨Nat.le_of_ble_eq_true rfl, Nat.le_of_ble_eq_true rfl⟩) (va_recv hK hP (ci := 5) (q0 := 5) rfl rfl) hK hP hD hS hA hI rfl hl.1 rfl (Nat.le_of_ble_eq_true rfl) dX6_fill_123 ⟨Nat.zero_le _, Nat.zero_le _⟩ (fun u H locs h hP hD hS => ?_)
            obtain ⟨tt_count_12, tt_pieces_13, tt_begins_14, tt_lengths_15, tt_places_16, tt_addresses_17⟩ := u
            have hP : va_P (dC, dI) vwCl (xW ad cI cZ lt_count lw_begin_3 lw_end_4 lw_depth_5 lw_signed_6 lw_led_7 pr_written pr_within st_size tx_size tt_count_12 tt_pieces_13 tt_kinds lt_begins lt_marks st_word st_vowels tx_characters tt_begins_14 tt_lengths_15 tt_stemLengths tt_places_16 tt_addresses_17 tt_smalls tt_stems tt_slots tt_nexts) H := hP
            have hD : va_D A (xW ad cI cZ lt_count lw_begin_3 lw_end_4 lw_depth_5 lw_signed_6 lw_led_7 pr_written pr_within st_size tx_size tt_count_12 tt_pieces_13 tt_kinds lt_begins lt_marks st_word st_vowels tx_characters tt_begins_14 tt_lengths_15 tt_stemLengths tt_places_16 tt_addresses_17 tt_smalls tt_stems tt_slots tt_nexts) := hD
            exact J126 lw_begin_3 lw_end_4 lw_depth_5 lw_signed_6 lw_led_7 tt_count_12 tt_pieces_13 tt_begins_14 tt_lengths_15 tt_places_16 tt_addresses_17 x2 H locs ls (lv_sub hl [0, 1] rfl) hP hD hS h
  have J55 : ∀ (lw_begin : Int32) (lw_end : Int32) (lw_depth : Int32) (lw_signed : Int32) (lw_led : Int32) (tt_count : Int32) (tt_pieces : Int32) (tt_begins : Nat → Int32) (tt_lengths : Nat → Int32) (tt_places : Nat → Int32) (tt_addresses : Nat → Int32) (tt_smalls : Nat → Int32) (H : Heap) (locs : List Loc) (ls : Array Slot), lv_has ls 3 [(0, .ref (ad 5)), (1, .int x1)] → va_P (dC, dI) vwCl (xW ad cI cZ lt_count lw_begin lw_end lw_depth lw_signed lw_led pr_written pr_within st_size tx_size tt_count tt_pieces tt_kinds lt_begins lt_marks st_word st_vowels tx_characters tt_begins tt_lengths tt_stemLengths tt_places tt_addresses tt_smalls tt_stems tt_slots tt_nexts) H → va_D A (xW ad cI cZ lt_count lw_begin lw_end lw_depth lw_signed lw_led pr_written pr_within st_size tx_size tt_count tt_pieces tt_kinds lt_begins lt_marks st_word st_vowels tx_characters tt_begins tt_lengths tt_stemLengths tt_places tt_addresses tt_smalls tt_stems tt_slots tt_nexts) → va_S A s.heap H locs → wjX6_fill_55 post tx_size tx_characters x1 lw_begin lw_end lw_depth lw_signed lw_led tt_count tt_pieces tt_begins tt_lengths tt_places tt_addresses tt_smalls → W p l e (headSpec wsX6_fill ({ frames := 8, cells := 0, slots := 0, locals := 170 })).room s m ([.ref (ad 5), .int x1] : List Value).toArray below meth c H locs 0 0 (MQ below Qc ([.ref (ad 5), .int x1] : List Value).toArray s 0 0 A) (F0 m 55 ls []) := by
    intro lw_begin lw_end lw_depth lw_signed lw_led tt_count tt_pieces tt_begins tt_lengths tt_places tt_addresses tt_smalls H locs ls hl hP hD hS h
    delta wjX6_fill_55 at h
    refine lv_iload_n hx hb dX6_fill_55 rfl (lv_at hl 1 rfl) ?_
    refine lv_if_ne (tgt := 72) hx hb dX6_fill_56 (by decide) (fun c9 => ?_) (fun c9 => ?_)
    · have h := h.1 c9
      refine lv_aload_n hx hb dX6_fill_72 rfl (lv_at hl 0 rfl) ?_
      refine va_get (D := (dC, dI)) (ci := 5) (v := .ref (ad 1)) (C := RX6) (T := TX6) (N := 15) hx hb hts inX6 hown hK hP 5 rfl rfl 1 (by decide) (hts (.fieldLink RX6 51 "MailWords$TokenTable" "walker" "LMailWords$LineWalker;") (List.mem_of_getElem? (i := 5) rfl)) (fun _ h9 => h9) rfl dX6_fill_73 ?_
      refine xc_vv (As := []) (rest := []) xG Fx (sX2_start l dC dI ad cI cZ sa sv lt_count lw_begin lw_end lw_depth lw_signed lw_led pr_written pr_within st_size tx_size tt_count tt_pieces tt_kinds lt_begins lt_marks st_word st_vowels tx_characters tt_begins tt_lengths tt_stemLengths tt_places tt_addresses tt_smalls tt_stems tt_slots tt_nexts h) (cwV 0 hts gX6_fill_X2_start rfl rfl rfl hdX2_start ⟨Nat.le_of_ble_eq_true rfl, Nat.le_of_ble_eq_true rfl⟩) (va_recv hK hP (ci := 1) (q0 := 1) rfl rfl) hK hP hD hS hA hI rfl hl.1 rfl (Nat.le_of_ble_eq_true rfl) dX6_fill_76 ⟨Nat.zero_le _, Nat.zero_le _⟩ (fun u H locs h hP hD hS => ?_)
      obtain ⟨lw_end_19, lw_signed_20⟩ := u
      have hP : va_P (dC, dI) vwCl (xW ad cI cZ lt_count lw_begin lw_end_19 lw_depth lw_signed_20 lw_led pr_written pr_within st_size tx_size tt_count tt_pieces tt_kinds lt_begins lt_marks st_word st_vowels tx_characters tt_begins tt_lengths tt_stemLengths tt_places tt_addresses tt_smalls tt_stems tt_slots tt_nexts) H := hP
      have hD : va_D A (xW ad cI cZ lt_count lw_begin lw_end_19 lw_depth lw_signed_20 lw_led pr_written pr_within st_size tx_size tt_count tt_pieces tt_kinds lt_begins lt_marks st_word st_vowels tx_characters tt_begins tt_lengths tt_stemLengths tt_places tt_addresses tt_smalls tt_stems tt_slots tt_nexts) := hD
      refine lv_iconst (v := 0) hx hb dX6_fill_79 (by decide) ?_
      refine lv_istore_n (lv' := [(2, .int 0), (0, .ref (ad 5)), (1, .int x1)]) hx hb dX6_fill_80 rfl hl (by decide) rfl (fun ls hl => ?_)
      obtain ⟨n, h⟩ := h
      exact L81 tt_smalls n lw_begin lw_end_19 lw_depth lw_signed_20 lw_led tt_count tt_pieces tt_begins tt_lengths tt_places tt_addresses 0 H locs ls (lv_sub hl [1, 0] rfl) hP hD hS h
    · have h := h.2 c9
      refine lv_aload_n hx hb dX6_fill_59 rfl (lv_at hl 0 rfl) ?_
      refine lv_iconst (v := 0) hx hb dX6_fill_60 (by decide) ?_
      refine lv_aload_n hx hb dX6_fill_61 rfl (lv_at hl 0 rfl) ?_
      refine va_get (D := (dC, dI)) (ci := 5) (v := .ref (ad 4)) (C := RX6) (T := TX6) (N := 15) hx hb hts inX6 hown hK hP 5 rfl rfl 0 (by decide) (hts (.fieldLink RX6 47 "MailWords$TokenTable" "text" "LMailWords$Text;") (List.mem_of_getElem? (i := 3) rfl)) (fun _ h9 => h9) rfl dX6_fill_62 ?_
      refine xc_vi (As := []) (rest := [.int 0, .ref (ad 5)]) xG Fx (sX5_size l dC dI ad cI cZ sa sv lt_count lw_begin lw_end lw_depth lw_signed lw_led pr_written pr_within st_size tx_size tt_count tt_pieces tt_kinds lt_begins lt_marks st_word st_vowels tx_characters tt_begins tt_lengths tt_stemLengths tt_places tt_addresses tt_smalls tt_stems tt_slots tt_nexts h) (cwV 0 hts gX6_fill_X5_size rfl rfl rfl hdX5_size ⟨Nat.le_of_ble_eq_true rfl, Nat.le_of_ble_eq_true rfl⟩) (va_recv hK hP (ci := 4) (q0 := 4) rfl rfl) hK hP hD hS hA hI rfl hl.1 rfl (Nat.le_of_ble_eq_true rfl) dX6_fill_65 ⟨Nat.zero_le _, Nat.zero_le _⟩ (fun r_21 u H locs h hP hD hS => ?_)
      refine xc_vv (As := [.int 0, .int r_21]) (rest := []) xG Fx (sX6_cutRows l dC dI ad cI cZ sa sv lt_count lw_begin lw_end lw_depth lw_signed lw_led pr_written pr_within st_size tx_size tt_count tt_pieces tt_kinds lt_begins lt_marks st_word st_vowels tx_characters tt_begins tt_lengths tt_stemLengths tt_places tt_addresses tt_smalls tt_stems tt_slots tt_nexts 0 r_21 h) (cwV 2 hts gX6_fill_X6_cutRows rfl rfl rfl hdX6_cutRows ⟨Nat.le_of_ble_eq_true rfl, Nat.le_of_ble_eq_true rfl⟩) (va_recv hK hP (ci := 5) (q0 := 5) rfl rfl) hK hP hD hS hA hI rfl hl.1 rfl (Nat.le_of_ble_eq_true rfl) dX6_fill_68 ⟨Nat.zero_le _, Nat.zero_le _⟩ (fun u H locs h hP hD hS => ?_)
      obtain ⟨tt_count_23, tt_pieces_24, tt_begins_25, tt_lengths_26, tt_places_27, tt_addresses_28⟩ := u
      have hP : va_P (dC, dI) vwCl (xW ad cI cZ lt_count lw_begin lw_end lw_depth lw_signed lw_led pr_written pr_within st_size tx_size tt_count_23 tt_pieces_24 tt_kinds lt_begins lt_marks st_word st_vowels tx_characters tt_begins_25 tt_lengths_26 tt_stemLengths tt_places_27 tt_addresses_28 tt_smalls tt_stems tt_slots tt_nexts) H := hP
      have hD : va_D A (xW ad cI cZ lt_count lw_begin lw_end lw_depth lw_signed lw_led pr_written pr_within st_size tx_size tt_count_23 tt_pieces_24 tt_kinds lt_begins lt_marks st_word st_vowels tx_characters tt_begins_25 tt_lengths_26 tt_stemLengths tt_places_27 tt_addresses_28 tt_smalls tt_stems tt_slots tt_nexts) := hD
      exact W.vret hx hb hr (fun t ht hW => hQ (lw_begin, lw_end, lw_depth, lw_signed, lw_led, tt_count_23, tt_pieces_24, tt_begins_25, tt_lengths_26, tt_places_27, tt_addresses_28, tt_smalls) t h (by rw [ht]; exact hP) (va_K.moved hW.alike hK) hD (hS.F ht)) hS.2.2 dX6_fill_71
  have L12 : ∀ (lw_begin : Int32) (lw_end : Int32) (lw_depth : Int32) (lw_signed : Int32) (lw_led : Int32) (tt_count : Int32) (tt_pieces : Int32) (tt_begins : Nat → Int32) (tt_lengths : Nat → Int32) (tt_places : Nat → Int32) (tt_addresses : Nat → Int32) (n : Nat) (tt_smalls : Nat → Int32) (x2 : Int32) (H : Heap) (locs : List Loc) (ls : Array Slot), lv_has ls 3 [(0, .ref (ad 5)), (1, .int x1), (2, .int x2)] → va_P (dC, dI) vwCl (xW ad cI cZ lt_count lw_begin lw_end lw_depth lw_signed lw_led pr_written pr_within st_size tx_size tt_count tt_pieces tt_kinds lt_begins lt_marks st_word st_vowels tx_characters tt_begins tt_lengths tt_stemLengths tt_places tt_addresses tt_smalls tt_stems tt_slots tt_nexts) H → va_D A (xW ad cI cZ lt_count lw_begin lw_end lw_depth lw_signed lw_led pr_written pr_within st_size tx_size tt_count tt_pieces tt_kinds lt_begins lt_marks st_word st_vowels tx_characters tt_begins tt_lengths tt_stemLengths tt_places tt_addresses tt_smalls tt_stems tt_slots tt_nexts) → va_S A s.heap H locs → wlX6_fill_12 post tx_size tx_characters x1 lw_begin lw_end lw_depth lw_signed lw_led tt_count tt_pieces tt_begins tt_lengths tt_places tt_addresses n tt_smalls x2 → W p l e (headSpec wsX6_fill ({ frames := 8, cells := 0, slots := 0, locals := 170 })).room s m ([.ref (ad 5), .int x1] : List Value).toArray below meth c H locs 0 0 (MQ below Qc ([.ref (ad 5), .int x1] : List Value).toArray s 0 0 A) (F0 m 12 ls []) := by
    intro lw_begin lw_end lw_depth lw_signed lw_led tt_count tt_pieces tt_begins tt_lengths tt_places tt_addresses
    intro n
    induction n with
    | zero => intro tt_smalls x2 H locs ls _ _ _ _ h; exact absurd h (fun z => z)
    | succ n12 ih12 =>
      intro tt_smalls x2 H locs ls hl hP hD hS h
      rw [wlX6_fill_12] at h
      refine lv_iload_n hx hb dX6_fill_12 rfl (lv_at hl 2 rfl) ?_
      refine lv_aload_n hx hb dX6_fill_13 rfl (lv_at hl 0 rfl) ?_
      refine va_get (D := (dC, dI)) (ci := 5) (v := .ref (ad 4)) (C := RX6) (T := TX6) (N := 15) hx hb hts inX6 hown hK hP 5 rfl rfl 0 (by decide) (hts (.fieldLink RX6 47 "MailWords$TokenTable" "text" "LMailWords$Text;") (List.mem_of_getElem? (i := 3) rfl)) (fun _ h9 => h9) rfl dX6_fill_14 ?_
      refine xc_vi (As := []) (rest := [.int x2]) xG Fx (sX5_size l dC dI ad cI cZ sa sv lt_count lw_begin lw_end lw_depth lw_signed lw_led pr_written pr_within st_size tx_size tt_count tt_pieces tt_kinds lt_begins lt_marks st_word st_vowels tx_characters tt_begins tt_lengths tt_stemLengths tt_places tt_addresses tt_smalls tt_stems tt_slots tt_nexts h) (cwV 0 hts gX6_fill_X5_size rfl rfl rfl hdX5_size ⟨Nat.le_of_ble_eq_true rfl, Nat.le_of_ble_eq_true rfl⟩) (va_recv hK hP (ci := 4) (q0 := 4) rfl rfl) hK hP hD hS hA hI rfl hl.1 rfl (Nat.le_of_ble_eq_true rfl) dX6_fill_17 ⟨Nat.zero_le _, Nat.zero_le _⟩ (fun r_29 u H locs h hP hD hS => ?_)
      refine lv_icmp_ge (tgt := 55) hx hb dX6_fill_20 (by decide) (fun c9 => ?_) (fun c9 => ?_)
      · have h := h.1 c9
        exact J55 lw_begin lw_end lw_depth lw_signed lw_led tt_count tt_pieces tt_begins tt_lengths tt_places tt_addresses tt_smalls H locs ls (lv_sub hl [0, 1] rfl) hP hD hS h
      · have h := h.2 c9
        refine lv_iload_n hx hb dX6_fill_23 rfl (lv_at hl 2 rfl) ?_
        refine lv_aload_n hx hb dX6_fill_24 rfl (lv_at hl 0 rfl) ?_
        refine va_get (D := (dC, dI)) (ci := 5) (v := .ref (ad 17)) (C := RX6) (T := TX6) (N := 15) hx hb hts inX6 hown hK hP 5 rfl rfl 8 (by decide) (hts (.fieldLink RX6 35 "MailWords$TokenTable" "smalls" "[I") (List.mem_of_getElem? (i := 4) rfl)) (fun _ h9 => h9) rfl dX6_fill_25 ?_
        refine va_alen (v := 1500) (ty := .int) hx hb hK hP 17 0 rfl rfl rfl dX6_fill_28 ?_
        refine lv_icmp_ge (tgt := 55) hx hb dX6_fill_29 (by decide) (fun c9 => ?_) (fun c9 => ?_)
        · have h := h.1 c9
          exact J55 lw_begin lw_end lw_depth lw_signed lw_led tt_count tt_pieces tt_begins tt_lengths tt_places tt_addresses tt_smalls H locs ls (lv_sub hl [0, 1] rfl) hP hD hS h
        · have h := h.2 c9
          refine lv_aload_n hx hb dX6_fill_32 rfl (lv_at hl 0 rfl) ?_
          refine va_get (D := (dC, dI)) (ci := 5) (v := .ref (ad 17)) (C := RX6) (T := TX6) (N := 15) hx hb hts inX6 hown hK hP 5 rfl rfl 8 (by decide) (hts (.fieldLink RX6 35 "MailWords$TokenTable" "smalls" "[I") (List.mem_of_getElem? (i := 4) rfl)) (fun _ h9 => h9) rfl dX6_fill_33 ?_
          refine lv_iload_n hx hb dX6_fill_36 rfl (lv_at hl 2 rfl) ?_
          refine lv_aload_n hx hb dX6_fill_37 rfl (lv_at hl 0 rfl) ?_
          refine va_get (D := (dC, dI)) (ci := 5) (v := .ref (ad 4)) (C := RX6) (T := TX6) (N := 15) hx hb hts inX6 hown hK hP 5 rfl rfl 0 (by decide) (hts (.fieldLink RX6 47 "MailWords$TokenTable" "text" "LMailWords$Text;") (List.mem_of_getElem? (i := 3) rfl)) (fun _ h9 => h9) rfl dX6_fill_38 ?_
          refine lv_iload_n hx hb dX6_fill_41 rfl (lv_at hl 2 rfl) ?_
          refine xc_vi (As := [.int x2]) (rest := [.int x2, .ref (ad 17)]) xG Fx (sX5_get l dC dI ad cI cZ sa sv lt_count lw_begin lw_end lw_depth lw_signed lw_led pr_written pr_within st_size tx_size tt_count tt_pieces tt_kinds lt_begins lt_marks st_word st_vowels tx_characters tt_begins tt_lengths tt_stemLengths tt_places tt_addresses tt_smalls tt_stems tt_slots tt_nexts x2 h) (cwV 1 hts gX6_fill_X5_get rfl rfl rfl hdX5_get ⟨Nat.le_of_ble_eq_true rfl, Nat.le_of_ble_eq_true rfl⟩) (va_recv hK hP (ci := 4) (q0 := 4) rfl rfl) hK hP hD hS hA hI rfl hl.1 rfl (Nat.le_of_ble_eq_true rfl) dX6_fill_42 ⟨Nat.zero_le _, Nat.zero_le _⟩ (fun r_30 u H locs h hP hD hS => ?_)
          refine xc_si (As := [.int r_30]) (rest := [.int x2, .ref (ad 17)]) xG Fx (sX0_small l dC dI ad cI cZ sa sv lt_count lw_begin lw_end lw_depth lw_signed lw_led pr_written pr_within st_size tx_size tt_count tt_pieces tt_kinds lt_begins lt_marks st_word st_vowels tx_characters tt_begins tt_lengths tt_stemLengths tt_places tt_addresses tt_smalls tt_stems tt_slots tt_nexts r_30 h) (va_cwS 1 hts gX6_fill_X0_small rfl rfl rfl hdX0_small ⟨Nat.le_of_ble_eq_true rfl, Nat.le_of_ble_eq_true rfl⟩) hK hP hD hS hA hI rfl hl.1 rfl (Nat.le_of_ble_eq_true rfl) dX6_fill_45 ⟨Nat.zero_le _, Nat.zero_le _⟩ (fun r_31 u H locs h hP hD hS => ?_)
          have hi9 := h.1
          have h := h.2
          refine va_iast hx hb hK hP hD hS 17 0 rfl rfl hi9 dX6_fill_48 (fun H locs hP hD hS => ?_)
          have hP : va_P (dC, dI) vwCl (xW ad cI cZ lt_count lw_begin lw_end lw_depth lw_signed lw_led pr_written pr_within st_size tx_size tt_count tt_pieces tt_kinds lt_begins lt_marks st_word st_vowels tx_characters tt_begins tt_lengths tt_stemLengths tt_places tt_addresses (upd tt_smalls x2.toNatClampNeg r_31) tt_stems tt_slots tt_nexts) H := hP
          have hD : va_D A (xW ad cI cZ lt_count lw_begin lw_end lw_depth lw_signed lw_led pr_written pr_within st_size tx_size tt_count tt_pieces tt_kinds lt_begins lt_marks st_word st_vowels tx_characters tt_begins tt_lengths tt_stemLengths tt_places tt_addresses (upd tt_smalls x2.toNatClampNeg r_31) tt_stems tt_slots tt_nexts) := hD
          obtain ⟨x2_32, ex2_32⟩ : ∃ y : Int32, y = x2 + 1 := ⟨_, rfl⟩
          have h := h x2_32 ex2_32
          refine lv_iinc (v := x2_32) (lv' := [(2, .int x2_32), (0, .ref (ad 5)), (1, .int x1)]) hx hb dX6_fill_49 hl (k := 2) rfl (by rw [ex2_32]; rfl) (by decide) rfl (fun ls hl => ?_)
          refine lv_goto (tgt := 12) hx hb dX6_fill_52 (by decide) ?_
          exact ih12 (upd tt_smalls x2.toNatClampNeg r_31) x2_32 H locs ls (lv_sub hl [1, 2, 0] rfl) hP hD hS h
  intro H locs hP hD hS
  delta wpX6_fill at h
  refine lv_aload_n hx hb dX6_fill_0 rfl (lv_at hl 0 rfl) ?_
  refine lv_iconst (v := 0) hx hb dX6_fill_1 (by decide) ?_
  refine va_put (D := (dC, dI)) (ci := 5) (v := .int 0) (ty := .int) (C := RX6) (T := TX6) (N := 15) hx hb hts inX6 tyX6 tyX6_ok nmX6 hown hK hP hD hS 5 rfl rfl 12 (by decide) (hts (.fieldLink RX6 55 "MailWords$TokenTable" "count" "I") (List.mem_of_getElem? (i := 1) rfl)) (fun _ h9 => h9) rfl (tyX6_ok 12 (by decide)) rfl rfl (Nat.le_of_ble_eq_true rfl) dX6_fill_2 (fun H locs hP hD hS => ?_)
  have hP : va_P (dC, dI) vwCl (xW ad cI cZ lt_count lw_begin lw_end lw_depth lw_signed lw_led pr_written pr_within st_size tx_size 0 tt_pieces tt_kinds lt_begins lt_marks st_word st_vowels tx_characters tt_begins tt_lengths tt_stemLengths tt_places tt_addresses tt_smalls tt_stems tt_slots tt_nexts) H := hP
  have hD : va_D A (xW ad cI cZ lt_count lw_begin lw_end lw_depth lw_signed lw_led pr_written pr_within st_size tx_size 0 tt_pieces tt_kinds lt_begins lt_marks st_word st_vowels tx_characters tt_begins tt_lengths tt_stemLengths tt_places tt_addresses tt_smalls tt_stems tt_slots tt_nexts) := hD
  refine lv_aload_n hx hb dX6_fill_5 rfl (lv_at hl 0 rfl) ?_
  refine lv_iconst (v := 0) hx hb dX6_fill_6 (by decide) ?_
  refine va_put (D := (dC, dI)) (ci := 5) (v := .int 0) (ty := .int) (C := RX6) (T := TX6) (N := 15) hx hb hts inX6 tyX6 tyX6_ok nmX6 hown hK hP hD hS 5 rfl rfl 13 (by decide) (hts (.fieldLink RX6 59 "MailWords$TokenTable" "pieces" "I") (List.mem_of_getElem? (i := 2) rfl)) (fun _ h9 => h9) rfl (tyX6_ok 13 (by decide)) rfl rfl (Nat.le_of_ble_eq_true rfl) dX6_fill_7 (fun H locs hP hD hS => ?_)
  have hP : va_P (dC, dI) vwCl (xW ad cI cZ lt_count lw_begin lw_end lw_depth lw_signed lw_led pr_written pr_within st_size tx_size 0 0 tt_kinds lt_begins lt_marks st_word st_vowels tx_characters tt_begins tt_lengths tt_stemLengths tt_places tt_addresses tt_smalls tt_stems tt_slots tt_nexts) H := hP
  have hD : va_D A (xW ad cI cZ lt_count lw_begin lw_end lw_depth lw_signed lw_led pr_written pr_within st_size tx_size 0 0 tt_kinds lt_begins lt_marks st_word st_vowels tx_characters tt_begins tt_lengths tt_stemLengths tt_places tt_addresses tt_smalls tt_stems tt_slots tt_nexts) := hD
  refine lv_iconst (v := 0) hx hb dX6_fill_10 (by decide) ?_
  refine lv_istore_n (lv' := [(2, .int 0), (0, .ref (ad 5)), (1, .int x1)]) hx hb dX6_fill_11 rfl hl (by decide) rfl (fun ls hl => ?_)
  obtain ⟨n, h⟩ := h
  exact L12 lw_begin lw_end lw_depth lw_signed lw_led 0 0 tt_begins tt_lengths tt_places tt_addresses n tt_smalls 0 H locs ls (lv_sub hl [1, 2, 0] rfl) hP hD hS h
set_option maxHeartbeats 4000000 in
set_option maxRecDepth 100000 in
theorem sX4_stem_tt_smalls_tt_stems (l : Launch) (dC : Nat → ClassId) (dI : Nat → Nat → Nat) (ad : Nat → Nat) (cI cZ : ClassId) (sa sv : Nat → Nat) (lt_count : Int32) (lw_begin : Int32) (lw_end : Int32) (lw_depth : Int32) (lw_signed : Int32) (lw_led : Int32) (pr_written : Int32) (pr_within : Int32) (st_size : Int32) (tx_size : Int32) (tt_count : Int32) (tt_pieces : Int32) (tt_kinds : Int32) (lt_begins : Nat → Int32) (lt_marks : Nat → Int32) (st_word : Nat → Int32) (st_vowels : Nat → Int32) (tx_characters : Nat → Int32) (tt_begins : Nat → Int32) (tt_lengths : Nat → Int32) (tt_stemLengths : Nat → Int32) (tt_places : Nat → Int32) (tt_addresses : Nat → Int32) (tt_smalls : Nat → Int32) (tt_stems : Nat → Int32) (tt_slots : Nat → Int32) (tt_nexts : Nat → Int32) (x3 : Int32) (x4 : Int32) {post : Int32 → Int32 → (Nat → Int32) → (Nat → Int32) → (Nat → Int32) → Prop} (h : wpX4_stem_tt_smalls_tt_stems post st_size st_word st_vowels tt_smalls tt_stems x3 x4) : xMi l (dC, dI) vwCl [(cI, .int), (cZ, .boolean)] (sI sa sv) yX4_stem wsX4_stem ({ frames := 7, cells := 0, slots := 0, locals := 153 }) (xW ad cI cZ lt_count lw_begin lw_end lw_depth lw_signed lw_led pr_written pr_within st_size tx_size tt_count tt_pieces tt_kinds lt_begins lt_marks st_word st_vowels tx_characters tt_begins tt_lengths tt_stemLengths tt_places tt_addresses tt_smalls tt_stems tt_slots tt_nexts) [.ref (ad 3), .ref (ad 17), .ref (ad 18), .int x3, .int x4] (fun (r : Int32) (u : Int32 × (Nat → Int32) × (Nat → Int32) × (Nat → Int32)) => post r u.1 u.2.1 u.2.2.1 u.2.2.2) (fun u : Int32 × (Nat → Int32) × (Nat → Int32) × (Nat → Int32) => (xW ad cI cZ lt_count lw_begin lw_end lw_depth lw_signed lw_led pr_written pr_within u.1 tx_size tt_count tt_pieces tt_kinds lt_begins lt_marks u.2.1 u.2.2.1 tx_characters tt_begins tt_lengths tt_stemLengths tt_places tt_addresses tt_smalls u.2.2.2 tt_slots tt_nexts)) := by
  intro sz
  refine Met.ofW (cc := cX4_stem) (maxL := 7) (ret := (some .int)) (by decide) rfl ?_
  intro p e s m args below meth c s₁ B hml hv
  obtain ⟨rfl, hsz, hP, hK, hD0, hI⟩ := hv
  have hx := B.exec
  have hb := B.bytes
  have hr := B.returns
  have hts := atoms_spec (ws := wsX4_stem) B.pre
  have hown : s.vm.findClass RX4 = some m.cls := findClass_of_methodNamed B.named
  have hlocks := B.notSynchronized
  subst hsz
  have hD := hD0.self (sz := s.heap.size)
  generalize hAe : va_A (xW ad cI cZ lt_count lw_begin lw_end lw_depth lw_signed lw_led pr_written pr_within st_size tx_size tt_count tt_pieces tt_kinds lt_begins lt_marks st_word st_vowels tx_characters tt_begins tt_lengths tt_stemLengths tt_places tt_addresses tt_smalls tt_stems tt_slots tt_nexts) s.heap.size = A at hD hI ⊢
  have hA : ∀ q : Nat, s.heap.size ≤ q → A q := fun q h => by rw [← hAe]; exact Or.inr h
  have hS : va_S A s.heap s.heap [] := va_S.rf
  have Fx : CallFix p m c cX4_stem 7 s ([.ref (ad 3), .ref (ad 17), .ref (ad 18), .int x3, .int x4] : List Value).toArray wsX4_stem RX4 := ⟨hx, hb, hml, hown, hts⟩
  have hQ : ∀ (r : Int32) (u : Int32 × (Nat → Int32) × (Nat → Int32) × (Nat → Int32)) (t : State), (fun (r : Int32) (u : Int32 × (Nat → Int32) × (Nat → Int32) × (Nat → Int32)) => post r u.1 u.2.1 u.2.2.1 u.2.2.2) r u → va_P (dC, dI) vwCl ((fun u : Int32 × (Nat → Int32) × (Nat → Int32) × (Nat → Int32) => (xW ad cI cZ lt_count lw_begin lw_end lw_depth lw_signed lw_led pr_written pr_within u.1 tx_size tt_count tt_pieces tt_kinds lt_begins lt_marks u.2.1 u.2.2.1 tx_characters tt_begins tt_lengths tt_stemLengths tt_places tt_addresses tt_smalls u.2.2.2 tt_slots tt_nexts)) u) t.heap → va_K (dC, dI) vwCl [(cI, .int), (cZ, .boolean)] t → va_D A ((fun u : Int32 × (Nat → Int32) × (Nat → Int32) × (Nat → Int32) => (xW ad cI cZ lt_count lw_begin lw_end lw_depth lw_signed lw_led pr_written pr_within u.1 tx_size tt_count tt_pieces tt_kinds lt_begins lt_marks u.2.1 u.2.2.1 tx_characters tt_begins tt_lengths tt_stemLengths tt_places tt_addresses tt_smalls u.2.2.2 tt_slots tt_nexts)) u) → va_F A s t → (va_Qi (fun (r : Int32) (u : Int32 × (Nat → Int32) × (Nat → Int32) × (Nat → Int32)) => post r u.1 u.2.1 u.2.2.1 u.2.2.2) (xB (dC, dI) vwCl [(cI, .int), (cZ, .boolean)] A (fun u : Int32 × (Nat → Int32) × (Nat → Int32) × (Nat → Int32) => (xW ad cI cZ lt_count lw_begin lw_end lw_depth lw_signed lw_led pr_written pr_within u.1 tx_size tt_count tt_pieces tt_kinds lt_begins lt_marks u.2.1 u.2.2.1 tx_characters tt_begins tt_lengths tt_stemLengths tt_places tt_addresses tt_smalls u.2.2.2 tt_slots tt_nexts))) A) ([.ref (ad 3), .ref (ad 17), .ref (ad 18), .int x3, .int x4] : List Value).toArray s (.returned (some (.int r))) t := fun r u t h1 h2 h3 h4 h5 => ⟨⟨r, u, rfl, h1, h2, h3, h4⟩, h5⟩
  generalize (va_Qi (fun (r : Int32) (u : Int32 × (Nat → Int32) × (Nat → Int32) × (Nat → Int32)) => post r u.1 u.2.1 u.2.2.1 u.2.2.2) (xB (dC, dI) vwCl [(cI, .int), (cZ, .boolean)] A (fun u : Int32 × (Nat → Int32) × (Nat → Int32) × (Nat → Int32) => (xW ad cI cZ lt_count lw_begin lw_end lw_depth lw_signed lw_led pr_written pr_within u.1 tx_size tt_count tt_pieces tt_kinds lt_begins lt_marks u.2.1 u.2.2.1 tx_characters tt_begins tt_lengths tt_stemLengths tt_places tt_addresses tt_smalls u.2.2.2 tt_slots tt_nexts))) A) = Qc at hQ ⊢
  have hl := lv_entry ([.ref (ad 3), .ref (ad 17), .ref (ad 18), .int x3, .int x4]) (n := 7) (Nat.le_of_ble_eq_true rfl)
  rw [lg_entry_eq]
  generalize (lg_sl ([.ref (ad 3), .ref (ad 17), .ref (ad 18), .int x3, .int x4]) ++ List.replicate (7 - (lg_sl ([.ref (ad 3), .ref (ad 17), .ref (ad 18), .int x3, .int x4])).length) Slot.unset).toArray = ls at hl ⊢
  have hl : lv_has ls 7 [(0, .ref (ad 3)), (1, .ref (ad 17)), (2, .ref (ad 18)), (3, .int x3), (4, .int x4)] := hl
  refine (fun (key : ∀ (H : Heap) (locs : List Loc), va_P (dC, dI) vwCl (xW ad cI cZ lt_count lw_begin lw_end lw_depth lw_signed lw_led pr_written pr_within st_size tx_size tt_count tt_pieces tt_kinds lt_begins lt_marks st_word st_vowels tx_characters tt_begins tt_lengths tt_stemLengths tt_places tt_addresses tt_smalls tt_stems tt_slots tt_nexts) H → va_D A (xW ad cI cZ lt_count lw_begin lw_end lw_depth lw_signed lw_led pr_written pr_within st_size tx_size tt_count tt_pieces tt_kinds lt_begins lt_marks st_word st_vowels tx_characters tt_begins tt_lengths tt_stemLengths tt_places tt_addresses tt_smalls tt_stems tt_slots tt_nexts) → va_S A s.heap H locs → W p l e (headSpec wsX4_stem ({ frames := 7, cells := 0, slots := 0, locals := 153 })).room s m ([.ref (ad 3), .ref (ad 17), .ref (ad 18), .int x3, .int x4] : List Value).toArray below meth c H locs 0 0 (MQ below Qc ([.ref (ad 3), .ref (ad 17), .ref (ad 18), .int x3, .int x4] : List Value).toArray s 0 0 A) (F0 m 0 ls [])) => key _ _ hP hD hS) ?_
  have inX4 : ∀ w ∈ wsX40, w ∈ wsX4_stem := (fun _ h9 => List.mem_cons_of_mem _ (List.mem_append_right _ h9))
  have L125 : ∀ (st_size : Int32) (st_word : Nat → Int32) (st_vowels : Nat → Int32) (n : Nat) (tt_stems : Nat → Int32) (x6 : Int32) (H : Heap) (locs : List Loc) (ls : Array Slot), lv_has ls 7 [(0, .ref (ad 3)), (2, .ref (ad 18)), (3, .int x3), (6, .int x6)] → va_P (dC, dI) vwCl (xW ad cI cZ lt_count lw_begin lw_end lw_depth lw_signed lw_led pr_written pr_within st_size tx_size tt_count tt_pieces tt_kinds lt_begins lt_marks st_word st_vowels tx_characters tt_begins tt_lengths tt_stemLengths tt_places tt_addresses tt_smalls tt_stems tt_slots tt_nexts) H → va_D A (xW ad cI cZ lt_count lw_begin lw_end lw_depth lw_signed lw_led pr_written pr_within st_size tx_size tt_count tt_pieces tt_kinds lt_begins lt_marks st_word st_vowels tx_characters tt_begins tt_lengths tt_stemLengths tt_places tt_addresses tt_smalls tt_stems tt_slots tt_nexts) → va_S A s.heap H locs → wlX4_stem_tt_smalls_tt_stems_125 post tt_smalls x3 x4 st_size st_word st_vowels n tt_stems x6 → W p l e (headSpec wsX4_stem ({ frames := 7, cells := 0, slots := 0, locals := 153 })).room s m ([.ref (ad 3), .ref (ad 17), .ref (ad 18), .int x3, .int x4] : List Value).toArray below meth c H locs 0 0 (MQ below Qc ([.ref (ad 3), .ref (ad 17), .ref (ad 18), .int x3, .int x4] : List Value).toArray s 0 0 A) (F0 m 125 ls []) := by
    intro st_size st_word st_vowels
    intro n
    induction n with
    | zero => intro tt_stems x6 H locs ls _ _ _ _ h; exact absurd h (fun z => z)
    | succ n125 ih125 =>
      intro tt_stems x6 H locs ls hl hP hD hS h
      rw [wlX4_stem_tt_smalls_tt_stems_125] at h
      refine lv_iload hx hb dX4_stem_125 (lv_at hl 3 rfl) ?_
      refine lv_aload_n hx hb dX4_stem_127 rfl (lv_at hl 0 rfl) ?_
      refine va_get (D := (dC, dI)) (ci := 3) (v := .int st_size) (C := RX4) (T := TX4) (N := 3) hx hb hts inX4 hown hK hP 3 rfl rfl 2 (by decide) (hts (.fieldLink RX4 19 "MailWords$Stemmer" "size" "I") (List.mem_of_getElem? (i := 1) rfl)) (fun _ h9 => h9) rfl dX4_stem_128 ?_
      refine lv_icmp_ge (tgt := 166) hx hb dX4_stem_131 (by decide) (fun c9 => ?_) (fun c9 => ?_)
      · have h := h.1 c9
        refine lv_aload_n hx hb dX4_stem_166 rfl (lv_at hl 0 rfl) ?_
        refine va_get (D := (dC, dI)) (ci := 3) (v := .int st_size) (C := RX4) (T := TX4) (N := 3) hx hb hts inX4 hown hK hP 3 rfl rfl 2 (by decide) (hts (.fieldLink RX4 19 "MailWords$Stemmer" "size" "I") (List.mem_of_getElem? (i := 1) rfl)) (fun _ h9 => h9) rfl dX4_stem_167 ?_
        exact W.iret (v := st_size) hx hb hr (fun t ht hW => hQ st_size (st_size, st_word, st_vowels, tt_stems) t h (by rw [ht]; exact hP) (va_K.moved hW.alike hK) hD (hS.F ht)) hS.2.2 dX4_stem_170
      · have h := h.2 c9
        refine lv_iload_n hx hb dX4_stem_134 rfl (lv_at hl 2 rfl) ?_
        refine lv_if_lt (tgt := 166) hx hb dX4_stem_135 (by decide) (fun c9 => ?_) (fun c9 => ?_)
        · have h := h.1 c9
          refine lv_aload_n hx hb dX4_stem_166 rfl (lv_at hl 0 rfl) ?_
          refine va_get (D := (dC, dI)) (ci := 3) (v := .int st_size) (C := RX4) (T := TX4) (N := 3) hx hb hts inX4 hown hK hP 3 rfl rfl 2 (by decide) (hts (.fieldLink RX4 19 "MailWords$Stemmer" "size" "I") (List.mem_of_getElem? (i := 1) rfl)) (fun _ h9 => h9) rfl dX4_stem_167 ?_
          exact W.iret (v := st_size) hx hb hr (fun t ht hW => hQ st_size (st_size, st_word, st_vowels, tt_stems) t h (by rw [ht]; exact hP) (va_K.moved hW.alike hK) hD (hS.F ht)) hS.2.2 dX4_stem_170
        · have h := h.2 c9
          refine lv_iload_n hx hb dX4_stem_138 rfl (lv_at hl 2 rfl) ?_
          refine lv_iload hx hb dX4_stem_139 (lv_at hl 3 rfl) ?_
          refine lv_iadd hx hb dX4_stem_141 ?_
          refine lv_aload_n hx hb dX4_stem_142 rfl (lv_at hl 1 rfl) ?_
          refine va_alen (v := 1500) (ty := .int) hx hb hK hP 18 0 rfl rfl rfl dX4_stem_143 ?_
          refine lv_icmp_ge (tgt := 166) hx hb dX4_stem_144 (by decide) (fun c9 => ?_) (fun c9 => ?_)
          · have h := h.1 c9
            refine lv_aload_n hx hb dX4_stem_166 rfl (lv_at hl 0 rfl) ?_
            refine va_get (D := (dC, dI)) (ci := 3) (v := .int st_size) (C := RX4) (T := TX4) (N := 3) hx hb hts inX4 hown hK hP 3 rfl rfl 2 (by decide) (hts (.fieldLink RX4 19 "MailWords$Stemmer" "size" "I") (List.mem_of_getElem? (i := 1) rfl)) (fun _ h9 => h9) rfl dX4_stem_167 ?_
            exact W.iret (v := st_size) hx hb hr (fun t ht hW => hQ st_size (st_size, st_word, st_vowels, tt_stems) t h (by rw [ht]; exact hP) (va_K.moved hW.alike hK) hD (hS.F ht)) hS.2.2 dX4_stem_170
          · have h := h.2 c9
            refine lv_aload_n hx hb dX4_stem_147 rfl (lv_at hl 1 rfl) ?_
            refine lv_iload_n hx hb dX4_stem_148 rfl (lv_at hl 2 rfl) ?_
            refine lv_iload hx hb dX4_stem_149 (lv_at hl 3 rfl) ?_
            refine lv_iadd hx hb dX4_stem_151 ?_
            refine lv_aload_n hx hb dX4_stem_152 rfl (lv_at hl 0 rfl) ?_
            refine va_get (D := (dC, dI)) (ci := 3) (v := .ref (ad 9)) (C := RX4) (T := TX4) (N := 3) hx hb hts inX4 hown hK hP 3 rfl rfl 0 (by decide) (hts (.fieldLink RX4 9 "MailWords$Stemmer" "word" "[I") (List.mem_of_getElem? (i := 2) rfl)) (fun _ h9 => h9) rfl dX4_stem_153 ?_
            refine lv_iload hx hb dX4_stem_156 (lv_at hl 3 rfl) ?_
            have hi9 := h.1
            have h := h.2
            refine va_iald hx hb hK hP 9 0 rfl rfl hi9 dX4_stem_158 ?_
            have hi9 := h.1
            have h := h.2
            refine va_iast hx hb hK hP hD hS 18 0 rfl rfl hi9 dX4_stem_159 (fun H locs hP hD hS => ?_)
            have hP : va_P (dC, dI) vwCl (xW ad cI cZ lt_count lw_begin lw_end lw_depth lw_signed lw_led pr_written pr_within st_size tx_size tt_count tt_pieces tt_kinds lt_begins lt_marks st_word st_vowels tx_characters tt_begins tt_lengths tt_stemLengths tt_places tt_addresses tt_smalls (upd tt_stems ((x3 + x6) : Int32).toNatClampNeg (st_word x6.toNatClampNeg)) tt_slots tt_nexts) H := hP
            have hD : va_D A (xW ad cI cZ lt_count lw_begin lw_end lw_depth lw_signed lw_led pr_written pr_within st_size tx_size tt_count tt_pieces tt_kinds lt_begins lt_marks st_word st_vowels tx_characters tt_begins tt_lengths tt_stemLengths tt_places tt_addresses tt_smalls (upd tt_stems ((x3 + x6) : Int32).toNatClampNeg (st_word x6.toNatClampNeg)) tt_slots tt_nexts) := hD
            obtain ⟨x6_1, ex6_1⟩ : ∃ y : Int32, y = x6 + 1 := ⟨_, rfl⟩
            have h := h x6_1 ex6_1
            refine lv_iinc (v := x6_1) (lv' := [(6, .int x6_1), (0, .ref (ad 3)), (2, .ref (ad 18)), (3, .int x3)]) hx hb dX4_stem_160 hl (k := 3) rfl (by rw [ex6_1]; rfl) (by decide) rfl (fun ls hl => ?_)
            refine lv_goto (tgt := 125) hx hb dX4_stem_163 (by decide) ?_
            exact ih125 (upd tt_stems ((x3 + x6) : Int32).toNatClampNeg (st_word x6.toNatClampNeg)) x6_1 H locs ls (lv_sub hl [1, 2, 3, 0] rfl) hP hD hS h
  have J122 : ∀ (st_size : Int32) (st_word : Nat → Int32) (st_vowels : Nat → Int32) (tt_stems : Nat → Int32) (H : Heap) (locs : List Loc) (ls : Array Slot), lv_has ls 7 [(0, .ref (ad 3)), (2, .ref (ad 18)), (3, .int x3)] → va_P (dC, dI) vwCl (xW ad cI cZ lt_count lw_begin lw_end lw_depth lw_signed lw_led pr_written pr_within st_size tx_size tt_count tt_pieces tt_kinds lt_begins lt_marks st_word st_vowels tx_characters tt_begins tt_lengths tt_stemLengths tt_places tt_addresses tt_smalls tt_stems tt_slots tt_nexts) H → va_D A (xW ad cI cZ lt_count lw_begin lw_end lw_depth lw_signed lw_led pr_written pr_within st_size tx_size tt_count tt_pieces tt_kinds lt_begins lt_marks st_word st_vowels tx_characters tt_begins tt_lengths tt_stemLengths tt_places tt_addresses tt_smalls tt_stems tt_slots tt_nexts) → va_S A s.heap H locs → wjX4_stem_tt_smalls_tt_stems_122 post tt_smalls x3 x4 st_size st_word st_vowels tt_stems → W p l e (headSpec wsX4_stem ({ frames := 7, cells := 0, slots := 0, locals := 153 })).room s m ([.ref (ad 3), .ref (ad 17), .ref (ad 18), .int x3, .int x4] : List Value).toArray below meth c H locs 0 0 (MQ below Qc ([.ref (ad 3), .ref (ad 17), .ref (ad 18), .int x3, .int x4] : List Value).toArray s 0 0 A) (F0 m 122 ls []) := by
    intro st_size st_word st_vowels tt_stems H locs ls hl hP hD hS h
    delta wjX4_stem_tt_smalls_tt_stems_122 at h
    refine lv_iconst (v := 0) hx hb dX4_stem_122 (by decide) ?_
    refine lv_istore (lv' := [(6, .int 0), (0, .ref (ad 3)), (2, .ref (ad 18)), (3, .int x3)]) hx hb dX4_stem_123 hl (by decide) rfl (fun ls hl => ?_)
    obtain ⟨n, h⟩ := h
    exact L125 st_size st_word st_vowels n tt_stems 0 H locs ls (lv_sub hl [1, 2, 3, 0] rfl) hP hD hS h
  have J86 : ∀ (st_size : Int32) (st_word : Nat → Int32) (st_vowels : Nat → Int32) (tt_stems : Nat → Int32) (x5 : Int32) (H : Heap) (locs : List Loc) (ls : Array Slot), lv_has ls 7 [(0, .ref (ad 3)), (2, .ref (ad 18)), (3, .int x3), (5, .int x5)] → va_P (dC, dI) vwCl (xW ad cI cZ lt_count lw_begin lw_end lw_depth lw_signed lw_led pr_written pr_within st_size tx_size tt_count tt_pieces tt_kinds lt_begins lt_marks st_word st_vowels tx_characters tt_begins tt_lengths tt_stemLengths tt_places tt_addresses tt_smalls tt_stems tt_slots tt_nexts) H → va_D A (xW ad cI cZ lt_count lw_begin lw_end lw_depth lw_signed lw_led pr_written pr_within st_size tx_size tt_count tt_pieces tt_kinds lt_begins lt_marks st_word st_vowels tx_characters tt_begins tt_lengths tt_stemLengths tt_places tt_addresses tt_smalls tt_stems tt_slots tt_nexts) → va_S A s.heap H locs → wjX4_stem_tt_smalls_tt_stems_86 post tt_smalls x3 x4 st_size st_word st_vowels tt_stems x5 → W p l e (headSpec wsX4_stem ({ frames := 7, cells := 0, slots := 0, locals := 153 })).room s m ([.ref (ad 3), .ref (ad 17), .ref (ad 18), .int x3, .int x4] : List Value).toArray below meth c H locs 0 0 (MQ below Qc ([.ref (ad 3), .ref (ad 17), .ref (ad 18), .int x3, .int x4] : List Value).toArray s 0 0 A) (F0 m 86 ls []) := by
    intro st_size st_word st_vowels tt_stems x5 H locs ls hl hP hD hS h
    delta wjX4_stem_tt_smalls_tt_stems_86 at h
    refine lv_iload hx hb dX4_stem_86 (lv_at hl 3 rfl) ?_
    refine lv_if_eq (tgt := 122) hx hb dX4_stem_88 (by decide) (fun c9 => ?_) (fun c9 => ?_)
    · have h := h.1 c9
      exact J122 st_size st_word st_vowels tt_stems H locs ls (lv_sub hl [0, 1, 2] rfl) hP hD hS h
    · have h := h.2 c9
      refine lv_aload_n hx hb dX4_stem_91 rfl (lv_at hl 0 rfl) ?_
      refine xc_vv (As := []) (rest := []) xG Fx (sX4_endOfMany l dC dI ad cI cZ sa sv lt_count lw_begin lw_end lw_depth lw_signed lw_led pr_written pr_within st_size tx_size tt_count tt_pieces tt_kinds lt_begins lt_marks st_word st_vowels tx_characters tt_begins tt_lengths tt_stemLengths tt_places tt_addresses tt_smalls tt_stems tt_slots tt_nexts h) (cwV 0 hts gX4_stem_X4_endOfMany rfl rfl rfl hdX4_endOfMany ⟨Nat.le_of_ble_eq_true rfl, Nat.le_of_ble_eq_true rfl⟩) (va_recv hK hP (ci := 3) (q0 := 3) rfl rfl) hK hP hD hS hA hI rfl hl.1 rfl (Nat.le_of_ble_eq_true rfl) dX4_stem_92 ⟨Nat.zero_le _, Nat.zero_le _⟩ (fun u H locs h hP hD hS => ?_)
      obtain ⟨st_size_3, st_word_4, st_vowels_5⟩ := u
      have hP : va_P (dC, dI) vwCl (xW ad cI cZ lt_count lw_begin lw_end lw_depth lw_signed lw_led pr_written pr_within st_size_3 tx_size tt_count tt_pieces tt_kinds lt_begins lt_marks st_word_4 st_vowels_5 tx_characters tt_begins tt_lengths tt_stemLengths tt_places tt_addresses tt_smalls tt_stems tt_slots tt_nexts) H := hP
      have hD : va_D A (xW ad cI cZ lt_count lw_begin lw_end lw_depth lw_signed lw_led pr_written pr_within st_size_3 tx_size tt_count tt_pieces tt_kinds lt_begins lt_marks st_word_4 st_vowels_5 tx_characters tt_begins tt_lengths tt_stemLengths tt_places tt_addresses tt_smalls tt_stems tt_slots tt_nexts) := hD
      refine lv_aload_n hx hb dX4_stem_95 rfl (lv_at hl 0 rfl) ?_
      refine xc_vv (As := []) (rest := []) xG Fx (sX4_endOfPast l dC dI ad cI cZ sa sv lt_count lw_begin lw_end lw_depth lw_signed lw_led pr_written pr_within st_size_3 tx_size tt_count tt_pieces tt_kinds lt_begins lt_marks st_word_4 st_vowels_5 tx_characters tt_begins tt_lengths tt_stemLengths tt_places tt_addresses tt_smalls tt_stems tt_slots tt_nexts h) (cwV 0 hts gX4_stem_X4_endOfPast rfl rfl rfl hdX4_endOfPast ⟨Nat.le_of_ble_eq_true rfl, Nat.le_of_ble_eq_true rfl⟩) (va_recv hK hP (ci := 3) (q0 := 3) rfl rfl) hK hP hD hS hA hI rfl hl.1 rfl (Nat.le_of_ble_eq_true rfl) dX4_stem_96 ⟨Nat.zero_le _, Nat.zero_le _⟩ (fun u H locs h hP hD hS => ?_)
      obtain ⟨st_size_7, st_word_8, st_vowels_9⟩ := u
      have hP : va_P (dC, dI) vwCl (xW ad cI cZ lt_count lw_begin lw_end lw_depth lw_signed lw_led pr_written pr_within st_size_7 tx_size tt_count tt_pieces tt_kinds lt_begins lt_marks st_word_8 st_vowels_9 tx_characters tt_begins tt_lengths tt_stemLengths tt_places tt_addresses tt_smalls tt_stems tt_slots tt_nexts) H := hP
      have hD : va_D A (xW ad cI cZ lt_count lw_begin lw_end lw_depth lw_signed lw_led pr_written pr_within st_size_7 tx_size tt_count tt_pieces tt_kinds lt_begins lt_marks st_word_8 st_vowels_9 tx_characters tt_begins tt_lengths tt_stemLengths tt_places tt_addresses tt_smalls tt_stems tt_slots tt_nexts) := hD
      refine lv_aload_n hx hb dX4_stem_99 rfl (lv_at hl 0 rfl) ?_
      refine xc_vv (As := []) (rest := []) xG Fx (sX4_endOfY l dC dI ad cI cZ sa sv lt_count lw_begin lw_end lw_depth lw_signed lw_led pr_written pr_within st_size_7 tx_size tt_count tt_pieces tt_kinds lt_begins lt_marks st_word_8 st_vowels_9 tx_characters tt_begins tt_lengths tt_stemLengths tt_places tt_addresses tt_smalls tt_stems tt_slots tt_nexts h) (cwV 0 hts gX4_stem_X4_endOfY rfl rfl rfl hdX4_endOfY ⟨Nat.le_of_ble_eq_true rfl, Nat.le_of_ble_eq_true rfl⟩) (va_recv hK hP (ci := 3) (q0 := 3) rfl rfl) hK hP hD hS hA hI rfl hl.1 rfl (Nat.le_of_ble_eq_true rfl) dX4_stem_100 ⟨Nat.zero_le _, Nat.zero_le _⟩ (fun u H locs h hP hD hS => ?_)
      obtain ⟨st_size_11, st_word_12, st_vowels_13⟩ := u
      have hP : va_P (dC, dI) vwCl (xW ad cI cZ lt_count lw_begin lw_end lw_depth lw_signed lw_led pr_written pr_within st_size_11 tx_size tt_count tt_pieces tt_kinds lt_begins lt_marks st_word_12 st_vowels_13 tx_characters tt_begins tt_lengths tt_stemLengths tt_places tt_addresses tt_smalls tt_stems tt_slots tt_nexts) H := hP
      have hD : va_D A (xW ad cI cZ lt_count lw_begin lw_end lw_depth lw_signed lw_led pr_written pr_within st_size_11 tx_size tt_count tt_pieces tt_kinds lt_begins lt_marks st_word_12 st_vowels_13 tx_characters tt_begins tt_lengths tt_stemLengths tt_places tt_addresses tt_smalls tt_stems tt_slots tt_nexts) := hD
      refine lv_aload_n hx hb dX4_stem_103 rfl (lv_at hl 0 rfl) ?_
      refine xc_vi (As := []) (rest := []) xG Fx (sX4_secondStep l dC dI ad cI cZ sa sv lt_count lw_begin lw_end lw_depth lw_signed lw_led pr_written pr_within st_size_11 tx_size tt_count tt_pieces tt_kinds lt_begins lt_marks st_word_12 st_vowels_13 tx_characters tt_begins tt_lengths tt_stemLengths tt_places tt_addresses tt_smalls tt_stems tt_slots tt_nexts h) (cwV 0 hts gX4_stem_X4_secondStep rfl rfl rfl hdX4_secondStep ⟨Nat.le_of_ble_eq_true rfl, Nat.le_of_ble_eq_true rfl⟩) (va_recv hK hP (ci := 3) (q0 := 3) rfl rfl) hK hP hD hS hA hI rfl hl.1 rfl (Nat.le_of_ble_eq_true rfl) dX4_stem_104 ⟨Nat.zero_le _, Nat.zero_le _⟩ (fun r_14 u H locs h hP hD hS => ?_)
      obtain ⟨st_size_15, st_word_16, st_vowels_17⟩ := u
      have hP : va_P (dC, dI) vwCl (xW ad cI cZ lt_count lw_begin lw_end lw_depth lw_signed lw_led pr_written pr_within st_size_15 tx_size tt_count tt_pieces tt_kinds lt_begins lt_marks st_word_16 st_vowels_17 tx_characters tt_begins tt_lengths tt_stemLengths tt_places tt_addresses tt_smalls tt_stems tt_slots tt_nexts) H := hP
      have hD : va_D A (xW ad cI cZ lt_count lw_begin lw_end lw_depth lw_signed lw_led pr_written pr_within st_size_15 tx_size tt_count tt_pieces tt_kinds lt_begins lt_marks st_word_16 st_vowels_17 tx_characters tt_begins tt_lengths tt_stemLengths tt_places tt_addresses tt_smalls tt_stems tt_slots tt_nexts) := hD
      refine lv_pop hx hb dX4_stem_107 rfl ?_
      refine lv_aload_n hx hb dX4_stem_108 rfl (lv_at hl 0 rfl) ?_
      refine xc_vi (As := []) (rest := []) xG Fx (sX4_thirdStep l dC dI ad cI cZ sa sv lt_count lw_begin lw_end lw_depth lw_signed lw_led pr_written pr_within st_size_15 tx_size tt_count tt_pieces tt_kinds lt_begins lt_marks st_word_16 st_vowels_17 tx_characters tt_begins tt_lengths tt_stemLengths tt_places tt_addresses tt_smalls tt_stems tt_slots tt_nexts h) (cwV 0 hts gX4_stem_X4_thirdStep rfl rfl rfl hdX4_thirdStep ⟨Nat.le_of_ble_eq_true rfl, Nat.le_of_ble_eq_true rfl⟩) (va_recv hK hP (ci := 3) (q0 := 3) rfl rfl) hK hP hD hS hA hI rfl hl.1 rfl (Nat.le_of_ble_eq_true rfl) dX4_stem_109 ⟨Nat.zero_le _, Nat.zero_le _⟩ (fun r_18 u H locs h hP hD hS => ?_)
      obtain ⟨st_size_19, st_word_20, st_vowels_21⟩ := u
      have hP : va_P (dC, dI) vwCl (xW ad cI cZ lt_count lw_begin lw_end lw_depth lw_signed lw_led pr_written pr_within st_size_19 tx_size tt_count tt_pieces tt_kinds lt_begins lt_marks st_word_20 st_vowels_21 tx_characters tt_begins tt_lengths tt_stemLengths tt_places tt_addresses tt_smalls tt_stems tt_slots tt_nexts) H := hP
      have hD : va_D A (xW ad cI cZ lt_count lw_begin lw_end lw_depth lw_signed lw_led pr_written pr_within st_size_19 tx_size tt_count tt_pieces tt_kinds lt_begins lt_marks st_word_20 st_vowels_21 tx_characters tt_begins tt_lengths tt_stemLengths tt_places tt_addresses tt_smalls tt_stems tt_slots tt_nexts) := hD
      refine lv_pop hx hb dX4_stem_112 rfl ?_
      refine lv_aload_n hx hb dX4_stem_113 rfl (lv_at hl 0 rfl) ?_
      refine xc_vi (As := []) (rest := []) xG Fx (sX4_fourthStep l dC dI ad cI cZ sa sv lt_count lw_begin lw_end lw_depth lw_signed lw_led pr_written pr_within st_size_19 tx_size tt_count tt_pieces tt_kinds lt_begins lt_marks st_word_20 st_vowels_21 tx_characters tt_begins tt_lengths tt_stemLengths tt_places tt_addresses tt_smalls tt_stems tt_slots tt_nexts h) (cwV 0 hts gX4_stem_X4_fourthStep rfl rfl rfl hdX4_fourthStep ⟨Nat.le_of_ble_eq_true rfl, Nat.le_of_ble_eq_true rfl⟩) (va_recv hK hP (ci := 3) (q0 := 3) rfl rfl) hK hP hD hS hA hI rfl hl.1 rfl (Nat.le_of_ble_eq_true rfl) dX4_stem_114 ⟨Nat.zero_le _, Nat.zero_le _⟩ (fun r_22 u H locs h hP hD hS => ?_)
      obtain ⟨st_size_23, st_word_24, st_vowels_25⟩ := u
      have hP : va_P (dC, dI) vwCl (xW ad cI cZ lt_count lw_begin lw_end lw_depth lw_signed lw_led pr_written pr_within st_size_23 tx_size tt_count tt_pieces tt_kinds lt_begins lt_marks st_word_24 st_vowels_25 tx_characters tt_begins tt_lengths tt_stemLengths tt_places tt_addresses tt_smalls tt_stems tt_slots tt_nexts) H := hP
      have hD : va_D A (xW ad cI cZ lt_count lw_begin lw_end lw_depth lw_signed lw_led pr_written pr_within st_size_23 tx_size tt_count tt_pieces tt_kinds lt_begins lt_marks st_word_24 st_vowels_25 tx_characters tt_begins tt_lengths tt_stemLengths tt_places tt_addresses tt_smalls tt_stems tt_slots tt_nexts) := hD
      refine lv_pop hx hb dX4_stem_117 rfl ?_
      refine lv_aload_n hx hb dX4_stem_118 rfl (lv_at hl 0 rfl) ?_
      refine xc_vv (As := []) (rest := []) xG Fx (sX4_fifthStep l dC dI ad cI cZ sa sv lt_count lw_begin lw_end lw_depth lw_signed lw_led pr_written pr_within st_size_23 tx_size tt_count tt_pieces tt_kinds lt_begins lt_marks st_word_24 st_vowels_25 tx_characters tt_begins tt_lengths tt_stemLengths tt_places tt_addresses tt_smalls tt_stems tt_slots tt_nexts h) (cwV 0 hts gX4_stem_X4_fifthStep rfl rfl rfl hdX4_fifthStep ⟨Nat.le_of_ble_eq_true rfl, Nat.le_of_ble_eq_true rfl⟩) (va_recv hK hP (ci := 3) (q0 := 3) rfl rfl) hK hP hD hS hA hI rfl hl.1 rfl (Nat.le_of_ble_eq_true rfl) dX4_stem_119 ⟨Nat.zero_le _, Nat.zero_le _⟩ (fun u H locs h hP hD hS => ?_)
      obtain ⟨st_size_27, st_word_28, st_vowels_29⟩ := u
      have hP : va_P (dC, dI) vwCl (xW ad cI cZ lt_count lw_begin lw_end lw_depth lw_signed lw_led pr_written pr_within st_size_27 tx_size tt_count tt_pieces tt_kinds lt_begins lt_marks st_word_28 st_vowels_29 tx_characters tt_begins tt_lengths tt_stemLengths tt_places tt_addresses tt_smalls tt_stems tt_slots tt_nexts) H := hP
      have hD : va_D A (xW ad cI cZ lt_count lw_begin lw_end lw_depth lw_signed lw_led pr_written pr_within st_size_27 tx_size tt_count tt_pieces tt_kinds lt_begins lt_marks st_word_28 st_vowels_29 tx_characters tt_begins tt_lengths tt_stemLengths tt_places tt_addresses tt_smalls tt_stems tt_slots tt_nexts) := hD
      exact J122 st_size_27 st_word_28 st_vowels_29 tt_stems H locs ls (lv_sub hl [0, 1, 2] rfl) hP hD hS h
  have L21 : ∀ (tt_stems : Nat → Int32) (n : Nat) (st_size : Int32) (st_word : Nat → Int32) (st_vowels : Nat → Int32) (x5 : Int32) (x6 : Int32) (H : Heap) (locs : List Loc) (ls : Array Slot), lv_has ls 7 [(0, .ref (ad 3)), (1, .ref (ad 17)), (2, .ref (ad 18)), (3, .int x3), (4, .int x4), (5, .int x5), (6, .int x6)] → va_P (dC, dI) vwCl (xW ad cI cZ lt_count lw_begin lw_end lw_depth lw_signed lw_led pr_written pr_within st_size tx_size tt_count tt_pieces tt_kinds lt_begins lt_marks st_word st_vowels tx_characters tt_begins tt_lengths tt_stemLengths tt_places tt_addresses tt_smalls tt_stems tt_slots tt_nexts) H → va_D A (xW ad cI cZ lt_count lw_begin lw_end lw_depth lw_signed lw_led pr_written pr_within st_size tx_size tt_count tt_pieces tt_kinds lt_begins lt_marks st_word st_vowels tx_characters tt_begins tt_lengths tt_stemLengths tt_places tt_addresses tt_smalls tt_stems tt_slots tt_nexts) → va_S A s.heap H locs → wlX4_stem_tt_smalls_tt_stems_21 post tt_smalls x3 x4 tt_stems n st_size st_word st_vowels x5 x6 → W p l e (headSpec wsX4_stem ({ frames := 7, cells := 0, slots := 0, locals := 153 })).room s m ([.ref (ad 3), .ref (ad 17), .ref (ad 18), .int x3, .int x4] : List Value).toArray below meth c H locs 0 0 (MQ below Qc ([.ref (ad 3), .ref (ad 17), .ref (ad 18), .int x3, .int x4] : List Value).toArray s 0 0 A) (F0 m 21 ls []) := by
    intro tt_stems
    intro n
    induction n with
    | zero => intro st_size st_word st_vowels x5 x6 H locs ls _ _ _ _ h; exact absurd h (fun z => z)
    | succ n21 ih21 =>
      intro st_size st_word st_vowels x5 x6 H locs ls hl hP hD hS h
      have J70 : ∀ (st_size : Int32) (st_word : Nat → Int32) (st_vowels : Nat → Int32) (x6 : Int32) (s0 : Int32) (H : Heap) (locs : List Loc) (ls : Array Slot), lv_has ls 7 [(0, .ref (ad 3)), (1, .ref (ad 17)), (2, .ref (ad 18)), (3, .int x3), (4, .int x4), (6, .int x6)] → va_P (dC, dI) vwCl (xW ad cI cZ lt_count lw_begin lw_end lw_depth lw_signed lw_led pr_written pr_within st_size tx_size tt_count tt_pieces tt_kinds lt_begins lt_marks st_word st_vowels tx_characters tt_begins tt_lengths tt_stemLengths tt_places tt_addresses tt_smalls tt_stems tt_slots tt_nexts) H → va_D A (xW ad cI cZ lt_count lw_begin lw_end lw_depth lw_signed lw_led pr_written pr_within st_size tx_size tt_count tt_pieces tt_kinds lt_begins lt_marks st_word st_vowels tx_characters tt_begins tt_lengths tt_stemLengths tt_places tt_addresses tt_smalls tt_stems tt_slots tt_nexts) → va_S A s.heap H locs → wjX4_stem_tt_smalls_tt_stems_70 (fun st_size st_word st_vowels x5 x6 => wlX4_stem_tt_smalls_tt_stems_21 post tt_smalls x3 x4 tt_stems n21 st_size st_word st_vowels x5 x6) post tt_smalls x3 x4 st_size st_word st_vowels tt_stems x6 s0 → W p l e (headSpec wsX4_stem ({ frames := 7, cells := 0, slots := 0, locals := 153 })).room s m ([.ref (ad 3), .ref (ad 17), .ref (ad 18), .int x3, .int x4] : List Value).toArray below meth c H locs 0 0 (MQ below Qc ([.ref (ad 3), .ref (ad 17), .ref (ad 18), .int x3, .int x4] : List Value).toArray s 0 0 A) (F0 m 70 ls [.int s0]) := by
        intro st_size st_word st_vowels x6 s0 H locs ls hl hP hD hS h
        delta wjX4_stem_tt_smalls_tt_stems_70 at h
        refine lv_istore (lv' := [(5, .int s0), (0, .ref (ad 3)), (1, .ref (ad 17)), (2, .ref (ad 18)), (3, .int x3), (4, .int x4), (6, .int x6)]) hx hb dX4_stem_70 hl (by decide) rfl (fun ls hl => ?_)
        refine lv_aload_n hx hb dX4_stem_72 rfl (lv_at hl 1 rfl) ?_
        refine lv_aload_n hx hb dX4_stem_73 rfl (lv_at hl 2 rfl) ?_
        refine lv_iload hx hb dX4_stem_74 (lv_at hl 6 rfl) ?_
        have hi9 := h.1
        have h := h.2
        refine va_iald hx hb hK hP 17 0 rfl rfl hi9 dX4_stem_76 ?_
        refine xc_vv (As := [.int (tt_smalls x6.toNatClampNeg)]) (rest := []) xG Fx (sX4_append l dC dI ad cI cZ sa sv lt_count lw_begin lw_end lw_depth lw_signed lw_led pr_written pr_within st_size tx_size tt_count tt_pieces tt_kinds lt_begins lt_marks st_word st_vowels tx_characters tt_begins tt_lengths tt_stemLengths tt_places tt_addresses tt_smalls tt_stems tt_slots tt_nexts (tt_smalls x6.toNatClampNeg) h) (cwV 1 hts gX4_stem_X4_append rfl rfl rfl hdX4_append ⟨Nat.le_of_ble_eq_true rfl, Nat.le_of_ble_eq_true rfl⟩) (va_recv hK hP (ci := 3) (q0 := 3) rfl rfl) hK hP hD hS hA hI rfl hl.1 rfl (Nat.le_of_ble_eq_true rfl) dX4_stem_77 ⟨Nat.zero_le _, Nat.zero_le _⟩ (fun u H locs h hP hD hS => ?_)
        obtain ⟨st_size_31, st_word_32, st_vowels_33⟩ := u
        have hP : va_P (dC, dI) vwCl (xW ad cI cZ lt_count lw_begin lw_end lw_depth lw_signed lw_led pr_written pr_within st_size_31 tx_size tt_count tt_pieces tt_kinds lt_begins lt_marks st_word_32 st_vowels_33 tx_characters tt_begins tt_lengths tt_stemLengths tt_places tt_addresses tt_smalls tt_stems tt_slots tt_nexts) H := hP
        have hD : va_D A (xW ad cI cZ lt_count lw_begin lw_end lw_depth lw_signed lw_led pr_written pr_within st_size_31 tx_size tt_count tt_pieces tt_kinds lt_begins lt_marks st_word_32 st_vowels_33 tx_characters tt_begins tt_lengths tt_stemLengths tt_places tt_addresses tt_smalls tt_stems tt_slots tt_nexts) := hD
        obtain ⟨x6_34, ex6_34⟩ : ∃ y : Int32, y = x6 + 1 := ⟨_, rfl⟩
        have h := h x6_34 ex6_34
        refine lv_iinc (v := x6_34) (lv' := [(6, .int x6_34), (5, .int s0), (0, .ref (ad 3)), (1, .ref (ad 17)), (2, .ref (ad 18)), (3, .int x3), (4, .int x4)]) hx hb dX4_stem_80 hl (k := 6) rfl (by rw [ex6_34]; rfl) (by decide) rfl (fun ls hl => ?_)
        refine lv_goto (tgt := 21) hx hb dX4_stem_83 (by decide) ?_
        exact ih21 st_size_31 st_word_32 st_vowels_33 s0 x6_34 H locs ls (lv_sub hl [2, 3, 4, 5, 6, 1, 0] rfl) hP hD hS h
      have J69 : ∀ (st_size : Int32) (st_word : Nat → Int32) (st_vowels : Nat → Int32) (x6 : Int32) (H : Heap) (locs : List Loc) (ls : Array Slot), lv_has ls 7 [(0, .ref (ad 3)), (1, .ref (ad 17)), (2, .ref (ad 18)), (3, .int x3), (4, .int x4), (6, .int x6)] → va_P (dC, dI) vwCl (xW ad cI cZ lt_count lw_begin lw_end lw_depth lw_signed lw_led pr_written pr_within st_size tx_size tt_count tt_pieces tt_kinds lt_begins lt_marks st_word st_vowels tx_characters tt_begins tt_lengths tt_stemLengths tt_places tt_addresses tt_smalls tt_stems tt_slots tt_nexts) H → va_D A (xW ad cI cZ lt_count lw_begin lw_end lw_depth lw_signed lw_led pr_written pr_within st_size tx_size tt_count tt_pieces tt_kinds lt_begins lt_marks st_word st_vowels tx_characters tt_begins tt_lengths tt_stemLengths tt_places tt_addresses tt_smalls tt_stems tt_slots tt_nexts) → va_S A s.heap H locs → wjX4_stem_tt_smalls_tt_stems_69 (fun st_size st_word st_vowels x5 x6 => wlX4_stem_tt_smalls_tt_stems_21 post tt_smalls x3 x4 tt_stems n21 st_size st_word st_vowels x5 x6) post tt_smalls x3 x4 st_size st_word st_vowels tt_stems x6 → W p l e (headSpec wsX4_stem ({ frames := 7, cells := 0, slots := 0, locals := 153 })).room s m ([.ref (ad 3), .ref (ad 17), .ref (ad 18), .int x3, .int x4] : List Value).toArray below meth c H locs 0 0 (MQ below Qc ([.ref (ad 3), .ref (ad 17), .ref (ad 18), .int x3, .int x4] : List Value).toArray s 0 0 A) (F0 m 69 ls []) := by
        intro st_size st_word st_vowels x6 H locs ls hl hP hD hS h
        delta wjX4_stem_tt_smalls_tt_stems_69 at h
        refine lv_iconst (v := 0) hx hb dX4_stem_69 (by decide) ?_
        exact J70 st_size st_word st_vowels x6 0 H locs ls (lv_sub hl [0, 1, 2, 3, 4, 5] rfl) hP hD hS h
      rw [wlX4_stem_tt_smalls_tt_stems_21] at h
      refine lv_iload hx hb dX4_stem_21 (lv_at hl 6 rfl) ?_
      refine lv_if_lt (tgt := 86) hx hb dX4_stem_23 (by decide) (fun c9 => ?_) (fun c9 => ?_)
      · have h := h.1 c9
        exact J86 st_size st_word st_vowels tt_stems x5 H locs ls (lv_sub hl [0, 2, 3, 5] rfl) hP hD hS h
      · have h := h.2 c9
        refine lv_iload hx hb dX4_stem_26 (lv_at hl 6 rfl) ?_
        refine lv_iload_n hx hb dX4_stem_28 rfl (lv_at hl 3 rfl) ?_
        refine lv_iload hx hb dX4_stem_29 (lv_at hl 4 rfl) ?_
        refine lv_iadd hx hb dX4_stem_31 ?_
        refine lv_icmp_ge (tgt := 86) hx hb dX4_stem_32 (by decide) (fun c9 => ?_) (fun c9 => ?_)
        · have h := h.1 c9
          exact J86 st_size st_word st_vowels tt_stems x5 H locs ls (lv_sub hl [0, 2, 3, 5] rfl) hP hD hS h
        · have h := h.2 c9
          refine lv_iload hx hb dX4_stem_35 (lv_at hl 6 rfl) ?_
          refine lv_aload_n hx hb dX4_stem_37 rfl (lv_at hl 1 rfl) ?_
          refine va_alen (v := 1500) (ty := .int) hx hb hK hP 17 0 rfl rfl rfl dX4_stem_38 ?_
          refine lv_icmp_ge (tgt := 86) hx hb dX4_stem_39 (by decide) (fun c9 => ?_) (fun c9 => ?_)
          · have h := h.1 c9
            exact J86 st_size st_word st_vowels tt_stems x5 H locs ls (lv_sub hl [0, 2, 3, 5] rfl) hP hD hS h
          · have h := h.2 c9
            refine lv_iload hx hb dX4_stem_42 (lv_at hl 5 rfl) ?_
            refine lv_if_eq (tgt := 69) hx hb dX4_stem_44 (by decide) (fun c9 => ?_) (fun c9 => ?_)
            · have h := h.1 c9
              exact J69 st_size st_word st_vowels x6 H locs ls (lv_sub hl [0, 1, 2, 3, 4, 6] rfl) hP hD hS h
            · have h := h.2 c9
              refine lv_aload_n hx hb dX4_stem_47 rfl (lv_at hl 1 rfl) ?_
              refine lv_iload hx hb dX4_stem_48 (lv_at hl 6 rfl) ?_
              have hi9 := h.1
              have h := h.2
              refine va_iald hx hb hK hP 17 0 rfl rfl hi9 dX4_stem_50 ?_
              refine lv_bipush (v := 97) hx hb dX4_stem_51 (by decide) ?_
              refine lv_icmp_lt (tgt := 69) hx hb dX4_stem_53 (by decide) (fun c9 => ?_) (fun c9 => ?_)
              · have h := h.1 c9
                exact J69 st_size st_word st_vowels x6 H locs ls (lv_sub hl [0, 1, 2, 3, 4, 6] rfl) hP hD hS h
              · have h := h.2 c9
                refine lv_aload_n hx hb dX4_stem_56 rfl (lv_at hl 1 rfl) ?_
                refine lv_iload hx hb dX4_stem_57 (lv_at hl 6 rfl) ?_
                have hi9 := h.1
                have h := h.2
                refine va_iald hx hb hK hP 17 0 rfl rfl hi9 dX4_stem_59 ?_
                refine lv_bipush (v := 122) hx hb dX4_stem_60 (by decide) ?_
                refine lv_icmp_gt (tgt := 69) hx hb dX4_stem_62 (by decide) (fun c9 => ?_) (fun c9 => ?_)
                · have h := h.1 c9
                  exact J69 st_size st_word st_vowels x6 H locs ls (lv_sub hl [0, 1, 2, 3, 4, 6] rfl) hP hD hS h
                · have h := h.2 c9
                  refine lv_iconst (v := 1) hx hb dX4_stem_65 (by decide) ?_
                  refine lv_goto (tgt := 70) hx hb dX4_stem_66 (by decide) ?_
                  exact J70 st_size st_word st_vowels x6 1 H locs ls (lv_sub hl [0, 1, 2, 3, 4, 6] rfl) hP hD hS h
  have J16 : ∀ (st_size : Int32) (st_word : Nat → Int32) (st_vowels : Nat → Int32) (tt_stems : Nat → Int32) (s0 : Int32) (H : Heap) (locs : List Loc) (ls : Array Slot), lv_has ls 7 [(0, .ref (ad 3)), (1, .ref (ad 17)), (2, .ref (ad 18)), (3, .int x3), (4, .int x4)] → va_P (dC, dI) vwCl (xW ad cI cZ lt_count lw_begin lw_end lw_depth lw_signed lw_led pr_written pr_within st_size tx_size tt_count tt_pieces tt_kinds lt_begins lt_marks st_word st_vowels tx_characters tt_begins tt_lengths tt_stemLengths tt_places tt_addresses tt_smalls tt_stems tt_slots tt_nexts) H → va_D A (xW ad cI cZ lt_count lw_begin lw_end lw_depth lw_signed lw_led pr_written pr_within st_size tx_size tt_count tt_pieces tt_kinds lt_begins lt_marks st_word st_vowels tx_characters tt_begins tt_lengths tt_stemLengths tt_places tt_addresses tt_smalls tt_stems tt_slots tt_nexts) → va_S A s.heap H locs → wjX4_stem_tt_smalls_tt_stems_16 post tt_smalls x3 x4 st_size st_word st_vowels tt_stems s0 → W p l e (headSpec wsX4_stem ({ frames := 7, cells := 0, slots := 0, locals := 153 })).room s m ([.ref (ad 3), .ref (ad 17), .ref (ad 18), .int x3, .int x4] : List Value).toArray below meth c H locs 0 0 (MQ below Qc ([.ref (ad 3), .ref (ad 17), .ref (ad 18), .int x3, .int x4] : List Value).toArray s 0 0 A) (F0 m 16 ls [.int s0]) := by
    intro st_size st_word st_vowels tt_stems s0 H locs ls hl hP hD hS h
    delta wjX4_stem_tt_smalls_tt_stems_16 at h
    refine lv_istore (lv' := [(5, .int s0), (0, .ref (ad 3)), (1, .ref (ad 17)), (2, .ref (ad 18)), (3, .int x3), (4, .int x4)]) hx hb dX4_stem_16 hl (by decide) rfl (fun ls hl => ?_)
    refine lv_iload_n hx hb dX4_stem_18 rfl (lv_at hl 4 rfl) ?_
    refine lv_istore (lv' := [(6, .int x3), (5, .int s0), (0, .ref (ad 3)), (1, .ref (ad 17)), (2, .ref (ad 18)), (3, .int x3), (4, .int x4)]) hx hb dX4_stem_19 hl (by decide) rfl (fun ls hl => ?_)
    obtain ⟨n, h⟩ := h
    exact L21 tt_stems n st_size st_word st_vowels s0 x3 H locs ls (lv_sub hl [2, 3, 4, 5, 6, 1, 0] rfl) hP hD hS h
  intro H locs hP hD hS
  delta wpX4_stem_tt_smalls_tt_stems at h
  refine lv_aload_n hx hb dX4_stem_0 rfl (lv_at hl 0 rfl) ?_
  refine lv_iconst (v := 0) hx hb dX4_stem_1 (by decide) ?_
  refine va_put (D := (dC, dI)) (ci := 3) (v := .int 0) (ty := .int) (C := RX4) (T := TX4) (N := 3) hx hb hts inX4 tyX4 tyX4_ok nmX4 hown hK hP hD hS 3 rfl rfl 2 (by decide) (hts (.fieldLink RX4 19 "MailWords$Stemmer" "size" "I") (List.mem_of_getElem? (i := 1) rfl)) (fun _ h9 => h9) rfl (tyX4_ok 2 (by decide)) rfl rfl (Nat.le_of_ble_eq_true rfl) dX4_stem_2 (fun H locs hP hD hS => ?_)
  have hP : va_P (dC, dI) vwCl (xW ad cI cZ lt_count lw_begin lw_end lw_depth lw_signed lw_led pr_written pr_within 0 tx_size tt_count tt_pieces tt_kinds lt_begins lt_marks st_word st_vowels tx_characters tt_begins tt_lengths tt_stemLengths tt_places tt_addresses tt_smalls tt_stems tt_slots tt_nexts) H := hP
  have hD : va_D A (xW ad cI cZ lt_count lw_begin lw_end lw_depth lw_signed lw_led pr_written pr_within 0 tx_size tt_count tt_pieces tt_kinds lt_begins lt_marks st_word st_vowels tx_characters tt_begins tt_lengths tt_stemLengths tt_places tt_addresses tt_smalls tt_stems tt_slots tt_nexts) := hD
  refine lv_iload hx hb dX4_stem_5 (lv_at hl 4 rfl) ?_
  refine lv_iconst (v := 3) hx hb dX4_stem_7 (by decide) ?_
  refine lv_icmp_lt (tgt := 15) hx hb dX4_stem_8 (by decide) (fun c9 => ?_) (fun c9 => ?_)
  · have h := h.1 c9
    refine lv_iconst (v := 0) hx hb dX4_stem_15 (by decide) ?_
    exact J16 0 st_word st_vowels tt_stems 0 H locs ls (lv_sub hl [0, 1, 2, 3, 4] rfl) hP hD hS h
  · have h := h.2 c9
    refine lv_iconst (v := 1) hx hb dX4_stem_11 (by decide) ?_
    refine lv_goto (tgt := 16) hx hb dX4_stem_12 (by decide) ?_
    exact J16 0 st_word st_vowels tt_stems 1 H locs ls (lv_sub hl [0, 1, 2, 3, 4] rfl) hP hD hS h
set_option maxHeartbeats 4000000 in
set_option maxRecDepth 100000 in
theorem sX6_characterOf_tt_smalls (l : Launch) (dC : Nat → ClassId) (dI : Nat → Nat → Nat) (ad : Nat → Nat) (cI cZ : ClassId) (sa sv : Nat → Nat) (lt_count : Int32) (lw_begin : Int32) (lw_end : Int32) (lw_depth : Int32) (lw_signed : Int32) (lw_led : Int32) (pr_written : Int32) (pr_within : Int32) (st_size : Int32) (tx_size : Int32) (tt_count : Int32) (tt_pieces : Int32) (tt_kinds : Int32) (lt_begins : Nat → Int32) (lt_marks : Nat → Int32) (st_word : Nat → Int32) (st_vowels : Nat → Int32) (tx_characters : Nat → Int32) (tt_begins : Nat → Int32) (tt_lengths : Nat → Int32) (tt_stemLengths : Nat → Int32) (tt_places : Nat → Int32) (tt_addresses : Nat → Int32) (tt_smalls : Nat → Int32) (tt_stems : Nat → Int32) (tt_slots : Nat → Int32) (tt_nexts : Nat → Int32) (x1 : Int32) {post : Int32 → Prop} (h : wpX6_characterOf_tt_smalls post tt_smalls x1) : xMi l (dC, dI) vwCl [(cI, .int), (cZ, .boolean)] (sI sa sv) yX6_characterOf wsX6_characterOf ({ frames := 0, cells := 0, slots := 0, locals := 0 }) (xW ad cI cZ lt_count lw_begin lw_end lw_depth lw_signed lw_led pr_written pr_within st_size tx_size tt_count tt_pieces tt_kinds lt_begins lt_marks st_word st_vowels tx_characters tt_begins tt_lengths tt_stemLengths tt_places tt_addresses tt_smalls tt_stems tt_slots tt_nexts) [.ref (ad 17), .int x1] (fun (r : Int32) (u : Unit) => post r ) (fun u : Unit => (xW ad cI cZ lt_count lw_begin lw_end lw_depth lw_signed lw_led pr_written pr_within st_size tx_size tt_count tt_pieces tt_kinds lt_begins lt_marks st_word st_vowels tx_characters tt_begins tt_lengths tt_stemLengths tt_places tt_addresses tt_smalls tt_stems tt_slots tt_nexts)) := by
  intro sz
  refine Met.ofW (cc := cX6_characterOf) (maxL := 2) (ret := (some .int)) (by decide) rfl ?_
  intro p e s m args below meth c s₁ B hml hv
  obtain ⟨rfl, hsz, hP, hK, hD0, hI⟩ := hv
  have hx := B.exec
  have hb := B.bytes
  have hr := B.returns
  have hts := atoms_spec (ws := wsX6_characterOf) B.pre
  have hown : s.vm.findClass RX6 = some m.cls := findClass_of_methodNamed B.named
  have hlocks := B.notSynchronized
  subst hsz
  have hD := hD0.self (sz := s.heap.size)
  generalize hAe : va_A (xW ad cI cZ lt_count lw_begin lw_end lw_depth lw_signed lw_led pr_written pr_within st_size tx_size tt_count tt_pieces tt_kinds lt_begins lt_marks st_word st_vowels tx_characters tt_begins tt_lengths tt_stemLengths tt_places tt_addresses tt_smalls tt_stems tt_slots tt_nexts) s.heap.size = A at hD hI ⊢
  have hA : ∀ q : Nat, s.heap.size ≤ q → A q := fun q h => by rw [← hAe]; exact Or.inr h
  have hS : va_S A s.heap s.heap [] := va_S.rf
  have Fx : CallFix p m c cX6_characterOf 2 s ([.ref (ad 17), .int x1] : List Value).toArray wsX6_characterOf RX6 := ⟨hx, hb, hml, hown, hts⟩
  have hQ : ∀ (r : Int32) (u : Unit) (t : State), (fun (r : Int32) (u : Unit) => post r ) r u → va_P (dC, dI) vwCl ((fun u : Unit => (xW ad cI cZ lt_count lw_begin lw_end lw_depth lw_signed lw_led pr_written pr_within st_size tx_size tt_count tt_pieces tt_kinds lt_begins lt_marks st_word st_vowels tx_characters tt_begins tt_lengths tt_stemLengths tt_places tt_addresses tt_smalls tt_stems tt_slots tt_nexts)) u) t.heap → va_K (dC, dI) vwCl [(cI, .int), (cZ, .boolean)] t → va_D A ((fun u : Unit => (xW ad cI cZ lt_count lw_begin lw_end lw_depth lw_signed lw_led pr_written pr_within st_size tx_size tt_count tt_pieces tt_kinds lt_begins lt_marks st_word st_vowels tx_characters tt_begins tt_lengths tt_stemLengths tt_places tt_addresses tt_smalls tt_stems tt_slots tt_nexts)) u) → va_F A s t → (va_Qi (fun (r : Int32) (u : Unit) => post r ) (xB (dC, dI) vwCl [(cI, .int), (cZ, .boolean)] A (fun u : Unit => (xW ad cI cZ lt_count lw_begin lw_end lw_depth lw_signed lw_led pr_written pr_within st_size tx_size tt_count tt_pieces tt_kinds lt_begins lt_marks st_word st_vowels tx_characters tt_begins tt_lengths tt_stemLengths tt_places tt_addresses tt_smalls tt_stems tt_slots tt_nexts))) A) ([.ref (ad 17), .int x1] : List Value).toArray s (.returned (some (.int r))) t := fun r u t h1 h2 h3 h4 h5 => ⟨⟨r, u, rfl, h1, h2, h3, h4⟩, h5⟩
  generalize (va_Qi (fun (r : Int32) (u : Unit) => post r ) (xB (dC, dI) vwCl [(cI, .int), (cZ, .boolean)] A (fun u : Unit => (xW ad cI cZ lt_count lw_begin lw_end lw_depth lw_signed lw_led pr_written pr_within st_size tx_size tt_count tt_pieces tt_kinds lt_begins lt_marks st_word st_vowels tx_characters tt_begins tt_lengths tt_stemLengths tt_places tt_addresses tt_smalls tt_stems tt_slots tt_nexts))) A) = Qc at hQ ⊢
  have hl := lv_entry ([.ref (ad 17), .int x1]) (n := 2) (Nat.le_of_ble_eq_true rfl)
  rw [lg_entry_eq]
  generalize (lg_sl ([.ref (ad 17), .int x1]) ++ List.replicate (2 - (lg_sl ([.ref (ad 17), .int x1])).length) Slot.unset).toArray = ls at hl ⊢
  have hl : lv_has ls 2 [(0, .ref (ad 17)), (1, .int x1)] := hl
  refine (fun (key : ∀ (H : Heap) (locs : List Loc), va_P (dC, dI) vwCl (xW ad cI cZ lt_count lw_begin lw_end lw_depth lw_signed lw_led pr_written pr_within st_size tx_size tt_count tt_pieces tt_kinds lt_begins lt_marks st_word st_vowels tx_characters tt_begins tt_lengths tt_stemLengths tt_places tt_addresses tt_smalls tt_stems tt_slots tt_nexts) H → va_D A (xW ad cI cZ lt_count lw_begin lw_end lw_depth lw_signed lw_led pr_written pr_within st_size tx_size tt_count tt_pieces tt_kinds lt_begins lt_marks st_word st_vowels tx_characters tt_begins tt_lengths tt_stemLengths tt_places tt_addresses tt_smalls tt_stems tt_slots tt_nexts) → va_S A s.heap H locs → W p l e (headSpec wsX6_characterOf ({ frames := 0, cells := 0, slots := 0, locals := 0 })).room s m ([.ref (ad 17), .int x1] : List Value).toArray below meth c H locs 0 0 (MQ below Qc ([.ref (ad 17), .int x1] : List Value).toArray s 0 0 A) (F0 m 0 ls [])) => key _ _ hP hD hS) ?_
  intro H locs hP hD hS
  delta wpX6_characterOf_tt_smalls at h
  refine lv_iload_n hx hb dX6_characterOf_0 rfl (lv_at hl 1 rfl) ?_
  refine lv_if_lt (tgt := 16) hx hb dX6_characterOf_1 (by decide) (fun c9 => ?_) (fun c9 => ?_)
  · have h := h.1 c9
    refine lv_iconst (v := (-1)) hx hb dX6_characterOf_16 (by decide) ?_
    exact W.iret (v := (-1)) hx hb hr (fun t ht hW => hQ (-1) () t h (by rw [ht]; exact hP) (va_K.moved hW.alike hK) hD (hS.F ht)) hS.2.2 dX6_characterOf_17
  · have h := h.2 c9
    refine lv_iload_n hx hb dX6_characterOf_4 rfl (lv_at hl 1 rfl) ?_
    refine lv_aload_n hx hb dX6_characterOf_5 rfl (lv_at hl 0 rfl) ?_
    refine va_alen (v := 1500) (ty := .int) hx hb hK hP 17 0 rfl rfl rfl dX6_characterOf_6 ?_
    refine lv_icmp_ge (tgt := 16) hx hb dX6_characterOf_7 (by decide) (fun c9 => ?_) (fun c9 => ?_)
    · have h := h.1 c9
      refine lv_iconst (v := (-1)) hx hb dX6_characterOf_16 (by decide) ?_
      exact W.iret (v := (-1)) hx hb hr (fun t ht hW => hQ (-1) () t h (by rw [ht]; exact hP) (va_K.moved hW.alike hK) hD (hS.F ht)) hS.2.2 dX6_characterOf_17
    · have h := h.2 c9
      refine lv_aload_n hx hb dX6_characterOf_10 rfl (lv_at hl 0 rfl) ?_
      refine lv_iload_n hx hb dX6_characterOf_11 rfl (lv_at hl 1 rfl) ?_
      have hi9 := h.1
      have h := h.2
      refine va_iald hx hb hK hP 17 0 rfl rfl hi9 dX6_characterOf_12 ?_
      refine lv_goto (tgt := 17) hx hb dX6_characterOf_13 (by decide) ?_
      exact W.iret (v := (tt_smalls x1.toNatClampNeg)) hx hb hr (fun t ht hW => hQ (tt_smalls x1.toNatClampNeg) () t h (by rw [ht]; exact hP) (va_K.moved hW.alike hK) hD (hS.F ht)) hS.2.2 dX6_characterOf_17
set_option maxHeartbeats 4000000 in
set_option maxRecDepth 100000 in
theorem sX6_characterOf_tt_stems (l : Launch) (dC : Nat → ClassId) (dI : Nat → Nat → Nat) (ad : Nat → Nat) (cI cZ : ClassId) (sa sv : Nat → Nat) (lt_count : Int32) (lw_begin : Int32) (lw_end : Int32) (lw_depth : Int32) (lw_signed : Int32) (lw_led : Int32) (pr_written : Int32) (pr_within : Int32) (st_size : Int32) (tx_size : Int32) (tt_count : Int32) (tt_pieces : Int32) (tt_kinds : Int32) (lt_begins : Nat → Int32) (lt_marks : Nat → Int32) (st_word : Nat → Int32) (st_vowels : Nat → Int32) (tx_characters : Nat → Int32) (tt_begins : Nat → Int32) (tt_lengths : Nat → Int32) (tt_stemLengths : Nat → Int32) (tt_places : Nat → Int32) (tt_addresses : Nat → Int32) (tt_smalls : Nat → Int32) (tt_stems : Nat → Int32) (tt_slots : Nat → Int32) (tt_nexts : Nat → Int32) (x1 : Int32) {post : Int32 → Prop} (h : wpX6_characterOf_tt_stems post tt_stems x1) : xMi l (dC, dI) vwCl [(cI, .int), (cZ, .boolean)] (sI sa sv) yX6_characterOf wsX6_characterOf ({ frames := 0, cells := 0, slots := 0, locals := 0 }) (xW ad cI cZ lt_count lw_begin lw_end lw_depth lw_signed lw_led pr_written pr_within st_size tx_size tt_count tt_pieces tt_kinds lt_begins lt_marks st_word st_vowels tx_characters tt_begins tt_lengths tt_stemLengths tt_places tt_addresses tt_smalls tt_stems tt_slots tt_nexts) [.ref (ad 18), .int x1] (fun (r : Int32) (u : Unit) => post r ) (fun u : Unit => (xW ad cI cZ lt_count lw_begin lw_end lw_depth lw_signed lw_led pr_written pr_within st_size tx_size tt_count tt_pieces tt_kinds lt_begins lt_marks st_word st_vowels tx_characters tt_begins tt_lengths tt_stemLengths tt_places tt_addresses tt_smalls tt_stems tt_slots tt_nexts)) := by
  intro sz
  refine Met.ofW (cc := cX6_characterOf) (maxL := 2) (ret := (some .int)) (by decide) rfl ?_
  intro p e s m args below meth c s₁ B hml hv
  obtain ⟨rfl, hsz, hP, hK, hD0, hI⟩ := hv
  have hx := B.exec
  have hb := B.bytes
  have hr := B.returns
  have hts := atoms_spec (ws := wsX6_characterOf) B.pre
  have hown : s.vm.findClass RX6 = some m.cls := findClass_of_methodNamed B.named
  have hlocks := B.notSynchronized
  subst hsz
  have hD := hD0.self (sz := s.heap.size)
  generalize hAe : va_A (xW ad cI cZ lt_count lw_begin lw_end lw_depth lw_signed lw_led pr_written pr_within st_size tx_size tt_count tt_pieces tt_kinds lt_begins lt_marks st_word st_vowels tx_characters tt_begins tt_lengths tt_stemLengths tt_places tt_addresses tt_smalls tt_stems tt_slots tt_nexts) s.heap.size = A at hD hI ⊢
  have hA : ∀ q : Nat, s.heap.size ≤ q → A q := fun q h => by rw [← hAe]; exact Or.inr h
  have hS : va_S A s.heap s.heap [] := va_S.rf
  have Fx : CallFix p m c cX6_characterOf 2 s ([.ref (ad 18), .int x1] : List Value).toArray wsX6_characterOf RX6 := ⟨hx, hb, hml, hown, hts⟩
  have hQ : ∀ (r : Int32) (u : Unit) (t : State), (fun (r : Int32) (u : Unit) => post r ) r u → va_P (dC, dI) vwCl ((fun u : Unit => (xW ad cI cZ lt_count lw_begin lw_end lw_depth lw_signed lw_led pr_written pr_within st_size tx_size tt_count tt_pieces tt_kinds lt_begins lt_marks st_word st_vowels tx_characters tt_begins tt_lengths tt_stemLengths tt_places tt_addresses tt_smalls tt_stems tt_slots tt_nexts)) u) t.heap → va_K (dC, dI) vwCl [(cI, .int), (cZ, .boolean)] t → va_D A ((fun u : Unit => (xW ad cI cZ lt_count lw_begin lw_end lw_depth lw_signed lw_led pr_written pr_within st_size tx_size tt_count tt_pieces tt_kinds lt_begins lt_marks st_word st_vowels tx_characters tt_begins tt_lengths tt_stemLengths tt_places tt_addresses tt_smalls tt_stems tt_slots tt_nexts)) u) → va_F A s t → (va_Qi (fun (r : Int32) (u : Unit) => post r ) (xB (dC, dI) vwCl [(cI, .int), (cZ, .boolean)] A (fun u : Unit => (xW ad cI cZ lt_count lw_begin lw_end lw_depth lw_signed lw_led pr_written pr_within st_size tx_size tt_count tt_pieces tt_kinds lt_begins lt_marks st_word st_vowels tx_characters tt_begins tt_lengths tt_stemLengths tt_places tt_addresses tt_smalls tt_stems tt_slots tt_nexts))) A) ([.ref (ad 18), .int x1] : List Value).toArray s (.returned (some (.int r))) t := fun r u t h1 h2 h3 h4 h5 => ⟨⟨r, u, rfl, h1, h2, h3, h4⟩, h5⟩
  generalize (va_Qi (fun (r : Int32) (u : Unit) => post r ) (xB (dC, dI) vwCl [(cI, .int), (cZ, .boolean)] A (fun u : Unit => (xW ad cI cZ lt_count lw_begin lw_end lw_depth lw_signed lw_led pr_written pr_within st_size tx_size tt_count tt_pieces tt_kinds lt_begins lt_marks st_word st_vowels tx_characters tt_begins tt_lengths tt_stemLengths tt_places tt_addresses tt_smalls tt_stems tt_slots tt_nexts))) A) = Qc at hQ ⊢
  have hl := lv_entry ([.ref (ad 18), .int x1]) (n := 2) (Nat.le_of_ble_eq_true rfl)
  rw [lg_entry_eq]
  generalize (lg_sl ([.ref (ad 18), .int x1]) ++ List.replicate (2 - (lg_sl ([.ref (ad 18), .int x1])).length) Slot.unset).toArray = ls at hl ⊢
  have hl : lv_has ls 2 [(0, .ref (ad 18)), (1, .int x1)] := hl
  refine (fun (key : ∀ (H : Heap) (locs : List Loc), va_P (dC, dI) vwCl (xW ad cI cZ lt_count lw_begin lw_end lw_depth lw_signed lw_led pr_written pr_within st_size tx_size tt_count tt_pieces tt_kinds lt_begins lt_marks st_word st_vowels tx_characters tt_begins tt_lengths tt_stemLengths tt_places tt_addresses tt_smalls tt_stems tt_slots tt_nexts) H → va_D A (xW ad cI cZ lt_count lw_begin lw_end lw_depth lw_signed lw_led pr_written pr_within st_size tx_size tt_count tt_pieces tt_kinds lt_begins lt_marks st_word st_vowels tx_characters tt_begins tt_lengths tt_stemLengths tt_places tt_addresses tt_smalls tt_stems tt_slots tt_nexts) → va_S A s.heap H locs → W p l e (headSpec wsX6_characterOf ({ frames := 0, cells := 0, slots := 0, locals := 0 })).room s m ([.ref (ad 18), .int x1] : List Value).toArray below meth c H locs 0 0 (MQ below Qc ([.ref (ad 18), .int x1] : List Value).toArray s 0 0 A) (F0 m 0 ls [])) => key _ _ hP hD hS) ?_
  intro H locs hP hD hS
  delta wpX6_characterOf_tt_stems at h
  refine lv_iload_n hx hb dX6_characterOf_0 rfl (lv_at hl 1 rfl) ?_
  refine lv_if_lt (tgt := 16) hx hb dX6_characterOf_1 (by decide) (fun c9 => ?_) (fun c9 => ?_)
  · have h := h.1 c9
    refine lv_iconst (v := (-1)) hx hb dX6_characterOf_16 (by decide) ?_
    exact W.iret (v := (-1)) hx hb hr (fun t ht hW => hQ (-1) () t h (by rw [ht]; exact hP) (va_K.moved hW.alike hK) hD (hS.F ht)) hS.2.2 dX6_characterOf_17
  · have h := h.2 c9
    refine lv_iload_n hx hb dX6_characterOf_4 rfl (lv_at hl 1 rfl) ?_
    refine lv_aload_n hx hb dX6_characterOf_5 rfl (lv_at hl 0 rfl) ?_
    refine va_alen (v := 1500) (ty := .int) hx hb hK hP 18 0 rfl rfl rfl dX6_characterOf_6 ?_
    refine lv_icmp_ge (tgt := 16) hx hb dX6_characterOf_7 (by decide) (fun c9 => ?_) (fun c9 => ?_)
    · have h := h.1 c9
      refine lv_iconst (v := (-1)) hx hb dX6_characterOf_16 (by decide) ?_
      exact W.iret (v := (-1)) hx hb hr (fun t ht hW => hQ (-1) () t h (by rw [ht]; exact hP) (va_K.moved hW.alike hK) hD (hS.F ht)) hS.2.2 dX6_characterOf_17
    · have h := h.2 c9
      refine lv_aload_n hx hb dX6_characterOf_10 rfl (lv_at hl 0 rfl) ?_
      refine lv_iload_n hx hb dX6_characterOf_11 rfl (lv_at hl 1 rfl) ?_
      have hi9 := h.1
      have h := h.2
      refine va_iald hx hb hK hP 18 0 rfl rfl hi9 dX6_characterOf_12 ?_
      refine lv_goto (tgt := 17) hx hb dX6_characterOf_13 (by decide) ?_
      exact W.iret (v := (tt_stems x1.toNatClampNeg)) hx hb hr (fun t ht hW => hQ (tt_stems x1.toNatClampNeg) () t h (by rw [ht]; exact hP) (va_K.moved hW.alike hK) hD (hS.F ht)) hS.2.2 dX6_characterOf_17
set_option maxHeartbeats 4000000 in
set_option maxRecDepth 100000 in
theorem sX6_stemCharacter (l : Launch) (dC : Nat → ClassId) (dI : Nat → Nat → Nat) (ad : Nat → Nat) (cI cZ : ClassId) (sa sv : Nat → Nat) (lt_count : Int32) (lw_begin : Int32) (lw_end : Int32) (lw_depth : Int32) (lw_signed : Int32) (lw_led : Int32) (pr_written : Int32) (pr_within : Int32) (st_size : Int32) (tx_size : Int32) (tt_count : Int32) (tt_pieces : Int32) (tt_kinds : Int32) (lt_begins : Nat → Int32) (lt_marks : Nat → Int32) (st_word : Nat → Int32) (st_vowels : Nat → Int32) (tx_characters : Nat → Int32) (tt_begins : Nat → Int32) (tt_lengths : Nat → Int32) (tt_stemLengths : Nat → Int32) (tt_places : Nat → Int32) (tt_addresses : Nat → Int32) (tt_smalls : Nat → Int32) (tt_stems : Nat → Int32) (tt_slots : Nat → Int32) (tt_nexts : Nat → Int32) (x1 : Int32) (x2 : Int32) {post : Int32 → Prop} (h : wpX6_stemCharacter post tt_begins tt_addresses tt_smalls tt_stems x1 x2) : xMi l (dC, dI) vwCl [(cI, .int), (cZ, .boolean)] (sI sa sv) yX6_stemCharacter wsX6_stemCharacter ({ frames := 1, cells := 0, slots := 0, locals := 21 }) (xW ad cI cZ lt_count lw_begin lw_end lw_depth lw_signed lw_led pr_written pr_within st_size tx_size tt_count tt_pieces tt_kinds lt_begins lt_marks st_word st_vowels tx_characters tt_begins tt_lengths tt_stemLengths tt_places tt_addresses tt_smalls tt_stems tt_slots tt_nexts) [.ref (ad 5), .int x1, .int x2] (fun (r : Int32) (u : Unit) => post r ) (fun u : Unit => (xW ad cI cZ lt_count lw_begin lw_end lw_depth lw_signed lw_led pr_written pr_within st_size tx_size tt_count tt_pieces tt_kinds lt_begins lt_marks st_word st_vowels tx_characters tt_begins tt_lengths tt_stemLengths tt_places tt_addresses tt_smalls tt_stems tt_slots tt_nexts)) := by
  intro sz
  refine Met.ofW (cc := cX6_stemCharacter) (maxL := 3) (ret := (some .int)) (by decide) rfl ?_
  intro p e s m args below meth c s₁ B hml hv
  obtain ⟨rfl, hsz, hP, hK, hD0, hI⟩ := hv
  have hx := B.exec
  have hb := B.bytes
  have hr := B.returns
  have hts := atoms_spec (ws := wsX6_stemCharacter) B.pre
  have hown : s.vm.findClass RX6 = some m.cls := findClass_of_methodNamed B.named
  have hlocks := B.notSynchronized
  subst hsz
  have hD := hD0.self (sz := s.heap.size)
  generalize hAe : va_A (xW ad cI cZ lt_count lw_begin lw_end lw_depth lw_signed lw_led pr_written pr_within st_size tx_size tt_count tt_pieces tt_kinds lt_begins lt_marks st_word st_vowels tx_characters tt_begins tt_lengths tt_stemLengths tt_places tt_addresses tt_smalls tt_stems tt_slots tt_nexts) s.heap.size = A at hD hI ⊢
  have hA : ∀ q : Nat, s.heap.size ≤ q → A q := fun q h => by rw [← hAe]; exact Or.inr h
  have hS : va_S A s.heap s.heap [] := va_S.rf
  have Fx : CallFix p m c cX6_stemCharacter 3 s ([.ref (ad 5), .int x1, .int x2] : List Value).toArray wsX6_stemCharacter RX6 := ⟨hx, hb, hml, hown, hts⟩
  have hQ : ∀ (r : Int32) (u : Unit) (t : State), (fun (r : Int32) (u : Unit) => post r ) r u → va_P (dC, dI) vwCl ((fun u : Unit => (xW ad cI cZ lt_count lw_begin lw_end lw_depth lw_signed lw_led pr_written pr_within st_size tx_size tt_count tt_pieces tt_kinds lt_begins lt_marks st_word st_vowels tx_characters tt_begins tt_lengths tt_stemLengths tt_places tt_addresses tt_smalls tt_stems tt_slots tt_nexts)) u) t.heap → va_K (dC, dI) vwCl [(cI, .int), (cZ, .boolean)] t → va_D A ((fun u : Unit => (xW ad cI cZ lt_count lw_begin lw_end lw_depth lw_signed lw_led pr_written pr_within st_size tx_size tt_count tt_pieces tt_kinds lt_begins lt_marks st_word st_vowels tx_characters tt_begins tt_lengths tt_stemLengths tt_places tt_addresses tt_smalls tt_stems tt_slots tt_nexts)) u) → va_F A s t → (va_Qi (fun (r : Int32) (u : Unit) => post r ) (xB (dC, dI) vwCl [(cI, .int), (cZ, .boolean)] A (fun u : Unit => (xW ad cI cZ lt_count lw_begin lw_end lw_depth lw_signed lw_led pr_written pr_within st_size tx_size tt_count tt_pieces tt_kinds lt_begins lt_marks st_word st_vowels tx_characters tt_begins tt_lengths tt_stemLengths tt_places tt_addresses tt_smalls tt_stems tt_slots tt_nexts))) A) ([.ref (ad 5), .int x1, .int x2] : List Value).toArray s (.returned (some (.int r))) t := fun r u t h1 h2 h3 h4 h5 => ⟨⟨r, u, rfl, h1, h2, h3, h4⟩, h5⟩
  generalize (va_Qi (fun (r : Int32) (u : Unit) => post r ) (xB (dC, dI) vwCl [(cI, .int), (cZ, .boolean)] A (fun u : Unit => (xW ad cI cZ lt_count lw_begin lw_end lw_depth lw_signed lw_led pr_written pr_within st_size tx_size tt_count tt_pieces tt_kinds lt_begins lt_marks st_word st_vowels tx_characters tt_begins tt_lengths tt_stemLengths tt_places tt_addresses tt_smalls tt_stems tt_slots tt_nexts))) A) = Qc at hQ ⊢
  have hl := lv_entry ([.ref (ad 5), .int x1, .int x2]) (n := 3) (Nat.le_of_ble_eq_true rfl)
  rw [lg_entry_eq]
  generalize (lg_sl ([.ref (ad 5), .int x1, .int x2]) ++ List.replicate (3 - (lg_sl ([.ref (ad 5), .int x1, .int x2])).length) Slot.unset).toArray = ls at hl ⊢
  have hl : lv_has ls 3 [(0, .ref (ad 5)), (1, .int x1), (2, .int x2)] := hl
  refine (fun (key : ∀ (H : Heap) (locs : List Loc), va_P (dC, dI) vwCl (xW ad cI cZ lt_count lw_begin lw_end lw_depth lw_signed lw_led pr_written pr_within st_size tx_size tt_count tt_pieces tt_kinds lt_begins lt_marks st_word st_vowels tx_characters tt_begins tt_lengths tt_stemLengths tt_places tt_addresses tt_smalls tt_stems tt_slots tt_nexts) H → va_D A (xW ad cI cZ lt_count lw_begin lw_end lw_depth lw_signed lw_led pr_written pr_within st_size tx_size tt_count tt_pieces tt_kinds lt_begins lt_marks st_word st_vowels tx_characters tt_begins tt_lengths tt_stemLengths tt_places tt_addresses tt_smalls tt_stems tt_slots tt_nexts) → va_S A s.heap H locs → W p l e (headSpec wsX6_stemCharacter ({ frames := 1, cells := 0, slots := 0, locals := 21 })).room s m ([.ref (ad 5), .int x1, .int x2] : List Value).toArray below meth c H locs 0 0 (MQ below Qc ([.ref (ad 5), .int x1, .int x2] : List Value).toArray s 0 0 A) (F0 m 0 ls [])) => key _ _ hP hD hS) ?_
  have inX6 : ∀ w ∈ wsX60, w ∈ wsX6_stemCharacter := (fun _ h9 => List.mem_cons_of_mem _ (List.mem_append_right _ h9))
  intro H locs hP hD hS
  delta wpX6_stemCharacter at h
  refine lv_aload_n hx hb dX6_stemCharacter_0 rfl (lv_at hl 0 rfl) ?_
  refine va_get (D := (dC, dI)) (ci := 5) (v := .ref (ad 16)) (C := RX6) (T := TX6) (N := 15) hx hb hts inX6 hown hK hP 5 rfl rfl 7 (by decide) (hts (.fieldLink RX6 31 "MailWords$TokenTable" "addresses" "[Z") (List.mem_of_getElem? (i := 1) rfl)) (fun _ h9 => h9) rfl dX6_stemCharacter_1 ?_
  refine lv_iload_n hx hb dX6_stemCharacter_4 rfl (lv_at hl 1 rfl) ?_
  have hi9 := h.1
  have h := h.2
  refine va_zald hx hb hK hP 16 1 rfl rfl hi9 dX6_stemCharacter_5 ?_
  refine lv_if_eq (tgt := 16) hx hb dX6_stemCharacter_6 (by decide) (fun c9 => ?_) (fun c9 => ?_)
  · have h := h.1 c9
    refine lv_aload_n hx hb dX6_stemCharacter_16 rfl (lv_at hl 0 rfl) ?_
    refine va_get (D := (dC, dI)) (ci := 5) (v := .ref (ad 18)) (C := RX6) (T := TX6) (N := 15) hx hb hts inX6 hown hK hP 5 rfl rfl 9 (by decide) (hts (.fieldLink RX6 38 "MailWords$TokenTable" "stems" "[I") (List.mem_of_getElem? (i := 3) rfl)) (fun _ h9 => h9) rfl dX6_stemCharacter_17 ?_
    refine lv_aload_n hx hb dX6_stemCharacter_20 rfl (lv_at hl 0 rfl) ?_
    refine va_get (D := (dC, dI)) (ci := 5) (v := .ref (ad 12)) (C := RX6) (T := TX6) (N := 15) hx hb hts inX6 hown hK hP 5 rfl rfl 3 (by decide) (hts (.fieldLink RX6 18 "MailWords$TokenTable" "begins" "[I") (List.mem_of_getElem? (i := 4) rfl)) (fun _ h9 => h9) rfl dX6_stemCharacter_21 ?_
    refine lv_iload_n hx hb dX6_stemCharacter_24 rfl (lv_at hl 1 rfl) ?_
    have hi9 := h.1
    have h := h.2
    refine va_iald hx hb hK hP 12 0 rfl rfl hi9 dX6_stemCharacter_25 ?_
    refine lv_iload_n hx hb dX6_stemCharacter_26 rfl (lv_at hl 2 rfl) ?_
    refine lv_iadd hx hb dX6_stemCharacter_27 ?_
    refine xc_si (As := [.ref (ad 18), .int ((tt_begins x1.toNatClampNeg) + x2)]) (rest := []) xG Fx (sX6_characterOf_tt_stems l dC dI ad cI cZ sa sv lt_count lw_begin lw_end lw_depth lw_signed lw_led pr_written pr_within st_size tx_size tt_count tt_pieces tt_kinds lt_begins lt_marks st_word st_vowels tx_characters tt_begins tt_lengths tt_stemLengths tt_places tt_addresses tt_smalls tt_stems tt_slots tt_nexts ((tt_begins x1.toNatClampNeg) + x2) h) (va_cwS 2 hts gX6_stemCharacter_X6_characterOf rfl rfl rfl hdX6_characterOf ⟨Nat.le_of_ble_eq_true rfl, Nat.le_of_ble_eq_true rfl⟩) hK hP hD hS hA hI rfl hl.1 rfl (Nat.le_of_ble_eq_true rfl) dX6_stemCharacter_28 ⟨Nat.zero_le _, Nat.zero_le _⟩ (fun r_1 u H locs h hP hD hS => ?_)
    exact W.iret (v := r_1) hx hb hr (fun t ht hW => hQ r_1 () t h (by rw [ht]; exact hP) (va_K.moved hW.alike hK) hD (hS.F ht)) hS.2.2 dX6_stemCharacter_31
  · have h := h.2 c9
    refine lv_aload_n hx hb dX6_stemCharacter_9 rfl (lv_at hl 0 rfl) ?_
    refine va_get (D := (dC, dI)) (ci := 5) (v := .ref (ad 17)) (C := RX6) (T := TX6) (N := 15) hx hb hts inX6 hown hK hP 5 rfl rfl 8 (by decide) (hts (.fieldLink RX6 35 "MailWords$TokenTable" "smalls" "[I") (List.mem_of_getElem? (i := 2) rfl)) (fun _ h9 => h9) rfl dX6_stemCharacter_10 ?_
    refine lv_goto (tgt := 20) hx hb dX6_stemCharacter_13 (by decide) ?_
    refine lv_aload_n hx hb dX6_stemCharacter_20 rfl (lv_at hl 0 rfl) ?_
    refine va_get (D := (dC, dI)) (ci := 5) (v := .ref (ad 12)) (C := RX6) (T := TX6) (N := 15) hx hb hts inX6 hown hK hP 5 rfl rfl 3 (by decide) (hts (.fieldLink RX6 18 "MailWords$TokenTable" "begins" "[I") (List.mem_of_getElem? (i := 4) rfl)) (fun _ h9 => h9) rfl dX6_stemCharacter_21 ?_
    refine lv_iload_n hx hb dX6_stemCharacter_24 rfl (lv_at hl 1 rfl) ?_
    have hi9 := h.1
    have h := h.2
    refine va_iald hx hb hK hP 12 0 rfl rfl hi9 dX6_stemCharacter_25 ?_
    refine lv_iload_n hx hb dX6_stemCharacter_26 rfl (lv_at hl 2 rfl) ?_
    refine lv_iadd hx hb dX6_stemCharacter_27 ?_
    refine xc_si (As := [.ref (ad 17), .int ((tt_begins x1.toNatClampNeg) + x2)]) (rest := []) xG Fx (sX6_characterOf_tt_smalls l dC dI ad cI cZ sa sv lt_count lw_begin lw_end lw_depth lw_signed lw_led pr_written pr_within st_size tx_size tt_count tt_pieces tt_kinds lt_begins lt_marks st_word st_vowels tx_characters tt_begins tt_lengths tt_stemLengths tt_places tt_addresses tt_smalls tt_stems tt_slots tt_nexts ((tt_begins x1.toNatClampNeg) + x2) h) (va_cwS 2 hts gX6_stemCharacter_X6_characterOf rfl rfl rfl hdX6_characterOf ⟨Nat.le_of_ble_eq_true rfl, Nat.le_of_ble_eq_true rfl⟩) hK hP hD hS hA hI rfl hl.1 rfl (Nat.le_of_ble_eq_true rfl) dX6_stemCharacter_28 ⟨Nat.zero_le _, Nat.zero_le _⟩ (fun r_2 u H locs h hP hD hS => ?_)
    exact W.iret (v := r_2) hx hb hr (fun t ht hW => hQ r_2 () t h (by rw [ht]; exact hP) (va_K.moved hW.alike hK) hD (hS.F ht)) hS.2.2 dX6_stemCharacter_31
set_option maxHeartbeats 4000000 in
set_option maxRecDepth 100000 in
theorem sX6_slotOf (l : Launch) (dC : Nat → ClassId) (dI : Nat → Nat → Nat) (ad : Nat → Nat) (cI cZ : ClassId) (sa sv : Nat → Nat) (lt_count : Int32) (lw_begin : Int32) (lw_end : Int32) (lw_depth : Int32) (lw_signed : Int32) (lw_led : Int32) (pr_written : Int32) (pr_within : Int32) (st_size : Int32) (tx_size : Int32) (tt_count : Int32) (tt_pieces : Int32) (tt_kinds : Int32) (lt_begins : Nat → Int32) (lt_marks : Nat → Int32) (st_word : Nat → Int32) (st_vowels : Nat → Int32) (tx_characters : Nat → Int32) (tt_begins : Nat → Int32) (tt_lengths : Nat → Int32) (tt_stemLengths : Nat → Int32) (tt_places : Nat → Int32) (tt_addresses : Nat → Int32) (tt_smalls : Nat → Int32) (tt_stems : Nat → Int32) (tt_slots : Nat → Int32) (tt_nexts : Nat → Int32) (x1 : Int32) {post : Int32 → Prop} (h : wpX6_slotOf post tt_begins tt_stemLengths tt_addresses tt_smalls tt_stems x1) : xMi l (dC, dI) vwCl [(cI, .int), (cZ, .boolean)] (sI sa sv) yX6_slotOf wsX6_slotOf ({ frames := 2, cells := 0, slots := 0, locals := 43 }) (xW ad cI cZ lt_count lw_begin lw_end lw_depth lw_signed lw_led pr_written pr_within st_size tx_size tt_count tt_pieces tt_kinds lt_begins lt_marks st_word st_vowels tx_characters tt_begins tt_lengths tt_stemLengths tt_places tt_addresses tt_smalls tt_stems tt_slots tt_nexts) [.ref (ad 5), .int x1] (fun (r : Int32) (u : Unit) => post r ) (fun u : Unit => (xW ad cI cZ lt_count lw_begin lw_end lw_depth lw_signed lw_led pr_written pr_within st_size tx_size tt_count tt_pieces tt_kinds lt_begins lt_marks st_word st_vowels tx_characters tt_begins tt_lengths tt_stemLengths tt_places tt_addresses tt_smalls tt_stems tt_slots tt_nexts)) := by
  intro sz
  refine Met.ofW (cc := cX6_slotOf) (maxL := 4) (ret := (some .int)) (by decide) rfl ?_
  intro p e s m args below meth c s₁ B hml hv
  obtain ⟨rfl, hsz, hP, hK, hD0, hI⟩ := hv
  have hx := B.exec
  have hb := B.bytes
  have hr := B.returns
  have hts := atoms_spec (ws := wsX6_slotOf) B.pre
  have hown : s.vm.findClass RX6 = some m.cls := findClass_of_methodNamed B.named
  have hlocks := B.notSynchronized
  subst hsz
  have hD := hD0.self (sz := s.heap.size)
  generalize hAe : va_A (xW ad cI cZ lt_count lw_begin lw_end lw_depth lw_signed lw_led pr_written pr_within st_size tx_size tt_count tt_pieces tt_kinds lt_begins lt_marks st_word st_vowels tx_characters tt_begins tt_lengths tt_stemLengths tt_places tt_addresses tt_smalls tt_stems tt_slots tt_nexts) s.heap.size = A at hD hI ⊢
  have hA : ∀ q : Nat, s.heap.size ≤ q → A q := fun q h => by rw [← hAe]; exact Or.inr h
  have hS : va_S A s.heap s.heap [] := va_S.rf
  have Fx : CallFix p m c cX6_slotOf 4 s ([.ref (ad 5), .int x1] : List Value).toArray wsX6_slotOf RX6 := ⟨hx, hb, hml, hown, hts⟩
  have hQ : ∀ (r : Int32) (u : Unit) (t : State), (fun (r : Int32) (u : Unit) => post r ) r u → va_P (dC, dI) vwCl ((fun u : Unit => (xW ad cI cZ lt_count lw_begin lw_end lw_depth lw_signed lw_led pr_written pr_within st_size tx_size tt_count tt_pieces tt_kinds lt_begins lt_marks st_word st_vowels tx_characters tt_begins tt_lengths tt_stemLengths tt_places tt_addresses tt_smalls tt_stems tt_slots tt_nexts)) u) t.heap → va_K (dC, dI) vwCl [(cI, .int), (cZ, .boolean)] t → va_D A ((fun u : Unit => (xW ad cI cZ lt_count lw_begin lw_end lw_depth lw_signed lw_led pr_written pr_within st_size tx_size tt_count tt_pieces tt_kinds lt_begins lt_marks st_word st_vowels tx_characters tt_begins tt_lengths tt_stemLengths tt_places tt_addresses tt_smalls tt_stems tt_slots tt_nexts)) u) → va_F A s t → (va_Qi (fun (r : Int32) (u : Unit) => post r ) (xB (dC, dI) vwCl [(cI, .int), (cZ, .boolean)] A (fun u : Unit => (xW ad cI cZ lt_count lw_begin lw_end lw_depth lw_signed lw_led pr_written pr_within st_size tx_size tt_count tt_pieces tt_kinds lt_begins lt_marks st_word st_vowels tx_characters tt_begins tt_lengths tt_stemLengths tt_places tt_addresses tt_smalls tt_stems tt_slots tt_nexts))) A) ([.ref (ad 5), .int x1] : List Value).toArray s (.returned (some (.int r))) t := fun r u t h1 h2 h3 h4 h5 => ⟨⟨r, u, rfl, h1, h2, h3, h4⟩, h5⟩
  generalize (va_Qi (fun (r : Int32) (u : Unit) => post r ) (xB (dC, dI) vwCl [(cI, .int), (cZ, .boolean)] A (fun u : Unit => (xW ad cI cZ lt_count lw_begin lw_end lw_depth lw_signed lw_led pr_written pr_within st_size tx_size tt_count tt_pieces tt_kinds lt_begins lt_marks st_word st_vowels tx_characters tt_begins tt_lengths tt_stemLengths tt_places tt_addresses tt_smalls tt_stems tt_slots tt_nexts))) A) = Qc at hQ ⊢
  have hl := lv_entry ([.ref (ad 5), .int x1]) (n := 4) (Nat.le_of_ble_eq_true rfl)
  rw [lg_entry_eq]
  generalize (lg_sl ([.ref (ad 5), .int x1]) ++ List.replicate (4 - (lg_sl ([.ref (ad 5), .int x1])).length) Slot.unset).toArray = ls at hl ⊢
  have hl : lv_has ls 4 [(0, .ref (ad 5)), (1, .int x1)] := hl
  refine (fun (key : ∀ (H : Heap) (locs : List Loc), va_P (dC, dI) vwCl (xW ad cI cZ lt_count lw_begin lw_end lw_depth lw_signed lw_led pr_written pr_within st_size tx_size tt_count tt_pieces tt_kinds lt_begins lt_marks st_word st_vowels tx_characters tt_begins tt_lengths tt_stemLengths tt_places tt_addresses tt_smalls tt_stems tt_slots tt_nexts) H → va_D A (xW ad cI cZ lt_count lw_begin lw_end lw_depth lw_signed lw_led pr_written pr_within st_size tx_size tt_count tt_pieces tt_kinds lt_begins lt_marks st_word st_vowels tx_characters tt_begins tt_lengths tt_stemLengths tt_places tt_addresses tt_smalls tt_stems tt_slots tt_nexts) → va_S A s.heap H locs → W p l e (headSpec wsX6_slotOf ({ frames := 2, cells := 0, slots := 0, locals := 43 })).room s m ([.ref (ad 5), .int x1] : List Value).toArray below meth c H locs 0 0 (MQ below Qc ([.ref (ad 5), .int x1] : List Value).toArray s 0 0 A) (F0 m 0 ls [])) => key _ _ hP hD hS) ?_
  have inX6 : ∀ w ∈ wsX60, w ∈ wsX6_slotOf := (fun _ h9 => List.mem_cons_of_mem _ (List.mem_append_right _ h9))
  have L4 : ∀ (n : Nat) (x2 : Int32) (x3 : Int32) (H : Heap) (locs : List Loc) (ls : Array Slot), lv_has ls 4 [(0, .ref (ad 5)), (1, .int x1), (2, .int x2), (3, .int x3)] → va_P (dC, dI) vwCl (xW ad cI cZ lt_count lw_begin lw_end lw_depth lw_signed lw_led pr_written pr_within st_size tx_size tt_count tt_pieces tt_kinds lt_begins lt_marks st_word st_vowels tx_characters tt_begins tt_lengths tt_stemLengths tt_places tt_addresses tt_smalls tt_stems tt_slots tt_nexts) H → va_D A (xW ad cI cZ lt_count lw_begin lw_end lw_depth lw_signed lw_led pr_written pr_within st_size tx_size tt_count tt_pieces tt_kinds lt_begins lt_marks st_word st_vowels tx_characters tt_begins tt_lengths tt_stemLengths tt_places tt_addresses tt_smalls tt_stems tt_slots tt_nexts) → va_S A s.heap H locs → wlX6_slotOf_4 post tt_begins tt_stemLengths tt_addresses tt_smalls tt_stems x1 n x2 x3 → W p l e (headSpec wsX6_slotOf ({ frames := 2, cells := 0, slots := 0, locals := 43 })).room s m ([.ref (ad 5), .int x1] : List Value).toArray below meth c H locs 0 0 (MQ below Qc ([.ref (ad 5), .int x1] : List Value).toArray s 0 0 A) (F0 m 4 ls []) := by
    intro n
    induction n with
    | zero => intro x2 x3 H locs ls _ _ _ _ h; exact absurd h (fun z => z)
    | succ n4 ih4 =>
      intro x2 x3 H locs ls hl hP hD hS h
      rw [wlX6_slotOf_4] at h
      refine lv_iload_n hx hb dX6_slotOf_4 rfl (lv_at hl 3 rfl) ?_
      refine lv_aload_n hx hb dX6_slotOf_5 rfl (lv_at hl 0 rfl) ?_
      refine va_get (D := (dC, dI)) (ci := 5) (v := .ref (ad 14)) (C := RX6) (T := TX6) (N := 15) hx hb hts inX6 hown hK hP 5 rfl rfl 5 (by decide) (hts (.fieldLink RX6 25 "MailWords$TokenTable" "stemLengths" "[I") (List.mem_of_getElem? (i := 1) rfl)) (fun _ h9 => h9) rfl dX6_slotOf_6 ?_
      refine lv_iload_n hx hb dX6_slotOf_9 rfl (lv_at hl 1 rfl) ?_
      have hi9 := h.1
      have h := h.2
      refine va_iald hx hb hK hP 14 0 rfl rfl hi9 dX6_slotOf_10 ?_
      refine lv_icmp_ge (tgt := 32) hx hb dX6_slotOf_11 (by decide) (fun c9 => ?_) (fun c9 => ?_)
      · have h := h.1 c9
        refine lv_iload_n hx hb dX6_slotOf_32 rfl (lv_at hl 2 rfl) ?_
        refine lv_bipush (v := 127) hx hb dX6_slotOf_33 (by decide) ?_
        refine lv_iand hx hb dX6_slotOf_35 ?_
        exact W.iret (v := (x2 &&& 127)) hx hb hr (fun t ht hW => hQ (x2 &&& 127) () t h (by rw [ht]; exact hP) (va_K.moved hW.alike hK) hD (hS.F ht)) hS.2.2 dX6_slotOf_36
      · have h := h.2 c9
        refine lv_iload_n hx hb dX6_slotOf_14 rfl (lv_at hl 2 rfl) ?_
        refine lv_bipush (v := 31) hx hb dX6_slotOf_15 (by decide) ?_
        refine lv_imul hx hb dX6_slotOf_17 ?_
        refine lv_aload_n hx hb dX6_slotOf_18 rfl (lv_at hl 0 rfl) ?_
        refine lv_iload_n hx hb dX6_slotOf_19 rfl (lv_at hl 1 rfl) ?_
        refine lv_iload_n hx hb dX6_slotOf_20 rfl (lv_at hl 3 rfl) ?_
        refine xc_vi (As := [.int x1, .int x3]) (rest := [.int (x2 * 31)]) xG Fx (sX6_stemCharacter l dC dI ad cI cZ sa sv lt_count lw_begin lw_end lw_depth lw_signed lw_led pr_written pr_within st_size tx_size tt_count tt_pieces tt_kinds lt_begins lt_marks st_word st_vowels tx_characters tt_begins tt_lengths tt_stemLengths tt_places tt_addresses tt_smalls tt_stems tt_slots tt_nexts x1 x3 h) (cwV 2 hts gX6_slotOf_X6_stemCharacter rfl rfl rfl hdX6_stemCharacter ⟨Nat.le_of_ble_eq_true rfl, Nat.le_of_ble_eq_true rfl⟩) (va_recv hK hP (ci := 5) (q0 := 5) rfl rfl) hK hP hD hS hA hI rfl hl.1 rfl (Nat.le_of_ble_eq_true rfl) dX6_slotOf_21 ⟨Nat.zero_le _, Nat.zero_le _⟩ (fun r_1 u H locs h hP hD hS => ?_)
        refine lv_iadd hx hb dX6_slotOf_24 ?_
        refine lv_topi (fun x2_2 ex2_2 => ?_)
        have h := h x2_2 ex2_2
        refine lv_istore_n (lv' := [(2, .int x2_2), (0, .ref (ad 5)), (1, .int x1), (3, .int x3)]) hx hb dX6_slotOf_25 rfl hl (by decide) rfl (fun ls hl => ?_)
        obtain ⟨x3_3, ex3_3⟩ : ∃ y : Int32, y = x3 + 1 := ⟨_, rfl⟩
        have h := h x3_3 ex3_3
        refine lv_iinc (v := x3_3) (lv' := [(3, .int x3_3), (2, .int x2_2), (0, .ref (ad 5)), (1, .int x1)]) hx hb dX6_slotOf_26 hl (k := 3) rfl (by rw [ex3_3]; rfl) (by decide) rfl (fun ls hl => ?_)
        refine lv_goto (tgt := 4) hx hb dX6_slotOf_29 (by decide) ?_
        exact ih4 x2_2 x3_3 H locs ls (lv_sub hl [2, 3, 1, 0] rfl) hP hD hS h
  intro H locs hP hD hS
  delta wpX6_slotOf at h
  refine lv_iconst (v := 0) hx hb dX6_slotOf_0 (by decide) ?_
  refine lv_istore_n (lv' := [(2, .int 0), (0, .ref (ad 5)), (1, .int x1)]) hx hb dX6_slotOf_1 rfl hl (by decide) rfl (fun ls hl => ?_)
  refine lv_iconst (v := 0) hx hb dX6_slotOf_2 (by decide) ?_
  refine lv_istore_n (lv' := [(3, .int 0), (2, .int 0), (0, .ref (ad 5)), (1, .int x1)]) hx hb dX6_slotOf_3 rfl hl (by decide) rfl (fun ls hl => ?_)
  obtain ⟨n, h⟩ := h
  exact L4  n 0 0 H locs ls (lv_sub hl [2, 3, 1, 0] rfl) hP hD hS h
set_option maxHeartbeats 4000000 in
set_option maxRecDepth 100000 in
theorem sX6_exists (l : Launch) (dC : Nat → ClassId) (dI : Nat → Nat → Nat) (ad : Nat → Nat) (cI cZ : ClassId) (sa sv : Nat → Nat) (lt_count : Int32) (lw_begin : Int32) (lw_end : Int32) (lw_depth : Int32) (lw_signed : Int32) (lw_led : Int32) (pr_written : Int32) (pr_within : Int32) (st_size : Int32) (tx_size : Int32) (tt_count : Int32) (tt_pieces : Int32) (tt_kinds : Int32) (lt_begins : Nat → Int32) (lt_marks : Nat → Int32) (st_word : Nat → Int32) (st_vowels : Nat → Int32) (tx_characters : Nat → Int32) (tt_begins : Nat → Int32) (tt_lengths : Nat → Int32) (tt_stemLengths : Nat → Int32) (tt_places : Nat → Int32) (tt_addresses : Nat → Int32) (tt_smalls : Nat → Int32) (tt_stems : Nat → Int32) (tt_slots : Nat → Int32) (tt_nexts : Nat → Int32) (x1 : Int32) {post : Int32 → Prop} (h : wpX6_exists post tt_count x1) : xMi l (dC, dI) vwCl [(cI, .int), (cZ, .boolean)] (sI sa sv) yX6_exists wsX6_exists ({ frames := 0, cells := 0, slots := 0, locals := 0 }) (xW ad cI cZ lt_count lw_begin lw_end lw_depth lw_signed lw_led pr_written pr_within st_size tx_size tt_count tt_pieces tt_kinds lt_begins lt_marks st_word st_vowels tx_characters tt_begins tt_lengths tt_stemLengths tt_places tt_addresses tt_smalls tt_stems tt_slots tt_nexts) [.ref (ad 5), .int x1] (fun (r : Int32) (u : Unit) => post r ) (fun u : Unit => (xW ad cI cZ lt_count lw_begin lw_end lw_depth lw_signed lw_led pr_written pr_within st_size tx_size tt_count tt_pieces tt_kinds lt_begins lt_marks st_word st_vowels tx_characters tt_begins tt_lengths tt_stemLengths tt_places tt_addresses tt_smalls tt_stems tt_slots tt_nexts)) := by
  intro sz
  refine Met.ofW (cc := cX6_exists) (maxL := 2) (ret := (some .boolean)) (by decide) rfl ?_
  intro p e s m args below meth c s₁ B hml hv
  obtain ⟨rfl, hsz, hP, hK, hD0, hI⟩ := hv
  have hx := B.exec
  have hb := B.bytes
  have hr := B.returns
  have hts := atoms_spec (ws := wsX6_exists) B.pre
  have hown : s.vm.findClass RX6 = some m.cls := findClass_of_methodNamed B.named
  have hlocks := B.notSynchronized
  subst hsz
  have hD := hD0.self (sz := s.heap.size)
  generalize hAe : va_A (xW ad cI cZ lt_count lw_begin lw_end lw_depth lw_signed lw_led pr_written pr_within st_size tx_size tt_count tt_pieces tt_kinds lt_begins lt_marks st_word st_vowels tx_characters tt_begins tt_lengths tt_stemLengths tt_places tt_addresses tt_smalls tt_stems tt_slots tt_nexts) s.heap.size = A at hD hI ⊢
  have hA : ∀ q : Nat, s.heap.size ≤ q → A q := fun q h => by rw [← hAe]; exact Or.inr h
  have hS : va_S A s.heap s.heap [] := va_S.rf
  have Fx : CallFix p m c cX6_exists 2 s ([.ref (ad 5), .int x1] : List Value).toArray wsX6_exists RX6 := ⟨hx, hb, hml, hown, hts⟩
  have hQ : ∀ (r : Int32) (u : Unit) (t : State), (fun (r : Int32) (u : Unit) => post r ) r u → va_P (dC, dI) vwCl ((fun u : Unit => (xW ad cI cZ lt_count lw_begin lw_end lw_depth lw_signed lw_led pr_written pr_within st_size tx_size tt_count tt_pieces tt_kinds lt_begins lt_marks st_word st_vowels tx_characters tt_begins tt_lengths tt_stemLengths tt_places tt_addresses tt_smalls tt_stems tt_slots tt_nexts)) u) t.heap → va_K (dC, dI) vwCl [(cI, .int), (cZ, .boolean)] t → va_D A ((fun u : Unit => (xW ad cI cZ lt_count lw_begin lw_end lw_depth lw_signed lw_led pr_written pr_within st_size tx_size tt_count tt_pieces tt_kinds lt_begins lt_marks st_word st_vowels tx_characters tt_begins tt_lengths tt_stemLengths tt_places tt_addresses tt_smalls tt_stems tt_slots tt_nexts)) u) → va_F A s t → (va_Qi (fun (r : Int32) (u : Unit) => post r ) (xB (dC, dI) vwCl [(cI, .int), (cZ, .boolean)] A (fun u : Unit => (xW ad cI cZ lt_count lw_begin lw_end lw_depth lw_signed lw_led pr_written pr_within st_size tx_size tt_count tt_pieces tt_kinds lt_begins lt_marks st_word st_vowels tx_characters tt_begins tt_lengths tt_stemLengths tt_places tt_addresses tt_smalls tt_stems tt_slots tt_nexts))) A) ([.ref (ad 5), .int x1] : List Value).toArray s (.returned (some (.int r))) t := fun r u t h1 h2 h3 h4 h5 => ⟨⟨r, u, rfl, h1, h2, h3, h4⟩, h5⟩
  generalize (va_Qi (fun (r : Int32) (u : Unit) => post r ) (xB (dC, dI) vwCl [(cI, .int), (cZ, .boolean)] A (fun u : Unit => (xW ad cI cZ lt_count lw_begin lw_end lw_depth lw_signed lw_led pr_written pr_within st_size tx_size tt_count tt_pieces tt_kinds lt_begins lt_marks st_word st_vowels tx_characters tt_begins tt_lengths tt_stemLengths tt_places tt_addresses tt_smalls tt_stems tt_slots tt_nexts))) A) = Qc at hQ ⊢
  have hl := lv_entry ([.ref (ad 5), .int x1]) (n := 2) (Nat.le_of_ble_eq_true rfl)
  rw [lg_entry_eq]
  generalize (lg_sl ([.ref (ad 5), .int x1]) ++ List.replicate (2 - (lg_sl ([.ref (ad 5), .int x1])).length) Slot.unset).toArray = ls at hl ⊢
  have hl : lv_has ls 2 [(0, .ref (ad 5)), (1, .int x1)] := hl
  refine (fun (key : ∀ (H : Heap) (locs : List Loc), va_P (dC, dI) vwCl (xW ad cI cZ lt_count lw_begin lw_end lw_depth lw_signed lw_led pr_written pr_within st_size tx_size tt_count tt_pieces tt_kinds lt_begins lt_marks st_word st_vowels tx_characters tt_begins tt_lengths tt_stemLengths tt_places tt_addresses tt_smalls tt_stems tt_slots tt_nexts) H → va_D A (xW ad cI cZ lt_count lw_begin lw_end lw_depth lw_signed lw_led pr_written pr_within st_size tx_size tt_count tt_pieces tt_kinds lt_begins lt_marks st_word st_vowels tx_characters tt_begins tt_lengths tt_stemLengths tt_places tt_addresses tt_smalls tt_stems tt_slots tt_nexts) → va_S A s.heap H locs → W p l e (headSpec wsX6_exists ({ frames := 0, cells := 0, slots := 0, locals := 0 })).room s m ([.ref (ad 5), .int x1] : List Value).toArray below meth c H locs 0 0 (MQ below Qc ([.ref (ad 5), .int x1] : List Value).toArray s 0 0 A) (F0 m 0 ls [])) => key _ _ hP hD hS) ?_
  have inX6 : ∀ w ∈ wsX60, w ∈ wsX6_exists := (fun _ h9 => List.mem_cons_of_mem _ (List.mem_append_right _ h9))
  intro H locs hP hD hS
  delta wpX6_exists at h
  refine lv_iload_n hx hb dX6_exists_0 rfl (lv_at hl 1 rfl) ?_
  refine lv_if_lt (tgt := 16) hx hb dX6_exists_1 (by decide) (fun c9 => ?_) (fun c9 => ?_)
  · have h := h.1 c9
    refine lv_iconst (v := 0) hx hb dX6_exists_16 (by decide) ?_
    exact W.zret (v := 0) hx hb hr (bN_nar bN0) (fun t ht hW => hQ 0 () t h (by rw [ht]; exact hP) (va_K.moved hW.alike hK) hD (hS.F ht)) hS.2.2 dX6_exists_17
  · have h := h.2 c9
    refine lv_iload_n hx hb dX6_exists_4 rfl (lv_at hl 1 rfl) ?_
    refine lv_aload_n hx hb dX6_exists_5 rfl (lv_at hl 0 rfl) ?_
    refine va_get (D := (dC, dI)) (ci := 5) (v := .int tt_count) (C := RX6) (T := TX6) (N := 15) hx hb hts inX6 hown hK hP 5 rfl rfl 12 (by decide) (hts (.fieldLink RX6 55 "MailWords$TokenTable" "count" "I") (List.mem_of_getElem? (i := 1) rfl)) (fun _ h9 => h9) rfl dX6_exists_6 ?_
    refine lv_icmp_ge (tgt := 16) hx hb dX6_exists_9 (by decide) (fun c9 => ?_) (fun c9 => ?_)
    · have h := h.1 c9
      refine lv_iconst (v := 0) hx hb dX6_exists_16 (by decide) ?_
      exact W.zret (v := 0) hx hb hr (bN_nar bN0) (fun t ht hW => hQ 0 () t h (by rw [ht]; exact hP) (va_K.moved hW.alike hK) hD (hS.F ht)) hS.2.2 dX6_exists_17
    · have h := h.2 c9
      refine lv_iconst (v := 1) hx hb dX6_exists_12 (by decide) ?_
      refine lv_goto (tgt := 17) hx hb dX6_exists_13 (by decide) ?_
      exact W.zret (v := 1) hx hb hr (bN_nar bN1) (fun t ht hW => hQ 1 () t h (by rw [ht]; exact hP) (va_K.moved hW.alike hK) hD (hS.F ht)) hS.2.2 dX6_exists_17
