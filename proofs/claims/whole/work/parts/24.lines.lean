set_option maxHeartbeats 4000000 in
set_option maxRecDepth 100000 in
theorem sX1_look (l : Launch) (dC : Nat → ClassId) (dI : Nat → Nat → Nat) (ad : Nat → Nat) (cI cZ : ClassId) (sa sv : Nat → Nat) (lt_count : Int32) (lw_begin : Int32) (lw_end : Int32) (lw_depth : Int32) (lw_signed : Int32) (lw_led : Int32) (pr_written : Int32) (pr_within : Int32) (st_size : Int32) (tx_size : Int32) (tt_count : Int32) (tt_pieces : Int32) (tt_kinds : Int32) (lt_begins : Nat → Int32) (lt_marks : Nat → Int32) (st_word : Nat → Int32) (st_vowels : Nat → Int32) (tx_characters : Nat → Int32) (tt_begins : Nat → Int32) (tt_lengths : Nat → Int32) (tt_stemLengths : Nat → Int32) (tt_places : Nat → Int32) (tt_addresses : Nat → Int32) (tt_smalls : Nat → Int32) (tt_stems : Nat → Int32) (tt_slots : Nat → Int32) (tt_nexts : Nat → Int32)  {post : Int32 → Int32 → Int32 → Int32 → Int32 → Int32 → Int32 → (Nat → Int32) → (Nat → Int32) → Prop} (h : wpX1_look post lt_count lw_begin lw_end lw_depth lw_signed lw_led tx_size lt_begins lt_marks tx_characters) : xMi l (dC, dI) vwCl [(cI, .int), (cZ, .boolean)] (sI sa sv) yX1_look wsX1_look ({ frames := 8, cells := 0, slots := 0, locals := 170 }) (xW ad cI cZ lt_count lw_begin lw_end lw_depth lw_signed lw_led pr_written pr_within st_size tx_size tt_count tt_pieces tt_kinds lt_begins lt_marks st_word st_vowels tx_characters tt_begins tt_lengths tt_stemLengths tt_places tt_addresses tt_smalls tt_stems tt_slots tt_nexts) [.ref (ad 0)] (fun (r : Int32) (u : Int32 × Int32 × Int32 × Int32 × Int32 × Int32 × (Nat → Int32) × (Nat → Int32)) => post r u.1 u.2.1 u.2.2.1 u.2.2.2.1 u.2.2.2.2.1 u.2.2.2.2.2.1 u.2.2.2.2.2.2.1 u.2.2.2.2.2.2.2) (fun u : Int32 × Int32 × Int32 × Int32 × Int32 × Int32 × (Nat → Int32) × (Nat → Int32) => (xW ad cI cZ u.1 u.2.1 u.2.2.1 u.2.2.2.1 u.2.2.2.2.1 u.2.2.2.2.2.1 pr_written pr_within st_size tx_size tt_count tt_pieces tt_kinds u.2.2.2.2.2.2.1 u.2.2.2.2.2.2.2 st_word st_vowels tx_characters tt_begins tt_lengths tt_stemLengths tt_places tt_addresses tt_smalls tt_stems tt_slots tt_nexts)) := by
  intro sz
  refine Met.ofW (cc := cX1_look) (maxL := 1) (ret := (some .int)) (by decide) rfl ?_
  intro p e s m args below meth c s₁ B hml hv
  obtain ⟨rfl, hsz, hP, hK, hD0, hI⟩ := hv
  have hx := B.exec
  have hb := B.bytes
  have hr := B.returns
  have hts := atoms_spec (ws := wsX1_look) B.pre
  have hown : s.vm.findClass RX1 = some m.cls := findClass_of_methodNamed B.named
  have hlocks := B.notSynchronized
  subst hsz
  have hD := hD0.self (sz := s.heap.size)
  generalize hAe : va_A (xW ad cI cZ lt_count lw_begin lw_end lw_depth lw_signed lw_led pr_written pr_within st_size tx_size tt_count tt_pieces tt_kinds lt_begins lt_marks st_word st_vowels tx_characters tt_begins tt_lengths tt_stemLengths tt_places tt_addresses tt_smalls tt_stems tt_slots tt_nexts) s.heap.size = A at hD hI ⊢
  have hA : ∀ q : Nat, s.heap.size ≤ q → A q := fun q h => by rw [← hAe]; exact Or.inr h
  have hS : va_S A s.heap s.heap [] := va_S.rf
  have Fx : CallFix p m c cX1_look 1 s ([.ref (ad 0)] : List Value).toArray wsX1_look RX1 := ⟨hx, hb, hml, hown, hts⟩
  have hQ : ∀ (r : Int32) (u : Int32 × Int32 × Int32 × Int32 × Int32 × Int32 × (Nat → Int32) × (Nat → Int32)) (t : State), (fun (r : Int32) (u : Int32 × Int32 × Int32 × Int32 × Int32 × Int32 × (Nat → Int32) × (Nat → Int32)) => post r u.1 u.2.1 u.2.2.1 u.2.2.2.1 u.2.2.2.2.1 u.2.2.2.2.2.1 u.2.2.2.2.2.2.1 u.2.2.2.2.2.2.2) r u → va_P (dC, dI) vwCl ((fun u : Int32 × Int32 × Int32 × Int32 × Int32 × Int32 × (Nat → Int32) × (Nat → Int32) => (xW ad cI cZ u.1 u.2.1 u.2.2.1 u.2.2.2.1 u.2.2.2.2.1 u.2.2.2.2.2.1 pr_written pr_within st_size tx_size tt_count tt_pieces tt_kinds u.2.2.2.2.2.2.1 u.2.2.2.2.2.2.2 st_word st_vowels tx_characters tt_begins tt_lengths tt_stemLengths tt_places tt_addresses tt_smalls tt_stems tt_slots tt_nexts)) u) t.heap → va_K (dC, dI) vwCl [(cI, .int), (cZ, .boolean)] t → va_D A ((fun u : Int32 × Int32 × Int32 × Int32 × Int32 × Int32 × (Nat → Int32) × (Nat → Int32) => (xW ad cI cZ u.1 u.2.1 u.2.2.1 u.2.2.2.1 u.2.2.2.2.1 u.2.2.2.2.2.1 pr_written pr_within st_size tx_size tt_count tt_pieces tt_kinds u.2.2.2.2.2.2.1 u.2.2.2.2.2.2.2 st_word st_vowels tx_characters tt_begins tt_lengths tt_stemLengths tt_places tt_addresses tt_smalls tt_stems tt_slots tt_nexts)) u) → va_F A s t → (va_Qi (fun (r : Int32) (u : Int32 × Int32 × Int32 × Int32 × Int32 × Int32 × (Nat → Int32) × (Nat → Int32)) => post r u.1 u.2.1 u.2.2.1 u.2.2.2.1 u.2.2.2.2.1 u.2.2.2.2.2.1 u.2.2.2.2.2.2.1 u.2.2.2.2.2.2.2) (xB (dC, dI) vwCl [(cI, .int), (cZ, .boolean)] A (fun u : Int32 × Int32 × Int32 × Int32 × Int32 × Int32 × (Nat → Int32) × (Nat → Int32) => (xW ad cI cZ u.1 u.2.1 u.2.2.1 u.2.2.2.1 u.2.2.2.2.1 u.2.2.2.2.2.1 pr_written pr_within st_size tx_size tt_count tt_pieces tt_kinds u.2.2.2.2.2.2.1 u.2.2.2.2.2.2.2 st_word st_vowels tx_characters tt_begins tt_lengths tt_stemLengths tt_places tt_addresses tt_smalls tt_stems tt_slots tt_nexts))) A) ([.ref (ad 0)] : List Value).toArray s (.returned (some (.int r))) t := fun r u t h1 h2 h3 h4 h5 => ⟨⟨r, u, rfl, h1, h2, h3, h4⟩, h5⟩
  generalize (va_Qi (fun (r : Int32) (u : Int32 × Int32 × Int32 × Int32 × Int32 × Int32 × (Nat → Int32) × (Nat → Int32)) => post r u.1 u.2.1 u.2.2.1 u.2.2.2.1 u.2.2.2.2.1 u.2.2.2.2.2.1 u.2.2.2.2.2.2.1 u.2.2.2.2.2.2.2) (xB (dC, dI) vwCl [(cI, .int), (cZ, .boolean)] A (fun u : Int32 × Int32 × Int32 × Int32 × Int32 × Int32 × (Nat → Int32) × (Nat → Int32) => (xW ad cI cZ u.1 u.2.1 u.2.2.1 u.2.2.2.1 u.2.2.2.2.1 u.2.2.2.2.2.1 pr_written pr_within st_size tx_size tt_count tt_pieces tt_kinds u.2.2.2.2.2.2.1 u.2.2.2.2.2.2.2 st_word st_vowels tx_characters tt_begins tt_lengths tt_stemLengths tt_places tt_addresses tt_smalls tt_stems tt_slots tt_nexts))) A) = Qc at hQ ⊢
  have hl := lv_entry ([.ref (ad 0)]) (n := 1) (Nat.le_of_ble_eq_true rfl)
  rw [lg_entry_eq]
  generalize (lg_sl ([.ref (ad 0)]) ++ List.replicate (1 - (lg_sl ([.ref (ad 0)])).length) Slot.unset).toArray = ls at hl ⊢
  have hl : lv_has ls 1 [(0, .ref (ad 0))] := hl
  refine (fun (key : ∀ (H : Heap) (locs : List Loc), va_P (dC, dI) vwCl (xW ad cI cZ lt_count lw_begin lw_end lw_depth lw_signed lw_led pr_written pr_within st_size tx_size tt_count tt_pieces tt_kinds lt_begins lt_marks st_word st_vowels tx_characters tt_begins tt_lengths tt_stemLengths tt_places tt_addresses tt_smalls tt_stems tt_slots tt_nexts) H → va_D A (xW ad cI cZ lt_count lw_begin lw_end lw_depth lw_signed lw_led pr_written pr_within st_size tx_size tt_count tt_pieces tt_kinds lt_begins lt_marks st_word st_vowels tx_characters tt_begins tt_lengths tt_stemLengths tt_places tt_addresses tt_smalls tt_stems tt_slots tt_nexts) → va_S A s.heap H locs → W p l e (headSpec wsX1_look ({ frames := 8, cells := 0, slots := 0, locals := 170 })).room s m ([.ref (ad 0)] : List Value).toArray below meth c H locs 0 0 (MQ below Qc ([.ref (ad 0)] : List Value).toArray s 0 0 A) (F0 m 0 ls [])) => key _ _ hP hD hS) ?_
  have inX1 : ∀ w ∈ wsX10, w ∈ wsX1_look := (fun _ h9 => List.mem_cons_of_mem _ (List.mem_append_left _ (List.mem_append_left _ (List.mem_append_right _ h9))))
  have L12 : ∀ (n : Nat) (lt_count : Int32) (lw_begin : Int32) (lw_end : Int32) (lw_depth : Int32) (lw_signed : Int32) (lw_led : Int32) (lt_begins : Nat → Int32) (lt_marks : Nat → Int32) (H : Heap) (locs : List Loc) (ls : Array Slot), lv_has ls 1 [(0, .ref (ad 0))] → va_P (dC, dI) vwCl (xW ad cI cZ lt_count lw_begin lw_end lw_depth lw_signed lw_led pr_written pr_within st_size tx_size tt_count tt_pieces tt_kinds lt_begins lt_marks st_word st_vowels tx_characters tt_begins tt_lengths tt_stemLengths tt_places tt_addresses tt_smalls tt_stems tt_slots tt_nexts) H → va_D A (xW ad cI cZ lt_count lw_begin lw_end lw_depth lw_signed lw_led pr_written pr_within st_size tx_size tt_count tt_pieces tt_kinds lt_begins lt_marks st_word st_vowels tx_characters tt_begins tt_lengths tt_stemLengths tt_places tt_addresses tt_smalls tt_stems tt_slots tt_nexts) → va_S A s.heap H locs → wlX1_look_12 post tx_size tx_characters n lt_count lw_begin lw_end lw_depth lw_signed lw_led lt_begins lt_marks → W p l e (headSpec wsX1_look ({ frames := 8, cells := 0, slots := 0, locals := 170 })).room s m ([.ref (ad 0)] : List Value).toArray below meth c H locs 0 0 (MQ below Qc ([.ref (ad 0)] : List Value).toArray s 0 0 A) (F0 m 12 ls []) := by
    intro n
    induction n with
    | zero => intro lt_count lw_begin lw_end lw_depth lw_signed lw_led lt_begins lt_marks H locs ls _ _ _ _ h; exact absurd h (fun z => z)
    | succ n12 ih12 =>
      intro lt_count lw_begin lw_end lw_depth lw_signed lw_led lt_begins lt_marks H locs ls hl hP hD hS h
      have J118 : ∀ (lt_count : Int32) (lw_begin : Int32) (lw_end : Int32) (lw_depth : Int32) (lw_signed : Int32) (lw_led : Int32) (lt_begins : Nat → Int32) (lt_marks : Nat → Int32) (s0 : Int32) (s1 : Int32) (s2 : Int32) (H : Heap) (locs : List Loc) (ls : Array Slot), lv_has ls 1 [(0, .ref (ad 0))] → va_P (dC, dI) vwCl (xW ad cI cZ lt_count lw_begin lw_end lw_depth lw_signed lw_led pr_written pr_within st_size tx_size tt_count tt_pieces tt_kinds lt_begins lt_marks st_word st_vowels tx_characters tt_begins tt_lengths tt_stemLengths tt_places tt_addresses tt_smalls tt_stems tt_slots tt_nexts) H → va_D A (xW ad cI cZ lt_count lw_begin lw_end lw_depth lw_signed lw_led pr_written pr_within st_size tx_size tt_count tt_pieces tt_kinds lt_begins lt_marks st_word st_vowels tx_characters tt_begins tt_lengths tt_stemLengths tt_places tt_addresses tt_smalls tt_stems tt_slots tt_nexts) → va_S A s.heap H locs → wjX1_look_118 (fun lt_count lw_begin lw_end lw_depth lw_signed lw_led lt_begins lt_marks => wlX1_look_12 post tx_size tx_characters n12 lt_count lw_begin lw_end lw_depth lw_signed lw_led lt_begins lt_marks) post tx_size tx_characters lt_count lw_begin lw_end lw_depth lw_signed lw_led lt_begins lt_marks s0 s1 s2 → W p l e (headSpec wsX1_look ({ frames := 8, cells := 0, slots := 0, locals := 170 })).room s m ([.ref (ad 0)] : List Value).toArray below meth c H locs 0 0 (MQ below Qc ([.ref (ad 0)] : List Value).toArray s 0 0 A) (F0 m 118 ls [.int s0, .int s1, .int s2, .ref (ad 8)]) := by
        intro lt_count lw_begin lw_end lw_depth lw_signed lw_led lt_begins lt_marks s0 s1 s2 H locs ls hl hP hD hS h
        delta wjX1_look_118 at h
        refine lv_iadd hx hb dX1_look_118 ?_
        have hi9 := h.1
        have h := h.2
        refine va_iast hx hb hK hP hD hS 8 0 rfl rfl hi9 dX1_look_119 (fun H locs hP hD hS => ?_)
        have hP : va_P (dC, dI) vwCl (xW ad cI cZ lt_count lw_begin lw_end lw_depth lw_signed lw_led pr_written pr_within st_size tx_size tt_count tt_pieces tt_kinds lt_begins (upd lt_marks s2.toNatClampNeg (s1 + s0)) st_word st_vowels tx_characters tt_begins tt_lengths tt_stemLengths tt_places tt_addresses tt_smalls tt_stems tt_slots tt_nexts) H := hP
        have hD : va_D A (xW ad cI cZ lt_count lw_begin lw_end lw_depth lw_signed lw_led pr_written pr_within st_size tx_size tt_count tt_pieces tt_kinds lt_begins (upd lt_marks s2.toNatClampNeg (s1 + s0)) st_word st_vowels tx_characters tt_begins tt_lengths tt_stemLengths tt_places tt_addresses tt_smalls tt_stems tt_slots tt_nexts) := hD
        refine lv_aload_n hx hb dX1_look_120 rfl (lv_at hl 0 rfl) ?_
        refine lv_dup hx hb dX1_look_121 rfl ?_
        refine va_get (D := (dC, dI)) (ci := 0) (v := .int lt_count) (C := RX1) (T := TX1) (N := 4) hx hb hts inX1 hown hK hP 0 rfl rfl 3 (by decide) (hts (.fieldLink RX1 22 "MailWords$LineTable" "count" "I") (List.mem_of_getElem? (i := 1) rfl)) (fun _ h9 => h9) rfl dX1_look_122 ?_
        refine lv_iconst (v := 1) hx hb dX1_look_125 (by decide) ?_
        refine lv_iadd hx hb dX1_look_126 ?_
        refine lv_topi (fun lt_count_1 elt_count_1 => ?_)
        have h := h lt_count_1 elt_count_1
        refine va_put (D := (dC, dI)) (ci := 0) (v := .int lt_count_1) (ty := .int) (C := RX1) (T := TX1) (N := 4) hx hb hts inX1 tyX1 tyX1_ok nmX1 hown hK hP hD hS 0 rfl rfl 3 (by decide) (hts (.fieldLink RX1 22 "MailWords$LineTable" "count" "I") (List.mem_of_getElem? (i := 1) rfl)) (fun _ h9 => h9) rfl (tyX1_ok 3 (by decide)) rfl rfl (Nat.le_of_ble_eq_true rfl) dX1_look_127 (fun H locs hP hD hS => ?_)
        have hP : va_P (dC, dI) vwCl (xW ad cI cZ lt_count_1 lw_begin lw_end lw_depth lw_signed lw_led pr_written pr_within st_size tx_size tt_count tt_pieces tt_kinds lt_begins (upd lt_marks s2.toNatClampNeg (s1 + s0)) st_word st_vowels tx_characters tt_begins tt_lengths tt_stemLengths tt_places tt_addresses tt_smalls tt_stems tt_slots tt_nexts) H := hP
        have hD : va_D A (xW ad cI cZ lt_count_1 lw_begin lw_end lw_depth lw_signed lw_led pr_written pr_within st_size tx_size tt_count tt_pieces tt_kinds lt_begins (upd lt_marks s2.toNatClampNeg (s1 + s0)) st_word st_vowels tx_characters tt_begins tt_lengths tt_stemLengths tt_places tt_addresses tt_smalls tt_stems tt_slots tt_nexts) := hD
        refine lv_goto (tgt := 12) hx hb dX1_look_130 (by decide) ?_
        exact ih12 lt_count_1 lw_begin lw_end lw_depth lw_signed lw_led lt_begins (upd lt_marks s2.toNatClampNeg (s1 + s0)) H locs ls (lv_sub hl [0] rfl) hP hD hS h
      have J102 : ∀ (lt_count : Int32) (lw_begin : Int32) (lw_end : Int32) (lw_depth : Int32) (lw_signed : Int32) (lw_led : Int32) (lt_begins : Nat → Int32) (lt_marks : Nat → Int32) (s0 : Int32) (s1 : Int32) (s2 : Int32) (H : Heap) (locs : List Loc) (ls : Array Slot), lv_has ls 1 [(0, .ref (ad 0))] → va_P (dC, dI) vwCl (xW ad cI cZ lt_count lw_begin lw_end lw_depth lw_signed lw_led pr_written pr_within st_size tx_size tt_count tt_pieces tt_kinds lt_begins lt_marks st_word st_vowels tx_characters tt_begins tt_lengths tt_stemLengths tt_places tt_addresses tt_smalls tt_stems tt_slots tt_nexts) H → va_D A (xW ad cI cZ lt_count lw_begin lw_end lw_depth lw_signed lw_led pr_written pr_within st_size tx_size tt_count tt_pieces tt_kinds lt_begins lt_marks st_word st_vowels tx_characters tt_begins tt_lengths tt_stemLengths tt_places tt_addresses tt_smalls tt_stems tt_slots tt_nexts) → va_S A s.heap H locs → wjX1_look_102 (fun lt_count lw_begin lw_end lw_depth lw_signed lw_led lt_begins lt_marks => wlX1_look_12 post tx_size tx_characters n12 lt_count lw_begin lw_end lw_depth lw_signed lw_led lt_begins lt_marks) post tx_size tx_characters lt_count lw_begin lw_end lw_depth lw_signed lw_led lt_begins lt_marks s0 s1 s2 → W p l e (headSpec wsX1_look ({ frames := 8, cells := 0, slots := 0, locals := 170 })).room s m ([.ref (ad 0)] : List Value).toArray below meth c H locs 0 0 (MQ below Qc ([.ref (ad 0)] : List Value).toArray s 0 0 A) (F0 m 102 ls [.int s0, .int s1, .int s2, .ref (ad 8)]) := by
        intro lt_count lw_begin lw_end lw_depth lw_signed lw_led lt_begins lt_marks s0 s1 s2 H locs ls hl hP hD hS h
        delta wjX1_look_102 at h
        refine lv_iadd hx hb dX1_look_102 ?_
        refine lv_aload_n hx hb dX1_look_103 rfl (lv_at hl 0 rfl) ?_
        refine va_get (D := (dC, dI)) (ci := 0) (v := .ref (ad 1)) (C := RX1) (T := TX1) (N := 4) hx hb hts inX1 hown hK hP 0 rfl rfl 0 (by decide) (hts (.fieldLink RX1 18 "MailWords$LineTable" "walker" "LMailWords$LineWalker;") (List.mem_of_getElem? (i := 2) rfl)) (fun _ h9 => h9) rfl dX1_look_104 ?_
        refine xc_vi (As := []) (rest := [.int (s1 + s0), .int s2, .ref (ad 8)]) xG Fx (sX2_isLed l dC dI ad cI cZ sa sv lt_count lw_begin lw_end lw_depth lw_signed lw_led pr_written pr_within st_size tx_size tt_count tt_pieces tt_kinds lt_begins lt_marks st_word st_vowels tx_characters tt_begins tt_lengths tt_stemLengths tt_places tt_addresses tt_smalls tt_stems tt_slots tt_nexts h) (cwV 0 hts gX1_look_X2_isLed rfl rfl rfl hdX2_isLed ⟨Nat.le_of_ble_eq_true rfl, Nat.le_of_ble_eq_true rfl⟩) (va_recv hK hP (ci := 1) (q0 := 1) rfl rfl) hK hP hD hS hA hI rfl hl.1 rfl (Nat.le_of_ble_eq_true rfl) dX1_look_107 ⟨Nat.zero_le _, Nat.zero_le _⟩ (fun r_2 u H locs h hP hD hS => ?_)
        refine lv_if_eq (tgt := 117) hx hb dX1_look_110 (by decide) (fun c9 => ?_) (fun c9 => ?_)
        · have h := h.1 c9
          refine lv_iconst (v := 0) hx hb dX1_look_117 (by decide) ?_
          exact J118 lt_count lw_begin lw_end lw_depth lw_signed lw_led lt_begins lt_marks 0 (s1 + s0) s2 H locs ls (lv_sub hl [0] rfl) hP hD hS h
        · have h := h.2 c9
          refine lv_iconst (v := 1) hx hb dX1_look_113 (by decide) ?_
          refine lv_goto (tgt := 118) hx hb dX1_look_114 (by decide) ?_
          exact J118 lt_count lw_begin lw_end lw_depth lw_signed lw_led lt_begins lt_marks 1 (s1 + s0) s2 H locs ls (lv_sub hl [0] rfl) hP hD hS h
      rw [wlX1_look_12] at h
      refine lv_aload_n hx hb dX1_look_12 rfl (lv_at hl 0 rfl) ?_
      refine va_get (D := (dC, dI)) (ci := 0) (v := .int lt_count) (C := RX1) (T := TX1) (N := 4) hx hb hts inX1 hown hK hP 0 rfl rfl 3 (by decide) (hts (.fieldLink RX1 22 "MailWords$LineTable" "count" "I") (List.mem_of_getElem? (i := 1) rfl)) (fun _ h9 => h9) rfl dX1_look_13 ?_
      refine lv_aload_n hx hb dX1_look_16 rfl (lv_at hl 0 rfl) ?_
      refine va_get (D := (dC, dI)) (ci := 0) (v := .ref (ad 8)) (C := RX1) (T := TX1) (N := 4) hx hb hts inX1 hown hK hP 0 rfl rfl 2 (by decide) (hts (.fieldLink RX1 15 "MailWords$LineTable" "marks" "[I") (List.mem_of_getElem? (i := 3) rfl)) (fun _ h9 => h9) rfl dX1_look_17 ?_
      refine va_alen (v := 1500) (ty := .int) hx hb hK hP 8 0 rfl rfl rfl dX1_look_20 ?_
      refine lv_icmp_ge (tgt := 133) hx hb dX1_look_21 (by decide) (fun c9 => ?_) (fun c9 => ?_)
      · have h := h.1 c9
        refine lv_aload_n hx hb dX1_look_133 rfl (lv_at hl 0 rfl) ?_
        refine va_get (D := (dC, dI)) (ci := 0) (v := .int lt_count) (C := RX1) (T := TX1) (N := 4) hx hb hts inX1 hown hK hP 0 rfl rfl 3 (by decide) (hts (.fieldLink RX1 22 "MailWords$LineTable" "count" "I") (List.mem_of_getElem? (i := 1) rfl)) (fun _ h9 => h9) rfl dX1_look_134 ?_
        exact W.iret (v := lt_count) hx hb hr (fun t ht hW => hQ lt_count (lt_count, lw_begin, lw_end, lw_depth, lw_signed, lw_led, lt_begins, lt_marks) t h (by rw [ht]; exact hP) (va_K.moved hW.alike hK) hD (hS.F ht)) hS.2.2 dX1_look_137
      · have h := h.2 c9
        refine lv_aload_n hx hb dX1_look_24 rfl (lv_at hl 0 rfl) ?_
        refine va_get (D := (dC, dI)) (ci := 0) (v := .ref (ad 1)) (C := RX1) (T := TX1) (N := 4) hx hb hts inX1 hown hK hP 0 rfl rfl 0 (by decide) (hts (.fieldLink RX1 18 "MailWords$LineTable" "walker" "LMailWords$LineWalker;") (List.mem_of_getElem? (i := 2) rfl)) (fun _ h9 => h9) rfl dX1_look_25 ?_
        refine xc_vi (As := []) (rest := []) xG Fx (sX2_advance l dC dI ad cI cZ sa sv lt_count lw_begin lw_end lw_depth lw_signed lw_led pr_written pr_within st_size tx_size tt_count tt_pieces tt_kinds lt_begins lt_marks st_word st_vowels tx_characters tt_begins tt_lengths tt_stemLengths tt_places tt_addresses tt_smalls tt_stems tt_slots tt_nexts h) (cwV 0 hts gX1_look_X2_advance rfl rfl rfl hdX2_advance ⟨Nat.le_of_ble_eq_true rfl, Nat.le_of_ble_eq_true rfl⟩) (va_recv hK hP (ci := 1) (q0 := 1) rfl rfl) hK hP hD hS hA hI rfl hl.1 rfl (Nat.le_of_ble_eq_true rfl) dX1_look_28 ⟨Nat.zero_le _, Nat.zero_le _⟩ (fun r_3 u H locs h hP hD hS => ?_)
        obtain ⟨lw_begin_4, lw_end_5, lw_depth_6, lw_signed_7, lw_led_8⟩ := u
        have hP : va_P (dC, dI) vwCl (xW ad cI cZ lt_count lw_begin_4 lw_end_5 lw_depth_6 lw_signed_7 lw_led_8 pr_written pr_within st_size tx_size tt_count tt_pieces tt_kinds lt_begins lt_marks st_word st_vowels tx_characters tt_begins tt_lengths tt_stemLengths tt_places tt_addresses tt_smalls tt_stems tt_slots tt_nexts) H := hP
        have hD : va_D A (xW ad cI cZ lt_count lw_begin_4 lw_end_5 lw_depth_6 lw_signed_7 lw_led_8 pr_written pr_within st_size tx_size tt_count tt_pieces tt_kinds lt_begins lt_marks st_word st_vowels tx_characters tt_begins tt_lengths tt_stemLengths tt_places tt_addresses tt_smalls tt_stems tt_slots tt_nexts) := hD
        refine lv_if_eq (tgt := 133) hx hb dX1_look_31 (by decide) (fun c9 => ?_) (fun c9 => ?_)
        · have h := h.1 c9
          refine lv_aload_n hx hb dX1_look_133 rfl (lv_at hl 0 rfl) ?_
          refine va_get (D := (dC, dI)) (ci := 0) (v := .int lt_count) (C := RX1) (T := TX1) (N := 4) hx hb hts inX1 hown hK hP 0 rfl rfl 3 (by decide) (hts (.fieldLink RX1 22 "MailWords$LineTable" "count" "I") (List.mem_of_getElem? (i := 1) rfl)) (fun _ h9 => h9) rfl dX1_look_134 ?_
          exact W.iret (v := lt_count) hx hb hr (fun t ht hW => hQ lt_count (lt_count, lw_begin_4, lw_end_5, lw_depth_6, lw_signed_7, lw_led_8, lt_begins, lt_marks) t h (by rw [ht]; exact hP) (va_K.moved hW.alike hK) hD (hS.F ht)) hS.2.2 dX1_look_137
        · have h := h.2 c9
          refine lv_aload_n hx hb dX1_look_34 rfl (lv_at hl 0 rfl) ?_
          refine va_get (D := (dC, dI)) (ci := 0) (v := .ref (ad 7)) (C := RX1) (T := TX1) (N := 4) hx hb hts inX1 hown hK hP 0 rfl rfl 1 (by decide) (hts (.fieldLink RX1 9 "MailWords$LineTable" "begins" "[I") (List.mem_of_getElem? (i := 4) rfl)) (fun _ h9 => h9) rfl dX1_look_35 ?_
          refine lv_aload_n hx hb dX1_look_38 rfl (lv_at hl 0 rfl) ?_
          refine va_get (D := (dC, dI)) (ci := 0) (v := .int lt_count) (C := RX1) (T := TX1) (N := 4) hx hb hts inX1 hown hK hP 0 rfl rfl 3 (by decide) (hts (.fieldLink RX1 22 "MailWords$LineTable" "count" "I") (List.mem_of_getElem? (i := 1) rfl)) (fun _ h9 => h9) rfl dX1_look_39 ?_
          refine lv_aload_n hx hb dX1_look_42 rfl (lv_at hl 0 rfl) ?_
          refine va_get (D := (dC, dI)) (ci := 0) (v := .ref (ad 1)) (C := RX1) (T := TX1) (N := 4) hx hb hts inX1 hown hK hP 0 rfl rfl 0 (by decide) (hts (.fieldLink RX1 18 "MailWords$LineTable" "walker" "LMailWords$LineWalker;") (List.mem_of_getElem? (i := 2) rfl)) (fun _ h9 => h9) rfl dX1_look_43 ?_
          refine xc_vi (As := []) (rest := [.int lt_count, .ref (ad 7)]) xG Fx (sX2_begin l dC dI ad cI cZ sa sv lt_count lw_begin_4 lw_end_5 lw_depth_6 lw_signed_7 lw_led_8 pr_written pr_within st_size tx_size tt_count tt_pieces tt_kinds lt_begins lt_marks st_word st_vowels tx_characters tt_begins tt_lengths tt_stemLengths tt_places tt_addresses tt_smalls tt_stems tt_slots tt_nexts h) (cwV 0 hts gX1_look_X2_begin rfl rfl rfl hdX2_begin ⟨Nat.le_of_ble_eq_true rfl, Nat.le_of_ble_eq_true rfl⟩) (va_recv hK hP (ci := 1) (q0 := 1) rfl rfl) hK hP hD hS hA hI rfl hl.1 rfl (Nat.le_of_ble_eq_true rfl) dX1_look_46 ⟨Nat.zero_le _, Nat.zero_le _⟩ (fun r_9 u H locs h hP hD hS => ?_)
          have hi9 := h.1
          have h := h.2
          refine va_iast hx hb hK hP hD hS 7 0 rfl rfl hi9 dX1_look_49 (fun H locs hP hD hS => ?_)
          have hP : va_P (dC, dI) vwCl (xW ad cI cZ lt_count lw_begin_4 lw_end_5 lw_depth_6 lw_signed_7 lw_led_8 pr_written pr_within st_size tx_size tt_count tt_pieces tt_kinds (upd lt_begins lt_count.toNatClampNeg r_9) lt_marks st_word st_vowels tx_characters tt_begins tt_lengths tt_stemLengths tt_places tt_addresses tt_smalls tt_stems tt_slots tt_nexts) H := hP
          have hD : va_D A (xW ad cI cZ lt_count lw_begin_4 lw_end_5 lw_depth_6 lw_signed_7 lw_led_8 pr_written pr_within st_size tx_size tt_count tt_pieces tt_kinds (upd lt_begins lt_count.toNatClampNeg r_9) lt_marks st_word st_vowels tx_characters tt_begins tt_lengths tt_stemLengths tt_places tt_addresses tt_smalls tt_stems tt_slots tt_nexts) := hD
          refine lv_aload_n hx hb dX1_look_50 rfl (lv_at hl 0 rfl) ?_
          refine va_get (D := (dC, dI)) (ci := 0) (v := .ref (ad 7)) (C := RX1) (T := TX1) (N := 4) hx hb hts inX1 hown hK hP 0 rfl rfl 1 (by decide) (hts (.fieldLink RX1 9 "MailWords$LineTable" "begins" "[I") (List.mem_of_getElem? (i := 4) rfl)) (fun _ h9 => h9) rfl dX1_look_51 ?_
          refine lv_aload_n hx hb dX1_look_54 rfl (lv_at hl 0 rfl) ?_
          refine va_get (D := (dC, dI)) (ci := 0) (v := .int lt_count) (C := RX1) (T := TX1) (N := 4) hx hb hts inX1 hown hK hP 0 rfl rfl 3 (by decide) (hts (.fieldLink RX1 22 "MailWords$LineTable" "count" "I") (List.mem_of_getElem? (i := 1) rfl)) (fun _ h9 => h9) rfl dX1_look_55 ?_
          refine lv_iconst (v := 1) hx hb dX1_look_58 (by decide) ?_
          refine lv_iadd hx hb dX1_look_59 ?_
          refine lv_aload_n hx hb dX1_look_60 rfl (lv_at hl 0 rfl) ?_
          refine va_get (D := (dC, dI)) (ci := 0) (v := .ref (ad 1)) (C := RX1) (T := TX1) (N := 4) hx hb hts inX1 hown hK hP 0 rfl rfl 0 (by decide) (hts (.fieldLink RX1 18 "MailWords$LineTable" "walker" "LMailWords$LineWalker;") (List.mem_of_getElem? (i := 2) rfl)) (fun _ h9 => h9) rfl dX1_look_61 ?_
          refine xc_vi (As := []) (rest := [.int (lt_count + 1), .ref (ad 7)]) xG Fx (sX2_end l dC dI ad cI cZ sa sv lt_count lw_begin_4 lw_end_5 lw_depth_6 lw_signed_7 lw_led_8 pr_written pr_within st_size tx_size tt_count tt_pieces tt_kinds (upd lt_begins lt_count.toNatClampNeg r_9) lt_marks st_word st_vowels tx_characters tt_begins tt_lengths tt_stemLengths tt_places tt_addresses tt_smalls tt_stems tt_slots tt_nexts h) (cwV 0 hts gX1_look_X2_end rfl rfl rfl hdX2_end ⟨Nat.le_of_ble_eq_true rfl, Nat.le_of_ble_eq_true rfl⟩) (va_recv hK hP (ci := 1) (q0 := 1) rfl rfl) hK hP hD hS hA hI rfl hl.1 rfl (Nat.le_of_ble_eq_true rfl) dX1_look_64 ⟨Nat.zero_le _, Nat.zero_le _⟩ (fun r_10 u H locs h hP hD hS => ?_)
          refine lv_iconst (v := 1) hx hb dX1_look_67 (by decide) ?_
          refine lv_iadd hx hb dX1_look_68 ?_
          have hi9 := h.1
          have h := h.2
          refine va_iast hx hb hK hP hD hS 7 0 rfl rfl hi9 dX1_look_69 (fun H locs hP hD hS => ?_)
          have hP : va_P (dC, dI) vwCl (xW ad cI cZ lt_count lw_begin_4 lw_end_5 lw_depth_6 lw_signed_7 lw_led_8 pr_written pr_within st_size tx_size tt_count tt_pieces tt_kinds (upd (upd lt_begins lt_count.toNatClampNeg r_9) ((lt_count + 1) : Int32).toNatClampNeg (r_10 + 1)) lt_marks st_word st_vowels tx_characters tt_begins tt_lengths tt_stemLengths tt_places tt_addresses tt_smalls tt_stems tt_slots tt_nexts) H := hP
          have hD : va_D A (xW ad cI cZ lt_count lw_begin_4 lw_end_5 lw_depth_6 lw_signed_7 lw_led_8 pr_written pr_within st_size tx_size tt_count tt_pieces tt_kinds (upd (upd lt_begins lt_count.toNatClampNeg r_9) ((lt_count + 1) : Int32).toNatClampNeg (r_10 + 1)) lt_marks st_word st_vowels tx_characters tt_begins tt_lengths tt_stemLengths tt_places tt_addresses tt_smalls tt_stems tt_slots tt_nexts) := hD
          refine lv_aload_n hx hb dX1_look_70 rfl (lv_at hl 0 rfl) ?_
          refine va_get (D := (dC, dI)) (ci := 0) (v := .ref (ad 8)) (C := RX1) (T := TX1) (N := 4) hx hb hts inX1 hown hK hP 0 rfl rfl 2 (by decide) (hts (.fieldLink RX1 15 "MailWords$LineTable" "marks" "[I") (List.mem_of_getElem? (i := 3) rfl)) (fun _ h9 => h9) rfl dX1_look_71 ?_
          refine lv_aload_n hx hb dX1_look_74 rfl (lv_at hl 0 rfl) ?_
          refine va_get (D := (dC, dI)) (ci := 0) (v := .int lt_count) (C := RX1) (T := TX1) (N := 4) hx hb hts inX1 hown hK hP 0 rfl rfl 3 (by decide) (hts (.fieldLink RX1 22 "MailWords$LineTable" "count" "I") (List.mem_of_getElem? (i := 1) rfl)) (fun _ h9 => h9) rfl dX1_look_75 ?_
          refine lv_aload_n hx hb dX1_look_78 rfl (lv_at hl 0 rfl) ?_
          refine va_get (D := (dC, dI)) (ci := 0) (v := .ref (ad 1)) (C := RX1) (T := TX1) (N := 4) hx hb hts inX1 hown hK hP 0 rfl rfl 0 (by decide) (hts (.fieldLink RX1 18 "MailWords$LineTable" "walker" "LMailWords$LineWalker;") (List.mem_of_getElem? (i := 2) rfl)) (fun _ h9 => h9) rfl dX1_look_79 ?_
          refine xc_vi (As := []) (rest := [.int lt_count, .ref (ad 8)]) xG Fx (sX2_depth l dC dI ad cI cZ sa sv lt_count lw_begin_4 lw_end_5 lw_depth_6 lw_signed_7 lw_led_8 pr_written pr_within st_size tx_size tt_count tt_pieces tt_kinds (upd (upd lt_begins lt_count.toNatClampNeg r_9) ((lt_count + 1) : Int32).toNatClampNeg (r_10 + 1)) lt_marks st_word st_vowels tx_characters tt_begins tt_lengths tt_stemLengths tt_places tt_addresses tt_smalls tt_stems tt_slots tt_nexts h) (cwV 0 hts gX1_look_X2_depth rfl rfl rfl hdX2_depth ⟨Nat.le_of_ble_eq_true rfl, Nat.le_of_ble_eq_true rfl⟩) (va_recv hK hP (ci := 1) (q0 := 1) rfl rfl) hK hP hD hS hA hI rfl hl.1 rfl (Nat.le_of_ble_eq_true rfl) dX1_look_82 ⟨Nat.zero_le _, Nat.zero_le _⟩ (fun r_11 u H locs h hP hD hS => ?_)
          refine lv_iconst (v := 4) hx hb dX1_look_85 (by decide) ?_
          refine lv_imul hx hb dX1_look_86 ?_
          refine lv_aload_n hx hb dX1_look_87 rfl (lv_at hl 0 rfl) ?_
          refine va_get (D := (dC, dI)) (ci := 0) (v := .ref (ad 1)) (C := RX1) (T := TX1) (N := 4) hx hb hts inX1 hown hK hP 0 rfl rfl 0 (by decide) (hts (.fieldLink RX1 18 "MailWords$LineTable" "walker" "LMailWords$LineWalker;") (List.mem_of_getElem? (i := 2) rfl)) (fun _ h9 => h9) rfl dX1_look_88 ?_
          refine xc_vi (As := []) (rest := [.int (r_11 * 4), .int lt_count, .ref (ad 8)]) xG Fx (sX2_isSigned l dC dI ad cI cZ sa sv lt_count lw_begin_4 lw_end_5 lw_depth_6 lw_signed_7 lw_led_8 pr_written pr_within st_size tx_size tt_count tt_pieces tt_kinds (upd (upd lt_begins lt_count.toNatClampNeg r_9) ((lt_count + 1) : Int32).toNatClampNeg (r_10 + 1)) lt_marks st_word st_vowels tx_characters tt_begins tt_lengths tt_stemLengths tt_places tt_addresses tt_smalls tt_stems tt_slots tt_nexts h) (cwV 0 hts gX1_look_X2_isSigned rfl rfl rfl hdX2_isSigned ⟨Nat.le_of_ble_eq_true rfl, Nat.le_of_ble_eq_true rfl⟩) (va_recv hK hP (ci := 1) (q0 := 1) rfl rfl) hK hP hD hS hA hI rfl hl.1 rfl (Nat.le_of_ble_eq_true rfl) dX1_look_91 ⟨Nat.zero_le _, Nat.zero_le _⟩ (fun r_12 u H locs h hP hD hS => ?_)
          refine lv_if_eq (tgt := 101) hx hb dX1_look_94 (by decide) (fun c9 => ?_) (fun c9 => ?_)
          · have h := h.1 c9
            refine lv_iconst (v := 0) hx hb dX1_look_101 (by decide) ?_
            exact J102 lt_count lw_begin_4 lw_end_5 lw_depth_6 lw_signed_7 lw_led_8 (upd (upd lt_begins lt_count.toNatClampNeg r_9) ((lt_count + 1) : Int32).toNatClampNeg (r_10 + 1)) lt_marks 0 (r_11 * 4) lt_count H locs ls (lv_sub hl [0] rfl) hP hD hS h
          · have h := h.2 c9
            refine lv_iconst (v := 2) hx hb dX1_look_97 (by decide) ?_
            refine lv_goto (tgt := 102) hx hb dX1_look_98 (by decide) ?_
            exact J102 lt_count lw_begin_4 lw_end_5 lw_depth_6 lw_signed_7 lw_led_8 (upd (upd lt_begins lt_count.toNatClampNeg r_9) ((lt_count + 1) : Int32).toNatClampNeg (r_10 + 1)) lt_marks 2 (r_11 * 4) lt_count H locs ls (lv_sub hl [0] rfl) hP hD hS h
  intro H locs hP hD hS
  delta wpX1_look at h
  refine lv_aload_n hx hb dX1_look_0 rfl (lv_at hl 0 rfl) ?_
  refine lv_iconst (v := 0) hx hb dX1_look_1 (by decide) ?_
  refine va_put (D := (dC, dI)) (ci := 0) (v := .int 0) (ty := .int) (C := RX1) (T := TX1) (N := 4) hx hb hts inX1 tyX1 tyX1_ok nmX1 hown hK hP hD hS 0 rfl rfl 3 (by decide) (hts (.fieldLink RX1 22 "MailWords$LineTable" "count" "I") (List.mem_of_getElem? (i := 1) rfl)) (fun _ h9 => h9) rfl (tyX1_ok 3 (by decide)) rfl rfl (Nat.le_of_ble_eq_true rfl) dX1_look_2 (fun H locs hP hD hS => ?_)
  have hP : va_P (dC, dI) vwCl (xW ad cI cZ 0 lw_begin lw_end lw_depth lw_signed lw_led pr_written pr_within st_size tx_size tt_count tt_pieces tt_kinds lt_begins lt_marks st_word st_vowels tx_characters tt_begins tt_lengths tt_stemLengths tt_places tt_addresses tt_smalls tt_stems tt_slots tt_nexts) H := hP
  have hD : va_D A (xW ad cI cZ 0 lw_begin lw_end lw_depth lw_signed lw_led pr_written pr_within st_size tx_size tt_count tt_pieces tt_kinds lt_begins lt_marks st_word st_vowels tx_characters tt_begins tt_lengths tt_stemLengths tt_places tt_addresses tt_smalls tt_stems tt_slots tt_nexts) := hD
  refine lv_aload_n hx hb dX1_look_5 rfl (lv_at hl 0 rfl) ?_
  refine va_get (D := (dC, dI)) (ci := 0) (v := .ref (ad 1)) (C := RX1) (T := TX1) (N := 4) hx hb hts inX1 hown hK hP 0 rfl rfl 0 (by decide) (hts (.fieldLink RX1 18 "MailWords$LineTable" "walker" "LMailWords$LineWalker;") (List.mem_of_getElem? (i := 2) rfl)) (fun _ h9 => h9) rfl dX1_look_6 ?_
  refine xc_vv (As := []) (rest := []) xG Fx (sX2_start l dC dI ad cI cZ sa sv 0 lw_begin lw_end lw_depth lw_signed lw_led pr_written pr_within st_size tx_size tt_count tt_pieces tt_kinds lt_begins lt_marks st_word st_vowels tx_characters tt_begins tt_lengths tt_stemLengths tt_places tt_addresses tt_smalls tt_stems tt_slots tt_nexts h) (cwV 0 hts gX1_look_X2_start rfl rfl rfl hdX2_start ⟨Nat.le_of_ble_eq_true rfl, Nat.le_of_ble_eq_true rfl⟩) (va_recv hK hP (ci := 1) (q0 := 1) rfl rfl) hK hP hD hS hA hI rfl hl.1 rfl (Nat.le_of_ble_eq_true rfl) dX1_look_9 ⟨Nat.zero_le _, Nat.zero_le _⟩ (fun u H locs h hP hD hS => ?_)
  obtain ⟨lw_end_14, lw_signed_15⟩ := u
  have hP : va_P (dC, dI) vwCl (xW ad cI cZ 0 lw_begin lw_end_14 lw_depth lw_signed_15 lw_led pr_written pr_within st_size tx_size tt_count tt_pieces tt_kinds lt_begins lt_marks st_word st_vowels tx_characters tt_begins tt_lengths tt_stemLengths tt_places tt_addresses tt_smalls tt_stems tt_slots tt_nexts) H := hP
  have hD : va_D A (xW ad cI cZ 0 lw_begin lw_end_14 lw_depth lw_signed_15 lw_led pr_written pr_within st_size tx_size tt_count tt_pieces tt_kinds lt_begins lt_marks st_word st_vowels tx_characters tt_begins tt_lengths tt_stemLengths tt_places tt_addresses tt_smalls tt_stems tt_slots tt_nexts) := hD
  obtain ⟨n, h⟩ := h
  exact L12  n 0 lw_begin lw_end_14 lw_depth lw_signed_15 lw_led lt_begins lt_marks H locs ls (lv_sub hl [0] rfl) hP hD hS h
set_option maxHeartbeats 4000000 in
set_option maxRecDepth 100000 in
theorem sX1_tell (l : Launch) (dC : Nat → ClassId) (dI : Nat → Nat → Nat) (ad : Nat → Nat) (cI cZ : ClassId) (sa sv : Nat → Nat) (lt_count : Int32) (lw_begin : Int32) (lw_end : Int32) (lw_depth : Int32) (lw_signed : Int32) (lw_led : Int32) (pr_written : Int32) (pr_within : Int32) (st_size : Int32) (tx_size : Int32) (tt_count : Int32) (tt_pieces : Int32) (tt_kinds : Int32) (lt_begins : Nat → Int32) (lt_marks : Nat → Int32) (st_word : Nat → Int32) (st_vowels : Nat → Int32) (tx_characters : Nat → Int32) (tt_begins : Nat → Int32) (tt_lengths : Nat → Int32) (tt_stemLengths : Nat → Int32) (tt_places : Nat → Int32) (tt_addresses : Nat → Int32) (tt_smalls : Nat → Int32) (tt_stems : Nat → Int32) (tt_slots : Nat → Int32) (tt_nexts : Nat → Int32) (x1 : Int32) (x2 : Int32) {post : Int32 → Prop} (h : wpX1_tell post lt_count lt_begins lt_marks x1 x2) : xMi l (dC, dI) vwCl [(cI, .int), (cZ, .boolean)] (sI sa sv) yX1_tell wsX1_tell ({ frames := 0, cells := 0, slots := 0, locals := 0 }) (xW ad cI cZ lt_count lw_begin lw_end lw_depth lw_signed lw_led pr_written pr_within st_size tx_size tt_count tt_pieces tt_kinds lt_begins lt_marks st_word st_vowels tx_characters tt_begins tt_lengths tt_stemLengths tt_places tt_addresses tt_smalls tt_stems tt_slots tt_nexts) [.ref (ad 0), .int x1, .int x2] (fun (r : Int32) (u : Unit) => post r ) (fun u : Unit => (xW ad cI cZ lt_count lw_begin lw_end lw_depth lw_signed lw_led pr_written pr_within st_size tx_size tt_count tt_pieces tt_kinds lt_begins lt_marks st_word st_vowels tx_characters tt_begins tt_lengths tt_stemLengths tt_places tt_addresses tt_smalls tt_stems tt_slots tt_nexts)) := by
  intro sz
  refine Met.ofW (cc := cX1_tell) (maxL := 3) (ret := (some .int)) (by decide) rfl ?_
  intro p e s m args below meth c s₁ B hml hv
  obtain ⟨rfl, hsz, hP, hK, hD0, hI⟩ := hv
  have hx := B.exec
  have hb := B.bytes
  have hr := B.returns
  have hts := atoms_spec (ws := wsX1_tell) B.pre
  have hown : s.vm.findClass RX1 = some m.cls := findClass_of_methodNamed B.named
  have hlocks := B.notSynchronized
  subst hsz
  have hD := hD0.self (sz := s.heap.size)
  generalize hAe : va_A (xW ad cI cZ lt_count lw_begin lw_end lw_depth lw_signed lw_led pr_written pr_within st_size tx_size tt_count tt_pieces tt_kinds lt_begins lt_marks st_word st_vowels tx_characters tt_begins tt_lengths tt_stemLengths tt_places tt_addresses tt_smalls tt_stems tt_slots tt_nexts) s.heap.size = A at hD hI ⊢
  have hA : ∀ q : Nat, s.heap.size ≤ q → A q := fun q h => by rw [← hAe]; exact Or.inr h
  have hS : va_S A s.heap s.heap [] := va_S.rf
  have Fx : CallFix p m c cX1_tell 3 s ([.ref (ad 0), .int x1, .int x2] : List Value).toArray wsX1_tell RX1 := ⟨hx, hb, hml, hown, hts⟩
  have hQ : ∀ (r : Int32) (u : Unit) (t : State), (fun (r : Int32) (u : Unit) => post r ) r u → va_P (dC, dI) vwCl ((fun u : Unit => (xW ad cI cZ lt_count lw_begin lw_end lw_depth lw_signed lw_led pr_written pr_within st_size tx_size tt_count tt_pieces tt_kinds lt_begins lt_marks st_word st_vowels tx_characters tt_begins tt_lengths tt_stemLengths tt_places tt_addresses tt_smalls tt_stems tt_slots tt_nexts)) u) t.heap → va_K (dC, dI) vwCl [(cI, .int), (cZ, .boolean)] t → va_D A ((fun u : Unit => (xW ad cI cZ lt_count lw_begin lw_end lw_depth lw_signed lw_led pr_written pr_within st_size tx_size tt_count tt_pieces tt_kinds lt_begins lt_marks st_word st_vowels tx_characters tt_begins tt_lengths tt_stemLengths tt_places tt_addresses tt_smalls tt_stems tt_slots tt_nexts)) u) → va_F A s t → (va_Qi (fun (r : Int32) (u : Unit) => post r ) (xB (dC, dI) vwCl [(cI, .int), (cZ, .boolean)] A (fun u : Unit => (xW ad cI cZ lt_count lw_begin lw_end lw_depth lw_signed lw_led pr_written pr_within st_size tx_size tt_count tt_pieces tt_kinds lt_begins lt_marks st_word st_vowels tx_characters tt_begins tt_lengths tt_stemLengths tt_places tt_addresses tt_smalls tt_stems tt_slots tt_nexts))) A) ([.ref (ad 0), .int x1, .int x2] : List Value).toArray s (.returned (some (.int r))) t := fun r u t h1 h2 h3 h4 h5 => ⟨⟨r, u, rfl, h1, h2, h3, h4⟩, h5⟩
  generalize (va_Qi (fun (r : Int32) (u : Unit) => post r ) (xB (dC, dI) vwCl [(cI, .int), (cZ, .boolean)] A (fun u : Unit => (xW ad cI cZ lt_count lw_begin lw_end lw_depth lw_signed lw_led pr_written pr_within st_size tx_size tt_count tt_pieces tt_kinds lt_begins lt_marks st_word st_vowels tx_characters tt_begins tt_lengths tt_stemLengths tt_places tt_addresses tt_smalls tt_stems tt_slots tt_nexts))) A) = Qc at hQ ⊢
  have hl := lv_entry ([.ref (ad 0), .int x1, .int x2]) (n := 3) (Nat.le_of_ble_eq_true rfl)
  rw [lg_entry_eq]
  generalize (lg_sl ([.ref (ad 0), .int x1, .int x2]) ++ List.replicate (3 - (lg_sl ([.ref (ad 0), .int x1, .int x2])).length) Slot.unset).toArray = ls at hl ⊢
  have hl : lv_has ls 3 [(0, .ref (ad 0)), (1, .int x1), (2, .int x2)] := hl
  refine (fun (key : ∀ (H : Heap) (locs : List Loc), va_P (dC, dI) vwCl (xW ad cI cZ lt_count lw_begin lw_end lw_depth lw_signed lw_led pr_written pr_within st_size tx_size tt_count tt_pieces tt_kinds lt_begins lt_marks st_word st_vowels tx_characters tt_begins tt_lengths tt_stemLengths tt_places tt_addresses tt_smalls tt_stems tt_slots tt_nexts) H → va_D A (xW ad cI cZ lt_count lw_begin lw_end lw_depth lw_signed lw_led pr_written pr_within st_size tx_size tt_count tt_pieces tt_kinds lt_begins lt_marks st_word st_vowels tx_characters tt_begins tt_lengths tt_stemLengths tt_places tt_addresses tt_smalls tt_stems tt_slots tt_nexts) → va_S A s.heap H locs → W p l e (headSpec wsX1_tell ({ frames := 0, cells := 0, slots := 0, locals := 0 })).room s m ([.ref (ad 0), .int x1, .int x2] : List Value).toArray below meth c H locs 0 0 (MQ below Qc ([.ref (ad 0), .int x1, .int x2] : List Value).toArray s 0 0 A) (F0 m 0 ls [])) => key _ _ hP hD hS) ?_
  have inX1 : ∀ w ∈ wsX10, w ∈ wsX1_tell := (fun _ h9 => List.mem_cons_of_mem _ (List.mem_append_right _ h9))
  intro H locs hP hD hS
  delta wpX1_tell at h
  refine lv_iload_n hx hb dX1_tell_0 rfl (lv_at hl 1 rfl) ?_
  refine lv_if_lt (tgt := 12) hx hb dX1_tell_1 (by decide) (fun c9 => ?_) (fun c9 => ?_)
  · have h := h.1 c9
    refine lv_iconst (v := (-1)) hx hb dX1_tell_12 (by decide) ?_
    exact W.iret (v := (-1)) hx hb hr (fun t ht hW => hQ (-1) () t h (by rw [ht]; exact hP) (va_K.moved hW.alike hK) hD (hS.F ht)) hS.2.2 dX1_tell_13
  · have h := h.2 c9
    refine lv_iload_n hx hb dX1_tell_4 rfl (lv_at hl 1 rfl) ?_
    refine lv_aload_n hx hb dX1_tell_5 rfl (lv_at hl 0 rfl) ?_
    refine va_get (D := (dC, dI)) (ci := 0) (v := .int lt_count) (C := RX1) (T := TX1) (N := 4) hx hb hts inX1 hown hK hP 0 rfl rfl 3 (by decide) (hts (.fieldLink RX1 22 "MailWords$LineTable" "count" "I") (List.mem_of_getElem? (i := 1) rfl)) (fun _ h9 => h9) rfl dX1_tell_6 ?_
    refine lv_icmp_lt (tgt := 14) hx hb dX1_tell_9 (by decide) (fun c9 => ?_) (fun c9 => ?_)
    · have h := h.1 c9
      refine lv_iload_n hx hb dX1_tell_14 rfl (lv_at hl 2 rfl) ?_
      by_cases c0 : x2 = 0
      · have h := h.1 c0
        refine lv_tableIn (tgt := 48) hx hb dX1_tell_15 (by rw [c0]; decide) (by rw [c0]; decide) (by rw [c0]; rfl) (by decide) ?_
        refine lv_aload_n hx hb dX1_tell_48 rfl (lv_at hl 0 rfl) ?_
        refine va_get (D := (dC, dI)) (ci := 0) (v := .ref (ad 8)) (C := RX1) (T := TX1) (N := 4) hx hb hts inX1 hown hK hP 0 rfl rfl 2 (by decide) (hts (.fieldLink RX1 15 "MailWords$LineTable" "marks" "[I") (List.mem_of_getElem? (i := 2) rfl)) (fun _ h9 => h9) rfl dX1_tell_49 ?_
        refine lv_iload_n hx hb dX1_tell_52 rfl (lv_at hl 1 rfl) ?_
        have hi9 := h.1
        have h := h.2
        refine va_iald hx hb hK hP 8 0 rfl rfl hi9 dX1_tell_53 ?_
        refine lv_iconst (v := 2) hx hb dX1_tell_54 (by decide) ?_
        refine lv_ishr hx hb dX1_tell_55 ?_
        exact W.iret (v := ((lt_marks x1.toNatClampNeg) >>> (2 &&& 31))) hx hb hr (fun t ht hW => hQ ((lt_marks x1.toNatClampNeg) >>> (2 &&& 31)) () t h (by rw [ht]; exact hP) (va_K.moved hW.alike hK) hD (hS.F ht)) hS.2.2 dX1_tell_56
      by_cases c1 : x2 = 1
      · have h := h.2.1 c1
        refine lv_tableIn (tgt := 57) hx hb dX1_tell_15 (by rw [c1]; decide) (by rw [c1]; decide) (by rw [c1]; rfl) (by decide) ?_
        refine lv_aload_n hx hb dX1_tell_57 rfl (lv_at hl 0 rfl) ?_
        refine va_get (D := (dC, dI)) (ci := 0) (v := .ref (ad 8)) (C := RX1) (T := TX1) (N := 4) hx hb hts inX1 hown hK hP 0 rfl rfl 2 (by decide) (hts (.fieldLink RX1 15 "MailWords$LineTable" "marks" "[I") (List.mem_of_getElem? (i := 2) rfl)) (fun _ h9 => h9) rfl dX1_tell_58 ?_
        refine lv_iload_n hx hb dX1_tell_61 rfl (lv_at hl 1 rfl) ?_
        have hi9 := h.1
        have h := h.2
        refine va_iald hx hb hK hP 8 0 rfl rfl hi9 dX1_tell_62 ?_
        refine lv_iconst (v := 1) hx hb dX1_tell_63 (by decide) ?_
        refine lv_ishr hx hb dX1_tell_64 ?_
        refine lv_iconst (v := 1) hx hb dX1_tell_65 (by decide) ?_
        refine lv_iand hx hb dX1_tell_66 ?_
        exact W.iret (v := (((lt_marks x1.toNatClampNeg) >>> (1 &&& 31)) &&& 1)) hx hb hr (fun t ht hW => hQ (((lt_marks x1.toNatClampNeg) >>> (1 &&& 31)) &&& 1) () t h (by rw [ht]; exact hP) (va_K.moved hW.alike hK) hD (hS.F ht)) hS.2.2 dX1_tell_67
      by_cases c2 : x2 = 2
      · have h := h.2.2.1 c2
        refine lv_tableIn (tgt := 68) hx hb dX1_tell_15 (by rw [c2]; decide) (by rw [c2]; decide) (by rw [c2]; rfl) (by decide) ?_
        refine lv_aload_n hx hb dX1_tell_68 rfl (lv_at hl 0 rfl) ?_
        refine va_get (D := (dC, dI)) (ci := 0) (v := .ref (ad 8)) (C := RX1) (T := TX1) (N := 4) hx hb hts inX1 hown hK hP 0 rfl rfl 2 (by decide) (hts (.fieldLink RX1 15 "MailWords$LineTable" "marks" "[I") (List.mem_of_getElem? (i := 2) rfl)) (fun _ h9 => h9) rfl dX1_tell_69 ?_
        refine lv_iload_n hx hb dX1_tell_72 rfl (lv_at hl 1 rfl) ?_
        have hi9 := h.1
        have h := h.2
        refine va_iald hx hb hK hP 8 0 rfl rfl hi9 dX1_tell_73 ?_
        refine lv_iconst (v := 1) hx hb dX1_tell_74 (by decide) ?_
        refine lv_iand hx hb dX1_tell_75 ?_
        exact W.iret (v := ((lt_marks x1.toNatClampNeg) &&& 1)) hx hb hr (fun t ht hW => hQ ((lt_marks x1.toNatClampNeg) &&& 1) () t h (by rw [ht]; exact hP) (va_K.moved hW.alike hK) hD (hS.F ht)) hS.2.2 dX1_tell_76
      by_cases c3 : x2 = 3
      · have h := h.2.2.2.1 c3
        refine lv_tableIn (tgt := 77) hx hb dX1_tell_15 (by rw [c3]; decide) (by rw [c3]; decide) (by rw [c3]; rfl) (by decide) ?_
        refine lv_aload_n hx hb dX1_tell_77 rfl (lv_at hl 0 rfl) ?_
        refine va_get (D := (dC, dI)) (ci := 0) (v := .ref (ad 7)) (C := RX1) (T := TX1) (N := 4) hx hb hts inX1 hown hK hP 0 rfl rfl 1 (by decide) (hts (.fieldLink RX1 9 "MailWords$LineTable" "begins" "[I") (List.mem_of_getElem? (i := 3) rfl)) (fun _ h9 => h9) rfl dX1_tell_78 ?_
        refine lv_iload_n hx hb dX1_tell_81 rfl (lv_at hl 1 rfl) ?_
        have hi9 := h.1
        have h := h.2
        refine va_iald hx hb hK hP 7 0 rfl rfl hi9 dX1_tell_82 ?_
        exact W.iret (v := (lt_begins x1.toNatClampNeg)) hx hb hr (fun t ht hW => hQ (lt_begins x1.toNatClampNeg) () t h (by rw [ht]; exact hP) (va_K.moved hW.alike hK) hD (hS.F ht)) hS.2.2 dX1_tell_83
      by_cases c4 : x2 = 4
      · have h := h.2.2.2.2.1 c4
        refine lv_tableIn (tgt := 84) hx hb dX1_tell_15 (by rw [c4]; decide) (by rw [c4]; decide) (by rw [c4]; rfl) (by decide) ?_
        refine lv_aload_n hx hb dX1_tell_84 rfl (lv_at hl 0 rfl) ?_
        refine va_get (D := (dC, dI)) (ci := 0) (v := .ref (ad 7)) (C := RX1) (T := TX1) (N := 4) hx hb hts inX1 hown hK hP 0 rfl rfl 1 (by decide) (hts (.fieldLink RX1 9 "MailWords$LineTable" "begins" "[I") (List.mem_of_getElem? (i := 3) rfl)) (fun _ h9 => h9) rfl dX1_tell_85 ?_
        refine lv_iload_n hx hb dX1_tell_88 rfl (lv_at hl 1 rfl) ?_
        refine lv_iconst (v := 1) hx hb dX1_tell_89 (by decide) ?_
        refine lv_iadd hx hb dX1_tell_90 ?_
        have hi9 := h.1
        have h := h.2
        refine va_iald hx hb hK hP 7 0 rfl rfl hi9 dX1_tell_91 ?_
        refine lv_iconst (v := 1) hx hb dX1_tell_92 (by decide) ?_
        refine lv_isub hx hb dX1_tell_93 ?_
        refine lv_aload_n hx hb dX1_tell_94 rfl (lv_at hl 0 rfl) ?_
        refine va_get (D := (dC, dI)) (ci := 0) (v := .ref (ad 7)) (C := RX1) (T := TX1) (N := 4) hx hb hts inX1 hown hK hP 0 rfl rfl 1 (by decide) (hts (.fieldLink RX1 9 "MailWords$LineTable" "begins" "[I") (List.mem_of_getElem? (i := 3) rfl)) (fun _ h9 => h9) rfl dX1_tell_95 ?_
        refine lv_iload_n hx hb dX1_tell_98 rfl (lv_at hl 1 rfl) ?_
        have hi9 := h.1
        have h := h.2
        refine va_iald hx hb hK hP 7 0 rfl rfl hi9 dX1_tell_99 ?_
        refine lv_isub hx hb dX1_tell_100 ?_
        exact W.iret (v := (((lt_begins ((x1 + 1) : Int32).toNatClampNeg) - 1) - (lt_begins x1.toNatClampNeg))) hx hb hr (fun t ht hW => hQ (((lt_begins ((x1 + 1) : Int32).toNatClampNeg) - 1) - (lt_begins x1.toNatClampNeg)) () t h (by rw [ht]; exact hP) (va_K.moved hW.alike hK) hD (hS.F ht)) hS.2.2 dX1_tell_101
      have h := h.2.2.2.2.2 c0 c1 c2 c3 c4
      refine lv_tableOut (tgt := 102) hx hb dX1_tell_15 (sw_out0_4 c0 c1 c2 c3 c4) (by decide) ?_
      refine lv_iconst (v := (-1)) hx hb dX1_tell_102 (by decide) ?_
      exact W.iret (v := (-1)) hx hb hr (fun t ht hW => hQ (-1) () t h (by rw [ht]; exact hP) (va_K.moved hW.alike hK) hD (hS.F ht)) hS.2.2 dX1_tell_103
    · have h := h.2 c9
      refine lv_iconst (v := (-1)) hx hb dX1_tell_12 (by decide) ?_
      exact W.iret (v := (-1)) hx hb hr (fun t ht hW => hQ (-1) () t h (by rw [ht]; exact hP) (va_K.moved hW.alike hK) hD (hS.F ht)) hS.2.2 dX1_tell_13
