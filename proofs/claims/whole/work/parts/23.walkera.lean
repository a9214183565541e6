set_option maxHeartbeats 4000000 in
set_option maxRecDepth 100000 in
theorem sX2_start (l : Launch) (dC : Nat → ClassId) (dI : Nat → Nat → Nat) (ad : Nat → Nat) (cI cZ : ClassId) (sa sv : Nat → Nat) (lt_count : Int32) (lw_begin : Int32) (lw_end : Int32) (lw_depth : Int32) (lw_signed : Int32) (lw_led : Int32) (pr_written : Int32) (pr_within : Int32) (st_size : Int32) (tx_size : Int32) (tt_count : Int32) (tt_pieces : Int32) (tt_kinds : Int32) (lt_begins : Nat → Int32) (lt_marks : Nat → Int32) (st_word : Nat → Int32) (st_vowels : Nat → Int32) (tx_characters : Nat → Int32) (tt_begins : Nat → Int32) (tt_lengths : Nat → Int32) (tt_stemLengths : Nat → Int32) (tt_places : Nat → Int32) (tt_addresses : Nat → Int32) (tt_smalls : Nat → Int32) (tt_stems : Nat → Int32) (tt_slots : Nat → Int32) (tt_nexts : Nat → Int32)  {post : Int32 → Int32 → Prop} (h : wpX2_start post lw_end lw_signed) : xMv l (dC, dI) vwCl [(cI, .int), (cZ, .boolean)] (sI sa sv) yX2_start wsX2_start ({ frames := 0, cells := 0, slots := 0, locals := 0 }) (xW ad cI cZ lt_count lw_begin lw_end lw_depth lw_signed lw_led pr_written pr_within st_size tx_size tt_count tt_pieces tt_kinds lt_begins lt_marks st_word st_vowels tx_characters tt_begins tt_lengths tt_stemLengths tt_places tt_addresses tt_smalls tt_stems tt_slots tt_nexts) [.ref (ad 1)] (fun u : Int32 × Int32 => post u.1 u.2) (fun u : Int32 × Int32 => (xW ad cI cZ lt_count lw_begin u.1 lw_depth u.2 lw_led pr_written pr_within st_size tx_size tt_count tt_pieces tt_kinds lt_begins lt_marks st_word st_vowels tx_characters tt_begins tt_lengths tt_stemLengths tt_places tt_addresses tt_smalls tt_stems tt_slots tt_nexts)) := by
  intro sz
  refine Met.ofW (cc := cX2_start) (maxL := 1) (ret := none) (by decide) rfl ?_
  intro p e s m args below meth c s₁ B hml hv
  obtain ⟨rfl, hsz, hP, hK, hD0, hI⟩ := hv
  have hx := B.exec
  have hb := B.bytes
  have hr := B.returns
  have hts := atoms_spec (ws := wsX2_start) B.pre
  have hown : s.vm.findClass RX2 = some m.cls := findClass_of_methodNamed B.named
  have hlocks := B.notSynchronized
  subst hsz
  have hD := hD0.self (sz := s.heap.size)
  generalize hAe : va_A (xW ad cI cZ lt_count lw_begin lw_end lw_depth lw_signed lw_led pr_written pr_within st_size tx_size tt_count tt_pieces tt_kinds lt_begins lt_marks st_word st_vowels tx_characters tt_begins tt_lengths tt_stemLengths tt_places tt_addresses tt_smalls tt_stems tt_slots tt_nexts) s.heap.size = A at hD hI ⊢
  have hA : ∀ q : Nat, s.heap.size ≤ q → A q := fun q h => by rw [← hAe]; exact Or.inr h
  have hS : va_S A s.heap s.heap [] := va_S.rf
  have Fx : CallFix p m c cX2_start 1 s ([.ref (ad 1)] : List Value).toArray wsX2_start RX2 := ⟨hx, hb, hml, hown, hts⟩
  have hQ : ∀ (u : Int32 × Int32) (t : State), (fun u : Int32 × Int32 => post u.1 u.2) u → va_P (dC, dI) vwCl ((fun u : Int32 × Int32 => (xW ad cI cZ lt_count lw_begin u.1 lw_depth u.2 lw_led pr_written pr_within st_size tx_size tt_count tt_pieces tt_kinds lt_begins lt_marks st_word st_vowels tx_characters tt_begins tt_lengths tt_stemLengths tt_places tt_addresses tt_smalls tt_stems tt_slots tt_nexts)) u) t.heap → va_K (dC, dI) vwCl [(cI, .int), (cZ, .boolean)] t → va_D A ((fun u : Int32 × Int32 => (xW ad cI cZ lt_count lw_begin u.1 lw_depth u.2 lw_led pr_written pr_within st_size tx_size tt_count tt_pieces tt_kinds lt_begins lt_marks st_word st_vowels tx_characters tt_begins tt_lengths tt_stemLengths tt_places tt_addresses tt_smalls tt_stems tt_slots tt_nexts)) u) → va_F A s t → (va_Qv (fun u : Int32 × Int32 => post u.1 u.2) (xB (dC, dI) vwCl [(cI, .int), (cZ, .boolean)] A (fun u : Int32 × Int32 => (xW ad cI cZ lt_count lw_begin u.1 lw_depth u.2 lw_led pr_written pr_within st_size tx_size tt_count tt_pieces tt_kinds lt_begins lt_marks st_word st_vowels tx_characters tt_begins tt_lengths tt_stemLengths tt_places tt_addresses tt_smalls tt_stems tt_slots tt_nexts))) A) ([.ref (ad 1)] : List Value).toArray s (.returned none) t := fun u t h1 h2 h3 h4 h5 => ⟨⟨u, rfl, h1, h2, h3, h4⟩, h5⟩
  generalize (va_Qv (fun u : Int32 × Int32 => post u.1 u.2) (xB (dC, dI) vwCl [(cI, .int), (cZ, .boolean)] A (fun u : Int32 × Int32 => (xW ad cI cZ lt_count lw_begin u.1 lw_depth u.2 lw_led pr_written pr_within st_size tx_size tt_count tt_pieces tt_kinds lt_begins lt_marks st_word st_vowels tx_characters tt_begins tt_lengths tt_stemLengths tt_places tt_addresses tt_smalls tt_stems tt_slots tt_nexts))) A) = Qc at hQ ⊢
  have hl := lv_entry ([.ref (ad 1)]) (n := 1) (Nat.le_of_ble_eq_true rfl)
  rw [lg_entry_eq]
  generalize (lg_sl ([.ref (ad 1)]) ++ List.replicate (1 - (lg_sl ([.ref (ad 1)])).length) Slot.unset).toArray = ls at hl ⊢
  have hl : lv_has ls 1 [(0, .ref (ad 1))] := hl
  refine (fun (key : ∀ (H : Heap) (locs : List Loc), va_P (dC, dI) vwCl (xW ad cI cZ lt_count lw_begin lw_end lw_depth lw_signed lw_led pr_written pr_within st_size tx_size tt_count tt_pieces tt_kinds lt_begins lt_marks st_word st_vowels tx_characters tt_begins tt_lengths tt_stemLengths tt_places tt_addresses tt_smalls tt_stems tt_slots tt_nexts) H → va_D A (xW ad cI cZ lt_count lw_begin lw_end lw_depth lw_signed lw_led pr_written pr_within st_size tx_size tt_count tt_pieces tt_kinds lt_begins lt_marks st_word st_vowels tx_characters tt_begins tt_lengths tt_stemLengths tt_places tt_addresses tt_smalls tt_stems tt_slots tt_nexts) → va_S A s.heap H locs → W p l e (headSpec wsX2_start ({ frames := 0, cells := 0, slots := 0, locals := 0 })).room s m ([.ref (ad 1)] : List Value).toArray below meth c H locs 0 0 (MQ below Qc ([.ref (ad 1)] : List Value).toArray s 0 0 A) (F0 m 0 ls [])) => key _ _ hP hD hS) ?_
  have inX2 : ∀ w ∈ wsX20, w ∈ wsX2_start := (fun _ h9 => List.mem_cons_of_mem _ (List.mem_append_right _ h9))
  intro H locs hP hD hS
  delta wpX2_start at h
  refine lv_aload_n hx hb dX2_start_0 rfl (lv_at hl 0 rfl) ?_
  refine lv_iconst (v := (-1)) hx hb dX2_start_1 (by decide) ?_
  refine va_put (D := (dC, dI)) (ci := 1) (v := .int (-1)) (ty := .int) (C := RX2) (T := TX2) (N := 6) hx hb hts inX2 tyX2 tyX2_ok nmX2 hown hK hP hD hS 1 rfl rfl 2 (by decide) (hts (.fieldLink RX2 15 "MailWords$LineWalker" "end" "I") (List.mem_of_getElem? (i := 1) rfl)) (fun _ h9 => h9) rfl (tyX2_ok 2 (by decide)) rfl rfl (Nat.le_of_ble_eq_true rfl) dX2_start_2 (fun H locs hP hD hS => ?_)
  have hP : va_P (dC, dI) vwCl (xW ad cI cZ lt_count lw_begin (-1) lw_depth lw_signed lw_led pr_written pr_within st_size tx_size tt_count tt_pieces tt_kinds lt_begins lt_marks st_word st_vowels tx_characters tt_begins tt_lengths tt_stemLengths tt_places tt_addresses tt_smalls tt_stems tt_slots tt_nexts) H := hP
  have hD : va_D A (xW ad cI cZ lt_count lw_begin (-1) lw_depth lw_signed lw_led pr_written pr_within st_size tx_size tt_count tt_pieces tt_kinds lt_begins lt_marks st_word st_vowels tx_characters tt_begins tt_lengths tt_stemLengths tt_places tt_addresses tt_smalls tt_stems tt_slots tt_nexts) := hD
  refine lv_aload_n hx hb dX2_start_5 rfl (lv_at hl 0 rfl) ?_
  refine lv_iconst (v := 0) hx hb dX2_start_6 (by decide) ?_
  refine va_put (D := (dC, dI)) (ci := 1) (v := .int 0) (ty := .boolean) (C := RX2) (T := TX2) (N := 6) hx hb hts inX2 tyX2 tyX2_ok nmX2 hown hK hP hD hS 1 rfl rfl 4 (by decide) (hts (.fieldLink RX2 19 "MailWords$LineWalker" "signed" "Z") (List.mem_of_getElem? (i := 2) rfl)) (fun _ h9 => h9) rfl (tyX2_ok 4 (by decide)) (bN_nar bN0) (bN_fit bN0) (Nat.le_of_ble_eq_true rfl) dX2_start_7 (fun H locs hP hD hS => ?_)
  have hP : va_P (dC, dI) vwCl (xW ad cI cZ lt_count lw_begin (-1) lw_depth 0 lw_led pr_written pr_within st_size tx_size tt_count tt_pieces tt_kinds lt_begins lt_marks st_word st_vowels tx_characters tt_begins tt_lengths tt_stemLengths tt_places tt_addresses tt_smalls tt_stems tt_slots tt_nexts) H := hP
  have hD : va_D A (xW ad cI cZ lt_count lw_begin (-1) lw_depth 0 lw_led pr_written pr_within st_size tx_size tt_count tt_pieces tt_kinds lt_begins lt_marks st_word st_vowels tx_characters tt_begins tt_lengths tt_stemLengths tt_places tt_addresses tt_smalls tt_stems tt_slots tt_nexts) := hD
  exact W.vret hx hb hr (fun t ht hW => hQ ((-1), 0) t h (by rw [ht]; exact hP) (va_K.moved hW.alike hK) hD (hS.F ht)) hS.2.2 dX2_start_10
set_option maxHeartbeats 4000000 in
set_option maxRecDepth 100000 in
theorem sX2_depthFrom (l : Launch) (dC : Nat → ClassId) (dI : Nat → Nat → Nat) (ad : Nat → Nat) (cI cZ : ClassId) (sa sv : Nat → Nat) (lt_count : Int32) (lw_begin : Int32) (lw_end : Int32) (lw_depth : Int32) (lw_signed : Int32) (lw_led : Int32) (pr_written : Int32) (pr_within : Int32) (st_size : Int32) (tx_size : Int32) (tt_count : Int32) (tt_pieces : Int32) (tt_kinds : Int32) (lt_begins : Nat → Int32) (lt_marks : Nat → Int32) (st_word : Nat → Int32) (st_vowels : Nat → Int32) (tx_characters : Nat → Int32) (tt_begins : Nat → Int32) (tt_lengths : Nat → Int32) (tt_stemLengths : Nat → Int32) (tt_places : Nat → Int32) (tt_addresses : Nat → Int32) (tt_smalls : Nat → Int32) (tt_stems : Nat → Int32) (tt_slots : Nat → Int32) (tt_nexts : Nat → Int32) (x1 : Int32) {post : Int32 → Prop} (h : wpX2_depthFrom post tx_size tx_characters x1) : xMi l (dC, dI) vwCl [(cI, .int), (cZ, .boolean)] (sI sa sv) yX2_depthFrom wsX2_depthFrom ({ frames := 1, cells := 0, slots := 0, locals := 21 }) (xW ad cI cZ lt_count lw_begin lw_end lw_depth lw_signed lw_led pr_written pr_within st_size tx_size tt_count tt_pieces tt_kinds lt_begins lt_marks st_word st_vowels tx_characters tt_begins tt_lengths tt_stemLengths tt_places tt_addresses tt_smalls tt_stems tt_slots tt_nexts) [.ref (ad 1), .int x1] (fun (r : Int32) (u : Unit) => post r ) (fun u : Unit => (xW ad cI cZ lt_count lw_begin lw_end lw_depth lw_signed lw_led pr_written pr_within st_size tx_size tt_count tt_pieces tt_kinds lt_begins lt_marks st_word st_vowels tx_characters tt_begins tt_lengths tt_stemLengths tt_places tt_addresses tt_smalls tt_stems tt_slots tt_nexts)) := by
  intro sz
  refine Met.ofW (cc := cX2_depthFrom) (maxL := 4) (ret := (some .int)) (by decide) rfl ?_
  intro p e s m args below meth c s₁ B hml hv
  obtain ⟨rfl, hsz, hP, hK, hD0, hI⟩ := hv
  have hx := B.exec
  have hb := B.bytes
  have hr := B.returns
  have hts := atoms_spec (ws := wsX2_depthFrom) B.pre
  have hown : s.vm.findClass RX2 = some m.cls := findClass_of_methodNamed B.named
  have hlocks := B.notSynchronized
  subst hsz
  have hD := hD0.self (sz := s.heap.size)
  generalize hAe : va_A (xW ad cI cZ lt_count lw_begin lw_end lw_depth lw_signed lw_led pr_written pr_within st_size tx_size tt_count tt_pieces tt_kinds lt_begins lt_marks st_word st_vowels tx_characters tt_begins tt_lengths tt_stemLengths tt_places tt_addresses tt_smalls tt_stems tt_slots tt_nexts) s.heap.size = A at hD hI ⊢
  have hA : ∀ q : Nat, s.heap.size ≤ q → A q := fun q h => by rw [← hAe]; exact Or.inr h
  have hS : va_S A s.heap s.heap [] := va_S.rf
  have Fx : CallFix p m c cX2_depthFrom 4 s ([.ref (ad 1), .int x1] : List Value).toArray wsX2_depthFrom RX2 := ⟨hx, hb, hml, hown, hts⟩
  have hQ : ∀ (r : Int32) (u : Unit) (t : State), (fun (r : Int32) (u : Unit) => post r ) r u → va_P (dC, dI) vwCl ((fun u : Unit => (xW ad cI cZ lt_count lw_begin lw_end lw_depth lw_signed lw_led pr_written pr_within st_size tx_size tt_count tt_pieces tt_kinds lt_begins lt_marks st_word st_vowels tx_characters tt_begins tt_lengths tt_stemLengths tt_places tt_addresses tt_smalls tt_stems tt_slots tt_nexts)) u) t.heap → va_K (dC, dI) vwCl [(cI, .int), (cZ, .boolean)] t → va_D A ((fun u : Unit => (xW ad cI cZ lt_count lw_begin lw_end lw_depth lw_signed lw_led pr_written pr_within st_size tx_size tt_count tt_pieces tt_kinds lt_begins lt_marks st_word st_vowels tx_characters tt_begins tt_lengths tt_stemLengths tt_places tt_addresses tt_smalls tt_stems tt_slots tt_nexts)) u) → va_F A s t → (va_Qi (fun (r : Int32) (u : Unit) => post r ) (xB (dC, dI) vwCl [(cI, .int), (cZ, .boolean)] A (fun u : Unit => (xW ad cI cZ lt_count lw_begin lw_end lw_depth lw_signed lw_led pr_written pr_within st_size tx_size tt_count tt_pieces tt_kinds lt_begins lt_marks st_word st_vowels tx_characters tt_begins tt_lengths tt_stemLengths tt_places tt_addresses tt_smalls tt_stems tt_slots tt_nexts))) A) ([.ref (ad 1), .int x1] : List Value).toArray s (.returned (some (.int r))) t := fun r u t h1 h2 h3 h4 h5 => ⟨⟨r, u, rfl, h1, h2, h3, h4⟩, h5⟩
  generalize (va_Qi (fun (r : Int32) (u : Unit) => post r ) (xB (dC, dI) vwCl [(cI, .int), (cZ, .boolean)] A (fun u : Unit => (xW ad cI cZ lt_count lw_begin lw_end lw_depth lw_signed lw_led pr_written pr_within st_size tx_size tt_count tt_pieces tt_kinds lt_begins lt_marks st_word st_vowels tx_characters tt_begins tt_lengths tt_stemLengths tt_places tt_addresses tt_smalls tt_stems tt_slots tt_nexts))) A) = Qc at hQ ⊢
  have hl := lv_entry ([.ref (ad 1), .int x1]) (n := 4) (Nat.le_of_ble_eq_true rfl)
  rw [lg_entry_eq]
  generalize (lg_sl ([.ref (ad 1), .int x1]) ++ List.replicate (4 - (lg_sl ([.ref (ad 1), .int x1])).length) Slot.unset).toArray = ls at hl ⊢
  have hl : lv_has ls 4 [(0, .ref (ad 1)), (1, .int x1)] := hl
  refine (fun (key : ∀ (H : Heap) (locs : List Loc), va_P (dC, dI) vwCl (xW ad cI cZ lt_count lw_begin lw_end lw_depth lw_signed lw_led pr_written pr_within st_size tx_size tt_count tt_pieces tt_kinds lt_begins lt_marks st_word st_vowels tx_characters tt_begins tt_lengths tt_stemLengths tt_places tt_addresses tt_smalls tt_stems tt_slots tt_nexts) H → va_D A (xW ad cI cZ lt_count lw_begin lw_end lw_depth lw_signed lw_led pr_written pr_within st_size tx_size tt_count tt_pieces tt_kinds lt_begins lt_marks st_word st_vowels tx_characters tt_begins tt_lengths tt_stemLengths tt_places tt_addresses tt_smalls tt_stems tt_slots tt_nexts) → va_S A s.heap H locs → W p l e (headSpec wsX2_depthFrom ({ frames := 1, cells := 0, slots := 0, locals := 21 })).room s m ([.ref (ad 1), .int x1] : List Value).toArray below meth c H locs 0 0 (MQ below Qc ([.ref (ad 1), .int x1] : List Value).toArray s 0 0 A) (F0 m 0 ls [])) => key _ _ hP hD hS) ?_
  have inX2 : ∀ w ∈ wsX20, w ∈ wsX2_depthFrom := (fun _ h9 => List.mem_cons_of_mem _ (List.mem_append_left _ (List.mem_append_right _ h9)))
  have L4 : ∀ (n : Nat) (x2 : Int32) (x3 : Int32) (H : Heap) (locs : List Loc) (ls : Array Slot), lv_has ls 4 [(0, .ref (ad 1)), (2, .int x2), (3, .int x3)] → va_P (dC, dI) vwCl (xW ad cI cZ lt_count lw_begin lw_end lw_depth lw_signed lw_led pr_written pr_within st_size tx_size tt_count tt_pieces tt_kinds lt_begins lt_marks st_word st_vowels tx_characters tt_begins tt_lengths tt_stemLengths tt_places tt_addresses tt_smalls tt_stems tt_slots tt_nexts) H → va_D A (xW ad cI cZ lt_count lw_begin lw_end lw_depth lw_signed lw_led pr_written pr_within st_size tx_size tt_count tt_pieces tt_kinds lt_begins lt_marks st_word st_vowels tx_characters tt_begins tt_lengths tt_stemLengths tt_places tt_addresses tt_smalls tt_stems tt_slots tt_nexts) → va_S A s.heap H locs → wlX2_depthFrom_4 post tx_size tx_characters x1 n x2 x3 → W p l e (headSpec wsX2_depthFrom ({ frames := 1, cells := 0, slots := 0, locals := 21 })).room s m ([.ref (ad 1), .int x1] : List Value).toArray below meth c H locs 0 0 (MQ below Qc ([.ref (ad 1), .int x1] : List Value).toArray s 0 0 A) (F0 m 4 ls []) := by
    intro n
    induction n with
    | zero => intro x2 x3 H locs ls _ _ _ _ h; exact absurd h (fun z => z)
    | succ n4 ih4 =>
      intro x2 x3 H locs ls hl hP hD hS h
      have J50 : ∀ (x2 : Int32) (x3 : Int32) (H : Heap) (locs : List Loc) (ls : Array Slot), lv_has ls 4 [(0, .ref (ad 1)), (2, .int x2), (3, .int x3)] → va_P (dC, dI) vwCl (xW ad cI cZ lt_count lw_begin lw_end lw_depth lw_signed lw_led pr_written pr_within st_size tx_size tt_count tt_pieces tt_kinds lt_begins lt_marks st_word st_vowels tx_characters tt_begins tt_lengths tt_stemLengths tt_places tt_addresses tt_smalls tt_stems tt_slots tt_nexts) H → va_D A (xW ad cI cZ lt_count lw_begin lw_end lw_depth lw_signed lw_led pr_written pr_within st_size tx_size tt_count tt_pieces tt_kinds lt_begins lt_marks st_word st_vowels tx_characters tt_begins tt_lengths tt_stemLengths tt_places tt_addresses tt_smalls tt_stems tt_slots tt_nexts) → va_S A s.heap H locs → wjX2_depthFrom_50 (fun x2 x3 => wlX2_depthFrom_4 post tx_size tx_characters x1 n4 x2 x3) post tx_size tx_characters x1 x2 x3 → W p l e (headSpec wsX2_depthFrom ({ frames := 1, cells := 0, slots := 0, locals := 21 })).room s m ([.ref (ad 1), .int x1] : List Value).toArray below meth c H locs 0 0 (MQ below Qc ([.ref (ad 1), .int x1] : List Value).toArray s 0 0 A) (F0 m 50 ls []) := by
        intro x2 x3 H locs ls hl hP hD hS h
        delta wjX2_depthFrom_50 at h
        obtain ⟨x3_1, ex3_1⟩ : ∃ y : Int32, y = x3 + 1 := ⟨_, rfl⟩
        have h := h x3_1 ex3_1
        refine lv_iinc (v := x3_1) (lv' := [(3, .int x3_1), (0, .ref (ad 1)), (2, .int x2)]) hx hb dX2_depthFrom_50 hl (k := 2) rfl (by rw [ex3_1]; rfl) (by decide) rfl (fun ls hl => ?_)
        refine lv_goto (tgt := 4) hx hb dX2_depthFrom_53 (by decide) ?_
        exact ih4 x2 x3_1 H locs ls (lv_sub hl [1, 2, 0] rfl) hP hD hS h
      rw [wlX2_depthFrom_4] at h
      refine lv_iload_n hx hb dX2_depthFrom_4 rfl (lv_at hl 2 rfl) ?_
      refine lv_aload_n hx hb dX2_depthFrom_5 rfl (lv_at hl 0 rfl) ?_
      refine va_get (D := (dC, dI)) (ci := 1) (v := .ref (ad 4)) (C := RX2) (T := TX2) (N := 6) hx hb hts inX2 hown hK hP 1 rfl rfl 0 (by decide) (hts (.fieldLink RX2 9 "MailWords$LineWalker" "text" "LMailWords$Text;") (List.mem_of_getElem? (i := 1) rfl)) (fun _ h9 => h9) rfl dX2_depthFrom_6 ?_
      refine xc_vi (As := []) (rest := [.int x3]) xG Fx (sX5_size l dC dI ad cI cZ sa sv lt_count lw_begin lw_end lw_depth lw_signed lw_led pr_written pr_within st_size tx_size tt_count tt_pieces tt_kinds lt_begins lt_marks st_word st_vowels tx_characters tt_begins tt_lengths tt_stemLengths tt_places tt_addresses tt_smalls tt_stems tt_slots tt_nexts h) (cwV 0 hts gX2_depthFrom_X5_size rfl rfl rfl hdX5_size ⟨Nat.le_of_ble_eq_true rfl, Nat.le_of_ble_eq_true rfl⟩) (va_recv hK hP (ci := 4) (q0 := 4) rfl rfl) hK hP hD hS hA hI rfl hl.1 rfl (Nat.le_of_ble_eq_true rfl) dX2_depthFrom_9 ⟨Nat.zero_le _, Nat.zero_le _⟩ (fun r_2 u H locs h hP hD hS => ?_)
      refine lv_icmp_ge (tgt := 56) hx hb dX2_depthFrom_12 (by decide) (fun c9 => ?_) (fun c9 => ?_)
      · have h := h.1 c9
        refine lv_iload_n hx hb dX2_depthFrom_56 rfl (lv_at hl 1 rfl) ?_
        exact W.iret (v := x2) hx hb hr (fun t ht hW => hQ x2 () t h (by rw [ht]; exact hP) (va_K.moved hW.alike hK) hD (hS.F ht)) hS.2.2 dX2_depthFrom_57
      · have h := h.2 c9
        refine lv_aload_n hx hb dX2_depthFrom_15 rfl (lv_at hl 0 rfl) ?_
        refine va_get (D := (dC, dI)) (ci := 1) (v := .ref (ad 4)) (C := RX2) (T := TX2) (N := 6) hx hb hts inX2 hown hK hP 1 rfl rfl 0 (by decide) (hts (.fieldLink RX2 9 "MailWords$LineWalker" "text" "LMailWords$Text;") (List.mem_of_getElem? (i := 1) rfl)) (fun _ h9 => h9) rfl dX2_depthFrom_16 ?_
        refine lv_iload_n hx hb dX2_depthFrom_19 rfl (lv_at hl 2 rfl) ?_
        refine xc_vi (As := [.int x3]) (rest := []) xG Fx (sX5_get l dC dI ad cI cZ sa sv lt_count lw_begin lw_end lw_depth lw_signed lw_led pr_written pr_within st_size tx_size tt_count tt_pieces tt_kinds lt_begins lt_marks st_word st_vowels tx_characters tt_begins tt_lengths tt_stemLengths tt_places tt_addresses tt_smalls tt_stems tt_slots tt_nexts x3 h) (cwV 1 hts gX2_depthFrom_X5_get rfl rfl rfl hdX5_get ⟨Nat.le_of_ble_eq_true rfl, Nat.le_of_ble_eq_true rfl⟩) (va_recv hK hP (ci := 4) (q0 := 4) rfl rfl) hK hP hD hS hA hI rfl hl.1 rfl (Nat.le_of_ble_eq_true rfl) dX2_depthFrom_20 ⟨Nat.zero_le _, Nat.zero_le _⟩ (fun r_3 u H locs h hP hD hS => ?_)
        refine lv_bipush (v := 62) hx hb dX2_depthFrom_23 (by decide) ?_
        refine lv_icmp_ne (tgt := 34) hx hb dX2_depthFrom_25 (by decide) (fun c9 => ?_) (fun c9 => ?_)
        · have h := h.1 c9
          refine lv_aload_n hx hb dX2_depthFrom_34 rfl (lv_at hl 0 rfl) ?_
          refine va_get (D := (dC, dI)) (ci := 1) (v := .ref (ad 4)) (C := RX2) (T := TX2) (N := 6) hx hb hts inX2 hown hK hP 1 rfl rfl 0 (by decide) (hts (.fieldLink RX2 9 "MailWords$LineWalker" "text" "LMailWords$Text;") (List.mem_of_getElem? (i := 1) rfl)) (fun _ h9 => h9) rfl dX2_depthFrom_35 ?_
          refine lv_iload_n hx hb dX2_depthFrom_38 rfl (lv_at hl 2 rfl) ?_
          refine xc_vi (As := [.int x3]) (rest := []) xG Fx (sX5_get l dC dI ad cI cZ sa sv lt_count lw_begin lw_end lw_depth lw_signed lw_led pr_written pr_within st_size tx_size tt_count tt_pieces tt_kinds lt_begins lt_marks st_word st_vowels tx_characters tt_begins tt_lengths tt_stemLengths tt_places tt_addresses tt_smalls tt_stems tt_slots tt_nexts x3 h) (cwV 1 hts gX2_depthFrom_X5_get rfl rfl rfl hdX5_get ⟨Nat.le_of_ble_eq_true rfl, Nat.le_of_ble_eq_true rfl⟩) (va_recv hK hP (ci := 4) (q0 := 4) rfl rfl) hK hP hD hS hA hI rfl hl.1 rfl (Nat.le_of_ble_eq_true rfl) dX2_depthFrom_39 ⟨Nat.zero_le _, Nat.zero_le _⟩ (fun r_4 u H locs h hP hD hS => ?_)
          refine lv_bipush (v := 32) hx hb dX2_depthFrom_42 (by decide) ?_
          refine lv_icmp_eq (tgt := 50) hx hb dX2_depthFrom_44 (by decide) (fun c9 => ?_) (fun c9 => ?_)
          · have h := h.1 c9
            exact J50 x2 x3 H locs ls (lv_sub hl [0, 1, 2] rfl) hP hD hS h
          · have h := h.2 c9
            refine lv_goto (tgt := 56) hx hb dX2_depthFrom_47 (by decide) ?_
            refine lv_iload_n hx hb dX2_depthFrom_56 rfl (lv_at hl 1 rfl) ?_
            exact W.iret (v := x2) hx hb hr (fun t ht hW => hQ x2 () t h (by rw [ht]; exact hP) (va_K.moved hW.alike hK) hD (hS.F ht)) hS.2.2 dX2_depthFrom_57
        · have h := h.2 c9
          obtain ⟨x2_5, ex2_5⟩ : ∃ y : Int32, y = x2 + 1 := ⟨_, rfl⟩
          have h := h x2_5 ex2_5
          refine lv_iinc (v := x2_5) (lv' := [(2, .int x2_5), (0, .ref (ad 1)), (3, .int x3)]) hx hb dX2_depthFrom_28 hl (k := 1) rfl (by rw [ex2_5]; rfl) (by decide) rfl (fun ls hl => ?_)
          refine lv_goto (tgt := 50) hx hb dX2_depthFrom_31 (by decide) ?_
          exact J50 x2_5 x3 H locs ls (lv_sub hl [1, 0, 2] rfl) hP hD hS h
  intro H locs hP hD hS
  delta wpX2_depthFrom at h
  refine lv_iconst (v := 0) hx hb dX2_depthFrom_0 (by decide) ?_
  refine lv_istore_n (lv' := [(2, .int 0), (0, .ref (ad 1)), (1, .int x1)]) hx hb dX2_depthFrom_1 rfl hl (by decide) rfl (fun ls hl => ?_)
  refine lv_iload_n hx hb dX2_depthFrom_2 rfl (lv_at hl 2 rfl) ?_
  refine lv_istore_n (lv' := [(3, .int x1), (2, .int 0), (0, .ref (ad 1)), (1, .int x1)]) hx hb dX2_depthFrom_3 rfl hl (by decide) rfl (fun ls hl => ?_)
  obtain ⟨n, h⟩ := h
  exact L4  n 0 x1 H locs ls (lv_sub hl [2, 1, 0] rfl) hP hD hS h
set_option maxHeartbeats 4000000 in
set_option maxRecDepth 100000 in
theorem sX2_beginsSigned (l : Launch) (dC : Nat → ClassId) (dI : Nat → Nat → Nat) (ad : Nat → Nat) (cI cZ : ClassId) (sa sv : Nat → Nat) (lt_count : Int32) (lw_begin : Int32) (lw_end : Int32) (lw_depth : Int32) (lw_signed : Int32) (lw_led : Int32) (pr_written : Int32) (pr_within : Int32) (st_size : Int32) (tx_size : Int32) (tt_count : Int32) (tt_pieces : Int32) (tt_kinds : Int32) (lt_begins : Nat → Int32) (lt_marks : Nat → Int32) (st_word : Nat → Int32) (st_vowels : Nat → Int32) (tx_characters : Nat → Int32) (tt_begins : Nat → Int32) (tt_lengths : Nat → Int32) (tt_stemLengths : Nat → Int32) (tt_places : Nat → Int32) (tt_addresses : Nat → Int32) (tt_smalls : Nat → Int32) (tt_stems : Nat → Int32) (tt_slots : Nat → Int32) (tt_nexts : Nat → Int32)  {post : Int32 → Prop} (h : wpX2_beginsSigned post lw_begin lw_end tx_size tx_characters) : xMi l (dC, dI) vwCl [(cI, .int), (cZ, .boolean)] (sI sa sv) yX2_beginsSigned wsX2_beginsSigned ({ frames := 5, cells := 0, slots := 0, locals := 108 }) (xW ad cI cZ lt_count lw_begin lw_end lw_depth lw_signed lw_led pr_written pr_within st_size tx_size tt_count tt_pieces tt_kinds lt_begins lt_marks st_word st_vowels tx_characters tt_begins tt_lengths tt_stemLengths tt_places tt_addresses tt_smalls tt_stems tt_slots tt_nexts) [.ref (ad 1)] (fun (r : Int32) (u : Unit) => post r ) (fun u : Unit => (xW ad cI cZ lt_count lw_begin lw_end lw_depth lw_signed lw_led pr_written pr_within st_size tx_size tt_count tt_pieces tt_kinds lt_begins lt_marks st_word st_vowels tx_characters tt_begins tt_lengths tt_stemLengths tt_places tt_addresses tt_smalls tt_stems tt_slots tt_nexts)) := by
  intro sz
  refine Met.ofW (cc := cX2_beginsSigned) (maxL := 2) (ret := (some .boolean)) (by decide) rfl ?_
  intro p e s m args below meth c s₁ B hml hv
  obtain ⟨rfl, hsz, hP, hK, hD0, hI⟩ := hv
  have hx := B.exec
  have hb := B.bytes
  have hr := B.returns
  have hts := atoms_spec (ws := wsX2_beginsSigned) B.pre
  have hown : s.vm.findClass RX2 = some m.cls := findClass_of_methodNamed B.named
  have hlocks := B.notSynchronized
  subst hsz
  have hD := hD0.self (sz := s.heap.size)
  generalize hAe : va_A (xW ad cI cZ lt_count lw_begin lw_end lw_depth lw_signed lw_led pr_written pr_within st_size tx_size tt_count tt_pieces tt_kinds lt_begins lt_marks st_word st_vowels tx_characters tt_begins tt_lengths tt_stemLengths tt_places tt_addresses tt_smalls tt_stems tt_slots tt_nexts) s.heap.size = A at hD hI ⊢
  have hA : ∀ q : Nat, s.heap.size ≤ q → A q := fun q h => by rw [← hAe]; exact Or.inr h
  have hS : va_S A s.heap s.heap [] := va_S.rf
  have Fx : CallFix p m c cX2_beginsSigned 2 s ([.ref (ad 1)] : List Value).toArray wsX2_beginsSigned RX2 := ⟨hx, hb, hml, hown, hts⟩
  have hQ : ∀ (r : Int32) (u : Unit) (t : State), (fun (r : Int32) (u : Unit) => post r ) r u → va_P (dC, dI) vwCl ((fun u : Unit => (xW ad cI cZ lt_count lw_begin lw_end lw_depth lw_signed lw_led pr_written pr_within st_size tx_size tt_count tt_pieces tt_kinds lt_begins lt_marks st_word st_vowels tx_characters tt_begins tt_lengths tt_stemLengths tt_places tt_addresses tt_smalls tt_stems tt_slots tt_nexts)) u) t.heap → va_K (dC, dI) vwCl [(cI, .int), (cZ, .boolean)] t → va_D A ((fun u : Unit => (xW ad cI cZ lt_count lw_begin lw_end lw_depth lw_signed lw_led pr_written pr_within st_size tx_size tt_count tt_pieces tt_kinds lt_begins lt_marks st_word st_vowels tx_characters tt_begins tt_lengths tt_stemLengths tt_places tt_addresses tt_smalls tt_stems tt_slots tt_nexts)) u) → va_F A s t → (va_Qi (fun (r : Int32) (u : Unit) => post r ) (xB (dC, dI) vwCl [(cI, .int), (cZ, .boolean)] A (fun u : Unit => (xW ad cI cZ lt_count lw_begin lw_end lw_depth lw_signed lw_led pr_written pr_within st_size tx_size tt_count tt_pieces tt_kinds lt_begins lt_marks st_word st_vowels tx_characters tt_begins tt_lengths tt_stemLengths tt_places tt_addresses tt_smalls tt_stems tt_slots tt_nexts))) A) ([.ref (ad 1)] : List Value).toArray s (.returned (some (.int r))) t := fun r u t h1 h2 h3 h4 h5 => ⟨⟨r, u, rfl, h1, h2, h3, h4⟩, h5⟩
  generalize (va_Qi (fun (r : Int32) (u : Unit) => post r ) (xB (dC, dI) vwCl [(cI, .int), (cZ, .boolean)] A (fun u : Unit => (xW ad cI cZ lt_count lw_begin lw_end lw_depth lw_signed lw_led pr_written pr_within st_size tx_size tt_count tt_pieces tt_kinds lt_begins lt_marks st_word st_vowels tx_characters tt_begins tt_lengths tt_stemLengths tt_places tt_addresses tt_smalls tt_stems tt_slots tt_nexts))) A) = Qc at hQ ⊢
  have hl := lv_entry ([.ref (ad 1)]) (n := 2) (Nat.le_of_ble_eq_true rfl)
  rw [lg_entry_eq]
  generalize (lg_sl ([.ref (ad 1)]) ++ List.replicate (2 - (lg_sl ([.ref (ad 1)])).length) Slot.unset).toArray = ls at hl ⊢
  have hl : lv_has ls 2 [(0, .ref (ad 1))] := hl
  refine (fun (key : ∀ (H : Heap) (locs : List Loc), va_P (dC, dI) vwCl (xW ad cI cZ lt_count lw_begin lw_end lw_depth lw_signed lw_led pr_written pr_within st_size tx_size tt_count tt_pieces tt_kinds lt_begins lt_marks st_word st_vowels tx_characters tt_begins tt_lengths tt_stemLengths tt_places tt_addresses tt_smalls tt_stems tt_slots tt_nexts) H → va_D A (xW ad cI cZ lt_count lw_begin lw_end lw_depth lw_signed lw_led pr_written pr_within st_size tx_size tt_count tt_pieces tt_kinds lt_begins lt_marks st_word st_vowels tx_characters tt_begins tt_lengths tt_stemLengths tt_places tt_addresses tt_smalls tt_stems tt_slots tt_nexts) → va_S A s.heap H locs → W p l e (headSpec wsX2_beginsSigned ({ frames := 5, cells := 0, slots := 0, locals := 108 })).room s m ([.ref (ad 1)] : List Value).toArray below meth c H locs 0 0 (MQ below Qc ([.ref (ad 1)] : List Value).toArray s 0 0 A) (F0 m 0 ls [])) => key _ _ hP hD hS) ?_
  have inX2 : ∀ w ∈ wsX20, w ∈ wsX2_beginsSigned := (fun _ h9 => List.mem_cons_of_mem _ (List.mem_append_left _ (List.mem_append_right _ h9)))
  have J31 : ∀ (x1 : Int32) (H : Heap) (locs : List Loc) (ls : Array Slot), lv_has ls 2 [(0, .ref (ad 1)), (1, .int x1)] → va_P (dC, dI) vwCl (xW ad cI cZ lt_count lw_begin lw_end lw_depth lw_signed lw_led pr_written pr_within st_size tx_size tt_count tt_pieces tt_kinds lt_begins lt_marks st_word st_vowels tx_characters tt_begins tt_lengths tt_stemLengths tt_places tt_addresses tt_smalls tt_stems tt_slots tt_nexts) H → va_D A (xW ad cI cZ lt_count lw_begin lw_end lw_depth lw_signed lw_led pr_written pr_within st_size tx_size tt_count tt_pieces tt_kinds lt_begins lt_marks st_word st_vowels tx_characters tt_begins tt_lengths tt_stemLengths tt_places tt_addresses tt_smalls tt_stems tt_slots tt_nexts) → va_S A s.heap H locs → wjX2_beginsSigned_31 post lw_begin lw_end tx_size tx_characters x1 → W p l e (headSpec wsX2_beginsSigned ({ frames := 5, cells := 0, slots := 0, locals := 108 })).room s m ([.ref (ad 1)] : List Value).toArray below meth c H locs 0 0 (MQ below Qc ([.ref (ad 1)] : List Value).toArray s 0 0 A) (F0 m 31 ls []) := by
    intro x1 H locs ls hl hP hD hS h
    delta wjX2_beginsSigned_31 at h
    refine lv_iload_n hx hb dX2_beginsSigned_31 rfl (lv_at hl 1 rfl) ?_
    refine lv_iconst (v := 3) hx hb dX2_beginsSigned_32 (by decide) ?_
    refine lv_icmp_ne (tgt := 56) hx hb dX2_beginsSigned_33 (by decide) (fun c9 => ?_) (fun c9 => ?_)
    · have h := h.1 c9
      refine lv_iconst (v := 0) hx hb dX2_beginsSigned_56 (by decide) ?_
      exact W.zret (v := 0) hx hb hr (bN_nar bN0) (fun t ht hW => hQ 0 () t h (by rw [ht]; exact hP) (va_K.moved hW.alike hK) hD (hS.F ht)) hS.2.2 dX2_beginsSigned_57
    · have h := h.2 c9
      refine lv_aload_n hx hb dX2_beginsSigned_36 rfl (lv_at hl 0 rfl) ?_
      refine va_get (D := (dC, dI)) (ci := 1) (v := .ref (ad 4)) (C := RX2) (T := TX2) (N := 6) hx hb hts inX2 hown hK hP 1 rfl rfl 0 (by decide) (hts (.fieldLink RX2 9 "MailWords$LineWalker" "text" "LMailWords$Text;") (List.mem_of_getElem? (i := 3) rfl)) (fun _ h9 => h9) rfl dX2_beginsSigned_37 ?_
      refine lv_aload_n hx hb dX2_beginsSigned_40 rfl (lv_at hl 0 rfl) ?_
      refine va_get (D := (dC, dI)) (ci := 1) (v := .int lw_begin) (C := RX2) (T := TX2) (N := 6) hx hb hts inX2 hown hK hP 1 rfl rfl 1 (by decide) (hts (.fieldLink RX2 29 "MailWords$LineWalker" "begin" "I") (List.mem_of_getElem? (i := 2) rfl)) (fun _ h9 => h9) rfl dX2_beginsSigned_41 ?_
      refine va_ldcS hx hb hown (show vk_R RX2 58 "-- " (sa 35) s from sI_ref hI (i := 35) (by decide)) dX2_beginsSigned_44 ?_
      refine xc_vi (As := [.int lw_begin, .ref (sa 35)]) (rest := []) xG Fx (sX5_holds l dC dI ad cI cZ sa sv lt_count lw_begin lw_end lw_depth lw_signed lw_led pr_written pr_within st_size tx_size tt_count tt_pieces tt_kinds lt_begins lt_marks st_word st_vowels tx_characters tt_begins tt_lengths tt_stemLengths tt_places tt_addresses tt_smalls tt_stems tt_slots tt_nexts lw_begin 35 h) (cwV 2 hts gX2_beginsSigned_X5_holds rfl rfl rfl hdX5_holds ⟨Nat.le_of_ble_eq_true rfl, Nat.le_of_ble_eq_true rfl⟩) (va_recv hK hP (ci := 4) (q0 := 4) rfl rfl) hK hP hD hS hA hI rfl hl.1 rfl (Nat.le_of_ble_eq_true rfl) dX2_beginsSigned_46 ⟨Nat.zero_le _, Nat.zero_le _⟩ (fun r_1 u H locs h hP hD hS => ?_)
      refine lv_if_eq (tgt := 56) hx hb dX2_beginsSigned_49 (by decide) (fun c9 => ?_) (fun c9 => ?_)
      · have h := h.1 c9
        refine lv_iconst (v := 0) hx hb dX2_beginsSigned_56 (by decide) ?_
        exact W.zret (v := 0) hx hb hr (bN_nar bN0) (fun t ht hW => hQ 0 () t h (by rw [ht]; exact hP) (va_K.moved hW.alike hK) hD (hS.F ht)) hS.2.2 dX2_beginsSigned_57
      · have h := h.2 c9
        refine lv_iconst (v := 1) hx hb dX2_beginsSigned_52 (by decide) ?_
        refine lv_goto (tgt := 57) hx hb dX2_beginsSigned_53 (by decide) ?_
        exact W.zret (v := 1) hx hb hr (bN_nar bN1) (fun t ht hW => hQ 1 () t h (by rw [ht]; exact hP) (va_K.moved hW.alike hK) hD (hS.F ht)) hS.2.2 dX2_beginsSigned_57
  intro H locs hP hD hS
  delta wpX2_beginsSigned at h
  refine lv_aload_n hx hb dX2_beginsSigned_0 rfl (lv_at hl 0 rfl) ?_
  refine va_get (D := (dC, dI)) (ci := 1) (v := .int lw_end) (C := RX2) (T := TX2) (N := 6) hx hb hts inX2 hown hK hP 1 rfl rfl 2 (by decide) (hts (.fieldLink RX2 15 "MailWords$LineWalker" "end" "I") (List.mem_of_getElem? (i := 1) rfl)) (fun _ h9 => h9) rfl dX2_beginsSigned_1 ?_
  refine lv_aload_n hx hb dX2_beginsSigned_4 rfl (lv_at hl 0 rfl) ?_
  refine va_get (D := (dC, dI)) (ci := 1) (v := .int lw_begin) (C := RX2) (T := TX2) (N := 6) hx hb hts inX2 hown hK hP 1 rfl rfl 1 (by decide) (hts (.fieldLink RX2 29 "MailWords$LineWalker" "begin" "I") (List.mem_of_getElem? (i := 2) rfl)) (fun _ h9 => h9) rfl dX2_beginsSigned_5 ?_
  refine lv_isub hx hb dX2_beginsSigned_8 ?_
  refine lv_topi (fun x1_2 ex1_2 => ?_)
  have h := h x1_2 ex1_2
  refine lv_istore_n (lv' := [(1, .int x1_2), (0, .ref (ad 1))]) hx hb dX2_beginsSigned_9 rfl hl (by decide) rfl (fun ls hl => ?_)
  refine lv_iload_n hx hb dX2_beginsSigned_10 rfl (lv_at hl 0 rfl) ?_
  refine lv_iconst (v := 2) hx hb dX2_beginsSigned_11 (by decide) ?_
  refine lv_icmp_ne (tgt := 31) hx hb dX2_beginsSigned_12 (by decide) (fun c9 => ?_) (fun c9 => ?_)
  · have h := h.1 c9
    exact J31 x1_2 H locs ls (lv_sub hl [1, 0] rfl) hP hD hS h
  · have h := h.2 c9
    refine lv_aload_n hx hb dX2_beginsSigned_15 rfl (lv_at hl 1 rfl) ?_
    refine va_get (D := (dC, dI)) (ci := 1) (v := .ref (ad 4)) (C := RX2) (T := TX2) (N := 6) hx hb hts inX2 hown hK hP 1 rfl rfl 0 (by decide) (hts (.fieldLink RX2 9 "MailWords$LineWalker" "text" "LMailWords$Text;") (List.mem_of_getElem? (i := 3) rfl)) (fun _ h9 => h9) rfl dX2_beginsSigned_16 ?_
    refine lv_aload_n hx hb dX2_beginsSigned_19 rfl (lv_at hl 1 rfl) ?_
    refine va_get (D := (dC, dI)) (ci := 1) (v := .int lw_begin) (C := RX2) (T := TX2) (N := 6) hx hb hts inX2 hown hK hP 1 rfl rfl 1 (by decide) (hts (.fieldLink RX2 29 "MailWords$LineWalker" "begin" "I") (List.mem_of_getElem? (i := 2) rfl)) (fun _ h9 => h9) rfl dX2_beginsSigned_20 ?_
    refine va_ldcS hx hb hown (show vk_R RX2 52 "--" (sa 34) s from sI_ref hI (i := 34) (by decide)) dX2_beginsSigned_23 ?_
    refine xc_vi (As := [.int lw_begin, .ref (sa 34)]) (rest := []) xG Fx (sX5_holds l dC dI ad cI cZ sa sv lt_count lw_begin lw_end lw_depth lw_signed lw_led pr_written pr_within st_size tx_size tt_count tt_pieces tt_kinds lt_begins lt_marks st_word st_vowels tx_characters tt_begins tt_lengths tt_stemLengths tt_places tt_addresses tt_smalls tt_stems tt_slots tt_nexts lw_begin 34 h) (cwV 2 hts gX2_beginsSigned_X5_holds rfl rfl rfl hdX5_holds ⟨Nat.le_of_ble_eq_true rfl, Nat.le_of_ble_eq_true rfl⟩) (va_recv hK hP (ci := 4) (q0 := 4) rfl rfl) hK hP hD hS hA hI rfl hl.1 rfl (Nat.le_of_ble_eq_true rfl) dX2_beginsSigned_25 ⟨Nat.zero_le _, Nat.zero_le _⟩ (fun r_3 u H locs h hP hD hS => ?_)
    refine lv_if_ne (tgt := 52) hx hb dX2_beginsSigned_28 (by decide) (fun c9 => ?_) (fun c9 => ?_)
    · have h := h.1 c9
      refine lv_iconst (v := 1) hx hb dX2_beginsSigned_52 (by decide) ?_
      refine lv_goto (tgt := 57) hx hb dX2_beginsSigned_53 (by decide) ?_
      exact W.zret (v := 1) hx hb hr (bN_nar bN1) (fun t ht hW => hQ 1 () t h (by rw [ht]; exact hP) (va_K.moved hW.alike hK) hD (hS.F ht)) hS.2.2 dX2_beginsSigned_57
    · have h := h.2 c9
      exact J31 x1_2 H locs ls (lv_sub hl [1, 0] rfl) hP hD hS h
set_option maxHeartbeats 4000000 in
set_option maxRecDepth 100000 in
theorem sX2_hasAt (l : Launch) (dC : Nat → ClassId) (dI : Nat → Nat → Nat) (ad : Nat → Nat) (cI cZ : ClassId) (sa sv : Nat → Nat) (lt_count : Int32) (lw_begin : Int32) (lw_end : Int32) (lw_depth : Int32) (lw_signed : Int32) (lw_led : Int32) (pr_written : Int32) (pr_within : Int32) (st_size : Int32) (tx_size : Int32) (tt_count : Int32) (tt_pieces : Int32) (tt_kinds : Int32) (lt_begins : Nat → Int32) (lt_marks : Nat → Int32) (st_word : Nat → Int32) (st_vowels : Nat → Int32) (tx_characters : Nat → Int32) (tt_begins : Nat → Int32) (tt_lengths : Nat → Int32) (tt_stemLengths : Nat → Int32) (tt_places : Nat → Int32) (tt_addresses : Nat → Int32) (tt_smalls : Nat → Int32) (tt_stems : Nat → Int32) (tt_slots : Nat → Int32) (tt_nexts : Nat → Int32)  {post : Int32 → Prop} (h : wpX2_hasAt post lw_begin lw_end tx_size tx_characters) : xMi l (dC, dI) vwCl [(cI, .int), (cZ, .boolean)] (sI sa sv) yX2_hasAt wsX2_hasAt ({ frames := 1, cells := 0, slots := 0, locals := 21 }) (xW ad cI cZ lt_count lw_begin lw_end lw_depth lw_signed lw_led pr_written pr_within st_size tx_size tt_count tt_pieces tt_kinds lt_begins lt_marks st_word st_vowels tx_characters tt_begins tt_lengths tt_stemLengths tt_places tt_addresses tt_smalls tt_stems tt_slots tt_nexts) [.ref (ad 1)] (fun (r : Int32) (u : Unit) => post r ) (fun u : Unit => (xW ad cI cZ lt_count lw_begin lw_end lw_depth lw_signed lw_led pr_written pr_within st_size tx_size tt_count tt_pieces tt_kinds lt_begins lt_marks st_word st_vowels tx_characters tt_begins tt_lengths tt_stemLengths tt_places tt_addresses tt_smalls tt_stems tt_slots tt_nexts)) := by
  intro sz
  refine Met.ofW (cc := cX2_hasAt) (maxL := 2) (ret := (some .boolean)) (by decide) rfl ?_
  intro p e s m args below meth c s₁ B hml hv
  obtain ⟨rfl, hsz, hP, hK, hD0, hI⟩ := hv
  have hx := B.exec
  have hb := B.bytes
  have hr := B.returns
  have hts := atoms_spec (ws := wsX2_hasAt) B.pre
  have hown : s.vm.findClass RX2 = some m.cls := findClass_of_methodNamed B.named
  have hlocks := B.notSynchronized
  subst hsz
  have hD := hD0.self (sz := s.heap.size)
  generalize hAe : va_A (xW ad cI cZ lt_count lw_begin lw_end lw_depth lw_signed lw_led pr_written pr_within st_size tx_size tt_count tt_pieces tt_kinds lt_begins lt_marks st_word st_vowels tx_characters tt_begins tt_lengths tt_stemLengths tt_places tt_addresses tt_smalls tt_stems tt_slots tt_nexts) s.heap.size = A at hD hI ⊢
  have hA : ∀ q : Nat, s.heap.size ≤ q → A q := fun q h => by rw [← hAe]; exact Or.inr h
  have hS : va_S A s.heap s.heap [] := va_S.rf
  have Fx : CallFix p m c cX2_hasAt 2 s ([.ref (ad 1)] : List Value).toArray wsX2_hasAt RX2 := ⟨hx, hb, hml, hown, hts⟩
  have hQ : ∀ (r : Int32) (u : Unit) (t : State), (fun (r : Int32) (u : Unit) => post r ) r u → va_P (dC, dI) vwCl ((fun u : Unit => (xW ad cI cZ lt_count lw_begin lw_end lw_depth lw_signed lw_led pr_written pr_within st_size tx_size tt_count tt_pieces tt_kinds lt_begins lt_marks st_word st_vowels tx_characters tt_begins tt_lengths tt_stemLengths tt_places tt_addresses tt_smalls tt_stems tt_slots tt_nexts)) u) t.heap → va_K (dC, dI) vwCl [(cI, .int), (cZ, .boolean)] t → va_D A ((fun u : Unit => (xW ad cI cZ lt_count lw_begin lw_end lw_depth lw_signed lw_led pr_written pr_within st_size tx_size tt_count tt_pieces tt_kinds lt_begins lt_marks st_word st_vowels tx_characters tt_begins tt_lengths tt_stemLengths tt_places tt_addresses tt_smalls tt_stems tt_slots tt_nexts)) u) → va_F A s t → (va_Qi (fun (r : Int32) (u : Unit) => post r ) (xB (dC, dI) vwCl [(cI, .int), (cZ, .boolean)] A (fun u : Unit => (xW ad cI cZ lt_count lw_begin lw_end lw_depth lw_signed lw_led pr_written pr_within st_size tx_size tt_count tt_pieces tt_kinds lt_begins lt_marks st_word st_vowels tx_characters tt_begins tt_lengths tt_stemLengths tt_places tt_addresses tt_smalls tt_stems tt_slots tt_nexts))) A) ([.ref (ad 1)] : List Value).toArray s (.returned (some (.int r))) t := fun r u t h1 h2 h3 h4 h5 => ⟨⟨r, u, rfl, h1, h2, h3, h4⟩, h5⟩
  generalize (va_Qi (fun (r : Int32) (u : Unit) => post r ) (xB (dC, dI) vwCl [(cI, .int), (cZ, .boolean)] A (fun u : Unit => (xW ad cI cZ lt_count lw_begin lw_end lw_depth lw_signed lw_led pr_written pr_within st_size tx_size tt_count tt_pieces tt_kinds lt_begins lt_marks st_word st_vowels tx_characters tt_begins tt_lengths tt_stemLengths tt_places tt_addresses tt_smalls tt_stems tt_slots tt_nexts))) A) = Qc at hQ ⊢
  have hl := lv_entry ([.ref (ad 1)]) (n := 2) (Nat.le_of_ble_eq_true rfl)
  rw [lg_entry_eq]
  generalize (lg_sl ([.ref (ad 1)]) ++ List.replicate (2 - (lg_sl ([.ref (ad 1)])).length) Slot.unset).toArray = ls at hl ⊢
  have hl : lv_has ls 2 [(0, .ref (ad 1))] := hl
  refine (fun (key : ∀ (H : Heap) (locs : List Loc), va_P (dC, dI) vwCl (xW ad cI cZ lt_count lw_begin lw_end lw_depth lw_signed lw_led pr_written pr_within st_size tx_size tt_count tt_pieces tt_kinds lt_begins lt_marks st_word st_vowels tx_characters tt_begins tt_lengths tt_stemLengths tt_places tt_addresses tt_smalls tt_stems tt_slots tt_nexts) H → va_D A (xW ad cI cZ lt_count lw_begin lw_end lw_depth lw_signed lw_led pr_written pr_within st_size tx_size tt_count tt_pieces tt_kinds lt_begins lt_marks st_word st_vowels tx_characters tt_begins tt_lengths tt_stemLengths tt_places tt_addresses tt_smalls tt_stems tt_slots tt_nexts) → va_S A s.heap H locs → W p l e (headSpec wsX2_hasAt ({ frames := 1, cells := 0, slots := 0, locals := 21 })).room s m ([.ref (ad 1)] : List Value).toArray below meth c H locs 0 0 (MQ below Qc ([.ref (ad 1)] : List Value).toArray s 0 0 A) (F0 m 0 ls [])) => key _ _ hP hD hS) ?_
  have inX2 : ∀ w ∈ wsX20, w ∈ wsX2_hasAt := (fun _ h9 => List.mem_cons_of_mem _ (List.mem_append_left _ (List.mem_append_right _ h9)))
  have L5 : ∀ (n : Nat) (x1 : Int32) (H : Heap) (locs : List Loc) (ls : Array Slot), lv_has ls 2 [(0, .ref (ad 1)), (1, .int x1)] → va_P (dC, dI) vwCl (xW ad cI cZ lt_count lw_begin lw_end lw_depth lw_signed lw_led pr_written pr_within st_size tx_size tt_count tt_pieces tt_kinds lt_begins lt_marks st_word st_vowels tx_characters tt_begins tt_lengths tt_stemLengths tt_places tt_addresses tt_smalls tt_stems tt_slots tt_nexts) H → va_D A (xW ad cI cZ lt_count lw_begin lw_end lw_depth lw_signed lw_led pr_written pr_within st_size tx_size tt_count tt_pieces tt_kinds lt_begins lt_marks st_word st_vowels tx_characters tt_begins tt_lengths tt_stemLengths tt_places tt_addresses tt_smalls tt_stems tt_slots tt_nexts) → va_S A s.heap H locs → wlX2_hasAt_5 post lw_begin lw_end tx_size tx_characters n x1 → W p l e (headSpec wsX2_hasAt ({ frames := 1, cells := 0, slots := 0, locals := 21 })).room s m ([.ref (ad 1)] : List Value).toArray below meth c H locs 0 0 (MQ below Qc ([.ref (ad 1)] : List Value).toArray s 0 0 A) (F0 m 5 ls []) := by
    intro n
    induction n with
    | zero => intro x1 H locs ls _ _ _ _ h; exact absurd h (fun z => z)
    | succ n5 ih5 =>
      intro x1 H locs ls hl hP hD hS h
      rw [wlX2_hasAt_5] at h
      refine lv_iload_n hx hb dX2_hasAt_5 rfl (lv_at hl 1 rfl) ?_
      refine lv_aload_n hx hb dX2_hasAt_6 rfl (lv_at hl 0 rfl) ?_
      refine va_get (D := (dC, dI)) (ci := 1) (v := .int lw_end) (C := RX2) (T := TX2) (N := 6) hx hb hts inX2 hown hK hP 1 rfl rfl 2 (by decide) (hts (.fieldLink RX2 15 "MailWords$LineWalker" "end" "I") (List.mem_of_getElem? (i := 2) rfl)) (fun _ h9 => h9) rfl dX2_hasAt_7 ?_
      refine lv_icmp_ge (tgt := 34) hx hb dX2_hasAt_10 (by decide) (fun c9 => ?_) (fun c9 => ?_)
      · have h := h.1 c9
        refine lv_iconst (v := 0) hx hb dX2_hasAt_34 (by decide) ?_
        exact W.zret (v := 0) hx hb hr (bN_nar bN0) (fun t ht hW => hQ 0 () t h (by rw [ht]; exact hP) (va_K.moved hW.alike hK) hD (hS.F ht)) hS.2.2 dX2_hasAt_35
      · have h := h.2 c9
        refine lv_aload_n hx hb dX2_hasAt_13 rfl (lv_at hl 0 rfl) ?_
        refine va_get (D := (dC, dI)) (ci := 1) (v := .ref (ad 4)) (C := RX2) (T := TX2) (N := 6) hx hb hts inX2 hown hK hP 1 rfl rfl 0 (by decide) (hts (.fieldLink RX2 9 "MailWords$LineWalker" "text" "LMailWords$Text;") (List.mem_of_getElem? (i := 3) rfl)) (fun _ h9 => h9) rfl dX2_hasAt_14 ?_
        refine lv_iload_n hx hb dX2_hasAt_17 rfl (lv_at hl 1 rfl) ?_
        refine xc_vi (As := [.int x1]) (rest := []) xG Fx (sX5_get l dC dI ad cI cZ sa sv lt_count lw_begin lw_end lw_depth lw_signed lw_led pr_written pr_within st_size tx_size tt_count tt_pieces tt_kinds lt_begins lt_marks st_word st_vowels tx_characters tt_begins tt_lengths tt_stemLengths tt_places tt_addresses tt_smalls tt_stems tt_slots tt_nexts x1 h) (cwV 1 hts gX2_hasAt_X5_get rfl rfl rfl hdX5_get ⟨Nat.le_of_ble_eq_true rfl, Nat.le_of_ble_eq_true rfl⟩) (va_recv hK hP (ci := 4) (q0 := 4) rfl rfl) hK hP hD hS hA hI rfl hl.1 rfl (Nat.le_of_ble_eq_true rfl) dX2_hasAt_18 ⟨Nat.zero_le _, Nat.zero_le _⟩ (fun r_1 u H locs h hP hD hS => ?_)
        refine lv_bipush (v := 64) hx hb dX2_hasAt_21 (by decide) ?_
        refine lv_icmp_ne (tgt := 28) hx hb dX2_hasAt_23 (by decide) (fun c9 => ?_) (fun c9 => ?_)
        · have h := h.1 c9
          obtain ⟨x1_2, ex1_2⟩ : ∃ y : Int32, y = x1 + 1 := ⟨_, rfl⟩
          have h := h x1_2 ex1_2
          refine lv_iinc (v := x1_2) (lv' := [(1, .int x1_2), (0, .ref (ad 1))]) hx hb dX2_hasAt_28 hl (k := 1) rfl (by rw [ex1_2]; rfl) (by decide) rfl (fun ls hl => ?_)
          refine lv_goto (tgt := 5) hx hb dX2_hasAt_31 (by decide) ?_
          exact ih5 x1_2 H locs ls (lv_sub hl [1, 0] rfl) hP hD hS h
        · have h := h.2 c9
          refine lv_iconst (v := 1) hx hb dX2_hasAt_26 (by decide) ?_
          exact W.zret (v := 1) hx hb hr (bN_nar bN1) (fun t ht hW => hQ 1 () t h (by rw [ht]; exact hP) (va_K.moved hW.alike hK) hD (hS.F ht)) hS.2.2 dX2_hasAt_27
  intro H locs hP hD hS
  delta wpX2_hasAt at h
  refine lv_aload_n hx hb dX2_hasAt_0 rfl (lv_at hl 0 rfl) ?_
  refine va_get (D := (dC, dI)) (ci := 1) (v := .int lw_begin) (C := RX2) (T := TX2) (N := 6) hx hb hts inX2 hown hK hP 1 rfl rfl 1 (by decide) (hts (.fieldLink RX2 29 "MailWords$LineWalker" "begin" "I") (List.mem_of_getElem? (i := 1) rfl)) (fun _ h9 => h9) rfl dX2_hasAt_1 ?_
  refine lv_istore_n (lv' := [(1, .int lw_begin), (0, .ref (ad 1))]) hx hb dX2_hasAt_4 rfl hl (by decide) rfl (fun ls hl => ?_)
  obtain ⟨n, h⟩ := h
  exact L5  n lw_begin H locs ls (lv_sub hl [1, 0] rfl) hP hD hS h
set_option maxHeartbeats 4000000 in
set_option maxRecDepth 100000 in
theorem sX2_hasWord (l : Launch) (dC : Nat → ClassId) (dI : Nat → Nat → Nat) (ad : Nat → Nat) (cI cZ : ClassId) (sa sv : Nat → Nat) (lt_count : Int32) (lw_begin : Int32) (lw_end : Int32) (lw_depth : Int32) (lw_signed : Int32) (lw_led : Int32) (pr_written : Int32) (pr_within : Int32) (st_size : Int32) (tx_size : Int32) (tt_count : Int32) (tt_pieces : Int32) (tt_kinds : Int32) (lt_begins : Nat → Int32) (lt_marks : Nat → Int32) (st_word : Nat → Int32) (st_vowels : Nat → Int32) (tx_characters : Nat → Int32) (tt_begins : Nat → Int32) (tt_lengths : Nat → Int32) (tt_stemLengths : Nat → Int32) (tt_places : Nat → Int32) (tt_addresses : Nat → Int32) (tt_smalls : Nat → Int32) (tt_stems : Nat → Int32) (tt_slots : Nat → Int32) (tt_nexts : Nat → Int32) (x1 : Nat) {post : Int32 → Prop} (h : wpX2_hasWord post lw_begin lw_end tx_size tx_characters x1) : xMi l (dC, dI) vwCl [(cI, .int), (cZ, .boolean)] (sI sa sv) yX2_hasWord wsX2_hasWord ({ frames := 5, cells := 0, slots := 0, locals := 108 }) (xW ad cI cZ lt_count lw_begin lw_end lw_depth lw_signed lw_led pr_written pr_within st_size tx_size tt_count tt_pieces tt_kinds lt_begins lt_marks st_word st_vowels tx_characters tt_begins tt_lengths tt_stemLengths tt_places tt_addresses tt_smalls tt_stems tt_slots tt_nexts) [.ref (ad 1), .ref (sa x1)] (fun (r : Int32) (u : Unit) => post r ) (fun u : Unit => (xW ad cI cZ lt_count lw_begin lw_end lw_depth lw_signed lw_led pr_written pr_within st_size tx_size tt_count tt_pieces tt_kinds lt_begins lt_marks st_word st_vowels tx_characters tt_begins tt_lengths tt_stemLengths tt_places tt_addresses tt_smalls tt_stems tt_slots tt_nexts)) := by
  intro sz
  refine Met.ofW (cc := cX2_hasWord) (maxL := 3) (ret := (some .boolean)) (by decide) rfl ?_
  intro p e s m args below meth c s₁ B hml hv
  obtain ⟨rfl, hsz, hP, hK, hD0, hI⟩ := hv
  have hx := B.exec
  have hb := B.bytes
  have hr := B.returns
  have hts := atoms_spec (ws := wsX2_hasWord) B.pre
  have hown : s.vm.findClass RX2 = some m.cls := findClass_of_methodNamed B.named
  have hlocks := B.notSynchronized
  subst hsz
  have hD := hD0.self (sz := s.heap.size)
  generalize hAe : va_A (xW ad cI cZ lt_count lw_begin lw_end lw_depth lw_signed lw_led pr_written pr_within st_size tx_size tt_count tt_pieces tt_kinds lt_begins lt_marks st_word st_vowels tx_characters tt_begins tt_lengths tt_stemLengths tt_places tt_addresses tt_smalls tt_stems tt_slots tt_nexts) s.heap.size = A at hD hI ⊢
  have hA : ∀ q : Nat, s.heap.size ≤ q → A q := fun q h => by rw [← hAe]; exact Or.inr h
  have hS : va_S A s.heap s.heap [] := va_S.rf
  have Fx : CallFix p m c cX2_hasWord 3 s ([.ref (ad 1), .ref (sa x1)] : List Value).toArray wsX2_hasWord RX2 := ⟨hx, hb, hml, hown, hts⟩
  have hQ : ∀ (r : Int32) (u : Unit) (t : State), (fun (r : Int32) (u : Unit) => post r ) r u → va_P (dC, dI) vwCl ((fun u : Unit => (xW ad cI cZ lt_count lw_begin lw_end lw_depth lw_signed lw_led pr_written pr_within st_size tx_size tt_count tt_pieces tt_kinds lt_begins lt_marks st_word st_vowels tx_characters tt_begins tt_lengths tt_stemLengths tt_places tt_addresses tt_smalls tt_stems tt_slots tt_nexts)) u) t.heap → va_K (dC, dI) vwCl [(cI, .int), (cZ, .boolean)] t → va_D A ((fun u : Unit => (xW ad cI cZ lt_count lw_begin lw_end lw_depth lw_signed lw_led pr_written pr_within st_size tx_size tt_count tt_pieces tt_kinds lt_begins lt_marks st_word st_vowels tx_characters tt_begins tt_lengths tt_stemLengths tt_places tt_addresses tt_smalls tt_stems tt_slots tt_nexts)) u) → va_F A s t → (va_Qi (fun (r : Int32) (u : Unit) => post r ) (xB (dC, dI) vwCl [(cI, .int), (cZ, .boolean)] A (fun u : Unit => (xW ad cI cZ lt_count lw_begin lw_end lw_depth lw_signed lw_led pr_written pr_within st_size tx_size tt_count tt_pieces tt_kinds lt_begins lt_marks st_word st_vowels tx_characters tt_begins tt_lengths tt_stemLengths tt_places tt_addresses tt_smalls tt_stems tt_slots tt_nexts))) A) ([.ref (ad 1), .ref (sa x1)] : List Value).toArray s (.returned (some (.int r))) t := fun r u t h1 h2 h3 h4 h5 => ⟨⟨r, u, rfl, h1, h2, h3, h4⟩, h5⟩
  generalize (va_Qi (fun (r : Int32) (u : Unit) => post r ) (xB (dC, dI) vwCl [(cI, .int), (cZ, .boolean)] A (fun u : Unit => (xW ad cI cZ lt_count lw_begin lw_end lw_depth lw_signed lw_led pr_written pr_within st_size tx_size tt_count tt_pieces tt_kinds lt_begins lt_marks st_word st_vowels tx_characters tt_begins tt_lengths tt_stemLengths tt_places tt_addresses tt_smalls tt_stems tt_slots tt_nexts))) A) = Qc at hQ ⊢
  have hl := lv_entry ([.ref (ad 1), .ref (sa x1)]) (n := 3) (Nat.le_of_ble_eq_true rfl)
  rw [lg_entry_eq]
  generalize (lg_sl ([.ref (ad 1), .ref (sa x1)]) ++ List.replicate (3 - (lg_sl ([.ref (ad 1), .ref (sa x1)])).length) Slot.unset).toArray = ls at hl ⊢
  have hl : lv_has ls 3 [(0, .ref (ad 1)), (1, .ref (sa x1))] := hl
  refine (fun (key : ∀ (H : Heap) (locs : List Loc), va_P (dC, dI) vwCl (xW ad cI cZ lt_count lw_begin lw_end lw_depth lw_signed lw_led pr_written pr_within st_size tx_size tt_count tt_pieces tt_kinds lt_begins lt_marks st_word st_vowels tx_characters tt_begins tt_lengths tt_stemLengths tt_places tt_addresses tt_smalls tt_stems tt_slots tt_nexts) H → va_D A (xW ad cI cZ lt_count lw_begin lw_end lw_depth lw_signed lw_led pr_written pr_within st_size tx_size tt_count tt_pieces tt_kinds lt_begins lt_marks st_word st_vowels tx_characters tt_begins tt_lengths tt_stemLengths tt_places tt_addresses tt_smalls tt_stems tt_slots tt_nexts) → va_S A s.heap H locs → W p l e (headSpec wsX2_hasWord ({ frames := 5, cells := 0, slots := 0, locals := 108 })).room s m ([.ref (ad 1), .ref (sa x1)] : List Value).toArray below meth c H locs 0 0 (MQ below Qc ([.ref (ad 1), .ref (sa x1)] : List Value).toArray s 0 0 A) (F0 m 0 ls [])) => key _ _ hP hD hS) ?_
  have inX2 : ∀ w ∈ wsX20, w ∈ wsX2_hasWord := (fun _ h9 => List.mem_cons_of_mem _ (List.mem_append_left _ (List.mem_append_right _ h9)))
  have L5 : ∀ (n : Nat) (x2 : Int32) (H : Heap) (locs : List Loc) (ls : Array Slot), lv_has ls 3 [(0, .ref (ad 1)), (1, .ref (sa x1)), (2, .int x2)] → va_P (dC, dI) vwCl (xW ad cI cZ lt_count lw_begin lw_end lw_depth lw_signed lw_led pr_written pr_within st_size tx_size tt_count tt_pieces tt_kinds lt_begins lt_marks st_word st_vowels tx_characters tt_begins tt_lengths tt_stemLengths tt_places tt_addresses tt_smalls tt_stems tt_slots tt_nexts) H → va_D A (xW ad cI cZ lt_count lw_begin lw_end lw_depth lw_signed lw_led pr_written pr_within st_size tx_size tt_count tt_pieces tt_kinds lt_begins lt_marks st_word st_vowels tx_characters tt_begins tt_lengths tt_stemLengths tt_places tt_addresses tt_smalls tt_stems tt_slots tt_nexts) → va_S A s.heap H locs → wlX2_hasWord_5 post lw_begin lw_end tx_size tx_characters x1 n x2 → W p l e (headSpec wsX2_hasWord ({ frames := 5, cells := 0, slots := 0, locals := 108 })).room s m ([.ref (ad 1), .ref (sa x1)] : List Value).toArray below meth c H locs 0 0 (MQ below Qc ([.ref (ad 1), .ref (sa x1)] : List Value).toArray s 0 0 A) (F0 m 5 ls []) := by
    intro n
    induction n with
    | zero => intro x2 H locs ls _ _ _ _ h; exact absurd h (fun z => z)
    | succ n5 ih5 =>
      intro x2 H locs ls hl hP hD hS h
      have J67 : ∀ (x2 : Int32) (H : Heap) (locs : List Loc) (ls : Array Slot), lv_has ls 3 [(0, .ref (ad 1)), (1, .ref (sa x1)), (2, .int x2)] → va_P (dC, dI) vwCl (xW ad cI cZ lt_count lw_begin lw_end lw_depth lw_signed lw_led pr_written pr_within st_size tx_size tt_count tt_pieces tt_kinds lt_begins lt_marks st_word st_vowels tx_characters tt_begins tt_lengths tt_stemLengths tt_places tt_addresses tt_smalls tt_stems tt_slots tt_nexts) H → va_D A (xW ad cI cZ lt_count lw_begin lw_end lw_depth lw_signed lw_led pr_written pr_within st_size tx_size tt_count tt_pieces tt_kinds lt_begins lt_marks st_word st_vowels tx_characters tt_begins tt_lengths tt_stemLengths tt_places tt_addresses tt_smalls tt_stems tt_slots tt_nexts) → va_S A s.heap H locs → wjX2_hasWord_67 (fun x2 => wlX2_hasWord_5 post lw_begin lw_end tx_size tx_characters x1 n5 x2) post lw_begin lw_end tx_size tx_characters x1 x2 → W p l e (headSpec wsX2_hasWord ({ frames := 5, cells := 0, slots := 0, locals := 108 })).room s m ([.ref (ad 1), .ref (sa x1)] : List Value).toArray below meth c H locs 0 0 (MQ below Qc ([.ref (ad 1), .ref (sa x1)] : List Value).toArray s 0 0 A) (F0 m 67 ls []) := by
        intro x2 H locs ls hl hP hD hS h
        delta wjX2_hasWord_67 at h
        obtain ⟨x2_1, ex2_1⟩ : ∃ y : Int32, y = x2 + 1 := ⟨_, rfl⟩
        have h := h x2_1 ex2_1
        refine lv_iinc (v := x2_1) (lv' := [(2, .int x2_1), (0, .ref (ad 1)), (1, .ref (sa x1))]) hx hb dX2_hasWord_67 hl (k := 2) rfl (by rw [ex2_1]; rfl) (by decide) rfl (fun ls hl => ?_)
        refine lv_goto (tgt := 5) hx hb dX2_hasWord_70 (by decide) ?_
        exact ih5 x2_1 H locs ls (lv_sub hl [1, 2, 0] rfl) hP hD hS h
      rw [wlX2_hasWord_5] at h
      refine lv_iload_n hx hb dX2_hasWord_5 rfl (lv_at hl 2 rfl) ?_
      refine lv_aload_n hx hb dX2_hasWord_6 rfl (lv_at hl 1 rfl) ?_
      have hs9 := h.1
      have h := h.2
      refine xc_vi (As := []) (rest := [.int x2]) xG Fx (sJ0_length_8abf5 l dC dI ad cI cZ sa sv lt_count lw_begin lw_end lw_depth lw_signed lw_led pr_written pr_within st_size tx_size tt_count tt_pieces tt_kinds lt_begins lt_marks st_word st_vowels tx_characters tt_begins tt_lengths tt_stemLengths tt_places tt_addresses tt_smalls tt_stems tt_slots tt_nexts x1 h) (cwV 0 hts gX2_hasWord_J0_length_8abf5 rfl rfl rfl hdJ0_length_8abf5 ⟨Nat.le_of_ble_eq_true rfl, Nat.le_of_ble_eq_true rfl⟩) (sI_recv hI hS hs9) hK hP hD hS hA hI rfl hl.1 rfl (Nat.le_of_ble_eq_true rfl) dX2_hasWord_7 ⟨Nat.zero_le _, Nat.zero_le _⟩ (fun r_2 u H locs h hP hD hS => ?_)
      refine lv_iadd hx hb dX2_hasWord_10 ?_
      refine lv_aload_n hx hb dX2_hasWord_11 rfl (lv_at hl 0 rfl) ?_
      refine va_get (D := (dC, dI)) (ci := 1) (v := .int lw_end) (C := RX2) (T := TX2) (N := 6) hx hb hts inX2 hown hK hP 1 rfl rfl 2 (by decide) (hts (.fieldLink RX2 15 "MailWords$LineWalker" "end" "I") (List.mem_of_getElem? (i := 2) rfl)) (fun _ h9 => h9) rfl dX2_hasWord_12 ?_
      refine lv_icmp_gt (tgt := 73) hx hb dX2_hasWord_15 (by decide) (fun c9 => ?_) (fun c9 => ?_)
      · have h := h.1 c9
        refine lv_iconst (v := 0) hx hb dX2_hasWord_73 (by decide) ?_
        exact W.zret (v := 0) hx hb hr (bN_nar bN0) (fun t ht hW => hQ 0 () t h (by rw [ht]; exact hP) (va_K.moved hW.alike hK) hD (hS.F ht)) hS.2.2 dX2_hasWord_74
      · have h := h.2 c9
        refine lv_aload_n hx hb dX2_hasWord_18 rfl (lv_at hl 0 rfl) ?_
        refine va_get (D := (dC, dI)) (ci := 1) (v := .ref (ad 4)) (C := RX2) (T := TX2) (N := 6) hx hb hts inX2 hown hK hP 1 rfl rfl 0 (by decide) (hts (.fieldLink RX2 9 "MailWords$LineWalker" "text" "LMailWords$Text;") (List.mem_of_getElem? (i := 3) rfl)) (fun _ h9 => h9) rfl dX2_hasWord_19 ?_
        refine lv_iload_n hx hb dX2_hasWord_22 rfl (lv_at hl 2 rfl) ?_
        refine lv_aload_n hx hb dX2_hasWord_23 rfl (lv_at hl 1 rfl) ?_
        refine xc_vi (As := [.int x2, .ref (sa x1)]) (rest := []) xG Fx (sX5_holds l dC dI ad cI cZ sa sv lt_count lw_begin lw_end lw_depth lw_signed lw_led pr_written pr_within st_size tx_size tt_count tt_pieces tt_kinds lt_begins lt_marks st_word st_vowels tx_characters tt_begins tt_lengths tt_stemLengths tt_places tt_addresses tt_smalls tt_stems tt_slots tt_nexts x2 x1 h) (cwV 2 hts gX2_hasWord_X5_holds rfl rfl rfl hdX5_holds ⟨Nat.le_of_ble_eq_true rfl, Nat.le_of_ble_eq_true rfl⟩) (va_recv hK hP (ci := 4) (q0 := 4) rfl rfl) hK hP hD hS hA hI rfl hl.1 rfl (Nat.le_of_ble_eq_true rfl) dX2_hasWord_24 ⟨Nat.zero_le _, Nat.zero_le _⟩ (fun r_3 u H locs h hP hD hS => ?_)
        refine lv_if_eq (tgt := 67) hx hb dX2_hasWord_27 (by decide) (fun c9 => ?_) (fun c9 => ?_)
        · have h := h.1 c9
          exact J67 x2 H locs ls (lv_sub hl [0, 1, 2] rfl) hP hD hS h
        · have h := h.2 c9
          refine lv_aload_n hx hb dX2_hasWord_30 rfl (lv_at hl 0 rfl) ?_
          refine va_get (D := (dC, dI)) (ci := 1) (v := .ref (ad 4)) (C := RX2) (T := TX2) (N := 6) hx hb hts inX2 hown hK hP 1 rfl rfl 0 (by decide) (hts (.fieldLink RX2 9 "MailWords$LineWalker" "text" "LMailWords$Text;") (List.mem_of_getElem? (i := 3) rfl)) (fun _ h9 => h9) rfl dX2_hasWord_31 ?_
          refine lv_iload_n hx hb dX2_hasWord_34 rfl (lv_at hl 2 rfl) ?_
          refine lv_iconst (v := 1) hx hb dX2_hasWord_35 (by decide) ?_
          refine lv_isub hx hb dX2_hasWord_36 ?_
          refine xc_vi (As := [.int (x2 - 1)]) (rest := []) xG Fx (sX5_get l dC dI ad cI cZ sa sv lt_count lw_begin lw_end lw_depth lw_signed lw_led pr_written pr_within st_size tx_size tt_count tt_pieces tt_kinds lt_begins lt_marks st_word st_vowels tx_characters tt_begins tt_lengths tt_stemLengths tt_places tt_addresses tt_smalls tt_stems tt_slots tt_nexts (x2 - 1) h) (cwV 1 hts gX2_hasWord_X5_get rfl rfl rfl hdX5_get ⟨Nat.le_of_ble_eq_true rfl, Nat.le_of_ble_eq_true rfl⟩) (va_recv hK hP (ci := 4) (q0 := 4) rfl rfl) hK hP hD hS hA hI rfl hl.1 rfl (Nat.le_of_ble_eq_true rfl) dX2_hasWord_37 ⟨Nat.zero_le _, Nat.zero_le _⟩ (fun r_4 u H locs h hP hD hS => ?_)
          refine xc_si (As := [.int r_4]) (rest := []) xG Fx (sX0_isLetterOrDigit l dC dI ad cI cZ sa sv lt_count lw_begin lw_end lw_depth lw_signed lw_led pr_written pr_within st_size tx_size tt_count tt_pieces tt_kinds lt_begins lt_marks st_word st_vowels tx_characters tt_begins tt_lengths tt_stemLengths tt_places tt_addresses tt_smalls tt_stems tt_slots tt_nexts r_4 h) (va_cwS 1 hts gX2_hasWord_X0_isLetterOrDigit rfl rfl rfl hdX0_isLetterOrDigit ⟨Nat.le_of_ble_eq_true rfl, Nat.le_of_ble_eq_true rfl⟩) hK hP hD hS hA hI rfl hl.1 rfl (Nat.le_of_ble_eq_true rfl) dX2_hasWord_40 ⟨Nat.zero_le _, Nat.zero_le _⟩ (fun r_5 u H locs h hP hD hS => ?_)
          refine lv_if_ne (tgt := 67) hx hb dX2_hasWord_43 (by decide) (fun c9 => ?_) (fun c9 => ?_)
          · have h := h.1 c9
            exact J67 x2 H locs ls (lv_sub hl [0, 1, 2] rfl) hP hD hS h
          · have h := h.2 c9
            refine lv_aload_n hx hb dX2_hasWord_46 rfl (lv_at hl 0 rfl) ?_
            refine va_get (D := (dC, dI)) (ci := 1) (v := .ref (ad 4)) (C := RX2) (T := TX2) (N := 6) hx hb hts inX2 hown hK hP 1 rfl rfl 0 (by decide) (hts (.fieldLink RX2 9 "MailWords$LineWalker" "text" "LMailWords$Text;") (List.mem_of_getElem? (i := 3) rfl)) (fun _ h9 => h9) rfl dX2_hasWord_47 ?_
            refine lv_iload_n hx hb dX2_hasWord_50 rfl (lv_at hl 2 rfl) ?_
            refine lv_aload_n hx hb dX2_hasWord_51 rfl (lv_at hl 1 rfl) ?_
            have hs9 := h.1
            have h := h.2
            refine xc_vi (As := []) (rest := [.int x2, .ref (ad 4)]) xG Fx (sJ0_length_8abf5 l dC dI ad cI cZ sa sv lt_count lw_begin lw_end lw_depth lw_signed lw_led pr_written pr_within st_size tx_size tt_count tt_pieces tt_kinds lt_begins lt_marks st_word st_vowels tx_characters tt_begins tt_lengths tt_stemLengths tt_places tt_addresses tt_smalls tt_stems tt_slots tt_nexts x1 h) (cwV 0 hts gX2_hasWord_J0_length_8abf5 rfl rfl rfl hdJ0_length_8abf5 ⟨Nat.le_of_ble_eq_true rfl, Nat.le_of_ble_eq_true rfl⟩) (sI_recv hI hS hs9) hK hP hD hS hA hI rfl hl.1 rfl (Nat.le_of_ble_eq_true rfl) dX2_hasWord_52 ⟨Nat.zero_le _, Nat.zero_le _⟩ (fun r_6 u H locs h hP hD hS => ?_)
            refine lv_iadd hx hb dX2_hasWord_55 ?_
            refine xc_vi (As := [.int (x2 + r_6)]) (rest := []) xG Fx (sX5_get l dC dI ad cI cZ sa sv lt_count lw_begin lw_end lw_depth lw_signed lw_led pr_written pr_within st_size tx_size tt_count tt_pieces tt_kinds lt_begins lt_marks st_word st_vowels tx_characters tt_begins tt_lengths tt_stemLengths tt_places tt_addresses tt_smalls tt_stems tt_slots tt_nexts (x2 + r_6) h) (cwV 1 hts gX2_hasWord_X5_get rfl rfl rfl hdX5_get ⟨Nat.le_of_ble_eq_true rfl, Nat.le_of_ble_eq_true rfl⟩) (va_recv hK hP (ci := 4) (q0 := 4) rfl rfl) hK hP hD hS hA hI rfl hl.1 rfl (Nat.le_of_ble_eq_true rfl) dX2_hasWord_56 ⟨Nat.zero_le _, Nat.zero_le _⟩ (fun r_7 u H locs h hP hD hS => ?_)
            refine xc_si (As := [.int r_7]) (rest := []) xG Fx (sX0_isLetterOrDigit l dC dI ad cI cZ sa sv lt_count lw_begin lw_end lw_depth lw_signed lw_led pr_written pr_within st_size tx_size tt_count tt_pieces tt_kinds lt_begins lt_marks st_word st_vowels tx_characters tt_begins tt_lengths tt_stemLengths tt_places tt_addresses tt_smalls tt_stems tt_slots tt_nexts r_7 h) (va_cwS 1 hts gX2_hasWord_X0_isLetterOrDigit rfl rfl rfl hdX0_isLetterOrDigit ⟨Nat.le_of_ble_eq_true rfl, Nat.le_of_ble_eq_true rfl⟩) hK hP hD hS hA hI rfl hl.1 rfl (Nat.le_of_ble_eq_true rfl) dX2_hasWord_59 ⟨Nat.zero_le _, Nat.zero_le _⟩ (fun r_8 u H locs h hP hD hS => ?_)
            refine lv_if_ne (tgt := 67) hx hb dX2_hasWord_62 (by decide) (fun c9 => ?_) (fun c9 => ?_)
            · have h := h.1 c9
              exact J67 x2 H locs ls (lv_sub hl [0, 1, 2] rfl) hP hD hS h
            · have h := h.2 c9
              refine lv_iconst (v := 1) hx hb dX2_hasWord_65 (by decide) ?_
              exact W.zret (v := 1) hx hb hr (bN_nar bN1) (fun t ht hW => hQ 1 () t h (by rw [ht]; exact hP) (va_K.moved hW.alike hK) hD (hS.F ht)) hS.2.2 dX2_hasWord_66
  intro H locs hP hD hS
  delta wpX2_hasWord at h
  refine lv_aload_n hx hb dX2_hasWord_0 rfl (lv_at hl 0 rfl) ?_
  refine va_get (D := (dC, dI)) (ci := 1) (v := .int lw_begin) (C := RX2) (T := TX2) (N := 6) hx hb hts inX2 hown hK hP 1 rfl rfl 1 (by decide) (hts (.fieldLink RX2 29 "MailWords$LineWalker" "begin" "I") (List.mem_of_getElem? (i := 1) rfl)) (fun _ h9 => h9) rfl dX2_hasWord_1 ?_
  refine lv_istore_n (lv' := [(2, .int lw_begin), (0, .ref (ad 1)), (1, .ref (sa x1))]) hx hb dX2_hasWord_4 rfl hl (by decide) rfl (fun ls hl => ?_)
  obtain ⟨n, h⟩ := h
  exact L5  n lw_begin H locs ls (lv_sub hl [1, 2, 0] rfl) hP hD hS h
set_option maxHeartbeats 4000000 in
set_option maxRecDepth 100000 in
theorem sX2_leads (l : Launch) (dC : Nat → ClassId) (dI : Nat → Nat → Nat) (ad : Nat → Nat) (cI cZ : ClassId) (sa sv : Nat → Nat) (lt_count : Int32) (lw_begin : Int32) (lw_end : Int32) (lw_depth : Int32) (lw_signed : Int32) (lw_led : Int32) (pr_written : Int32) (pr_within : Int32) (st_size : Int32) (tx_size : Int32) (tt_count : Int32) (tt_pieces : Int32) (tt_kinds : Int32) (lt_begins : Nat → Int32) (lt_marks : Nat → Int32) (st_word : Nat → Int32) (st_vowels : Nat → Int32) (tx_characters : Nat → Int32) (tt_begins : Nat → Int32) (tt_lengths : Nat → Int32) (tt_stemLengths : Nat → Int32) (tt_places : Nat → Int32) (tt_addresses : Nat → Int32) (tt_smalls : Nat → Int32) (tt_stems : Nat → Int32) (tt_slots : Nat → Int32) (tt_nexts : Nat → Int32)  {post : Int32 → Prop} (h : wpX2_leads post lw_begin lw_end tx_size tx_characters) : xMi l (dC, dI) vwCl [(cI, .int), (cZ, .boolean)] (sI sa sv) yX2_leads wsX2_leads ({ frames := 6, cells := 0, slots := 0, locals := 130 }) (xW ad cI cZ lt_count lw_begin lw_end lw_depth lw_signed lw_led pr_written pr_within st_size tx_size tt_count tt_pieces tt_kinds lt_begins lt_marks st_word st_vowels tx_characters tt_begins tt_lengths tt_stemLengths tt_places tt_addresses tt_smalls tt_stems tt_slots tt_nexts) [.ref (ad 1)] (fun (r : Int32) (u : Unit) => post r ) (fun u : Unit => (xW ad cI cZ lt_count lw_begin lw_end lw_depth lw_signed lw_led pr_written pr_within st_size tx_size tt_count tt_pieces tt_kinds lt_begins lt_marks st_word st_vowels tx_characters tt_begins tt_lengths tt_stemLengths tt_places tt_addresses tt_smalls tt_stems tt_slots tt_nexts)) := by
  intro sz
  refine Met.ofW (cc := cX2_leads) (maxL := 1) (ret := (some .boolean)) (by decide) rfl ?_
  intro p e s m args below meth c s₁ B hml hv
  obtain ⟨rfl, hsz, hP, hK, hD0, hI⟩ := hv
  have hx := B.exec
  have hb := B.bytes
  have hr := B.returns
  have hts := atoms_spec (ws := wsX2_leads) B.pre
  have hown : s.vm.findClass RX2 = some m.cls := findClass_of_methodNamed B.named
  have hlocks := B.notSynchronized
  subst hsz
  have hD := hD0.self (sz := s.heap.size)
  generalize hAe : va_A (xW ad cI cZ lt_count lw_begin lw_end lw_depth lw_signed lw_led pr_written pr_within st_size tx_size tt_count tt_pieces tt_kinds lt_begins lt_marks st_word st_vowels tx_characters tt_begins tt_lengths tt_stemLengths tt_places tt_addresses tt_smalls tt_stems tt_slots tt_nexts) s.heap.size = A at hD hI ⊢
  have hA : ∀ q : Nat, s.heap.size ≤ q → A q := fun q h => by rw [← hAe]; exact Or.inr h
  have hS : va_S A s.heap s.heap [] := va_S.rf
  have Fx : CallFix p m c cX2_leads 1 s ([.ref (ad 1)] : List Value).toArray wsX2_leads RX2 := ⟨hx, hb, hml, hown, hts⟩
  have hQ : ∀ (r : Int32) (u : Unit) (t : State), (fun (r : Int32) (u : Unit) => post r ) r u → va_P (dC, dI) vwCl ((fun u : Unit => (xW ad cI cZ lt_count lw_begin lw_end lw_depth lw_signed lw_led pr_written pr_within st_size tx_size tt_count tt_pieces tt_kinds lt_begins lt_marks st_word st_vowels tx_characters tt_begins tt_lengths tt_stemLengths tt_places tt_addresses tt_smalls tt_stems tt_slots tt_nexts)) u) t.heap → va_K (dC, dI) vwCl [(cI, .int), (cZ, .boolean)] t → va_D A ((fun u : Unit => (xW ad cI cZ lt_count lw_begin lw_end lw_depth lw_signed lw_led pr_written pr_within st_size tx_size tt_count tt_pieces tt_kinds lt_begins lt_marks st_word st_vowels tx_characters tt_begins tt_lengths tt_stemLengths tt_places tt_addresses tt_smalls tt_stems tt_slots tt_nexts)) u) → va_F A s t → (va_Qi (fun (r : Int32) (u : Unit) => post r ) (xB (dC, dI) vwCl [(cI, .int), (cZ, .boolean)] A (fun u : Unit => (xW ad cI cZ lt_count lw_begin lw_end lw_depth lw_signed lw_led pr_written pr_within st_size tx_size tt_count tt_pieces tt_kinds lt_begins lt_marks st_word st_vowels tx_characters tt_begins tt_lengths tt_stemLengths tt_places tt_addresses tt_smalls tt_stems tt_slots tt_nexts))) A) ([.ref (ad 1)] : List Value).toArray s (.returned (some (.int r))) t := fun r u t h1 h2 h3 h4 h5 => ⟨⟨r, u, rfl, h1, h2, h3, h4⟩, h5⟩
  generalize (va_Qi (fun (r : Int32) (u : Unit) => post r ) (xB (dC, dI) vwCl [(cI, .int), (cZ, .boolean)] A (fun u : Unit => (xW ad cI cZ lt_count lw_begin lw_end lw_depth lw_signed lw_led pr_written pr_within st_size tx_size tt_count tt_pieces tt_kinds lt_begins lt_marks st_word st_vowels tx_characters tt_begins tt_lengths tt_stemLengths tt_places tt_addresses tt_smalls tt_stems tt_slots tt_nexts))) A) = Qc at hQ ⊢
  have hl := lv_entry ([.ref (ad 1)]) (n := 1) (Nat.le_of_ble_eq_true rfl)
  rw [lg_entry_eq]
  generalize (lg_sl ([.ref (ad 1)]) ++ List.replicate (1 - (lg_sl ([.ref (ad 1)])).length) Slot.unset).toArray = ls at hl ⊢
  have hl : lv_has ls 1 [(0, .ref (ad 1))] := hl
  refine (fun (key : ∀ (H : Heap) (locs : List Loc), va_P (dC, dI) vwCl (xW ad cI cZ lt_count lw_begin lw_end lw_depth lw_signed lw_led pr_written pr_within st_size tx_size tt_count tt_pieces tt_kinds lt_begins lt_marks st_word st_vowels tx_characters tt_begins tt_lengths tt_stemLengths tt_places tt_addresses tt_smalls tt_stems tt_slots tt_nexts) H → va_D A (xW ad cI cZ lt_count lw_begin lw_end lw_depth lw_signed lw_led pr_written pr_within st_size tx_size tt_count tt_pieces tt_kinds lt_begins lt_marks st_word st_vowels tx_characters tt_begins tt_lengths tt_stemLengths tt_places tt_addresses tt_smalls tt_stems tt_slots tt_nexts) → va_S A s.heap H locs → W p l e (headSpec wsX2_leads ({ frames := 6, cells := 0, slots := 0, locals := 130 })).room s m ([.ref (ad 1)] : List Value).toArray below meth c H locs 0 0 (MQ below Qc ([.ref (ad 1)] : List Value).toArray s 0 0 A) (F0 m 0 ls [])) => key _ _ hP hD hS) ?_
  have inX2 : ∀ w ∈ wsX20, w ∈ wsX2_leads := (fun _ h9 => List.mem_cons_of_mem _ (List.mem_append_left _ (List.mem_append_right _ h9)))
  intro H locs hP hD hS
  delta wpX2_leads at h
  refine lv_aload_n hx hb dX2_leads_0 rfl (lv_at hl 0 rfl) ?_
  refine va_get (D := (dC, dI)) (ci := 1) (v := .int lw_end) (C := RX2) (T := TX2) (N := 6) hx hb hts inX2 hown hK hP 1 rfl rfl 2 (by decide) (hts (.fieldLink RX2 15 "MailWords$LineWalker" "end" "I") (List.mem_of_getElem? (i := 1) rfl)) (fun _ h9 => h9) rfl dX2_leads_1 ?_
  refine lv_aload_n hx hb dX2_leads_4 rfl (lv_at hl 0 rfl) ?_
  refine va_get (D := (dC, dI)) (ci := 1) (v := .int lw_begin) (C := RX2) (T := TX2) (N := 6) hx hb hts inX2 hown hK hP 1 rfl rfl 1 (by decide) (hts (.fieldLink RX2 29 "MailWords$LineWalker" "begin" "I") (List.mem_of_getElem? (i := 2) rfl)) (fun _ h9 => h9) rfl dX2_leads_5 ?_
  refine lv_icmp_le (tgt := 58) hx hb dX2_leads_8 (by decide) (fun c9 => ?_) (fun c9 => ?_)
  · have h := h.1 c9
    refine lv_iconst (v := 0) hx hb dX2_leads_58 (by decide) ?_
    exact W.zret (v := 0) hx hb hr (bN_nar bN0) (fun t ht hW => hQ 0 () t h (by rw [ht]; exact hP) (va_K.moved hW.alike hK) hD (hS.F ht)) hS.2.2 dX2_leads_59
  · have h := h.2 c9
    refine lv_aload_n hx hb dX2_leads_11 rfl (lv_at hl 0 rfl) ?_
    refine va_get (D := (dC, dI)) (ci := 1) (v := .ref (ad 4)) (C := RX2) (T := TX2) (N := 6) hx hb hts inX2 hown hK hP 1 rfl rfl 0 (by decide) (hts (.fieldLink RX2 9 "MailWords$LineWalker" "text" "LMailWords$Text;") (List.mem_of_getElem? (i := 3) rfl)) (fun _ h9 => h9) rfl dX2_leads_12 ?_
    refine lv_aload_n hx hb dX2_leads_15 rfl (lv_at hl 0 rfl) ?_
    refine va_get (D := (dC, dI)) (ci := 1) (v := .int lw_end) (C := RX2) (T := TX2) (N := 6) hx hb hts inX2 hown hK hP 1 rfl rfl 2 (by decide) (hts (.fieldLink RX2 15 "MailWords$LineWalker" "end" "I") (List.mem_of_getElem? (i := 1) rfl)) (fun _ h9 => h9) rfl dX2_leads_16 ?_
    refine lv_iconst (v := 1) hx hb dX2_leads_19 (by decide) ?_
    refine lv_isub hx hb dX2_leads_20 ?_
    refine xc_vi (As := [.int (lw_end - 1)]) (rest := []) xG Fx (sX5_get l dC dI ad cI cZ sa sv lt_count lw_begin lw_end lw_depth lw_signed lw_led pr_written pr_within st_size tx_size tt_count tt_pieces tt_kinds lt_begins lt_marks st_word st_vowels tx_characters tt_begins tt_lengths tt_stemLengths tt_places tt_addresses tt_smalls tt_stems tt_slots tt_nexts (lw_end - 1) h) (cwV 1 hts gX2_leads_X5_get rfl rfl rfl hdX5_get ⟨Nat.le_of_ble_eq_true rfl, Nat.le_of_ble_eq_true rfl⟩) (va_recv hK hP (ci := 4) (q0 := 4) rfl rfl) hK hP hD hS hA hI rfl hl.1 rfl (Nat.le_of_ble_eq_true rfl) dX2_leads_21 ⟨Nat.zero_le _, Nat.zero_le _⟩ (fun r_1 u H locs h hP hD hS => ?_)
    refine lv_bipush (v := 58) hx hb dX2_leads_24 (by decide) ?_
    refine lv_icmp_ne (tgt := 58) hx hb dX2_leads_26 (by decide) (fun c9 => ?_) (fun c9 => ?_)
    · have h := h.1 c9
      refine lv_iconst (v := 0) hx hb dX2_leads_58 (by decide) ?_
      exact W.zret (v := 0) hx hb hr (bN_nar bN0) (fun t ht hW => hQ 0 () t h (by rw [ht]; exact hP) (va_K.moved hW.alike hK) hD (hS.F ht)) hS.2.2 dX2_leads_59
    · have h := h.2 c9
      refine lv_aload_n hx hb dX2_leads_29 rfl (lv_at hl 0 rfl) ?_
      refine xc_vi (As := []) (rest := []) xG Fx (sX2_hasAt l dC dI ad cI cZ sa sv lt_count lw_begin lw_end lw_depth lw_signed lw_led pr_written pr_within st_size tx_size tt_count tt_pieces tt_kinds lt_begins lt_marks st_word st_vowels tx_characters tt_begins tt_lengths tt_stemLengths tt_places tt_addresses tt_smalls tt_stems tt_slots tt_nexts h) (cwV 0 hts gX2_leads_X2_hasAt rfl rfl rfl hdX2_hasAt ⟨Nat.le_of_ble_eq_true rfl, Nat.le_of_ble_eq_true rfl⟩) (va_recv hK hP (ci := 1) (q0 := 1) rfl rfl) hK hP hD hS hA hI rfl hl.1 rfl (Nat.le_of_ble_eq_true rfl) dX2_leads_30 ⟨Nat.zero_le _, Nat.zero_le _⟩ (fun r_2 u H locs h hP hD hS => ?_)
      refine lv_if_ne (tgt := 54) hx hb dX2_leads_33 (by decide) (fun c9 => ?_) (fun c9 => ?_)
      · have h := h.1 c9
        refine lv_iconst (v := 1) hx hb dX2_leads_54 (by decide) ?_
        refine lv_goto (tgt := 59) hx hb dX2_leads_55 (by decide) ?_
        exact W.zret (v := 1) hx hb hr (bN_nar bN1) (fun t ht hW => hQ 1 () t h (by rw [ht]; exact hP) (va_K.moved hW.alike hK) hD (hS.F ht)) hS.2.2 dX2_leads_59
      · have h := h.2 c9
        refine lv_aload_n hx hb dX2_leads_36 rfl (lv_at hl 0 rfl) ?_
        refine va_ldcS hx hb hown (show vk_R RX2 63 "wrote" (sa 36) s from sI_ref hI (i := 36) (by decide)) dX2_leads_37 ?_
        refine xc_vi (As := [.ref (sa 36)]) (rest := []) xG Fx (sX2_hasWord l dC dI ad cI cZ sa sv lt_count lw_begin lw_end lw_depth lw_signed lw_led pr_written pr_within st_size tx_size tt_count tt_pieces tt_kinds lt_begins lt_marks st_word st_vowels tx_characters tt_begins tt_lengths tt_stemLengths tt_places tt_addresses tt_smalls tt_stems tt_slots tt_nexts 36 h) (cwV 1 hts gX2_leads_X2_hasWord rfl rfl rfl hdX2_hasWord ⟨Nat.le_of_ble_eq_true rfl, Nat.le_of_ble_eq_true rfl⟩) (va_recv hK hP (ci := 1) (q0 := 1) rfl rfl) hK hP hD hS hA hI rfl hl.1 rfl (Nat.le_of_ble_eq_true rfl) dX2_leads_39 ⟨Nat.zero_le _, Nat.zero_le _⟩ (fun r_3 u H locs h hP hD hS => ?_)
        refine lv_if_ne (tgt := 54) hx hb dX2_leads_42 (by decide) (fun c9 => ?_) (fun c9 => ?_)
        · have h := h.1 c9
          refine lv_iconst (v := 1) hx hb dX2_leads_54 (by decide) ?_
          refine lv_goto (tgt := 59) hx hb dX2_leads_55 (by decide) ?_
          exact W.zret (v := 1) hx hb hr (bN_nar bN1) (fun t ht hW => hQ 1 () t h (by rw [ht]; exact hP) (va_K.moved hW.alike hK) hD (hS.F ht)) hS.2.2 dX2_leads_59
        · have h := h.2 c9
          refine lv_aload_n hx hb dX2_leads_45 rfl (lv_at hl 0 rfl) ?_
          refine va_ldcS hx hb hown (show vk_R RX2 69 "schrieb" (sa 37) s from sI_ref hI (i := 37) (by decide)) dX2_leads_46 ?_
          refine xc_vi (As := [.ref (sa 37)]) (rest := []) xG Fx (sX2_hasWord l dC dI ad cI cZ sa sv lt_count lw_begin lw_end lw_depth lw_signed lw_led pr_written pr_within st_size tx_size tt_count tt_pieces tt_kinds lt_begins lt_marks st_word st_vowels tx_characters tt_begins tt_lengths tt_stemLengths tt_places tt_addresses tt_smalls tt_stems tt_slots tt_nexts 37 h) (cwV 1 hts gX2_leads_X2_hasWord rfl rfl rfl hdX2_hasWord ⟨Nat.le_of_ble_eq_true rfl, Nat.le_of_ble_eq_true rfl⟩) (va_recv hK hP (ci := 1) (q0 := 1) rfl rfl) hK hP hD hS hA hI rfl hl.1 rfl (Nat.le_of_ble_eq_true rfl) dX2_leads_48 ⟨Nat.zero_le _, Nat.zero_le _⟩ (fun r_4 u H locs h hP hD hS => ?_)
          refine lv_if_eq (tgt := 58) hx hb dX2_leads_51 (by decide) (fun c9 => ?_) (fun c9 => ?_)
          · have h := h.1 c9
            refine lv_iconst (v := 0) hx hb dX2_leads_58 (by decide) ?_
            exact W.zret (v := 0) hx hb hr (bN_nar bN0) (fun t ht hW => hQ 0 () t h (by rw [ht]; exact hP) (va_K.moved hW.alike hK) hD (hS.F ht)) hS.2.2 dX2_leads_59
          · have h := h.2 c9
            refine lv_iconst (v := 1) hx hb dX2_leads_54 (by decide) ?_
            refine lv_goto (tgt := 59) hx hb dX2_leads_55 (by decide) ?_
            exact W.zret (v := 1) hx hb hr (bN_nar bN1) (fun t ht hW => hQ 1 () t h (by rw [ht]; exact hP) (va_K.moved hW.alike hK) hD (hS.F ht)) hS.2.2 dX2_leads_59
set_option maxHeartbeats 4000000 in
set_option maxRecDepth 100000 in
theorem sX2_advance (l : Launch) (dC : Nat → ClassId) (dI : Nat → Nat → Nat) (ad : Nat → Nat) (cI cZ : ClassId) (sa sv : Nat → Nat) (lt_count : Int32) (lw_begin : Int32) (lw_end : Int32) (lw_depth : Int32) (lw_signed : Int32) (lw_led : Int32) (pr_written : Int32) (pr_within : Int32) (st_size : Int32) (tx_size : Int32) (tt_count : Int32) (tt_pieces : Int32) (tt_kinds : Int32) (lt_begins : Nat → Int32) (lt_marks : Nat → Int32) (st_word : Nat → Int32) (st_vowels : Nat → Int32) (tx_characters : Nat → Int32) (tt_begins : Nat → Int32) (tt_lengths : Nat → Int32) (tt_stemLengths : Nat → Int32) (tt_places : Nat → Int32) (tt_addresses : Nat → Int32) (tt_smalls : Nat → Int32) (tt_stems : Nat → Int32) (tt_slots : Nat → Int32) (tt_nexts : Nat → Int32)  {post : Int32 → Int32 → Int32 → Int32 → Int32 → Int32 → Prop} (h : wpX2_advance post lw_begin lw_end lw_depth lw_signed lw_led tx_size tx_characters) : xMi l (dC, dI) vwCl [(cI, .int), (cZ, .boolean)] (sI sa sv) yX2_advance wsX2_advance ({ frames := 7, cells := 0, slots := 0, locals := 150 }) (xW ad cI cZ lt_count lw_begin lw_end lw_depth lw_signed lw_led pr_written pr_within st_size tx_size tt_count tt_pieces tt_kinds lt_begins lt_marks st_word st_vowels tx_characters tt_begins tt_lengths tt_stemLengths tt_places tt_addresses tt_smalls tt_stems tt_slots tt_nexts) [.ref (ad 1)] (fun (r : Int32) (u : Int32 × Int32 × Int32 × Int32 × Int32) => post r u.1 u.2.1 u.2.2.1 u.2.2.2.1 u.2.2.2.2) (fun u : Int32 × Int32 × Int32 × Int32 × Int32 => (xW ad cI cZ lt_count u.1 u.2.1 u.2.2.1 u.2.2.2.1 u.2.2.2.2 pr_written pr_within st_size tx_size tt_count tt_pieces tt_kinds lt_begins lt_marks st_word st_vowels tx_characters tt_begins tt_lengths tt_stemLengths tt_places tt_addresses tt_smalls tt_stems tt_slots tt_nexts)) := by
  intro sz
  refine Met.ofW (cc := cX2_advance) (maxL := 1) (ret := (some .boolean)) (by decide) rfl ?_
  intro p e s m args below meth c s₁ B hml hv
  obtain ⟨rfl, hsz, hP, hK, hD0, hI⟩ := hv
  have hx := B.exec
  have hb := B.bytes
  have hr := B.returns
  have hts := atoms_spec (ws := wsX2_advance) B.pre
  have hown : s.vm.findClass RX2 = some m.cls := findClass_of_methodNamed B.named
  have hlocks := B.notSynchronized
  subst hsz
  have hD := hD0.self (sz := s.heap.size)
  generalize hAe : va_A (xW ad cI cZ lt_count lw_begin lw_end lw_depth lw_signed lw_led pr_written pr_within st_size tx_size tt_count tt_pieces tt_kinds lt_begins lt_marks st_word st_vowels tx_characters tt_begins tt_lengths tt_stemLengths tt_places tt_addresses tt_smalls tt_stems tt_slots tt_nexts) s.heap.size = A at hD hI ⊢
  have hA : ∀ q : Nat, s.heap.size ≤ q → A q := fun q h => by rw [← hAe]; exact Or.inr h
  have hS : va_S A s.heap s.heap [] := va_S.rf
  have Fx : CallFix p m c cX2_advance 1 s ([.ref (ad 1)] : List Value).toArray wsX2_advance RX2 := ⟨hx, hb, hml, hown, hts⟩
  have hQ : ∀ (r : Int32) (u : Int32 × Int32 × Int32 × Int32 × Int32) (t : State), (fun (r : Int32) (u : Int32 × Int32 × Int32 × Int32 × Int32) => post r u.1 u.2.1 u.2.2.1 u.2.2.2.1 u.2.2.2.2) r u → va_P (dC, dI) vwCl ((fun u : Int32 × Int32 × Int32 × Int32 × Int32 => (xW ad cI cZ lt_count u.1 u.2.1 u.2.2.1 u.2.2.2.1 u.2.2.2.2 pr_written pr_within st_size tx_size tt_count tt_pieces tt_kinds lt_begins lt_marks st_word st_vowels tx_characters tt_begins tt_lengths tt_stemLengths tt_places tt_addresses tt_smalls tt_stems tt_slots tt_nexts)) u) t.heap → va_K (dC, dI) vwCl [(cI, .int), (cZ, .boolean)] t → va_D A ((fun u : Int32 × Int32 × Int32 × Int32 × Int32 => (xW ad cI cZ lt_count u.1 u.2.1 u.2.2.1 u.2.2.2.1 u.2.2.2.2 pr_written pr_within st_size tx_size tt_count tt_pieces tt_kinds lt_begins lt_marks st_word st_vowels tx_characters tt_begins tt_lengths tt_stemLengths tt_places tt_addresses tt_smalls tt_stems tt_slots tt_nexts)) u) → va_F A s t → (va_Qi (fun (r : Int32) (u : Int32 × Int32 × Int32 × Int32 × Int32) => post r u.1 u.2.1 u.2.2.1 u.2.2.2.1 u.2.2.2.2) (xB (dC, dI) vwCl [(cI, .int), (cZ, .boolean)] A (fun u : Int32 × Int32 × Int32 × Int32 × Int32 => (xW ad cI cZ lt_count u.1 u.2.1 u.2.2.1 u.2.2.2.1 u.2.2.2.2 pr_written pr_within st_size tx_size tt_count tt_pieces tt_kinds lt_begins lt_marks st_word st_vowels tx_characters tt_begins tt_lengths tt_stemLengths tt_places tt_addresses tt_smalls tt_stems tt_slots tt_nexts))) A) ([.ref (ad 1)] : List Value).toArray s (.returned (some (.int r))) t := fun r u t h1 h2 h3 h4 h5 => ⟨⟨r, u, rfl, h1, h2, h3, h4⟩, h5⟩
  generalize (va_Qi (fun (r : Int32) (u : Int32 × Int32 × Int32 × Int32 × Int32) => post r u.1 u.2.1 u.2.2.1 u.2.2.2.1 u.2.2.2.2) (xB (dC, dI) vwCl [(cI, .int), (cZ, .boolean)] A (fun u : Int32 × Int32 × Int32 × Int32 × Int32 => (xW ad cI cZ lt_count u.1 u.2.1 u.2.2.1 u.2.2.2.1 u.2.2.2.2 pr_written pr_within st_size tx_size tt_count tt_pieces tt_kinds lt_begins lt_marks st_word st_vowels tx_characters tt_begins tt_lengths tt_stemLengths tt_places tt_addresses tt_smalls tt_stems tt_slots tt_nexts))) A) = Qc at hQ ⊢
  have hl := lv_entry ([.ref (ad 1)]) (n := 1) (Nat.le_of_ble_eq_true rfl)
  rw [lg_entry_eq]
  generalize (lg_sl ([.ref (ad 1)]) ++ List.replicate (1 - (lg_sl ([.ref (ad 1)])).length) Slot.unset).toArray = ls at hl ⊢
  have hl : lv_has ls 1 [(0, .ref (ad 1))] := hl
  refine (fun (key : ∀ (H : Heap) (locs : List Loc), va_P (dC, dI) vwCl (xW ad cI cZ lt_count lw_begin lw_end lw_depth lw_signed lw_led pr_written pr_within st_size tx_size tt_count tt_pieces tt_kinds lt_begins lt_marks st_word st_vowels tx_characters tt_begins tt_lengths tt_stemLengths tt_places tt_addresses tt_smalls tt_stems tt_slots tt_nexts) H → va_D A (xW ad cI cZ lt_count lw_begin lw_end lw_depth lw_signed lw_led pr_written pr_within st_size tx_size tt_count tt_pieces tt_kinds lt_begins lt_marks st_word st_vowels tx_characters tt_begins tt_lengths tt_stemLengths tt_places tt_addresses tt_smalls tt_stems tt_slots tt_nexts) → va_S A s.heap H locs → W p l e (headSpec wsX2_advance ({ frames := 7, cells := 0, slots := 0, locals := 150 })).room s m ([.ref (ad 1)] : List Value).toArray below meth c H locs 0 0 (MQ below Qc ([.ref (ad 1)] : List Value).toArray s 0 0 A) (F0 m 0 ls [])) => key _ _ hP hD hS) ?_
  have inX2 : ∀ w ∈ wsX20, w ∈ wsX2_advance := (fun _ h9 => List.mem_cons_of_mem _ (List.mem_append_left _ (List.mem_append_right _ h9)))
  have J147 : ∀ (lw_begin : Int32) (lw_end : Int32) (lw_depth : Int32) (lw_signed : Int32) (lw_led : Int32) (s0 : Int32) (H : Heap) (locs : List Loc) (ls : Array Slot), lv_has ls 1 [] → va_P (dC, dI) vwCl (xW ad cI cZ lt_count lw_begin lw_end lw_depth lw_signed lw_led pr_written pr_within st_size tx_size tt_count tt_pieces tt_kinds lt_begins lt_marks st_word st_vowels tx_characters tt_begins tt_lengths tt_stemLengths tt_places tt_addresses tt_smalls tt_stems tt_slots tt_nexts) H → va_D A (xW ad cI cZ lt_count lw_begin lw_end lw_depth lw_signed lw_led pr_written pr_within st_size tx_size tt_count tt_pieces tt_kinds lt_begins lt_marks st_word st_vowels tx_characters tt_begins tt_lengths tt_stemLengths tt_places tt_addresses tt_smalls tt_stems tt_slots tt_nexts) → va_S A s.heap H locs → wjX2_advance_147 post tx_size tx_characters lw_begin lw_end lw_depth lw_signed lw_led s0 → W p l e (headSpec wsX2_advance ({ frames := 7, cells := 0, slots := 0, locals := 150 })).room s m ([.ref (ad 1)] : List Value).toArray below meth c H locs 0 0 (MQ below Qc ([.ref (ad 1)] : List Value).toArray s 0 0 A) (F0 m 147 ls [.int s0, .ref (ad 1)]) := by
    intro lw_begin lw_end lw_depth lw_signed lw_led s0 H locs ls hl hP hD hS h
    delta wjX2_advance_147 at h
    have hb9 := h.1
    have h := h.2
    refine va_put (D := (dC, dI)) (ci := 1) (v := .int s0) (ty := .boolean) (C := RX2) (T := TX2) (N := 6) hx hb hts inX2 tyX2 tyX2_ok nmX2 hown hK hP hD hS 1 rfl rfl 5 (by decide) (hts (.fieldLink RX2 49 "MailWords$LineWalker" "led" "Z") (List.mem_of_getElem? (i := 6) rfl)) (fun _ h9 => h9) rfl (tyX2_ok 5 (by decide)) (bN_nar hb9) (bN_fit hb9) (Nat.le_of_ble_eq_true rfl) dX2_advance_147 (fun H locs hP hD hS => ?_)
    have hP : va_P (dC, dI) vwCl (xW ad cI cZ lt_count lw_begin lw_end lw_depth lw_signed s0 pr_written pr_within st_size tx_size tt_count tt_pieces tt_kinds lt_begins lt_marks st_word st_vowels tx_characters tt_begins tt_lengths tt_stemLengths tt_places tt_addresses tt_smalls tt_stems tt_slots tt_nexts) H := hP
    have hD : va_D A (xW ad cI cZ lt_count lw_begin lw_end lw_depth lw_signed s0 pr_written pr_within st_size tx_size tt_count tt_pieces tt_kinds lt_begins lt_marks st_word st_vowels tx_characters tt_begins tt_lengths tt_stemLengths tt_places tt_addresses tt_smalls tt_stems tt_slots tt_nexts) := hD
    refine lv_iconst (v := 1) hx hb dX2_advance_150 (by decide) ?_
    exact W.zret (v := 1) hx hb hr (bN_nar bN1) (fun t ht hW => hQ 1 (lw_begin, lw_end, lw_depth, lw_signed, s0) t h (by rw [ht]; exact hP) (va_K.moved hW.alike hK) hD (hS.F ht)) hS.2.2 dX2_advance_151
  have J146 : ∀ (lw_begin : Int32) (lw_end : Int32) (lw_depth : Int32) (lw_signed : Int32) (lw_led : Int32) (H : Heap) (locs : List Loc) (ls : Array Slot), lv_has ls 1 [] → va_P (dC, dI) vwCl (xW ad cI cZ lt_count lw_begin lw_end lw_depth lw_signed lw_led pr_written pr_within st_size tx_size tt_count tt_pieces tt_kinds lt_begins lt_marks st_word st_vowels tx_characters tt_begins tt_lengths tt_stemLengths tt_places tt_addresses tt_smalls tt_stems tt_slots tt_nexts) H → va_D A (xW ad cI cZ lt_count lw_begin lw_end lw_depth lw_signed lw_led pr_written pr_within st_size tx_size tt_count tt_pieces tt_kinds lt_begins lt_marks st_word st_vowels tx_characters tt_begins tt_lengths tt_stemLengths tt_places tt_addresses tt_smalls tt_stems tt_slots tt_nexts) → va_S A s.heap H locs → wjX2_advance_146 post tx_size tx_characters lw_begin lw_end lw_depth lw_signed lw_led → W p l e (headSpec wsX2_advance ({ frames := 7, cells := 0, slots := 0, locals := 150 })).room s m ([.ref (ad 1)] : List Value).toArray below meth c H locs 0 0 (MQ below Qc ([.ref (ad 1)] : List Value).toArray s 0 0 A) (F0 m 146 ls [.ref (ad 1)]) := by
    intro lw_begin lw_end lw_depth lw_signed lw_led H locs ls hl hP hD hS h
    delta wjX2_advance_146 at h
    refine lv_iconst (v := 0) hx hb dX2_advance_146 (by decide) ?_
    exact J147 lw_begin lw_end lw_depth lw_signed lw_led 0 H locs ls (lv_sub hl [] rfl) hP hD hS h
  have J118 : ∀ (lw_begin : Int32) (lw_end : Int32) (lw_depth : Int32) (lw_signed : Int32) (lw_led : Int32) (s0 : Int32) (H : Heap) (locs : List Loc) (ls : Array Slot), lv_has ls 1 [(0, .ref (ad 1))] → va_P (dC, dI) vwCl (xW ad cI cZ lt_count lw_begin lw_end lw_depth lw_signed lw_led pr_written pr_within st_size tx_size tt_count tt_pieces tt_kinds lt_begins lt_marks st_word st_vowels tx_characters tt_begins tt_lengths tt_stemLengths tt_places tt_addresses tt_smalls tt_stems tt_slots tt_nexts) H → va_D A (xW ad cI cZ lt_count lw_begin lw_end lw_depth lw_signed lw_led pr_written pr_within st_size tx_size tt_count tt_pieces tt_kinds lt_begins lt_marks st_word st_vowels tx_characters tt_begins tt_lengths tt_stemLengths tt_places tt_addresses tt_smalls tt_stems tt_slots tt_nexts) → va_S A s.heap H locs → wjX2_advance_118 post tx_size tx_characters lw_begin lw_end lw_depth lw_signed lw_led s0 → W p l e (headSpec wsX2_advance ({ frames := 7, cells := 0, slots := 0, locals := 150 })).room s m ([.ref (ad 1)] : List Value).toArray below meth c H locs 0 0 (MQ below Qc ([.ref (ad 1)] : List Value).toArray s 0 0 A) (F0 m 118 ls [.int s0, .ref (ad 1)]) := by
    intro lw_begin lw_end lw_depth lw_signed lw_led s0 H locs ls hl hP hD hS h
    delta wjX2_advance_118 at h
    have hb9 := h.1
    have h := h.2
    refine va_put (D := (dC, dI)) (ci := 1) (v := .int s0) (ty := .boolean) (C := RX2) (T := TX2) (N := 6) hx hb hts inX2 tyX2 tyX2_ok nmX2 hown hK hP hD hS 1 rfl rfl 4 (by decide) (hts (.fieldLink RX2 19 "MailWords$LineWalker" "signed" "Z") (List.mem_of_getElem? (i := 5) rfl)) (fun _ h9 => h9) rfl (tyX2_ok 4 (by decide)) (bN_nar hb9) (bN_fit hb9) (Nat.le_of_ble_eq_true rfl) dX2_advance_118 (fun H locs hP hD hS => ?_)
    have hP : va_P (dC, dI) vwCl (xW ad cI cZ lt_count lw_begin lw_end lw_depth s0 lw_led pr_written pr_within st_size tx_size tt_count tt_pieces tt_kinds lt_begins lt_marks st_word st_vowels tx_characters tt_begins tt_lengths tt_stemLengths tt_places tt_addresses tt_smalls tt_stems tt_slots tt_nexts) H := hP
    have hD : va_D A (xW ad cI cZ lt_count lw_begin lw_end lw_depth s0 lw_led pr_written pr_within st_size tx_size tt_count tt_pieces tt_kinds lt_begins lt_marks st_word st_vowels tx_characters tt_begins tt_lengths tt_stemLengths tt_places tt_addresses tt_smalls tt_stems tt_slots tt_nexts) := hD
    refine lv_aload_n hx hb dX2_advance_121 rfl (lv_at hl 0 rfl) ?_
    refine lv_aload_n hx hb dX2_advance_122 rfl (lv_at hl 0 rfl) ?_
    refine xc_vi (As := []) (rest := [.ref (ad 1)]) xG Fx (sX2_leads l dC dI ad cI cZ sa sv lt_count lw_begin lw_end lw_depth s0 lw_led pr_written pr_within st_size tx_size tt_count tt_pieces tt_kinds lt_begins lt_marks st_word st_vowels tx_characters tt_begins tt_lengths tt_stemLengths tt_places tt_addresses tt_smalls tt_stems tt_slots tt_nexts h) (cwV 0 hts gX2_advance_X2_leads rfl rfl rfl hdX2_leads ⟨Nat.le_of_ble_eq_true rfl, Nat.le_of_ble_eq_true rfl⟩) (va_recv hK hP (ci := 1) (q0 := 1) rfl rfl) hK hP hD hS hA hI rfl hl.1 rfl (Nat.le_of_ble_eq_true rfl) dX2_advance_123 ⟨Nat.zero_le _, Nat.zero_le _⟩ (fun r_1 u H locs h hP hD hS => ?_)
    refine lv_if_eq (tgt := 146) hx hb dX2_advance_126 (by decide) (fun c9 => ?_) (fun c9 => ?_)
    · have h := h.1 c9
      exact J146 lw_begin lw_end lw_depth s0 lw_led H locs ls (lv_sub hl [] rfl) hP hD hS h
    · have h := h.2 c9
      refine lv_aload_n hx hb dX2_advance_129 rfl (lv_at hl 0 rfl) ?_
      refine lv_aload_n hx hb dX2_advance_130 rfl (lv_at hl 0 rfl) ?_
      refine va_get (D := (dC, dI)) (ci := 1) (v := .int lw_end) (C := RX2) (T := TX2) (N := 6) hx hb hts inX2 hown hK hP 1 rfl rfl 2 (by decide) (hts (.fieldLink RX2 15 "MailWords$LineWalker" "end" "I") (List.mem_of_getElem? (i := 1) rfl)) (fun _ h9 => h9) rfl dX2_advance_131 ?_
      refine lv_iconst (v := 1) hx hb dX2_advance_134 (by decide) ?_
      refine lv_iadd hx hb dX2_advance_135 ?_
      refine xc_vi (As := [.int (lw_end + 1)]) (rest := [.ref (ad 1)]) xG Fx (sX2_depthFrom l dC dI ad cI cZ sa sv lt_count lw_begin lw_end lw_depth s0 lw_led pr_written pr_within st_size tx_size tt_count tt_pieces tt_kinds lt_begins lt_marks st_word st_vowels tx_characters tt_begins tt_lengths tt_stemLengths tt_places tt_addresses tt_smalls tt_stems tt_slots tt_nexts (lw_end + 1) h) (cwV 1 hts gX2_advance_X2_depthFrom rfl rfl rfl hdX2_depthFrom ⟨Nat.le_of_ble_eq_true rfl, Nat.le_of_ble_eq_true rfl⟩) (va_recv hK hP (ci := 1) (q0 := 1) rfl rfl) hK hP hD hS hA hI rfl hl.1 rfl (Nat.le_of_ble_eq_true rfl) dX2_advance_136 ⟨Nat.zero_le _, Nat.zero_le _⟩ (fun r_2 u H locs h hP hD hS => ?_)
      refine lv_if_le (tgt := 146) hx hb dX2_advance_139 (by decide) (fun c9 => ?_) (fun c9 => ?_)
      · have h := h.1 c9
        exact J146 lw_begin lw_end lw_depth s0 lw_led H locs ls (lv_sub hl [] rfl) hP hD hS h
      · have h := h.2 c9
        refine lv_iconst (v := 1) hx hb dX2_advance_142 (by decide) ?_
        refine lv_goto (tgt := 147) hx hb dX2_advance_143 (by decide) ?_
        exact J147 lw_begin lw_end lw_depth s0 lw_led 1 H locs ls (lv_sub hl [] rfl) hP hD hS h
  have J117 : ∀ (lw_begin : Int32) (lw_end : Int32) (lw_depth : Int32) (lw_signed : Int32) (lw_led : Int32) (H : Heap) (locs : List Loc) (ls : Array Slot), lv_has ls 1 [(0, .ref (ad 1))] → va_P (dC, dI) vwCl (xW ad cI cZ lt_count lw_begin lw_end lw_depth lw_signed lw_led pr_written pr_within st_size tx_size tt_count tt_pieces tt_kinds lt_begins lt_marks st_word st_vowels tx_characters tt_begins tt_lengths tt_stemLengths tt_places tt_addresses tt_smalls tt_stems tt_slots tt_nexts) H → va_D A (xW ad cI cZ lt_count lw_begin lw_end lw_depth lw_signed lw_led pr_written pr_within st_size tx_size tt_count tt_pieces tt_kinds lt_begins lt_marks st_word st_vowels tx_characters tt_begins tt_lengths tt_stemLengths tt_places tt_addresses tt_smalls tt_stems tt_slots tt_nexts) → va_S A s.heap H locs → wjX2_advance_117 post tx_size tx_characters lw_begin lw_end lw_depth lw_signed lw_led → W p l e (headSpec wsX2_advance ({ frames := 7, cells := 0, slots := 0, locals := 150 })).room s m ([.ref (ad 1)] : List Value).toArray below meth c H locs 0 0 (MQ below Qc ([.ref (ad 1)] : List Value).toArray s 0 0 A) (F0 m 117 ls [.ref (ad 1)]) := by
    intro lw_begin lw_end lw_depth lw_signed lw_led H locs ls hl hP hD hS h
    delta wjX2_advance_117 at h
    refine lv_iconst (v := 0) hx hb dX2_advance_117 (by decide) ?_
    exact J118 lw_begin lw_end lw_depth lw_signed lw_led 0 H locs ls (lv_sub hl [0] rfl) hP hD hS h
  have J113 : ∀ (lw_begin : Int32) (lw_end : Int32) (lw_depth : Int32) (lw_signed : Int32) (lw_led : Int32) (H : Heap) (locs : List Loc) (ls : Array Slot), lv_has ls 1 [(0, .ref (ad 1))] → va_P (dC, dI) vwCl (xW ad cI cZ lt_count lw_begin lw_end lw_depth lw_signed lw_led pr_written pr_within st_size tx_size tt_count tt_pieces tt_kinds lt_begins lt_marks st_word st_vowels tx_characters tt_begins tt_lengths tt_stemLengths tt_places tt_addresses tt_smalls tt_stems tt_slots tt_nexts) H → va_D A (xW ad cI cZ lt_count lw_begin lw_end lw_depth lw_signed lw_led pr_written pr_within st_size tx_size tt_count tt_pieces tt_kinds lt_begins lt_marks st_word st_vowels tx_characters tt_begins tt_lengths tt_stemLengths tt_places tt_addresses tt_smalls tt_stems tt_slots tt_nexts) → va_S A s.heap H locs → wjX2_advance_113 post tx_size tx_characters lw_begin lw_end lw_depth lw_signed lw_led → W p l e (headSpec wsX2_advance ({ frames := 7, cells := 0, slots := 0, locals := 150 })).room s m ([.ref (ad 1)] : List Value).toArray below meth c H locs 0 0 (MQ below Qc ([.ref (ad 1)] : List Value).toArray s 0 0 A) (F0 m 113 ls [.ref (ad 1)]) := by
    intro lw_begin lw_end lw_depth lw_signed lw_led H locs ls hl hP hD hS h
    delta wjX2_advance_113 at h
    refine lv_iconst (v := 1) hx hb dX2_advance_113 (by decide) ?_
    refine lv_goto (tgt := 118) hx hb dX2_advance_114 (by decide) ?_
    exact J118 lw_begin lw_end lw_depth lw_signed lw_led 1 H locs ls (lv_sub hl [0] rfl) hP hD hS h
  have J79 : ∀ (lw_begin : Int32) (lw_end : Int32) (lw_depth : Int32) (lw_signed : Int32) (lw_led : Int32) (H : Heap) (locs : List Loc) (ls : Array Slot), lv_has ls 1 [(0, .ref (ad 1))] → va_P (dC, dI) vwCl (xW ad cI cZ lt_count lw_begin lw_end lw_depth lw_signed lw_led pr_written pr_within st_size tx_size tt_count tt_pieces tt_kinds lt_begins lt_marks st_word st_vowels tx_characters tt_begins tt_lengths tt_stemLengths tt_places tt_addresses tt_smalls tt_stems tt_slots tt_nexts) H → va_D A (xW ad cI cZ lt_count lw_begin lw_end lw_depth lw_signed lw_led pr_written pr_within st_size tx_size tt_count tt_pieces tt_kinds lt_begins lt_marks st_word st_vowels tx_characters tt_begins tt_lengths tt_stemLengths tt_places tt_addresses tt_smalls tt_stems tt_slots tt_nexts) → va_S A s.heap H locs → wjX2_advance_79 post tx_size tx_characters lw_begin lw_end lw_depth lw_signed lw_led → W p l e (headSpec wsX2_advance ({ frames := 7, cells := 0, slots := 0, locals := 150 })).room s m ([.ref (ad 1)] : List Value).toArray below meth c H locs 0 0 (MQ below Qc ([.ref (ad 1)] : List Value).toArray s 0 0 A) (F0 m 79 ls []) := by
    intro lw_begin lw_end lw_depth lw_signed lw_led H locs ls hl hP hD hS h
    delta wjX2_advance_79 at h
    refine lv_aload_n hx hb dX2_advance_79 rfl (lv_at hl 0 rfl) ?_
    refine lv_aload_n hx hb dX2_advance_80 rfl (lv_at hl 0 rfl) ?_
    refine lv_aload_n hx hb dX2_advance_81 rfl (lv_at hl 0 rfl) ?_
    refine va_get (D := (dC, dI)) (ci := 1) (v := .int lw_begin) (C := RX2) (T := TX2) (N := 6) hx hb hts inX2 hown hK hP 1 rfl rfl 1 (by decide) (hts (.fieldLink RX2 29 "MailWords$LineWalker" "begin" "I") (List.mem_of_getElem? (i := 3) rfl)) (fun _ h9 => h9) rfl dX2_advance_82 ?_
    refine xc_vi (As := [.int lw_begin]) (rest := [.ref (ad 1)]) xG Fx (sX2_depthFrom l dC dI ad cI cZ sa sv lt_count lw_begin lw_end lw_depth lw_signed lw_led pr_written pr_within st_size tx_size tt_count tt_pieces tt_kinds lt_begins lt_marks st_word st_vowels tx_characters tt_begins tt_lengths tt_stemLengths tt_places tt_addresses tt_smalls tt_stems tt_slots tt_nexts lw_begin h) (cwV 1 hts gX2_advance_X2_depthFrom rfl rfl rfl hdX2_depthFrom ⟨Nat.le_of_ble_eq_true rfl, Nat.le_of_ble_eq_true rfl⟩) (va_recv hK hP (ci := 1) (q0 := 1) rfl rfl) hK hP hD hS hA hI rfl hl.1 rfl (Nat.le_of_ble_eq_true rfl) dX2_advance_85 ⟨Nat.zero_le _, Nat.zero_le _⟩ (fun r_3 u H locs h hP hD hS => ?_)
    refine va_put (D := (dC, dI)) (ci := 1) (v := .int r_3) (ty := .int) (C := RX2) (T := TX2) (N := 6) hx hb hts inX2 tyX2 tyX2_ok nmX2 hown hK hP hD hS 1 rfl rfl 3 (by decide) (hts (.fieldLink RX2 39 "MailWords$LineWalker" "depth" "I") (List.mem_of_getElem? (i := 4) rfl)) (fun _ h9 => h9) rfl (tyX2_ok 3 (by decide)) rfl rfl (Nat.le_of_ble_eq_true rfl) dX2_advance_88 (fun H locs hP hD hS => ?_)
    have hP : va_P (dC, dI) vwCl (xW ad cI cZ lt_count lw_begin lw_end r_3 lw_signed lw_led pr_written pr_within st_size tx_size tt_count tt_pieces tt_kinds lt_begins lt_marks st_word st_vowels tx_characters tt_begins tt_lengths tt_stemLengths tt_places tt_addresses tt_smalls tt_stems tt_slots tt_nexts) H := hP
    have hD : va_D A (xW ad cI cZ lt_count lw_begin lw_end r_3 lw_signed lw_led pr_written pr_within st_size tx_size tt_count tt_pieces tt_kinds lt_begins lt_marks st_word st_vowels tx_characters tt_begins tt_lengths tt_stemLengths tt_places tt_addresses tt_smalls tt_stems tt_slots tt_nexts) := hD
    refine lv_aload_n hx hb dX2_advance_91 rfl (lv_at hl 0 rfl) ?_
    refine lv_aload_n hx hb dX2_advance_92 rfl (lv_at hl 0 rfl) ?_
    refine va_get (D := (dC, dI)) (ci := 1) (v := .int r_3) (C := RX2) (T := TX2) (N := 6) hx hb hts inX2 hown hK hP 1 rfl rfl 3 (by decide) (hts (.fieldLink RX2 39 "MailWords$LineWalker" "depth" "I") (List.mem_of_getElem? (i := 4) rfl)) (fun _ h9 => h9) rfl dX2_advance_93 ?_
    refine lv_if_ne (tgt := 117) hx hb dX2_advance_96 (by decide) (fun c9 => ?_) (fun c9 => ?_)
    · have h := h.1 c9
      exact J117 lw_begin lw_end r_3 lw_signed lw_led H locs ls (lv_sub hl [0] rfl) hP hD hS h
    · have h := h.2 c9
      refine lv_aload_n hx hb dX2_advance_99 rfl (lv_at hl 0 rfl) ?_
      refine va_get (D := (dC, dI)) (ci := 1) (v := .int lw_signed) (C := RX2) (T := TX2) (N := 6) hx hb hts inX2 hown hK hP 1 rfl rfl 4 (by decide) (hts (.fieldLink RX2 19 "MailWords$LineWalker" "signed" "Z") (List.mem_of_getElem? (i := 5) rfl)) (fun _ h9 => h9) rfl dX2_advance_100 ?_
      refine lv_if_ne (tgt := 113) hx hb dX2_advance_103 (by decide) (fun c9 => ?_) (fun c9 => ?_)
      · have h := h.1 c9
        exact J113 lw_begin lw_end r_3 lw_signed lw_led H locs ls (lv_sub hl [0] rfl) hP hD hS h
      · have h := h.2 c9
        refine lv_aload_n hx hb dX2_advance_106 rfl (lv_at hl 0 rfl) ?_
        refine xc_vi (As := []) (rest := [.ref (ad 1)]) xG Fx (sX2_beginsSigned l dC dI ad cI cZ sa sv lt_count lw_begin lw_end r_3 lw_signed lw_led pr_written pr_within st_size tx_size tt_count tt_pieces tt_kinds lt_begins lt_marks st_word st_vowels tx_characters tt_begins tt_lengths tt_stemLengths tt_places tt_addresses tt_smalls tt_stems tt_slots tt_nexts h) (cwV 0 hts gX2_advance_X2_beginsSigned rfl rfl rfl hdX2_beginsSigned ⟨Nat.le_of_ble_eq_true rfl, Nat.le_of_ble_eq_true rfl⟩) (va_recv hK hP (ci := 1) (q0 := 1) rfl rfl) hK hP hD hS hA hI rfl hl.1 rfl (Nat.le_of_ble_eq_true rfl) dX2_advance_107 ⟨Nat.zero_le _, Nat.zero_le _⟩ (fun r_4 u H locs h hP hD hS => ?_)
        refine lv_if_eq (tgt := 117) hx hb dX2_advance_110 (by decide) (fun c9 => ?_) (fun c9 => ?_)
        · have h := h.1 c9
          exact J117 lw_begin lw_end r_3 lw_signed lw_led H locs ls (lv_sub hl [0] rfl) hP hD hS h
        · have h := h.2 c9
          exact J113 lw_begin lw_end r_3 lw_signed lw_led H locs ls (lv_sub hl [0] rfl) hP hD hS h
  have L36 : ∀ (lw_begin : Int32) (lw_depth : Int32) (lw_signed : Int32) (lw_led : Int32) (n : Nat) (lw_end : Int32) (H : Heap) (locs : List Loc) (ls : Array Slot), lv_has ls 1 [(0, .ref (ad 1))] → va_P (dC, dI) vwCl (xW ad cI cZ lt_count lw_begin lw_end lw_depth lw_signed lw_led pr_written pr_within st_size tx_size tt_count tt_pieces tt_kinds lt_begins lt_marks st_word st_vowels tx_characters tt_begins tt_lengths tt_stemLengths tt_places tt_addresses tt_smalls tt_stems tt_slots tt_nexts) H → va_D A (xW ad cI cZ lt_count lw_begin lw_end lw_depth lw_signed lw_led pr_written pr_within st_size tx_size tt_count tt_pieces tt_kinds lt_begins lt_marks st_word st_vowels tx_characters tt_begins tt_lengths tt_stemLengths tt_places tt_addresses tt_smalls tt_stems tt_slots tt_nexts) → va_S A s.heap H locs → wlX2_advance_36 post tx_size tx_characters lw_begin lw_depth lw_signed lw_led n lw_end → W p l e (headSpec wsX2_advance ({ frames := 7, cells := 0, slots := 0, locals := 150 })).room s m ([.ref (ad 1)] : List Value).toArray below meth c H locs 0 0 (MQ below Qc ([.ref (ad 1)] : List Value).toArray s 0 0 A) (F0 m 36 ls []) := by
    intro lw_begin lw_depth lw_signed lw_led
    intro n
    induction n with
    | zero => intro lw_end H locs ls _ _ _ _ h; exact absurd h (fun z => z)
    | succ n36 ih36 =>
      intro lw_end H locs ls hl hP hD hS h
      rw [wlX2_advance_36] at h
      refine lv_aload_n hx hb dX2_advance_36 rfl (lv_at hl 0 rfl) ?_
      refine va_get (D := (dC, dI)) (ci := 1) (v := .int lw_end) (C := RX2) (T := TX2) (N := 6) hx hb hts inX2 hown hK hP 1 rfl rfl 2 (by decide) (hts (.fieldLink RX2 15 "MailWords$LineWalker" "end" "I") (List.mem_of_getElem? (i := 1) rfl)) (fun _ h9 => h9) rfl dX2_advance_37 ?_
      refine lv_aload_n hx hb dX2_advance_40 rfl (lv_at hl 0 rfl) ?_
      refine va_get (D := (dC, dI)) (ci := 1) (v := .ref (ad 4)) (C := RX2) (T := TX2) (N := 6) hx hb hts inX2 hown hK hP 1 rfl rfl 0 (by decide) (hts (.fieldLink RX2 9 "MailWords$LineWalker" "text" "LMailWords$Text;") (List.mem_of_getElem? (i := 2) rfl)) (fun _ h9 => h9) rfl dX2_advance_41 ?_
      refine xc_vi (As := []) (rest := [.int lw_end]) xG Fx (sX5_size l dC dI ad cI cZ sa sv lt_count lw_begin lw_end lw_depth lw_signed lw_led pr_written pr_within st_size tx_size tt_count tt_pieces tt_kinds lt_begins lt_marks st_word st_vowels tx_characters tt_begins tt_lengths tt_stemLengths tt_places tt_addresses tt_smalls tt_stems tt_slots tt_nexts h) (cwV 0 hts gX2_advance_X5_size rfl rfl rfl hdX5_size ⟨Nat.le_of_ble_eq_true rfl, Nat.le_of_ble_eq_true rfl⟩) (va_recv hK hP (ci := 4) (q0 := 4) rfl rfl) hK hP hD hS hA hI rfl hl.1 rfl (Nat.le_of_ble_eq_true rfl) dX2_advance_44 ⟨Nat.zero_le _, Nat.zero_le _⟩ (fun r_5 u H locs h hP hD hS => ?_)
      refine lv_icmp_ge (tgt := 79) hx hb dX2_advance_47 (by decide) (fun c9 => ?_) (fun c9 => ?_)
      · have h := h.1 c9
        exact J79 lw_begin lw_end lw_depth lw_signed lw_led H locs ls (lv_sub hl [0] rfl) hP hD hS h
      · have h := h.2 c9
        refine lv_aload_n hx hb dX2_advance_50 rfl (lv_at hl 0 rfl) ?_
        refine va_get (D := (dC, dI)) (ci := 1) (v := .ref (ad 4)) (C := RX2) (T := TX2) (N := 6) hx hb hts inX2 hown hK hP 1 rfl rfl 0 (by decide) (hts (.fieldLink RX2 9 "MailWords$LineWalker" "text" "LMailWords$Text;") (List.mem_of_getElem? (i := 2) rfl)) (fun _ h9 => h9) rfl dX2_advance_51 ?_
        refine lv_aload_n hx hb dX2_advance_54 rfl (lv_at hl 0 rfl) ?_
        refine va_get (D := (dC, dI)) (ci := 1) (v := .int lw_end) (C := RX2) (T := TX2) (N := 6) hx hb hts inX2 hown hK hP 1 rfl rfl 2 (by decide) (hts (.fieldLink RX2 15 "MailWords$LineWalker" "end" "I") (List.mem_of_getElem? (i := 1) rfl)) (fun _ h9 => h9) rfl dX2_advance_55 ?_
        refine xc_vi (As := [.int lw_end]) (rest := []) xG Fx (sX5_get l dC dI ad cI cZ sa sv lt_count lw_begin lw_end lw_depth lw_signed lw_led pr_written pr_within st_size tx_size tt_count tt_pieces tt_kinds lt_begins lt_marks st_word st_vowels tx_characters tt_begins tt_lengths tt_stemLengths tt_places tt_addresses tt_smalls tt_stems tt_slots tt_nexts lw_end h) (cwV 1 hts gX2_advance_X5_get rfl rfl rfl hdX5_get ⟨Nat.le_of_ble_eq_true rfl, Nat.le_of_ble_eq_true rfl⟩) (va_recv hK hP (ci := 4) (q0 := 4) rfl rfl) hK hP hD hS hA hI rfl hl.1 rfl (Nat.le_of_ble_eq_true rfl) dX2_advance_58 ⟨Nat.zero_le _, Nat.zero_le _⟩ (fun r_6 u H locs h hP hD hS => ?_)
        refine lv_bipush (v := 10) hx hb dX2_advance_61 (by decide) ?_
        refine lv_icmp_eq (tgt := 79) hx hb dX2_advance_63 (by decide) (fun c9 => ?_) (fun c9 => ?_)
        · have h := h.1 c9
          exact J79 lw_begin lw_end lw_depth lw_signed lw_led H locs ls (lv_sub hl [0] rfl) hP hD hS h
        · have h := h.2 c9
          refine lv_aload_n hx hb dX2_advance_66 rfl (lv_at hl 0 rfl) ?_
          refine lv_dup hx hb dX2_advance_67 rfl ?_
          refine va_get (D := (dC, dI)) (ci := 1) (v := .int lw_end) (C := RX2) (T := TX2) (N := 6) hx hb hts inX2 hown hK hP 1 rfl rfl 2 (by decide) (hts (.fieldLink RX2 15 "MailWords$LineWalker" "end" "I") (List.mem_of_getElem? (i := 1) rfl)) (fun _ h9 => h9) rfl dX2_advance_68 ?_
          refine lv_iconst (v := 1) hx hb dX2_advance_71 (by decide) ?_
          refine lv_iadd hx hb dX2_advance_72 ?_
          refine lv_topi (fun lw_end_7 elw_end_7 => ?_)
          have h := h lw_end_7 elw_end_7
          refine va_put (D := (dC, dI)) (ci := 1) (v := .int lw_end_7) (ty := .int) (C := RX2) (T := TX2) (N := 6) hx hb hts inX2 tyX2 tyX2_ok nmX2 hown hK hP hD hS 1 rfl rfl 2 (by decide) (hts (.fieldLink RX2 15 "MailWords$LineWalker" "end" "I") (List.mem_of_getElem? (i := 1) rfl)) (fun _ h9 => h9) rfl (tyX2_ok 2 (by decide)) rfl rfl (Nat.le_of_ble_eq_true rfl) dX2_advance_73 (fun H locs hP hD hS => ?_)
          have hP : va_P (dC, dI) vwCl (xW ad cI cZ lt_count lw_begin lw_end_7 lw_depth lw_signed lw_led pr_written pr_within st_size tx_size tt_count tt_pieces tt_kinds lt_begins lt_marks st_word st_vowels tx_characters tt_begins tt_lengths tt_stemLengths tt_places tt_addresses tt_smalls tt_stems tt_slots tt_nexts) H := hP
          have hD : va_D A (xW ad cI cZ lt_count lw_begin lw_end_7 lw_depth lw_signed lw_led pr_written pr_within st_size tx_size tt_count tt_pieces tt_kinds lt_begins lt_marks st_word st_vowels tx_characters tt_begins tt_lengths tt_stemLengths tt_places tt_addresses tt_smalls tt_stems tt_slots tt_nexts) := hD
          refine lv_goto (tgt := 36) hx hb dX2_advance_76 (by decide) ?_
          exact ih36 lw_end_7 H locs ls (lv_sub hl [0] rfl) hP hD hS h
  intro H locs hP hD hS
  delta wpX2_advance at h
  refine lv_aload_n hx hb dX2_advance_0 rfl (lv_at hl 0 rfl) ?_
  refine va_get (D := (dC, dI)) (ci := 1) (v := .int lw_end) (C := RX2) (T := TX2) (N := 6) hx hb hts inX2 hown hK hP 1 rfl rfl 2 (by decide) (hts (.fieldLink RX2 15 "MailWords$LineWalker" "end" "I") (List.mem_of_getElem? (i := 1) rfl)) (fun _ h9 => h9) rfl dX2_advance_1 ?_
  refine lv_iconst (v := 1) hx hb dX2_advance_4 (by decide) ?_
  refine lv_iadd hx hb dX2_advance_5 ?_
  refine lv_aload_n hx hb dX2_advance_6 rfl (lv_at hl 0 rfl) ?_
  refine va_get (D := (dC, dI)) (ci := 1) (v := .ref (ad 4)) (C := RX2) (T := TX2) (N := 6) hx hb hts inX2 hown hK hP 1 rfl rfl 0 (by decide) (hts (.fieldLink RX2 9 "MailWords$LineWalker" "text" "LMailWords$Text;") (List.mem_of_getElem? (i := 2) rfl)) (fun _ h9 => h9) rfl dX2_advance_7 ?_
  refine xc_vi (As := []) (rest := [.int (lw_end + 1)]) xG Fx (sX5_size l dC dI ad cI cZ sa sv lt_count lw_begin lw_end lw_depth lw_signed lw_led pr_written pr_within st_size tx_size tt_count tt_pieces tt_kinds lt_begins lt_marks st_word st_vowels tx_characters tt_begins tt_lengths tt_stemLengths tt_places tt_addresses tt_smalls tt_stems tt_slots tt_nexts h) (cwV 0 hts gX2_advance_X5_size rfl rfl rfl hdX5_size ⟨Nat.le_of_ble_eq_true rfl, Nat.le_of_ble_eq_true rfl⟩) (va_recv hK hP (ci := 4) (q0 := 4) rfl rfl) hK hP hD hS hA hI rfl hl.1 rfl (Nat.le_of_ble_eq_true rfl) dX2_advance_10 ⟨Nat.zero_le _, Nat.zero_le _⟩ (fun r_8 u H locs h hP hD hS => ?_)
  refine lv_icmp_lt (tgt := 18) hx hb dX2_advance_13 (by decide) (fun c9 => ?_) (fun c9 => ?_)
  · have h := h.1 c9
    refine lv_aload_n hx hb dX2_advance_18 rfl (lv_at hl 0 rfl) ?_
    refine lv_aload_n hx hb dX2_advance_19 rfl (lv_at hl 0 rfl) ?_
    refine va_get (D := (dC, dI)) (ci := 1) (v := .int lw_end) (C := RX2) (T := TX2) (N := 6) hx hb hts inX2 hown hK hP 1 rfl rfl 2 (by decide) (hts (.fieldLink RX2 15 "MailWords$LineWalker" "end" "I") (List.mem_of_getElem? (i := 1) rfl)) (fun _ h9 => h9) rfl dX2_advance_20 ?_
    refine lv_iconst (v := 1) hx hb dX2_advance_23 (by decide) ?_
    refine lv_iadd hx hb dX2_advance_24 ?_
    refine lv_topi (fun lw_begin_9 elw_begin_9 => ?_)
    have h := h lw_begin_9 elw_begin_9
    refine va_put (D := (dC, dI)) (ci := 1) (v := .int lw_begin_9) (ty := .int) (C := RX2) (T := TX2) (N := 6) hx hb hts inX2 tyX2 tyX2_ok nmX2 hown hK hP hD hS 1 rfl rfl 1 (by decide) (hts (.fieldLink RX2 29 "MailWords$LineWalker" "begin" "I") (List.mem_of_getElem? (i := 3) rfl)) (fun _ h9 => h9) rfl (tyX2_ok 1 (by decide)) rfl rfl (Nat.le_of_ble_eq_true rfl) dX2_advance_25 (fun H locs hP hD hS => ?_)
    have hP : va_P (dC, dI) vwCl (xW ad cI cZ lt_count lw_begin_9 lw_end lw_depth lw_signed lw_led pr_written pr_within st_size tx_size tt_count tt_pieces tt_kinds lt_begins lt_marks st_word st_vowels tx_characters tt_begins tt_lengths tt_stemLengths tt_places tt_addresses tt_smalls tt_stems tt_slots tt_nexts) H := hP
    have hD : va_D A (xW ad cI cZ lt_count lw_begin_9 lw_end lw_depth lw_signed lw_led pr_written pr_within st_size tx_size tt_count tt_pieces tt_kinds lt_begins lt_marks st_word st_vowels tx_characters tt_begins tt_lengths tt_stemLengths tt_places tt_addresses tt_smalls tt_stems tt_slots tt_nexts) := hD
    refine lv_aload_n hx hb dX2_advance_28 rfl (lv_at hl 0 rfl) ?_
    refine lv_aload_n hx hb dX2_advance_29 rfl (lv_at hl 0 rfl) ?_
    refine va_get (D := (dC, dI)) (ci := 1) (v := .int lw_begin_9) (C := RX2) (T := TX2) (N := 6) hx hb hts inX2 hown hK hP 1 rfl rfl 1 (by decide) (hts (.fieldLink RX2 29 "MailWords$LineWalker" "begin" "I") (List.mem_of_getElem? (i := 3) rfl)) (fun _ h9 => h9) rfl dX2_advance_30 ?_
    refine va_put (D := (dC, dI)) (ci := 1) (v := .int lw_begin_9) (ty := .int) (C := RX2) (T := TX2) (N := 6) hx hb hts inX2 tyX2 tyX2_ok nmX2 hown hK hP hD hS 1 rfl rfl 2 (by decide) (hts (.fieldLink RX2 15 "MailWords$LineWalker" "end" "I") (List.mem_of_getElem? (i := 1) rfl)) (fun _ h9 => h9) rfl (tyX2_ok 2 (by decide)) rfl rfl (Nat.le_of_ble_eq_true rfl) dX2_advance_33 (fun H locs hP hD hS => ?_)
    have hP : va_P (dC, dI) vwCl (xW ad cI cZ lt_count lw_begin_9 lw_begin_9 lw_depth lw_signed lw_led pr_written pr_within st_size tx_size tt_count tt_pieces tt_kinds lt_begins lt_marks st_word st_vowels tx_characters tt_begins tt_lengths tt_stemLengths tt_places tt_addresses tt_smalls tt_stems tt_slots tt_nexts) H := hP
    have hD : va_D A (xW ad cI cZ lt_count lw_begin_9 lw_begin_9 lw_depth lw_signed lw_led pr_written pr_within st_size tx_size tt_count tt_pieces tt_kinds lt_begins lt_marks st_word st_vowels tx_characters tt_begins tt_lengths tt_stemLengths tt_places tt_addresses tt_smalls tt_stems tt_slots tt_nexts) := hD
    obtain ⟨n, h⟩ := h
    exact L36 lw_begin_9 lw_depth lw_signed lw_led n lw_begin_9 H locs ls (lv_sub hl [0] rfl) hP hD hS h
  · have h := h.2 c9
    refine lv_iconst (v := 0) hx hb dX2_advance_16 (by decide) ?_
    exact W.zret (v := 0) hx hb hr (bN_nar bN0) (fun t ht hW => hQ 0 (lw_begin, lw_end, lw_depth, lw_signed, lw_led) t h (by rw [ht]; exact hP) (va_K.moved hW.alike hK) hD (hS.F ht)) hS.2.2 dX2_advance_17
set_option maxHeartbeats 4000000 in
set_option maxRecDepth 100000 in
theorem sX2_begin (l : Launch) (dC : Nat → ClassId) (dI : Nat → Nat → Nat) (ad : Nat → Nat) (cI cZ : ClassId) (sa sv : Nat → Nat) (lt_count : Int32) (lw_begin : Int32) (lw_end : Int32) (lw_depth : Int32) (lw_signed : Int32) (lw_led : Int32) (pr_written : Int32) (pr_within : Int32) (st_size : Int32) (tx_size : Int32) (tt_count : Int32) (tt_pieces : Int32) (tt_kinds : Int32) (lt_begins : Nat → Int32) (lt_marks : Nat → Int32) (st_word : Nat → Int32) (st_vowels : Nat → Int32) (tx_characters : Nat → Int32) (tt_begins : Nat → Int32) (tt_lengths : Nat → Int32) (tt_stemLengths : Nat → Int32) (tt_places : Nat → Int32) (tt_addresses : Nat → Int32) (tt_smalls : Nat → Int32) (tt_stems : Nat → Int32) (tt_slots : Nat → Int32) (tt_nexts : Nat → Int32)  {post : Int32 → Prop} (h : wpX2_begin post lw_begin) : xMi l (dC, dI) vwCl [(cI, .int), (cZ, .boolean)] (sI sa sv) yX2_begin wsX2_begin ({ frames := 0, cells := 0, slots := 0, locals := 0 }) (xW ad cI cZ lt_count lw_begin lw_end lw_depth lw_signed lw_led pr_written pr_within st_size tx_size tt_count tt_pieces tt_kinds lt_begins lt_marks st_word st_vowels tx_characters tt_begins tt_lengths tt_stemLengths tt_places tt_addresses tt_smalls tt_stems tt_slots tt_nexts) [.ref (ad 1)] (fun (r : Int32) (u : Unit) => post r ) (fun u : Unit => (xW ad cI cZ lt_count lw_begin lw_end lw_depth lw_signed lw_led pr_written pr_within st_size tx_size tt_count tt_pieces tt_kinds lt_begins lt_marks st_word st_vowels tx_characters tt_begins tt_lengths tt_stemLengths tt_places tt_addresses tt_smalls tt_stems tt_slots tt_nexts)) := by
  intro sz
  refine Met.ofW (cc := cX2_begin) (maxL := 1) (ret := (some .int)) (by decide) rfl ?_
  intro p e s m args below meth c s₁ B hml hv
  obtain ⟨rfl, hsz, hP, hK, hD0, hI⟩ := hv
  have hx := B.exec
  have hb := B.bytes
  have hr := B.returns
  have hts := atoms_spec (ws := wsX2_begin) B.pre
  have hown : s.vm.findClass RX2 = some m.cls := findClass_of_methodNamed B.named
  have hlocks := B.notSynchronized
  subst hsz
  have hD := hD0.self (sz := s.heap.size)
  generalize hAe : va_A (xW ad cI cZ lt_count lw_begin lw_end lw_depth lw_signed lw_led pr_written pr_within st_size tx_size tt_count tt_pieces tt_kinds lt_begins lt_marks st_word st_vowels tx_characters tt_begins tt_lengths tt_stemLengths tt_places tt_addresses tt_smalls tt_stems tt_slots tt_nexts) s.heap.size = A at hD hI ⊢
  have hA : ∀ q : Nat, s.heap.size ≤ q → A q := fun q h => by rw [← hAe]; exact Or.inr h
  have hS : va_S A s.heap s.heap [] := va_S.rf
  have Fx : CallFix p m c cX2_begin 1 s ([.ref (ad 1)] : List Value).toArray wsX2_begin RX2 := ⟨hx, hb, hml, hown, hts⟩
  have hQ : ∀ (r : Int32) (u : Unit) (t : State), (fun (r : Int32) (u : Unit) => post r ) r u → va_P (dC, dI) vwCl ((fun u : Unit => (xW ad cI cZ lt_count lw_begin lw_end lw_depth lw_signed lw_led pr_written pr_within st_size tx_size tt_count tt_pieces tt_kinds lt_begins lt_marks st_word st_vowels tx_characters tt_begins tt_lengths tt_stemLengths tt_places tt_addresses tt_smalls tt_stems tt_slots tt_nexts)) u) t.heap → va_K (dC, dI) vwCl [(cI, .int), (cZ, .boolean)] t → va_D A ((fun u : Unit => (xW ad cI cZ lt_count lw_begin lw_end lw_depth lw_signed lw_led pr_written pr_within st_size tx_size tt_count tt_pieces tt_kinds lt_begins lt_marks st_word st_vowels tx_characters tt_begins tt_lengths tt_stemLengths tt_places tt_addresses tt_smalls tt_stems tt_slots tt_nexts)) u) → va_F A s t → (va_Qi (fun (r : Int32) (u : Unit) => post r ) (xB (dC, dI) vwCl [(cI, .int), (cZ, .boolean)] A (fun u : Unit => (xW ad cI cZ lt_count lw_begin lw_end lw_depth lw_signed lw_led pr_written pr_within st_size tx_size tt_count tt_pieces tt_kinds lt_begins lt_marks st_word st_vowels tx_characters tt_begins tt_lengths tt_stemLengths tt_places tt_addresses tt_smalls tt_stems tt_slots tt_nexts))) A) ([.ref (ad 1)] : List Value).toArray s (.returned (some (.int r))) t := fun r u t h1 h2 h3 h4 h5 => ⟨⟨r, u, rfl, h1, h2, h3, h4⟩, h5⟩
  generalize (va_Qi (fun (r : Int32) (u : Unit) => post r ) (xB (dC, dI) vwCl [(cI, .int), (cZ, .boolean)] A (fun u : Unit => (xW ad cI cZ lt_count lw_begin lw_end lw_depth lw_signed lw_led pr_written pr_within st_size tx_size tt_count tt_pieces tt_kinds lt_begins lt_marks st_word st_vowels tx_characters tt_begins tt_lengths tt_stemLengths tt_places tt_addresses tt_smalls tt_stems tt_slots tt_nexts))) A) = Qc at hQ ⊢
  have hl := lv_entry ([.ref (ad 1)]) (n := 1) (Nat.le_of_ble_eq_true rfl)
  rw [lg_entry_eq]
  generalize (lg_sl ([.ref (ad 1)]) ++ List.replicate (1 - (lg_sl ([.ref (ad 1)])).length) Slot.unset).toArray = ls at hl ⊢
  have hl : lv_has ls 1 [(0, .ref (ad 1))] := hl
  refine (fun (key : ∀ (H : Heap) (locs : List Loc), va_P (dC, dI) vwCl (xW ad cI cZ lt_count lw_begin lw_end lw_depth lw_signed lw_led pr_written pr_within st_size tx_size tt_count tt_pieces tt_kinds lt_begins lt_marks st_word st_vowels tx_characters tt_begins tt_lengths tt_stemLengths tt_places tt_addresses tt_smalls tt_stems tt_slots tt_nexts) H → va_D A (xW ad cI cZ lt_count lw_begin lw_end lw_depth lw_signed lw_led pr_written pr_within st_size tx_size tt_count tt_pieces tt_kinds lt_begins lt_marks st_word st_vowels tx_characters tt_begins tt_lengths tt_stemLengths tt_places tt_addresses tt_smalls tt_stems tt_slots tt_nexts) → va_S A s.heap H locs → W p l e (headSpec wsX2_begin ({ frames := 0, cells := 0, slots := 0, locals := 0 })).room s m ([.ref (ad 1)] : List Value).toArray below meth c H locs 0 0 (MQ below Qc ([.ref (ad 1)] : List Value).toArray s 0 0 A) (F0 m 0 ls [])) => key _ _ hP hD hS) ?_
  have inX2 : ∀ w ∈ wsX20, w ∈ wsX2_begin := (fun _ h9 => List.mem_cons_of_mem _ (List.mem_append_right _ h9))
  intro H locs hP hD hS
  delta wpX2_begin at h
  refine lv_aload_n hx hb dX2_begin_0 rfl (lv_at hl 0 rfl) ?_
  refine va_get (D := (dC, dI)) (ci := 1) (v := .int lw_begin) (C := RX2) (T := TX2) (N := 6) hx hb hts inX2 hown hK hP 1 rfl rfl 1 (by decide) (hts (.fieldLink RX2 29 "MailWords$LineWalker" "begin" "I") (List.mem_of_getElem? (i := 1) rfl)) (fun _ h9 => h9) rfl dX2_begin_1 ?_
  exact W.iret (v := lw_begin) hx hb hr (fun t ht hW => hQ lw_begin () t h (by rw [ht]; exact hP) (va_K.moved hW.alike hK) hD (hS.F ht)) hS.2.2 dX2_begin_4
set_option maxHeartbeats 4000000 in
set_option maxRecDepth 100000 in
theorem sX2_end (l : Launch) (dC : Nat → ClassId) (dI : Nat → Nat → Nat) (ad : Nat → Nat) (cI cZ : ClassId) (sa sv : Nat → Nat) (lt_count : Int32) (lw_begin : Int32) (lw_end : Int32) (lw_depth : Int32) (lw_signed : Int32) (lw_led : Int32) (pr_written : Int32) (pr_within : Int32) (st_size : Int32) (tx_size : Int32) (tt_count : Int32) (tt_pieces : Int32) (tt_kinds : Int32) (lt_begins : Nat → Int32) (lt_marks : Nat → Int32) (st_word : Nat → Int32) (st_vowels : Nat → Int32) (tx_characters : Nat → Int32) (tt_begins : Nat → Int32) (tt_lengths : Nat → Int32) (tt_stemLengths : Nat → Int32) (tt_places : Nat → Int32) (tt_addresses : Nat → Int32) (tt_smalls : Nat → Int32) (tt_stems : Nat → Int32) (tt_slots : Nat → Int32) (tt_nexts : Nat → Int32)  {post : Int32 → Prop} (h : wpX2_end post lw_end) : xMi l (dC, dI) vwCl [(cI, .int), (cZ, .boolean)] (sI sa sv) yX2_end wsX2_end ({ frames := 0, cells := 0, slots := 0, locals := 0 }) (xW ad cI cZ lt_count lw_begin lw_end lw_depth lw_signed lw_led pr_written pr_within st_size tx_size tt_count tt_pieces tt_kinds lt_begins lt_marks st_word st_vowels tx_characters tt_begins tt_lengths tt_stemLengths tt_places tt_addresses tt_smalls tt_stems tt_slots tt_nexts) [.ref (ad 1)] (fun (r : Int32) (u : Unit) => post r ) (fun u : Unit => (xW ad cI cZ lt_count lw_begin lw_end lw_depth lw_signed lw_led pr_written pr_within st_size tx_size tt_count tt_pieces tt_kinds lt_begins lt_marks st_word st_vowels tx_characters tt_begins tt_lengths tt_stemLengths tt_places tt_addresses tt_smalls tt_stems tt_slots tt_nexts)) := by
  intro sz
  refine Met.ofW (cc := cX2_end) (maxL := 1) (ret := (some .int)) (by decide) rfl ?_
  intro p e s m args below meth c s₁ B hml hv
  obtain ⟨rfl, hsz, hP, hK, hD0, hI⟩ := hv
  have hx := B.exec
  have hb := B.bytes
  have hr := B.returns
  have hts := atoms_spec (ws := wsX2_end) B.pre
  have hown : s.vm.findClass RX2 = some m.cls := findClass_of_methodNamed B.named
  have hlocks := B.notSynchronized
  subst hsz
  have hD := hD0.self (sz := s.heap.size)
  generalize hAe : va_A (xW ad cI cZ lt_count lw_begin lw_end lw_depth lw_signed lw_led pr_written pr_within st_size tx_size tt_count tt_pieces tt_kinds lt_begins lt_marks st_word st_vowels tx_characters tt_begins tt_lengths tt_stemLengths tt_places tt_addresses tt_smalls tt_stems tt_slots tt_nexts) s.heap.size = A at hD hI ⊢
  have hA : ∀ q : Nat, s.heap.size ≤ q → A q := fun q h => by rw [← hAe]; exact Or.inr h
  have hS : va_S A s.heap s.heap [] := va_S.rf
  have Fx : CallFix p m c cX2_end 1 s ([.ref (ad 1)] : List Value).toArray wsX2_end RX2 := ⟨hx, hb, hml, hown, hts⟩
  have hQ : ∀ (r : Int32) (u : Unit) (t : State), (fun (r : Int32) (u : Unit) => post r ) r u → va_P (dC, dI) vwCl ((fun u : Unit => (xW ad cI cZ lt_count lw_begin lw_end lw_depth lw_signed lw_led pr_written pr_within st_size tx_size tt_count tt_pieces tt_kinds lt_begins lt_marks st_word st_vowels tx_characters tt_begins tt_lengths tt_stemLengths tt_places tt_addresses tt_smalls tt_stems tt_slots tt_nexts)) u) t.heap → va_K (dC, dI) vwCl [(cI, .int), (cZ, .boolean)] t → va_D A ((fun u : Unit => (xW ad cI cZ lt_count lw_begin lw_end lw_depth lw_signed lw_led pr_written pr_within st_size tx_size tt_count tt_pieces tt_kinds lt_begins lt_marks st_word st_vowels tx_characters tt_begins tt_lengths tt_stemLengths tt_places tt_addresses tt_smalls tt_stems tt_slots tt_nexts)) u) → va_F A s t → (va_Qi (fun (r : Int32) (u : Unit) => post r ) (xB (dC, dI) vwCl [(cI, .int), (cZ, .boolean)] A (fun u : Unit => (xW ad cI cZ lt_count lw_begin lw_end lw_depth lw_signed lw_led pr_written pr_within st_size tx_size tt_count tt_pieces tt_kinds lt_begins lt_marks st_word st_vowels tx_characters tt_begins tt_lengths tt_stemLengths tt_places tt_addresses tt_smalls tt_stems tt_slots tt_nexts))) A) ([.ref (ad 1)] : List Value).toArray s (.returned (some (.int r))) t := fun r u t h1 h2 h3 h4 h5 => ⟨⟨r, u, rfl, h1, h2, h3, h4⟩, h5⟩
  generalize (va_Qi (fun (r : Int32) (u : Unit) => post r ) (xB (dC, dI) vwCl [(cI, .int), (cZ, .boolean)] A (fun u : Unit => (xW ad cI cZ lt_count lw_begin lw_end lw_depth lw_signed lw_led pr_written pr_within st_size tx_size tt_count tt_pieces tt_kinds lt_begins lt_marks st_word st_vowels tx_characters tt_begins tt_lengths tt_stemLengths tt_places tt_addresses tt_smalls tt_stems tt_slots tt_nexts))) A) = Qc at hQ ⊢
  have hl := lv_entry ([.ref (ad 1)]) (n := 1) (Nat.le_of_ble_eq_true rfl)
  rw [lg_entry_eq]
  generalize (lg_sl ([.ref (ad 1)]) ++ List.replicate (1 - (lg_sl ([.ref (ad 1)])).length) Slot.unset).toArray = ls at hl ⊢
  have hl : lv_has ls 1 [(0, .ref (ad 1))] := hl
  refine (fun (key : ∀ (H : Heap) (locs : List Loc), va_P (dC, dI) vwCl (xW ad cI cZ lt_count lw_begin lw_end lw_depth lw_signed lw_led pr_written pr_within st_size tx_size tt_count tt_pieces tt_kinds lt_begins lt_marks st_word st_vowels tx_characters tt_begins tt_lengths tt_stemLengths tt_places tt_addresses tt_smalls tt_stems tt_slots tt_nexts) H → va_D A (xW ad cI cZ lt_count lw_begin lw_end lw_depth lw_signed lw_led pr_written pr_within st_size tx_size tt_count tt_pieces tt_kinds lt_begins lt_marks st_word st_vowels tx_characters tt_begins tt_lengths tt_stemLengths tt_places tt_addresses tt_smalls tt_stems tt_slots tt_nexts) → va_S A s.heap H locs → W p l e (headSpec wsX2_end ({ frames := 0, cells := 0, slots := 0, locals := 0 })).room s m ([.ref (ad 1)] : List Value).toArray below meth c H locs 0 0 (MQ below Qc ([.ref (ad 1)] : List Value).toArray s 0 0 A) (F0 m 0 ls [])) => key _ _ hP hD hS) ?_
  have inX2 : ∀ w ∈ wsX20, w ∈ wsX2_end := (fun _ h9 => List.mem_cons_of_mem _ (List.mem_append_right _ h9))
  intro H locs hP hD hS
  delta wpX2_end at h
  refine lv_aload_n hx hb dX2_end_0 rfl (lv_at hl 0 rfl) ?_
  refine va_get (D := (dC, dI)) (ci := 1) (v := .int lw_end) (C := RX2) (T := TX2) (N := 6) hx hb hts inX2 hown hK hP 1 rfl rfl 2 (by decide) (hts (.fieldLink RX2 15 "MailWords$LineWalker" "end" "I") (List.mem_of_getElem? (i := 1) rfl)) (fun _ h9 => h9) rfl dX2_end_1 ?_
  exact W.iret (v := lw_end) hx hb hr (fun t ht hW => hQ lw_end () t h (by rw [ht]; exact hP) (va_K.moved hW.alike hK) hD (hS.F ht)) hS.2.2 dX2_end_4
set_option maxHeartbeats 4000000 in
set_option maxRecDepth 100000 in
theorem sX2_depth (l : Launch) (dC : Nat → ClassId) (dI : Nat → Nat → Nat) (ad : Nat → Nat) (cI cZ : ClassId) (sa sv : Nat → Nat) (lt_count : Int32) (lw_begin : Int32) (lw_end : Int32) (lw_depth : Int32) (lw_signed : Int32) (lw_led : Int32) (pr_written : Int32) (pr_within : Int32) (st_size : Int32) (tx_size : Int32) (tt_count : Int32) (tt_pieces : Int32) (tt_kinds : Int32) (lt_begins : Nat → Int32) (lt_marks : Nat → Int32) (st_word : Nat → Int32) (st_vowels : Nat → Int32) (tx_characters : Nat → Int32) (tt_begins : Nat → Int32) (tt_lengths : Nat → Int32) (tt_stemLengths : Nat → Int32) (tt_places : Nat → Int32) (tt_addresses : Nat → Int32) (tt_smalls : Nat → Int32) (tt_stems : Nat → Int32) (tt_slots : Nat → Int32) (tt_nexts : Nat → Int32)  {post : Int32 → Prop} (h : wpX2_depth post lw_depth) : xMi l (dC, dI) vwCl [(cI, .int), (cZ, .boolean)] (sI sa sv) yX2_depth wsX2_depth ({ frames := 0, cells := 0, slots := 0, locals := 0 }) (xW ad cI cZ lt_count lw_begin lw_end lw_depth lw_signed lw_led pr_written pr_within st_size tx_size tt_count tt_pieces tt_kinds lt_begins lt_marks st_word st_vowels tx_characters tt_begins tt_lengths tt_stemLengths tt_places tt_addresses tt_smalls tt_stems tt_slots tt_nexts) [.ref (ad 1)] (fun (r : Int32) (u : Unit) => post r ) (fun u : Unit => (xW ad cI cZ lt_count lw_begin lw_end lw_depth lw_signed lw_led pr_written pr_within st_size tx_size tt_count tt_pieces tt_kinds lt_begins lt_marks st_word st_vowels tx_characters tt_begins tt_lengths tt_stemLengths tt_places tt_addresses tt_smalls tt_stems tt_slots tt_nexts)) := by
  intro sz
  refine Met.ofW (cc := cX2_depth) (maxL := 1) (ret := (some .int)) (by decide) rfl ?_
  intro p e s m args below meth c s₁ B hml hv
  obtain ⟨rfl, hsz, hP, hK, hD0, hI⟩ := hv
  have hx := B.exec
  have hb := B.bytes
  have hr := B.returns
  have hts := atoms_spec (ws := wsX2_depth) B.pre
  have hown : s.vm.findClass RX2 = some m.cls := findClass_of_methodNamed B.named
  have hlocks := B.notSynchronized
  subst hsz
  have hD := hD0.self (sz := s.heap.size)
  generalize hAe : va_A (xW ad cI cZ lt_count lw_begin lw_end lw_depth lw_signed lw_led pr_written pr_within st_size tx_size tt_count tt_pieces tt_kinds lt_begins lt_marks st_word st_vowels tx_characters tt_begins tt_lengths tt_stemLengths tt_places tt_addresses tt_smalls tt_stems tt_slots tt_nexts) s.heap.size = A at hD hI ⊢
  have hA : ∀ q : Nat, s.heap.size ≤ q → A q := fun q h => by rw [← hAe]; exact Or.inr h
  have hS : va_S A s.heap s.heap [] := va_S.rf
  have Fx : CallFix p m c cX2_depth 1 s ([.ref (ad 1)] : List Value).toArray wsX2_depth RX2 := ⟨hx, hb, hml, hown, hts⟩
  have hQ : ∀ (r : Int32) (u : Unit) (t : State), (fun (r : Int32) (u : Unit) => post r ) r u → va_P (dC, dI) vwCl ((fun u : Unit => (xW ad cI cZ lt_count lw_begin lw_end lw_depth lw_signed lw_led pr_written pr_within st_size tx_size tt_count tt_pieces tt_kinds lt_begins lt_marks st_word st_vowels tx_characters tt_begins tt_lengths tt_stemLengths tt_places tt_addresses tt_smalls tt_stems tt_slots tt_nexts)) u) t.heap → va_K (dC, dI) vwCl [(cI, .int), (cZ, .boolean)] t → va_D A ((fun u : Unit => (xW ad cI cZ lt_count lw_begin lw_end lw_depth lw_signed lw_led pr_written pr_within st_size tx_size tt_count tt_pieces tt_kinds lt_begins lt_marks st_word st_vowels tx_characters tt_begins tt_lengths tt_stemLengths tt_places tt_addresses tt_smalls tt_stems tt_slots tt_nexts)) u) → va_F A s t → (va_Qi (fun (r : Int32) (u : Unit) => post r ) (xB (dC, dI) vwCl [(cI, .int), (cZ, .boolean)] A (fun u : Unit => (xW ad cI cZ lt_count lw_begin lw_end lw_depth lw_signed lw_led pr_written pr_within st_size tx_size tt_count tt_pieces tt_kinds lt_begins lt_marks st_word st_vowels tx_characters tt_begins tt_lengths tt_stemLengths tt_places tt_addresses tt_smalls tt_stems tt_slots tt_nexts))) A) ([.ref (ad 1)] : List Value).toArray s (.returned (some (.int r))) t := fun r u t h1 h2 h3 h4 h5 => ⟨⟨r, u, rfl, h1, h2, h3, h4⟩, h5⟩
  generalize (va_Qi (fun (r : Int32) (u : Unit) => post r ) (xB (dC, dI) vwCl [(cI, .int), (cZ, .boolean)] A (fun u : Unit => (xW ad cI cZ lt_count lw_begin lw_end lw_depth lw_signed lw_led pr_written pr_within st_size tx_size tt_count tt_pieces tt_kinds lt_begins lt_marks st_word st_vowels tx_characters tt_begins tt_lengths tt_stemLengths tt_places tt_addresses tt_smalls tt_stems tt_slots tt_nexts))) A) = Qc at hQ ⊢
  have hl := lv_entry ([.ref (ad 1)]) (n := 1) (Nat.le_of_ble_eq_true rfl)
  rw [lg_entry_eq]
  generalize (lg_sl ([.ref (ad 1)]) ++ List.replicate (1 - (lg_sl ([.ref (ad 1)])).length) Slot.unset).toArray = ls at hl ⊢
  have hl : lv_has ls 1 [(0, .ref (ad 1))] := hl
  refine (fun (key : ∀ (H : Heap) (locs : List Loc), va_P (dC, dI) vwCl (xW ad cI cZ lt_count lw_begin lw_end lw_depth lw_signed lw_led pr_written pr_within st_size tx_size tt_count tt_pieces tt_kinds lt_begins lt_marks st_word st_vowels tx_characters tt_begins tt_lengths tt_stemLengths tt_places tt_addresses tt_smalls tt_stems tt_slots tt_nexts) H → va_D A (xW ad cI cZ lt_count lw_begin lw_end lw_depth lw_signed lw_led pr_written pr_within st_size tx_size tt_count tt_pieces tt_kinds lt_begins lt_marks st_word st_vowels tx_characters tt_begins tt_lengths tt_stemLengths tt_places tt_addresses tt_smalls tt_stems tt_slots tt_nexts) → va_S A s.heap H locs → W p l e (headSpec wsX2_depth ({ frames := 0, cells := 0, slots := 0, locals := 0 })).room s m ([.ref (ad 1)] : List Value).toArray below meth c H locs 0 0 (MQ below Qc ([.ref (ad 1)] : List Value).toArray s 0 0 A) (F0 m 0 ls [])) => key _ _ hP hD hS) ?_
  have inX2 : ∀ w ∈ wsX20, w ∈ wsX2_depth := (fun _ h9 => List.mem_cons_of_mem _ (List.mem_append_right _ h9))
  intro H locs hP hD hS
  delta wpX2_depth at h
  refine lv_aload_n hx hb dX2_depth_0 rfl (lv_at hl 0 rfl) ?_
  refine va_get (D := (dC, dI)) (ci := 1) (v := .int lw_depth) (C := RX2) (T := TX2) (N := 6) hx hb hts inX2 hown hK hP 1 rfl rfl 3 (by decide) (hts (.fieldLink RX2 39 "MailWords$LineWalker" "depth" "I") (List.mem_of_getElem? (i := 1) rfl)) (fun _ h9 => h9) rfl dX2_depth_1 ?_
  exact W.iret (v := lw_depth) hx hb hr (fun t ht hW => hQ lw_depth () t h (by rw [ht]; exact hP) (va_K.moved hW.alike hK) hD (hS.F ht)) hS.2.2 dX2_depth_4
set_option maxHeartbeats 4000000 in
set_option maxRecDepth 100000 in
theorem sX2_isSigned (l : Launch) (dC : Nat → ClassId) (dI : Nat → Nat → Nat) (ad : Nat → Nat) (cI cZ : ClassId) (sa sv : Nat → Nat) (lt_count : Int32) (lw_begin : Int32) (lw_end : Int32) (lw_depth : Int32) (lw_signed : Int32) (lw_led : Int32) (pr_written : Int32) (pr_within : Int32) (st_size : Int32) (tx_size : Int32) (tt_count : Int32) (tt_pieces : Int32) (tt_kinds : Int32) (lt_begins : Nat → Int32) (lt_marks : Nat → Int32) (st_word : Nat → Int32) (st_vowels : Nat → Int32) (tx_characters : Nat → Int32) (tt_begins : Nat → Int32) (tt_lengths : Nat → Int32) (tt_stemLengths : Nat → Int32) (tt_places : Nat → Int32) (tt_addresses : Nat → Int32) (tt_smalls : Nat → Int32) (tt_stems : Nat → Int32) (tt_slots : Nat → Int32) (tt_nexts : Nat → Int32)  {post : Int32 → Prop} (h : wpX2_isSigned post lw_signed) : xMi l (dC, dI) vwCl [(cI, .int), (cZ, .boolean)] (sI sa sv) yX2_isSigned wsX2_isSigned ({ frames := 0, cells := 0, slots := 0, locals := 0 }) (xW ad cI cZ lt_count lw_begin lw_end lw_depth lw_signed lw_led pr_written pr_within st_size tx_size tt_count tt_pieces tt_kinds lt_begins lt_marks st_word st_vowels tx_characters tt_begins tt_lengths tt_stemLengths tt_places tt_addresses tt_smalls tt_stems tt_slots tt_nexts) [.ref (ad 1)] (fun (r : Int32) (u : Unit) => post r ) (fun u : Unit => (xW ad cI cZ lt_count lw_begin lw_end lw_depth lw_signed lw_led pr_written pr_within st_size tx_size tt_count tt_pieces tt_kinds lt_begins lt_marks st_word st_vowels tx_characters tt_begins tt_lengths tt_stemLengths tt_places tt_addresses tt_smalls tt_stems tt_slots tt_nexts)) := by
  intro sz
  refine Met.ofW (cc := cX2_isSigned) (maxL := 1) (ret := (some .boolean)) (by decide) rfl ?_
  intro p e s m args below meth c s₁ B hml hv
  obtain ⟨rfl, hsz, hP, hK, hD0, hI⟩ := hv
  have hx := B.exec
  have hb := B.bytes
  have hr := B.returns
  have hts := atoms_spec (ws := wsX2_isSigned) B.pre
  have hown : s.vm.findClass RX2 = some m.cls := findClass_of_methodNamed B.named
  have hlocks := B.notSynchronized
  subst hsz
  have hD := hD0.self (sz := s.heap.size)
  generalize hAe : va_A (xW ad cI cZ lt_count lw_begin lw_end lw_depth lw_signed lw_led pr_written pr_within st_size tx_size tt_count tt_pieces tt_kinds lt_begins lt_marks st_word st_vowels tx_characters tt_begins tt_lengths tt_stemLengths tt_places tt_addresses tt_smalls tt_stems tt_slots tt_nexts) s.heap.size = A at hD hI ⊢
  have hA : ∀ q : Nat, s.heap.size ≤ q → A q := fun q h => by rw [← hAe]; exact Or.inr h
  have hS : va_S A s.heap s.heap [] := va_S.rf
  have Fx : CallFix p m c cX2_isSigned 1 s ([.ref (ad 1)] : List Value).toArray wsX2_isSigned RX2 := ⟨hx, hb, hml, hown, hts⟩
  have hQ : ∀ (r : Int32) (u : Unit) (t : State), (fun (r : Int32) (u : Unit) => post r ) r u → va_P (dC, dI) vwCl ((fun u : Unit => (xW ad cI cZ lt_count lw_begin lw_end lw_depth lw_signed lw_led pr_written pr_within st_size tx_size tt_count tt_pieces tt_kinds lt_begins lt_marks st_word st_vowels tx_characters tt_begins tt_lengths tt_stemLengths tt_places tt_addresses tt_smalls tt_stems tt_slots tt_nexts)) u) t.heap → va_K (dC, dI) vwCl [(cI, .int), (cZ, .boolean)] t → va_D A ((fun u : Unit => (xW ad cI cZ lt_count lw_begin lw_end lw_depth lw_signed lw_led pr_written pr_within st_size tx_size tt_count tt_pieces tt_kinds lt_begins lt_marks st_word st_vowels tx_characters tt_begins tt_lengths tt_stemLengths tt_places tt_addresses tt_smalls tt_stems tt_slots tt_nexts)) u) → va_F A s t → (va_Qi (fun (r : Int32) (u : Unit) => post r ) (xB (dC, dI) vwCl [(cI, .int), (cZ, .boolean)] A (fun u : Unit => (xW ad cI cZ lt_count lw_begin lw_end lw_depth lw_signed lw_led pr_written pr_within st_size tx_size tt_count tt_pieces tt_kinds lt_begins lt_marks st_word st_vowels tx_characters tt_begins tt_lengths tt_stemLengths tt_places tt_addresses tt_smalls tt_stems tt_slots tt_nexts))) A) ([.ref (ad 1)] : List Value).toArray s (.returned (some (.int r))) t := fun r u t h1 h2 h3 h4 h5 => ⟨⟨r, u, rfl, h1, h2, h3, h4⟩, h5⟩
  generalize (va_Qi (fun (r : Int32) (u : Unit) => post r ) (xB (dC, dI) vwCl [(cI, .int), (cZ, .boolean)] A (fun u : Unit => (xW ad cI cZ lt_count lw_begin lw_end lw_depth lw_signed lw_led pr_written pr_within st_size tx_size tt_count tt_pieces tt_kinds lt_begins lt_marks st_word st_vowels tx_characters tt_begins tt_lengths tt_stemLengths tt_places tt_addresses tt_smalls tt_stems tt_slots tt_nexts))) A) = Qc at hQ ⊢
  have hl := lv_entry ([.ref (ad 1)]) (n := 1) (Nat.le_of_ble_eq_true rfl)
  rw [lg_entry_eq]
  generalize (lg_sl ([.ref (ad 1)]) ++ List.replicate (1 - (lg_sl ([.ref (ad 1)])).length) Slot.unset).toArray = ls at hl ⊢
  have hl : lv_has ls 1 [(0, .ref (ad 1))] := hl
  refine (fun (key : ∀ (H : Heap) (locs : List Loc), va_P (dC, dI) vwCl (xW ad cI cZ lt_count lw_begin lw_end lw_depth lw_signed lw_led pr_written pr_within st_size tx_size tt_count tt_pieces tt_kinds lt_begins lt_marks st_word st_vowels tx_characters tt_begins tt_lengths tt_stemLengths tt_places tt_addresses tt_smalls tt_stems tt_slots tt_nexts) H → va_D A (xW ad cI cZ lt_count lw_begin lw_end lw_depth lw_signed lw_led pr_written pr_within st_size tx_size tt_count tt_pieces tt_kinds lt_begins lt_marks st_word st_vowels tx_characters tt_begins tt_lengths tt_stemLengths tt_places tt_addresses tt_smalls tt_stems tt_slots tt_nexts) → va_S A s.heap H locs → W p l e (headSpec wsX2_isSigned ({ frames := 0, cells := 0, slots := 0, locals := 0 })).room s m ([.ref (ad 1)] : List Value).toArray below meth c H locs 0 0 (MQ below Qc ([.ref (ad 1)] : List Value).toArray s 0 0 A) (F0 m 0 ls [])) => key _ _ hP hD hS) ?_
  have inX2 : ∀ w ∈ wsX20, w ∈ wsX2_isSigned := (fun _ h9 => List.mem_cons_of_mem _ (List.mem_append_right _ h9))
  intro H locs hP hD hS
  delta wpX2_isSigned at h
  refine lv_aload_n hx hb dX2_isSigned_0 rfl (lv_at hl 0 rfl) ?_
  refine va_get (D := (dC, dI)) (ci := 1) (v := .int lw_signed) (C := RX2) (T := TX2) (N := 6) hx hb hts inX2 hown hK hP 1 rfl rfl 4 (by decide) (hts (.fieldLink RX2 19 "MailWords$LineWalker" "signed" "Z") (List.mem_of_getElem? (i := 1) rfl)) (fun _ h9 => h9) rfl dX2_isSigned_1 ?_
  have hb9 := h.1
  have h := h.2
  exact W.zret (v := lw_signed) hx hb hr (bN_nar hb9) (fun t ht hW => hQ lw_signed () t h (by rw [ht]; exact hP) (va_K.moved hW.alike hK) hD (hS.F ht)) hS.2.2 dX2_isSigned_4
set_option maxHeartbeats 4000000 in
set_option maxRecDepth 100000 in
theorem sX2_isLed (l : Launch) (dC : Nat → ClassId) (dI : Nat → Nat → Nat) (ad : Nat → Nat) (cI cZ : ClassId) (sa sv : Nat → Nat) (lt_count : Int32) (lw_begin : Int32) (lw_end : Int32) (lw_depth : Int32) (lw_signed : Int32) (lw_led : Int32) (pr_written : Int32) (pr_within : Int32) (st_size : Int32) (tx_size : Int32) (tt_count : Int32) (tt_pieces : Int32) (tt_kinds : Int32) (lt_begins : Nat → Int32) (lt_marks : Nat → Int32) (st_word : Nat → Int32) (st_vowels : Nat → Int32) (tx_characters : Nat → Int32) (tt_begins : Nat → Int32) (tt_lengths : Nat → Int32) (tt_stemLengths : Nat → Int32) (tt_places : Nat → Int32) (tt_addresses : Nat → Int32) (tt_smalls : Nat → Int32) (tt_stems : Nat → Int32) (tt_slots : Nat → Int32) (tt_nexts : Nat → Int32)  {post : Int32 → Prop} (h : wpX2_isLed post lw_led) : xMi l (dC, dI) vwCl [(cI, .int), (cZ, .boolean)] (sI sa sv) yX2_isLed wsX2_isLed ({ frames := 0, cells := 0, slots := 0, locals := 0 }) (xW ad cI cZ lt_count lw_begin lw_end lw_depth lw_signed lw_led pr_written pr_within st_size tx_size tt_count tt_pieces tt_kinds lt_begins lt_marks st_word st_vowels tx_characters tt_begins tt_lengths tt_stemLengths tt_places tt_addresses tt_smalls tt_stems tt_slots tt_nexts) [.ref (ad 1)] (fun (r : Int32) (u : Unit) => post r ) (fun u : Unit => (xW ad cI cZ lt_count lw_begin lw_end lw_depth lw_signed lw_led pr_written pr_within st_size tx_size tt_count tt_pieces tt_kinds lt_begins lt_marks st_word st_vowels tx_characters tt_begins tt_lengths tt_stemLengths tt_places tt_addresses tt_smalls tt_stems tt_slots tt_nexts)) := by
  intro sz
  refine Met.ofW (cc := cX2_isLed) (maxL := 1) (ret := (some .boolean)) (by decide) rfl ?_
  intro p e s m args below meth c s₁ B hml hv
  obtain ⟨rfl, hsz, hP, hK, hD0, hI⟩ := hv
  have hx := B.exec
  have hb := B.bytes
  have hr := B.returns
  have hts := atoms_spec (ws := wsX2_isLed) B.pre
  have hown : s.vm.findClass RX2 = some m.cls := findClass_of_methodNamed B.named
  have hlocks := B.notSynchronized
  subst hsz
  have hD := hD0.self (sz := s.heap.size)
  generalize hAe : va_A (xW ad cI cZ lt_count lw_begin lw_end lw_depth lw_signed lw_led pr_written pr_within st_size tx_size tt_count tt_pieces tt_kinds lt_begins lt_marks st_word st_vowels tx_characters tt_begins tt_lengths tt_stemLengths tt_places tt_addresses tt_smalls tt_stems tt_slots tt_nexts) s.heap.size = A at hD hI ⊢
  have hA : ∀ q : Nat, s.heap.size ≤ q → A q := fun q h => by rw [← hAe]; exact Or.inr h
  have hS : va_S A s.heap s.heap [] := va_S.rf
  have Fx : CallFix p m c cX2_isLed 1 s ([.ref (ad 1)] : List Value).toArray wsX2_isLed RX2 := ⟨hx, hb, hml, hown, hts⟩
  have hQ : ∀ (r : Int32) (u : Unit) (t : State), (fun (r : Int32) (u : Unit) => post r ) r u → va_P (dC, dI) vwCl ((fun u : Unit => (xW ad cI cZ lt_count lw_begin lw_end lw_depth lw_signed lw_led pr_written pr_within st_size tx_size tt_count tt_pieces tt_kinds lt_begins lt_marks st_word st_vowels tx_characters tt_begins tt_lengths tt_stemLengths tt_places tt_addresses tt_smalls tt_stems tt_slots tt_nexts)) u) t.heap → va_K (dC, dI) vwCl [(cI, .int), (cZ, .boolean)] t → va_D A ((fun u : Unit => (xW ad cI cZ lt_count lw_begin lw_end lw_depth lw_signed lw_led pr_written pr_within st_size tx_size tt_count tt_pieces tt_kinds lt_begins lt_marks st_word st_vowels tx_characters tt_begins tt_lengths tt_stemLengths tt_places tt_addresses tt_smalls tt_stems tt_slots tt_nexts)) u) → va_F A s t → (va_Qi (fun (r : Int32) (u : Unit) => post r ) (xB (dC, dI) vwCl [(cI, .int), (cZ, .boolean)] A (fun u : Unit => (xW ad cI cZ lt_count lw_begin lw_end lw_depth lw_signed lw_led pr_written pr_within st_size tx_size tt_count tt_pieces tt_kinds lt_begins lt_marks st_word st_vowels tx_characters tt_begins tt_lengths tt_stemLengths tt_places tt_addresses tt_smalls tt_stems tt_slots tt_nexts))) A) ([.ref (ad 1)] : List Value).toArray s (.returned (some (.int r))) t := fun r u t h1 h2 h3 h4 h5 => ⟨⟨r, u, rfl, h1, h2, h3, h4⟩, h5⟩
  generalize (va_Qi (fun (r : Int32) (u : Unit) => post r ) (xB (dC, dI) vwCl [(cI, .int), (cZ, .boolean)] A (fun u : Unit => (xW ad cI cZ lt_count lw_begin lw_end lw_depth lw_signed lw_led pr_written pr_within st_size tx_size tt_count tt_pieces tt_kinds lt_begins lt_marks st_word st_vowels tx_characters tt_begins tt_lengths tt_stemLengths tt_places tt_addresses tt_smalls tt_stems tt_slots tt_nexts))) A) = Qc at hQ ⊢
  have hl := lv_entry ([.ref (ad 1)]) (n := 1) (Nat.le_of_ble_eq_true rfl)
  rw [lg_entry_eq]
  generalize (lg_sl ([.ref (ad 1)]) ++ List.replicate (1 - (lg_sl ([.ref (ad 1)])).length) Slot.unset).toArray = ls at hl ⊢
  have hl : lv_has ls 1 [(0, .ref (ad 1))] := hl
  refine (fun (key : ∀ (H : Heap) (locs : List Loc), va_P (dC, dI) vwCl (xW ad cI cZ lt_count lw_begin lw_end lw_depth lw_signed lw_led pr_written pr_within st_size tx_size tt_count tt_pieces tt_kinds lt_begins lt_marks st_word st_vowels tx_characters tt_begins tt_lengths tt_stemLengths tt_places tt_addresses tt_smalls tt_stems tt_slots tt_nexts) H → va_D A (xW ad cI cZ lt_count lw_begin lw_end lw_depth lw_signed lw_led pr_written pr_within st_size tx_size tt_count tt_pieces tt_kinds lt_begins lt_marks st_word st_vowels tx_characters tt_begins tt_lengths tt_stemLengths tt_places tt_addresses tt_smalls tt_stems tt_slots tt_nexts) → va_S A s.heap H locs → W p l e (headSpec wsX2_isLed ({ frames := 0, cells := 0, slots := 0, locals := 0 })).room s m ([.ref (ad 1)] : List Value).toArray below meth c H locs 0 0 (MQ below Qc ([.ref (ad 1)] : List Value).toArray s 0 0 A) (F0 m 0 ls [])) => key _ _ hP hD hS) ?_
  have inX2 : ∀ w ∈ wsX20, w ∈ wsX2_isLed := (fun _ h9 => List.mem_cons_of_mem _ (List.mem_append_right _ h9))
  intro H locs hP hD hS
  delta wpX2_isLed at h
  refine lv_aload_n hx hb dX2_isLed_0 rfl (lv_at hl 0 rfl) ?_
  refine va_get (D := (dC, dI)) (ci := 1) (v := .int lw_led) (C := RX2) (T := TX2) (N := 6) hx hb hts inX2 hown hK hP 1 rfl rfl 5 (by decide) (hts (.fieldLink RX2 49 "MailWords$LineWalker" "led" "Z") (List.mem_of_getElem? (i := 1) rfl)) (fun _ h9 => h9) rfl dX2_isLed_1 ?_
  have hb9 := h.1
  have h := h.2
  exact W.zret (v := lw_led) hx hb hr (bN_nar hb9) (fun t ht hW => hQ lw_led () t h (by rw [ht]; exact hP) (va_K.moved hW.alike hK) hD (hS.F ht)) hS.2.2 dX2_isLed_4
