/-! PURE 49: what the two have in common between two calls -/
def invT (ts : Int32) (tx : Nat → Int32) (ms : Int32) (mt : Nat → Int32) : Prop := ∃ n, n ≤ 1500 ∧ ts = nI n ∧ ms = nI n ∧ agr tx mt n
def invL (lc : Int32) (lb lm : Nat → Int32) (ml : Int32) (mo : Nat → Int32) : Prop := ∃ t n L, n ≤ 1500 ∧ cntL t n L ∧ lc = nI L ∧ ml = nI L ∧ tabX t n L lb lm ∧ toldM t n L mo
def invD (tc tk : Int32) (cb cl sl cp ca sm ts : Nat → Int32) (mk : Int32) (pl bg tl ms ad le st : Nat → Int32) : Prop := ∃ D, genD D ∧ baseX D cb cl cp ca sm ∧ stX D D.length sl ts ∧ tc = nI D.length ∧ tk = nI (firsts D D.length).length ∧ mk = nI D.length ∧ tokM D pl bg tl ms ad le st
theorem kx_cut {post : Int32 → Int32 → Int32 → Int32 → Int32 → Int32 → Int32 → Int32 → Int32 → Int32 → (Nat → Int32) → (Nat → Int32) → (Nat → Int32) → (Nat → Int32) → (Nat → Int32) → (Nat → Int32) → (Nat → Int32) → (Nat → Int32) → (Nat → Int32) → (Nat → Int32) → (Nat → Int32) → Prop} {t sm cb cl cp ca sl ts so nx wo vo : Nat → Int32} {n L : Nat} (pl : Bool) {wb we wd ws wl c0 p0 z kd : Int32} (hn : n ≤ 1500) (hc : cntL t n L)
    (H : ∀ (D : List (Nat × Nat × Bool × List Int32 × List Int32)) (wb we wd ws wl z pc : Int32) (wo vo cb cl sl cp ca sm ts so nx : Nat → Int32), D = (linesS t n pl L).1.map (ent t) → genD D → baseX D cb cl cp ca sm → stX D D.length sl ts → post (nI D.length) wb we wd ws wl z (nI D.length) pc (nI (firsts D D.length).length) wo vo cb cl sl cp ca sm ts so nx) : wpX7_cut post wb we wd ws wl z (nI n) c0 p0 kd wo vo t cb cl sl cp ca sm ts so nx (b2i pl) := by
  refine kx_fill hn hc (fun wb we wd ws wl cb cl cp ca sm hT hs => ?_)
  have hl : ((linesS t n pl L).1.map (ent t)).length = (linesS t n pl L).1.length := List.length_map _
  have hG : genD ((linesS t n pl L).1.map (ent t)) := genD_of (lines_900 hn hc) (srt_lines hn hc L (Nat.le_refl _))
  have hB := base_of (t := t) hT hs (bnd_lines hc L (Nat.le_refl _))
  rw [← hl]
  exact kx_findStems hG hB (fun z wo vo sl ts so nx hS => H _ wb we wd ws wl z _ wo vo cb cl sl cp ca sm ts so nx rfl hG hB hS)
theorem km_cutD {post : Int32 → Int32 → Int32 → Int32 → Int32 → Int32 → (Nat → Int32) → (Nat → Int32) → (Nat → Int32) → (Nat → Int32) → (Nat → Int32) → (Nat → Int32) → (Nat → Int32) → (Nat → Int32) → (Nat → Int32) → (Nat → Int32) → (Nat → Int32) → (Nat → Int32) → (Nat → Int32) → Prop} {t u la lg dp sg ld pl bg tl sl ad le st s : Nat → Int32} {n L : Nat} (pb : Bool) {th ln tk pc en : Int32} (hn : n ≤ 1500) (hc : cntL t n L) (hA : agr t u n)
    (H : ∀ (en ln pc : Int32) (la lg dp sg ld pl bg tl sl ad le st s : Nat → Int32), tokM ((linesS t n pb L).1.map (ent t)) pl bg tl sl ad le st → post (nI ((linesS t n pb L).1.map (ent t)).length) 0 ln (nI ((linesS t n pb L).1.map (ent t)).length) pc en la lg dp sg ld pl bg tl sl ad le st s) : wpX8_cut post th (nI n) ln tk pc en u la lg dp sg ld pl bg tl sl ad le st s (b2i pb) := by
  have hl : ((linesS t n pb L).1.map (ent t)).length = (linesS t n pb L).1.length := List.length_map _
  rw [hl] at H
  refine km_cut hn (cntL_c hA hc) (fun en la lg dp sg ld pl bg tl sl ad le st s _ hT => ?_)
  rw [linesS_c hA hc L (Nat.le_refl _)] at hT ⊢
  rw [map_c hA (bnd_lines hc L (Nat.le_refl _))] at hT
  exact H en _ _ la lg dp sg ld pl bg tl sl ad le st s hT
theorem ansAt_c {t u : Nat → Int32} {n : Nat} (h : agr t u n) (x : Int32) : ansAt u n x = ansAt t n x := by
  rw [ansAt, ansAt]
  split
  · rfl
  · rename_i q
    have e1 : x.toNatClampNeg = x.toInt.toNat := rfl
    exact h _ (by omega)
theorem law_all (xs : Nat → Int32) (L : Nat) (hL : L ≤ 3072) : ∀ (f k : Nat) (lt_count : Int32) (lw_begin : Int32) (lw_end : Int32) (lw_depth : Int32) (lw_signed : Int32) (lw_led : Int32) (pr_written : Int32) (pr_within : Int32) (st_size : Int32) (tx_size : Int32) (tt_count : Int32) (tt_pieces : Int32) (tt_kinds : Int32) (lt_begins : Nat → Int32) (lt_marks : Nat → Int32) (st_word : Nat → Int32) (st_vowels : Nat → Int32) (tx_characters : Nat → Int32) (tt_begins : Nat → Int32) (tt_lengths : Nat → Int32) (tt_stemLengths : Nat → Int32) (tt_places : Nat → Int32) (tt_addresses : Nat → Int32) (tt_smalls : Nat → Int32) (tt_stems : Nat → Int32) (tt_slots : Nat → Int32) (tt_nexts : Nat → Int32) (m_thrown : Int32) (m_size : Int32) (m_outLong : Int32) (m_lines : Int32) (m_toldLines : Int32) (m_tokens : Int32) (m_places : Int32) (m_p : Int32) (m_pre : Int32) (m_end : Int32) (m_text : Nat → Int32) (m_out : Nat → Int32) (m_lineAt : Nat → Int32) (m_lineLong : Nat → Int32) (m_depth : Nat → Int32) (m_signed : Nat → Int32) (m_led : Nat → Int32) (m_told : Nat → Int32) (m_place : Nat → Int32) (m_begin : Nat → Int32) (m_tokenLong : Nat → Int32) (m_stemLong : Nat → Int32) (m_address : Nat → Int32) (m_letters : Nat → Int32) (m_stems : Nat → Int32) (m_s : Nat → Int32), L - k ≤ f → k ≤ L + 6 → invT tx_size tx_characters m_size m_text → invL lt_count lt_begins lt_marks m_toldLines m_told → invD tt_count tt_kinds tt_begins tt_lengths tt_stemLengths tt_places tt_addresses tt_smalls tt_stems m_tokens m_place m_begin m_tokenLong m_stemLong m_address m_letters m_stems → wlLaw xs L (f + 1) (nI k) lt_count lw_begin lw_end lw_depth lw_signed lw_led pr_written pr_within st_size tx_size tt_count tt_pieces tt_kinds lt_begins lt_marks st_word st_vowels tx_characters tt_begins tt_lengths tt_stemLengths tt_places tt_addresses tt_smalls tt_stems tt_slots tt_nexts m_thrown m_size m_outLong m_lines m_toldLines m_tokens m_places m_p m_pre m_end m_text m_out m_lineAt m_lineLong m_depth m_signed m_led m_told m_place m_begin m_tokenLong m_stemLong m_address m_letters m_stems m_s := by
  intro f
  have hlt : ∀ k : Nat, k ≤ L + 6 → (((Int32.ofNat L) - 6 < nI k) ↔ (L : Int) - 6 < k) := by
    intro k hk
    rw [i_lt, nI_toInt (by omega)]
    show (nI L - nI 6).toInt < (k : Int) ↔ _
    rw [pk_sub_toInt (by omega) (by decide)]
    rfl
  induction f with
  | zero =>
    intro k lt_count lw_begin lw_end lw_depth lw_signed lw_led pr_written pr_within st_size tx_size tt_count tt_pieces tt_kinds lt_begins lt_marks st_word st_vowels tx_characters tt_begins tt_lengths tt_stemLengths tt_places tt_addresses tt_smalls tt_stems tt_slots tt_nexts m_thrown m_size m_outLong m_lines m_toldLines m_tokens m_places m_p m_pre m_end m_text m_out m_lineAt m_lineLong m_depth m_signed m_led m_told m_place m_begin m_tokenLong m_stemLong m_address m_letters m_stems m_s hf hk hT hI hD
    exact ⟨fun _ => trivial, fun q => absurd ((hlt k hk).mpr (by omega)) q⟩
  | succ f ih =>
    intro k lt_count lw_begin lw_end lw_depth lw_signed lw_led pr_written pr_within st_size tx_size tt_count tt_pieces tt_kinds lt_begins lt_marks st_word st_vowels tx_characters tt_begins tt_lengths tt_stemLengths tt_places tt_addresses tt_smalls tt_stems tt_slots tt_nexts m_thrown m_size m_outLong m_lines m_toldLines m_tokens m_places m_p m_pre m_end m_text m_out m_lineAt m_lineLong m_depth m_signed m_led m_told m_place m_begin m_tokenLong m_stemLong m_address m_letters m_stems m_s hf hk hT hI hD
    refine ⟨fun _ => trivial, fun q => ?_⟩
    rw [hlt k hk] at q
    have v0 : vp_in (nI k) L := vp_in_nI (by omega) (by omega)
    have v1 : vp_in (nI k + 1) L := by rw [nI_1]; exact vp_in_nI (by omega) (by omega)
    have v2 : vp_in (nI k + 2) L := by rw [nI_2]; exact vp_in_nI (by omega) (by omega)
    have v3 : vp_in (nI k + 3) L := by rw [nI_3]; exact vp_in_nI (by omega) (by omega)
    have v4 : vp_in (nI k + 4) L := by rw [nI_4]; exact vp_in_nI (by omega) (by omega)
    have v5 : vp_in (nI k + 5) L := by rw [show nI k + 5 = nI (k + 5) from nI_add k 5]; exact vp_in_nI (by omega) (by omega)
    have nx : ∀ (lt_count : Int32) (lw_begin : Int32) (lw_end : Int32) (lw_depth : Int32) (lw_signed : Int32) (lw_led : Int32) (pr_written : Int32) (pr_within : Int32) (st_size : Int32) (tx_size : Int32) (tt_count : Int32) (tt_pieces : Int32) (tt_kinds : Int32) (lt_begins : Nat → Int32) (lt_marks : Nat → Int32) (st_word : Nat → Int32) (st_vowels : Nat → Int32) (tx_characters : Nat → Int32) (tt_begins : Nat → Int32) (tt_lengths : Nat → Int32) (tt_stemLengths : Nat → Int32) (tt_places : Nat → Int32) (tt_addresses : Nat → Int32) (tt_smalls : Nat → Int32) (tt_stems : Nat → Int32) (tt_slots : Nat → Int32) (tt_nexts : Nat → Int32) (m_thrown : Int32) (m_size : Int32) (m_outLong : Int32) (m_lines : Int32) (m_toldLines : Int32) (m_tokens : Int32) (m_places : Int32) (m_p : Int32) (m_pre : Int32) (m_end : Int32) (m_text : Nat → Int32) (m_out : Nat → Int32) (m_lineAt : Nat → Int32) (m_lineLong : Nat → Int32) (m_depth : Nat → Int32) (m_signed : Nat → Int32) (m_led : Nat → Int32) (m_told : Nat → Int32) (m_place : Nat → Int32) (m_begin : Nat → Int32) (m_tokenLong : Nat → Int32) (m_stemLong : Nat → Int32) (m_address : Nat → Int32) (m_letters : Nat → Int32) (m_stems : Nat → Int32) (m_s : Nat → Int32), invT tx_size tx_characters m_size m_text → invL lt_count lt_begins lt_marks m_toldLines m_told → invD tt_count tt_kinds tt_begins tt_lengths tt_stemLengths tt_places tt_addresses tt_smalls tt_stems m_tokens m_place m_begin m_tokenLong m_stemLong m_address m_letters m_stems → ∀ y : Int32, y = nI k + 6 → wlLaw xs L (f + 1) y lt_count lw_begin lw_end lw_depth lw_signed lw_led pr_written pr_within st_size tx_size tt_count tt_pieces tt_kinds lt_begins lt_marks st_word st_vowels tx_characters tt_begins tt_lengths tt_stemLengths tt_places tt_addresses tt_smalls tt_stems tt_slots tt_nexts m_thrown m_size m_outLong m_lines m_toldLines m_tokens m_places m_p m_pre m_end m_text m_out m_lineAt m_lineLong m_depth m_signed m_led m_told m_place m_begin m_tokenLong m_stemLong m_address m_letters m_stems m_s := by
      intro lt_count lw_begin lw_end lw_depth lw_signed lw_led pr_written pr_within st_size tx_size tt_count tt_pieces tt_kinds lt_begins lt_marks st_word st_vowels tx_characters tt_begins tt_lengths tt_stemLengths tt_places tt_addresses tt_smalls tt_stems tt_slots tt_nexts m_thrown m_size m_outLong m_lines m_toldLines m_tokens m_places m_p m_pre m_end m_text m_out m_lineAt m_lineLong m_depth m_signed m_led m_told m_place m_begin m_tokenLong m_stemLong m_address m_letters m_stems m_s hT hI hD y ey
      rw [ey, show nI k + 6 = nI (k + 6) from nI_add k 6]
      exact ih (k + 6) _ _ _ _ _ _ _ _ _ _ _ _ _ _ _ _ _ _ _ _ _ _ _ _ _ _ _ _ _ _ _ _ _ _ _ _ _ _ _ _ _ _ _ _ _ _ _ _ _ _ _ _ _ (by omega) (by omega) hT hI hD
    have hT0 := hT
    have hI0 := hI
    have hD0 := hD
    obtain ⟨n, hn, rfl, rfl, hA⟩ := hT
    obtain ⟨t0, n0, L0, hn0, hc0, rfl, rfl, hX0, hM0⟩ := hI
    obtain ⟨D, hG, hB, hS, rfl, rfl, rfl, hK⟩ := hD
    clear ih
    refine ⟨v0, fun sw esw => ⟨fun c => ?_, fun c => ?_, fun c => ?_, fun c => ?_, fun c => ?_, fun c => ?_, fun c => ?_, fun c => ?_, fun c => ?_, fun c => ?_, fun c => ?_, fun _ _ _ _ _ _ _ _ _ _ _ => nx _ _ _ _ _ _ _ _ _ _ _ _ _ _ _ _ _ _ _ _ _ _ _ _ _ _ _ _ _ _ _ _ _ _ _ _ _ _ _ _ _ _ _ _ _ _ _ _ _ _ _ _ _ hT0 hI0 hD0⟩⟩
    · refine ⟨v1, v2, v3, v4, v5, kx_put hn (fun b => ⟨v1, v2, v3, v4, v5, km_put hn (fun _ => ⟨fun _ => nx _ _ _ _ _ _ _ _ _ _ _ _ _ _ _ _ _ _ _ _ _ _ _ _ _ _ _ _ _ _ _ _ _ _ _ _ _ _ _ _ _ _ _ _ _ _ _ _ _ _ _ _ _ hT0 hI0 hD0, fun q => absurd rfl q⟩) (fun m t' e1 e2 _ => ?_)⟩) (fun m t' e1 e2 p1 => ⟨v1, v2, v3, v4, v5, km_put hn (fun b => ?_) (fun m2 t2 e3 e4 p2 => ?_)⟩)⟩
      · exfalso
        rw [e1] at b
        rcases b with b | b
        · exact absurd b (nI_pos (by omega))
        · exact b (nI_le (b := 8) e2 (by decide))
      · exfalso
        rw [e1] at b
        rcases b with b | b
        · exact absurd b (nI_pos (by omega))
        · exact b (nI_le (b := 8) e2 (by decide))
      · have em : m2 = m := by
          rw [e1] at e3
          exact ((nI_eq (by omega) (by omega)).mp e3).symm
        subst em
        refine ⟨fun _ => nx _ _ _ _ _ _ _ _ _ _ _ _ _ _ _ _ _ _ _ _ _ _ _ _ _ _ _ _ _ _ _ _ _ _ _ _ _ _ _ _ _ _ _ _ _ _ _ _ _ _ _ _ _ ⟨min (n + m2) 1500, by omega, rfl, rfl, fun j hj => ?_⟩ hI0 hD0, fun q => absurd rfl q⟩
        rcases Nat.lt_or_ge j n with u | u
        · rw [p1.1 j u, p2.1 j u]; exact hA j u
        · rw [p1.2 j u hj, p2.2 j u hj]
    · exact kx_clear hn (nx _ _ _ _ _ _ _ _ _ _ _ _ _ _ _ _ _ _ _ _ _ _ _ _ _ _ _ _ _ _ _ _ _ _ _ _ _ _ _ _ _ _ _ _ _ _ _ _ _ _ _ _ _ ⟨0, by omega, rfl, rfl, fun j hj => absurd hj (Nat.not_lt_zero _)⟩ hI0 hD0)
    · exact kx_page hn (fun pw pi t' h1 h2 => km_page (t := tx_characters) hn hA (fun p pre t2 out h3 h4 => ⟨fun _ => nx _ _ _ _ _ _ _ _ _ _ _ _ _ _ _ _ _ _ _ _ _ _ _ _ _ _ _ _ _ _ _ _ _ _ _ _ _ _ _ _ _ _ _ _ _ _ _ _ _ _ _ _ _ ⟨(pageF (gF tx_characters n) n).length, by omega, rfl, rfl, fun j hj => (h3 j hj).trans (h1 j hj).symm⟩ hI0 hD0, fun q => absurd rfl q⟩))
    · refine ⟨v1, kx_atx hn ⟨v1, km_atx hn ?_⟩⟩
      rw [ansAt_c hA]
      exact ⟨fun _ => nx _ _ _ _ _ _ _ _ _ _ _ _ _ _ _ _ _ _ _ _ _ _ _ _ _ _ _ _ _ _ _ _ _ _ _ _ _ _ _ _ _ _ _ _ _ _ _ _ _ _ _ _ _ hT0 hI0 hD0, fun q => absurd rfl q⟩
    · obtain ⟨L1, hc1⟩ := cntL_ex tx_characters n
      exact kx_look hn hc1 (fun wb we wd ws wl b m hX => km_lines hn (cntL_c hA hc1) (fun a lg d s led told ht => ⟨fun _ => nx _ _ _ _ _ _ _ _ _ _ _ _ _ _ _ _ _ _ _ _ _ _ _ _ _ _ _ _ _ _ _ _ _ _ _ _ _ _ _ _ _ _ _ _ _ _ _ _ _ _ _ _ _ hT0 ⟨tx_characters, n, L1, hn, hc1, rfl, rfl, hX, toldM_c hA hc1 ht⟩ hD0, fun q => absurd rfl q⟩))
    · exact ⟨v1, v2, kx_line hn0 hc0 hX0 ⟨v1, v2, km_line hn0 hc0 hM0 ⟨fun _ => nx _ _ _ _ _ _ _ _ _ _ _ _ _ _ _ _ _ _ _ _ _ _ _ _ _ _ _ _ _ _ _ _ _ _ _ _ _ _ _ _ _ _ _ _ _ _ _ _ _ _ _ _ _ hT0 hI0 hD0, fun q => absurd rfl q⟩⟩⟩
    · obtain ⟨L1, hc1⟩ := cntL_ex tx_characters n
      refine ⟨v1, fun b => kx_cut false hn hc1 (fun D' wb we wd ws wl z pc wo vo cb cl sl cp ca sm ts so nx2 eD hG' hB' hS' => ⟨v1, fun _ => ?_, fun b2 => absurd b b2⟩), fun b => kx_cut true hn hc1 (fun D' wb we wd ws wl z pc wo vo cb cl sl cp ca sm ts so nx2 eD hG' hB' hS' => ⟨v1, fun b2 => absurd b2 b, fun _ => ?_⟩)⟩
      · refine km_cutD false hn hc1 hA (fun en ln pc la lg dp sg ld pl bg tl msl ad le st s hK' => ?_)
        rw [← eD] at hK' ⊢
        exact ⟨fun _ => nx _ _ _ _ _ _ _ _ _ _ _ _ _ _ _ _ _ _ _ _ _ _ _ _ _ _ _ _ _ _ _ _ _ _ _ _ _ _ _ _ _ _ _ _ _ _ _ _ _ _ _ _ _ hT0 hI0 ⟨D', hG', hB', hS', rfl, rfl, rfl, hK'⟩, fun q => absurd rfl q⟩
      · refine km_cutD true hn hc1 hA (fun en ln pc la lg dp sg ld pl bg tl msl ad le st s hK' => ?_)
        rw [← eD] at hK' ⊢
        exact ⟨fun _ => nx _ _ _ _ _ _ _ _ _ _ _ _ _ _ _ _ _ _ _ _ _ _ _ _ _ _ _ _ _ _ _ _ _ _ _ _ _ _ _ _ _ _ _ _ _ _ _ _ _ _ _ _ _ hT0 hI0 ⟨D', hG', hB', hS', rfl, rfl, rfl, hK'⟩, fun q => absurd rfl q⟩
    · exact ⟨v1, v2, kx_token hG hB hS ⟨v1, v2, km_token hG hK ⟨fun _ => nx _ _ _ _ _ _ _ _ _ _ _ _ _ _ _ _ _ _ _ _ _ _ _ _ _ _ _ _ _ _ _ _ _ _ _ _ _ _ _ _ _ _ _ _ _ _ _ _ _ _ _ _ _ hT0 hI0 hD0, fun q => absurd rfl q⟩⟩⟩
    · refine ⟨v1, v2, fun b => ⟨v3, kx_letter hG hB hS ⟨v1, v2, fun _ => ⟨v3, km_letter hG hK ⟨fun _ => nx _ _ _ _ _ _ _ _ _ _ _ _ _ _ _ _ _ _ _ _ _ _ _ _ _ _ _ _ _ _ _ _ _ _ _ _ _ _ _ _ _ _ _ _ _ _ _ _ _ _ _ _ _ hT0 hI0 hD0, fun q => absurd rfl q⟩⟩, fun b2 => absurd b b2⟩⟩, fun b => ⟨v3, kx_letter hG hB hS ⟨v1, v2, fun b2 => absurd b2 b, fun _ => ⟨v3, km_letter hG hK ⟨fun _ => nx _ _ _ _ _ _ _ _ _ _ _ _ _ _ _ _ _ _ _ _ _ _ _ _ _ _ _ _ _ _ _ _ _ _ _ _ _ _ _ _ _ _ _ _ _ _ _ _ _ _ _ _ _ hT0 hI0 hD0, fun q => absurd rfl q⟩⟩⟩⟩⟩
    · exact km_different (th := m_thrown) hG hK ⟨fun _ => nx _ _ _ _ _ _ _ _ _ _ _ _ _ _ _ _ _ _ _ _ _ _ _ _ _ _ _ _ _ _ _ _ _ _ _ _ _ _ _ _ _ _ _ _ _ _ _ _ _ _ _ _ _ hT0 hI0 hD0, fun q => absurd rfl q⟩
    · exact ⟨v1, kx_often hG hB hS ⟨v1, km_often hG hK ⟨fun _ => nx _ _ _ _ _ _ _ _ _ _ _ _ _ _ _ _ _ _ _ _ _ _ _ _ _ _ _ _ _ _ _ _ _ _ _ _ _ _ _ _ _ _ _ _ _ _ _ _ _ _ _ _ _ hT0 hI0 hD0, fun q => absurd rfl q⟩⟩⟩
theorem whole_inv (xs : Nat → Int32) (L : Nat) (hL : L ≤ 3072) : ∃ n, wlLaw xs L n 0 0 0 0 0 0 0 0 0 0 0 0 0 0 (fun _ => 0) (fun _ => 0) (fun _ => 0) (fun _ => 0) (fun _ => 0) (fun _ => 0) (fun _ => 0) (fun _ => 0) (fun _ => 0) (fun _ => 0) (fun _ => 0) (fun _ => 0) (fun _ => 0) (fun _ => 0) 0 0 0 0 0 0 0 0 0 0 (fun _ => 0) (fun _ => 0) (fun _ => 0) (fun _ => 0) (fun _ => 0) (fun _ => 0) (fun _ => 0) (fun _ => 0) (fun _ => 0) (fun _ => 0) (fun _ => 0) (fun _ => 0) (fun _ => 0) (fun _ => 0) (fun _ => 0) (fun _ => 0) :=
  ⟨L + 1, law_all xs L hL L 0 _ _ _ _ _ _ _ _ _ _ _ _ _ _ _ _ _ _ _ _ _ _ _ _ _ _ _ _ _ _ _ _ _ _ _ _ _ _ _ _ _ _ _ _ _ _ _ _ _ _ _ _ _ (by omega) (by omega) ⟨0, by omega, rfl, rfl, fun j hj => absurd hj (Nat.not_lt_zero _)⟩ ⟨fun _ => 0, 0, 0, by omega, ⟨Nat.le_refl _, fun i hi => absurd hi (Nat.not_lt_zero _)⟩, rfl, rfl, fun i hi => absurd hi (Nat.not_lt_zero _), fun i hi => absurd hi (Nat.not_lt_zero _)⟩ ⟨[], ⟨by decide, fun i hi => absurd hi (Nat.not_lt_zero _), fun i j _ hj => absurd hj (Nat.not_lt_zero _)⟩, fun i hi => absurd hi (Nat.not_lt_zero _), fun i hi => absurd hi (Nat.not_lt_zero _), rfl, rfl, rfl, fun i hi => absurd hi (Nat.not_lt_zero _)⟩⟩
