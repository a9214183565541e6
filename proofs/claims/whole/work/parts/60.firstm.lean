/-! PURE 21: the reference's first(): steps 1a, 1b, 1c -/
theorem km_1c {post : Int32 → (Nat → Int32) → Prop} {f : Nat → Int32} {w : List Int32} (hw : w.length ≤ 30) (hf : rW f w) (h : ∀ f', rW f' (step1c w) → post (nI (step1c w).length) f') : wjX8_first_176 post (nI w.length) f := by
  refine km_has (bs := eY) hw hf (by decide +kernel) (b_ifz (fun z => ?_) (fun z => ?_))
  · rw [step1c, if_neg (by rw [z]; simp)] at h; exact h f hf
  · have hl : 1 ≤ w.length := by have := sfx_len z; simp [eY] at this; omega
    rw [nI_m1 hl]
    refine km_hasV hw (by omega) hf (b_ifz (fun z2 => ?_) (fun z2 => ?_))
    · rw [step1c, if_neg (by rw [z2]; simp)] at h; exact h f hf
    · rw [step1c, if_pos (by rw [z, z2]; rfl)] at h
      rw [nI_clamp (by omega)]
      have := h (upd f (w.length - 1) 105) (fun k hk => by
        rw [List.length_append, take_len (by omega), List.length_singleton] at hk
        rcases Nat.lt_or_ge k (w.length - 1) with y | y
        · rw [pk_un (by omega), getD_app (by rw [take_len (by omega)]; exact y), getD_take y]; exact hf k (by omega)
        · rw [show k = w.length - 1 by omega, pk_us, getD_app2 (by rw [take_len (by omega)]; exact Nat.le_refl _), take_len (by omega), Nat.sub_self]; rfl)
      rw [List.length_append, take_len (by omega), List.length_singleton, show w.length - 1 + 1 = w.length by omega] at this
      exact ⟨vp_in_nI (by omega) (by omega), this⟩
theorem km_1b {post : Int32 → (Nat → Int32) → Prop} {f : Nat → Int32} {w : List Int32} (hw : w.length ≤ 30) (hf : rW f w) (h : ∀ f', rW f' (step1b w) → wjX8_first_176 post (nI (step1b w).length) f') : wjX8_first_63 post (nI w.length) f := by
  refine km_has (bs := eEED) hw hf (by decide +kernel) (b_ifz (fun z => ?_) (fun z => ?_))
  · rw [step1b, if_neg (by rw [z]; decide)] at h
    have e139 : sfx w eED = false ∨ hasV w (w.length - 2) = false → (sfx w eED = true → wjX8_first_176 post (nI w.length) f) → wjX8_first_139 post (nI w.length) f := by
      intro y hk
      refine km_has (bs := eING) hw hf (by decide +kernel) (b_ifz (fun z3 => ?_) (fun z3 => ?_))
      · by_cases q : sfx w eED = true
        · exact hk q
        · rw [if_neg q, if_neg (by rw [z3]; decide)] at h; exact h f hf
      · have ned : ¬ sfx w eED = true := by
          intro q
          have a := (of_decide_eq_true q)
          have b := (of_decide_eq_true z3)
          have l3 : 3 ≤ w.length := by have := b.1; simp [eING] at this; omega
          have q1 := a.2 1 (by decide)
          have q2 := b.2 2 (by decide)
          rw [show w.length - eED.length + 1 = w.length - 1 by simp [eED]; omega] at q1
          rw [show w.length - eING.length + 2 = w.length - 1 by simp [eING]; omega] at q2
          rw [q1] at q2
          exact absurd q2 (by decide)
        have hl : 3 ≤ w.length := by have := sfx_len z3; simp [eING] at this; omega
        rw [if_neg ned, if_pos z3] at h
        rw [nI_m3 hl]
        refine km_hasV hw (by omega) hf (b_ifz (fun y2 => ?_) (fun y2 m em => ?_))
        · rw [if_neg (by rw [y2]; decide)] at h; exact h f hf
        · rw [if_pos y2] at h
          rw [em]
          have h0 : 1 ≤ w.length - 3 := by
            rcases Nat.lt_or_ge 0 (w.length - 3) with u | u
            · exact u
            · rw [show w.length - 3 = 0 by omega, hasV, hvL] at y2; cases y2
          have := km_mend (post := fun m_end_7 m_s_8 => wjX8_first_176 post m_end_7 m_s_8) (u := w.take (w.length - 3)) (f := f) (by rw [take_len (by omega)]; omega) (by rw [take_len (by omega)]; exact h0) (rW_take hf) h
          rw [take_len (by omega)] at this
          exact this
    refine km_has (bs := eED) hw hf (by decide +kernel) (b_ifz (fun z2 => e139 (Or.inl z2) (fun q => by rw [z2] at q; cases q)) (fun z2 => ?_))
    have hl : 2 ≤ w.length := by have := sfx_len z2; simp [eED] at this; omega
    rw [nI_m2 hl]
    refine km_hasV hw (by omega) hf (b_ifz (fun y2 => e139 (Or.inr y2) (fun q => ?_)) (fun y2 m em => ?_))
    · rw [if_pos z2, if_neg (by rw [y2]; decide)] at h; exact h f hf
    · rw [if_pos z2, if_pos y2] at h
      rw [em]
      have h0 : 1 ≤ w.length - 2 := by
        rcases Nat.lt_or_ge 0 (w.length - 2) with u | u
        · exact u
        · rw [show w.length - 2 = 0 by omega, hasV, hvL] at y2; cases y2
      have := km_mend (post := fun m_end_7 m_s_8 => wjX8_first_176 post m_end_7 m_s_8) (u := w.take (w.length - 2)) (f := f) (by rw [take_len (by omega)]; omega) (by rw [take_len (by omega)]; exact h0) (rW_take hf) h
      rw [take_len (by omega)] at this
      exact this
  · have hz := of_decide_eq_true z
    have hl : 3 ≤ w.length := by have := hz.1; simp [eEED] at this; omega
    rw [step1b, if_pos z, tryF, show eEED.length = 3 from rfl] at h
    rw [nI_m3 hl]
    refine km_meas hw (by omega) hf ?_
    have hm : meas w (w.length - 3) ≤ 30 := by have := mL_le w (w.length - 3) (w.length - 3) 1; rw [meas]; omega
    rw [show (nI (meas w (w.length - 3)) ≤ 0) = (meas w (w.length - 3) ≤ 0) from propext (nI_leI (b := 0) (by omega) (by decide))]
    refine ⟨fun q => ?_, fun q m em => ?_⟩
    · rw [if_neg (by omega)] at h; exact h f hf
    · rw [if_pos (by omega)] at h
      rw [em, nI_m1 (by omega)]
      have := h f (fun k hk => by
        rw [List.length_append, take_len (by omega)] at hk
        have hk : k < w.length - 3 + 2 := hk
        rcases Nat.lt_or_ge k (w.length - 3) with y | y
        · rw [getD_app (by rw [take_len (by omega)]; exact y), getD_take y]; exact hf k (by omega)
        · rw [getD_app2 (by rw [take_len (by omega)]; exact y), take_len (by omega), hf k (by omega)]
          rcases (show k = w.length - 3 ∨ k = w.length - 3 + 1 by omega) with e | e
          · have := hz.2 0 (by decide)
            rw [show w.length - eEED.length + 0 = k by rw [show eEED.length = 3 from rfl]; omega] at this
            rw [this, e, Nat.sub_self]; rfl
          · have := hz.2 1 (by decide)
            rw [show w.length - eEED.length + 1 = k by rw [show eEED.length = 3 from rfl]; omega] at this
            rw [this, e, show w.length - 3 + 1 - (w.length - 3) = 1 by omega]; rfl)
      rw [List.length_append, take_len (by omega), show w.length - 3 + [(101 : Int32), 101].length = w.length - 1 by show w.length - 3 + 2 = w.length - 1; omega] at this
      exact this
