/-! PURE 44: readAmp of the reference -/
def ampR (g : Nat → Int32) (n k : Nat) (o : List Int32) : List Int32 × Nat :=
  if g (k + 1) = 35 then (if g (k + 2) = 120 then numR g n 16 6 (k + 3) k o else numR g n 10 7 (k + 2) k o) else nameR g n k o
theorem km_names {post : Int32 → Int32 → (Nat → Int32) → Prop} {g tx f : Nat → Int32} {n k : Nat} {o : List Int32} (hn : n ≤ 1500) (hA : ∀ j, gF tx n j = g j) (hr : rW f o) (ho : o.length ≤ 1500) (hk : k < n)
    (H : ∀ f', rW f' (nameR g n k o).1 → post (nI (nameR g n k o).1.length) (nI (nameR g n k o).2) f') (c35 : ¬ g (k + 1) = 35) : wpX8_readAmp post (nI n) (nI o.length) (nI k) tx f := by
  have hge : ∀ j, n ≤ j → g j = -1 := fun j hj => by rw [← hA j, gF_ge hj]
  have wb := (firstE_bd (p := fun j => !cWord (g j)) (n := n) _ (k + 1) rfl (by omega)).1
  have wb : k + 1 ≤ wordE g n (k + 1) := wb
  generalize hm : wordE g n (k + 1) - (k + 1) = m
  generalize hh : (fun i => hG g (k + 1) (sB i)) = hF
  have f23 : (hG g (k + 1) (sB 23) && !cWord (g (k + 1 + (sB 23).length))) = (decide (m = 3) && hF 23) := by
    rw [ent_iff (n := n) hge (by omega) (by decide +kernel) (by decide), hm, ← hh]; rfl
  have f21 : (hG g (k + 1) (sB 21) && !cWord (g (k + 1 + (sB 21).length))) = (decide (m = 2) && hF 21) := by
    rw [ent_iff (n := n) hge (by omega) (by decide +kernel) (by decide), hm, ← hh]; rfl
  have f22 : (hG g (k + 1) (sB 22) && !cWord (g (k + 1 + (sB 22).length))) = (decide (m = 2) && hF 22) := by
    rw [ent_iff (n := n) hge (by omega) (by decide +kernel) (by decide), hm, ← hh]; rfl
  have f24 : (hG g (k + 1) (sB 24) && !cWord (g (k + 1 + (sB 24).length))) = (decide (m = 4) && hF 24) := by
    rw [ent_iff (n := n) hge (by omega) (by decide +kernel) (by decide), hm, ← hh]; rfl
  have f25 : (hG g (k + 1) (sB 25) && !cWord (g (k + 1 + (sB 25).length))) = (decide (m = 4) && hF 25) := by
    rw [ent_iff (n := n) hge (by omega) (by decide +kernel) (by decide), hm, ← hh]; rfl
  have f26 : (hG g (k + 1) (sB 26) && !cWord (g (k + 1 + (sB 26).length))) = (decide (m = 4) && hF 26) := by
    rw [ent_iff (n := n) hge (by omega) (by decide +kernel) (by decide), hm, ← hh]; rfl
  have f33 : (hG g (k + 1) (sB 33) && !cWord (g (k + 1 + (sB 33).length))) = (decide (m = 6) && hF 33) := by
    rw [ent_iff (n := n) hge (by omega) (by decide +kernel) (by decide), hm, ← hh]; rfl
  have f27 : (hG g (k + 1) (sB 27) && !cWord (g (k + 1 + (sB 27).length))) = (decide (m = 4) && hF 27) := by
    rw [ent_iff (n := n) hge (by omega) (by decide +kernel) (by decide), hm, ← hh]; rfl
  have f28 : (hG g (k + 1) (sB 28) && !cWord (g (k + 1 + (sB 28).length))) = (decide (m = 4) && hF 28) := by
    rw [ent_iff (n := n) hge (by omega) (by decide +kernel) (by decide), hm, ← hh]; rfl
  have f29 : (hG g (k + 1) (sB 29) && !cWord (g (k + 1 + (sB 29).length))) = (decide (m = 4) && hF 29) := by
    rw [ent_iff (n := n) hge (by omega) (by decide +kernel) (by decide), hm, ← hh]; rfl
  have f32 : (hG g (k + 1) (sB 32) && !cWord (g (k + 1 + (sB 32).length))) = (decide (m = 5) && hF 32) := by
    rw [ent_iff (n := n) hge (by omega) (by decide +kernel) (by decide), hm, ← hh]; rfl
  have f30 : (hG g (k + 1) (sB 30) && !cWord (g (k + 1 + (sB 30).length))) = (decide (m = 4) && hF 30) := by
    rw [ent_iff (n := n) hge (by omega) (by decide +kernel) (by decide), hm, ← hh]; rfl
  have f31 : (hG g (k + 1) (sB 31) && !cWord (g (k + 1 + (sB 31).length))) = (decide (m = 4) && hF 31) := by
    rw [ent_iff (n := n) hge (by omega) (by decide +kernel) (by decide), hm, ← hh]; rfl
  have done : ∀ (i : Nat) (v : Int32) (l : Nat), (sB i).length = l → (decide (m = l) && hF i) = true → entV m hF = v → ¬ v = -1 → ∀ f', rW f' (o ++ [v]) → post (nI (o ++ [v]).length) (nI (semi g (k + 1 + (sB i).length))) f' := by
    intro i v l hl hz he hv f' h'
    rw [Bool.and_eq_true, decide_eq_true_eq] at hz
    have hw : wordE g n (k + 1) = k + 1 + (sB i).length := by omega
    rw [nameR, hm, hh, he, if_neg hv, hw] at H
    exact H f' h'
  rw [wpX8_readAmp, nI_1]
  refine km_lookA hn hA (by omega) ⟨fun _ => ?_, fun c => absurd c c35⟩
  refine km_named (i := 23) (v := 38) hn hA hr ho hk (by decide +kernel) (fun z f' h' => ⟨fun _ => ⟨fun _ => ⟨fun q => absurd q (by decide), fun _ => done 23 38 3 (by decide) (by rw [← f23]; exact z) (by rw [f23] at z; rw [entV, if_pos z]) (by decide) f' h'⟩, fun q => absurd q (by decide)⟩, fun q => absurd q (by decide)⟩) (fun z23 => ⟨fun q => absurd rfl q, fun _ => ?_⟩)
  rw [f23] at z23
  refine km_named (i := 21) (v := 60) hn hA hr ho hk (by decide +kernel) (fun z f' h' => ⟨fun _ => ⟨fun _ => ⟨fun q => absurd q (by decide), fun _ => done 21 60 2 (by decide) (by rw [← f21]; exact z) (by rw [f21] at z; rw [entV, if_neg (by rw [z23]; decide), if_pos z]) (by decide) f' h'⟩, fun q => absurd q (by decide)⟩, fun q => absurd q (by decide)⟩) (fun z21 => ⟨fun q => absurd rfl q, fun _ => ?_⟩)
  rw [f21] at z21
  refine km_named (i := 22) (v := 62) hn hA hr ho hk (by decide +kernel) (fun z f' h' => ⟨fun _ => ⟨fun _ => ⟨fun q => absurd q (by decide), fun _ => done 22 62 2 (by decide) (by rw [← f22]; exact z) (by rw [f22] at z; rw [entV, if_neg (by rw [z23]; decide), if_neg (by rw [z21]; decide), if_pos z]) (by decide) f' h'⟩, fun q => absurd q (by decide)⟩, fun q => absurd q (by decide)⟩) (fun z22 => ⟨fun q => absurd rfl q, fun _ => ?_⟩)
  rw [f22] at z22
  refine km_named (i := 24) (v := 34) hn hA hr ho hk (by decide +kernel) (fun z f' h' => ⟨fun _ => ⟨fun _ => ⟨fun q => absurd q (by decide), fun _ => done 24 34 4 (by decide) (by rw [← f24]; exact z) (by rw [f24] at z; rw [entV, if_neg (by rw [z23]; decide), if_neg (by rw [z21]; decide), if_neg (by rw [z22]; decide), if_pos z]) (by decide) f' h'⟩, fun q => absurd q (by decide)⟩, fun q => absurd q (by decide)⟩) (fun z24 => ⟨fun q => absurd rfl q, fun _ => ?_⟩)
  rw [f24] at z24
  refine km_named (i := 25) (v := 39) hn hA hr ho hk (by decide +kernel) (fun z f' h' => ⟨fun _ => ⟨fun _ => ⟨fun q => absurd q (by decide), fun _ => done 25 39 4 (by decide) (by rw [← f25]; exact z) (by rw [f25] at z; rw [entV, if_neg (by rw [z23]; decide), if_neg (by rw [z21]; decide), if_neg (by rw [z22]; decide), if_neg (by rw [z24]; decide), if_pos z]) (by decide) f' h'⟩, fun q => absurd q (by decide)⟩, fun q => absurd q (by decide)⟩) (fun z25 => ⟨fun q => absurd rfl q, fun _ => ?_⟩)
  rw [f25] at z25
  refine km_named (i := 26) (v := 32) hn hA hr ho hk (by decide +kernel) (fun z f' h' => ⟨fun _ => ⟨fun _ => ⟨fun q => absurd q (by decide), fun _ => done 26 32 4 (by decide) (by rw [← f26]; exact z) (by rw [f26] at z; rw [entV, if_neg (by rw [z23]; decide), if_neg (by rw [z21]; decide), if_neg (by rw [z22]; decide), if_neg (by rw [z24]; decide), if_neg (by rw [z25]; decide), if_pos z]) (by decide) f' h'⟩, fun q => absurd q (by decide)⟩, fun q => absurd q (by decide)⟩) (fun z26 => ⟨fun q => absurd rfl q, fun _ => ?_⟩)
  rw [f26] at z26
  refine km_named (i := 33) (v := 233) hn hA hr ho hk (by decide +kernel) (fun z f' h' => ⟨fun q => absurd q (by decide), fun _ => ⟨fun _ => ⟨fun q => absurd q (by decide), fun _ => done 33 233 6 (by decide) (by rw [← f33]; exact z) (by rw [f33] at z; rw [entV, if_neg (by rw [z23]; decide), if_neg (by rw [z21]; decide), if_neg (by rw [z22]; decide), if_neg (by rw [z24]; decide), if_neg (by rw [z25]; decide), if_neg (by rw [z26]; decide), if_pos z]) (by decide) f' h'⟩, fun q => absurd q (by decide)⟩⟩) (fun z33 => ⟨fun _ => ?_, fun q => absurd rfl q⟩)
  rw [f33] at z33
  refine ⟨fun q => absurd rfl q, fun _ => ?_⟩
  refine km_named (i := 27) (v := 246) hn hA hr ho hk (by decide +kernel) (fun z f' h' => ⟨fun _ => ⟨fun q => absurd q (by decide), fun _ => done 27 246 4 (by decide) (by rw [← f27]; exact z) (by rw [f27] at z; rw [entV, if_neg (by rw [z23]; decide), if_neg (by rw [z21]; decide), if_neg (by rw [z22]; decide), if_neg (by rw [z24]; decide), if_neg (by rw [z25]; decide), if_neg (by rw [z26]; decide), if_neg (by rw [z33]; decide), if_pos z]) (by decide) f' h'⟩, fun q => absurd q (by decide)⟩) (fun z27 => ⟨fun q => absurd rfl q, fun _ => ?_⟩)
  rw [f27] at z27
  refine km_named (i := 28) (v := 228) hn hA hr ho hk (by decide +kernel) (fun z f' h' => ⟨fun _ => ⟨fun q => absurd q (by decide), fun _ => done 28 228 4 (by decide) (by rw [← f28]; exact z) (by rw [f28] at z; rw [entV, if_neg (by rw [z23]; decide), if_neg (by rw [z21]; decide), if_neg (by rw [z22]; decide), if_neg (by rw [z24]; decide), if_neg (by rw [z25]; decide), if_neg (by rw [z26]; decide), if_neg (by rw [z33]; decide), if_neg (by rw [z27]; decide), if_pos z]) (by decide) f' h'⟩, fun q => absurd q (by decide)⟩) (fun z28 => ⟨fun q => absurd rfl q, fun _ => ?_⟩)
  rw [f28] at z28
  refine km_named (i := 29) (v := 252) hn hA hr ho hk (by decide +kernel) (fun z f' h' => ⟨fun _ => ⟨fun q => absurd q (by decide), fun _ => done 29 252 4 (by decide) (by rw [← f29]; exact z) (by rw [f29] at z; rw [entV, if_neg (by rw [z23]; decide), if_neg (by rw [z21]; decide), if_neg (by rw [z22]; decide), if_neg (by rw [z24]; decide), if_neg (by rw [z25]; decide), if_neg (by rw [z26]; decide), if_neg (by rw [z33]; decide), if_neg (by rw [z27]; decide), if_neg (by rw [z28]; decide), if_pos z]) (by decide) f' h'⟩, fun q => absurd q (by decide)⟩) (fun z29 => ⟨fun q => absurd rfl q, fun _ => ?_⟩)
  rw [f29] at z29
  refine km_named (i := 32) (v := 223) hn hA hr ho hk (by decide +kernel) (fun z f' h' => ⟨fun _ => ⟨fun q => absurd q (by decide), fun _ => done 32 223 5 (by decide) (by rw [← f32]; exact z) (by rw [f32] at z; rw [entV, if_neg (by rw [z23]; decide), if_neg (by rw [z21]; decide), if_neg (by rw [z22]; decide), if_neg (by rw [z24]; decide), if_neg (by rw [z25]; decide), if_neg (by rw [z26]; decide), if_neg (by rw [z33]; decide), if_neg (by rw [z27]; decide), if_neg (by rw [z28]; decide), if_neg (by rw [z29]; decide), if_pos z]) (by decide) f' h'⟩, fun q => absurd q (by decide)⟩) (fun z32 => ⟨fun q => absurd rfl q, fun _ => ?_⟩)
  rw [f32] at z32
  refine km_named (i := 30) (v := 8364) hn hA hr ho hk (by decide +kernel) (fun z f' h' => ⟨fun _ => ⟨fun q => absurd q (by decide), fun _ => done 30 8364 4 (by decide) (by rw [← f30]; exact z) (by rw [f30] at z; rw [entV, if_neg (by rw [z23]; decide), if_neg (by rw [z21]; decide), if_neg (by rw [z22]; decide), if_neg (by rw [z24]; decide), if_neg (by rw [z25]; decide), if_neg (by rw [z26]; decide), if_neg (by rw [z33]; decide), if_neg (by rw [z27]; decide), if_neg (by rw [z28]; decide), if_neg (by rw [z29]; decide), if_neg (by rw [z32]; decide), if_pos z]) (by decide) f' h'⟩, fun q => absurd q (by decide)⟩) (fun z30 => ⟨fun q => absurd rfl q, fun _ => ?_⟩)
  rw [f30] at z30
  refine km_named (i := 31) (v := 169) hn hA hr ho hk (by decide +kernel) (fun z f' h' => ⟨fun q => absurd q (by decide), fun _ => ⟨fun q => absurd q (by decide), fun _ => done 31 169 4 (by decide) (by rw [← f31]; exact z) (by rw [f31] at z; rw [entV, if_neg (by rw [z23]; decide), if_neg (by rw [z21]; decide), if_neg (by rw [z22]; decide), if_neg (by rw [z24]; decide), if_neg (by rw [z25]; decide), if_neg (by rw [z26]; decide), if_neg (by rw [z33]; decide), if_neg (by rw [z27]; decide), if_neg (by rw [z28]; decide), if_neg (by rw [z29]; decide), if_neg (by rw [z32]; decide), if_neg (by rw [z30]; decide), if_pos z]) (by decide) f' h'⟩⟩) (fun z31 => ⟨fun _ => ?_, fun q => absurd rfl q⟩)
  rw [f31] at z31
  have e1 : entV m hF = -1 := by rw [entV, if_neg (by rw [z23]; decide), if_neg (by rw [z21]; decide), if_neg (by rw [z22]; decide), if_neg (by rw [z24]; decide), if_neg (by rw [z25]; decide), if_neg (by rw [z26]; decide), if_neg (by rw [z33]; decide), if_neg (by rw [z27]; decide), if_neg (by rw [z28]; decide), if_neg (by rw [z29]; decide), if_neg (by rw [z32]; decide), if_neg (by rw [z30]; decide), if_neg (by rw [z31]; decide)]
  rw [nameR, hm, hh, if_pos e1] at H
  refine ⟨fun _ => km_write hr (by omega) (fun f' h' y ey => ?_), fun q => absurd rfl q⟩
  rw [ey, nI_1]
  exact H f' h'
theorem km_readAmp {post : Int32 → Int32 → (Nat → Int32) → Prop} {g tx f : Nat → Int32} {n k : Nat} {o : List Int32} (hn : n ≤ 1500) (hA : ∀ j, gF tx n j = g j) (hr : rW f o) (ho : o.length ≤ 1500) (hk : k < n)
    (H : ∀ f', rW f' (ampR g n k o).1 → post (nI (ampR g n k o).1.length) (nI (ampR g n k o).2) f') : wpX8_readAmp post (nI n) (nI o.length) (nI k) tx f := by
  by_cases c : g (k + 1) = 35
  · rw [wpX8_readAmp, nI_1, nI_2, nI_3]
    rw [ampR, if_pos c] at H
    refine km_lookA hn hA (by omega) ⟨fun d => absurd c d, fun _ => km_lookA hn hA (by omega) ⟨fun d => ?_, fun d => ?_⟩⟩
    · rw [if_neg d] at H
      exact km_readNumber (mo := 7) hn hA hr ho hk (by omega) (by omega) (by omega) (Or.inl rfl) H
    · rw [if_pos d] at H
      exact km_readNumber (mo := 6) hn hA hr ho hk (by omega) (by omega) (by omega) (Or.inr rfl) H
  · rw [ampR, if_neg c] at H
    exact km_names hn hA hr ho hk H c
