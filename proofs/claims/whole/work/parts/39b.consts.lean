theorem yLen : ∀ i : Nat, i < nS → (sB i).length < 2 ^ 31 := by
  intro i hi
  have h : (List.range nS).all (fun i => decide ((sB i).length < 100)) = true := by decide +kernel
  have q := of_decide_eq_true (List.all_eq_true.mp h i (List.mem_range.mpr hi))
  omega
/-- the constants, at the law's entry -/
theorem sI_start {args : Array Value} {s : State} {A : Nat → Prop} (hgv : (Jvm.Cond.and given_1 narrow_1).before args s = true) (hts : ∀ w ∈ tables_1, w.before args s = true) (hA : ∀ a : Nat, a < s.heap.size → ¬ A a) : ∃ sa sv : Nat → Nat, sI sa sv A s s.heap := by
  have hs : ∀ (k : Nat) (w : Cond), flN[k]? = some w → w.before args s = true := fun k w h => flat_of_before _ hgv w (List.mem_of_getElem? h)
  have h0 : ∀ i : Nat, ∃ q : Nat × Nat, i < nS → (va_O "java/lang/String" q.1 A s s.heap ∧ va_OF "java/lang/String" "coder" "B" (.int 0) q.1 A s s.heap ∧ va_OF "java/lang/String" "value" "[B" (.ref q.2) q.1 A s s.heap ∧ va_T .byte q.2 (sB i).length (fun j => .int ((sB i).getD j 0)) A s s.heap) ∧ vk_R (sR i).1 (sR i).2.1 (sR i).2.2 q.1 s := by
    intro i
    by_cases hi : i < nS
    · have hex := hs _ _ (yEx i hi)
      obtain ⟨a, c, cA, kA, q1, q2, q3, q4, q5, q6, -⟩ := Cond.exactly_spec (args := args) (first := s) (o := none) (s := s) (idx := []) (t := tmS i) (cls := "java/lang/String") hex
      have hel : ∀ j : Nat, j < (sB i).length → (Cond.eq (.elem (.field (tmS i) "java/lang/String" "value" "[B") (.int (Int32.ofNat j))) (.int ((sB i).getD j 0))).before args s = true := fun j hj => hs _ _ (of_decide_eq_true (List.all_eq_true.mp (yEl i hi) j (List.mem_range.mpr hj)))
      obtain ⟨t, ht, hT⟩ := va_Tof (f := fun j => .int ((sB i).getD j 0)) (A := A) (yLen i hi) (hs _ _ (yAr i hi)) (va_eqt (hs _ _ (yLe i hi))) (fun j hj => va_eqt (hel j hj)) hA
      have hrf : (Cond.stringRef (sR i).1 (sR i).2.1 (sR i).2.2).before args s = true := hts _ (List.mem_of_getElem? (yRf i hi))
      exact ⟨(a, t), fun _ => ⟨⟨va_Oof hex q1 hA, vk_OFof q1 (va_eqt (hs _ _ (yCo i hi))) hA, vk_OFof q1 ht hA, hT⟩, vk_R.of hrf q1⟩⟩
    · exact ⟨(0, 0), fun h => absurd h hi⟩
  obtain ⟨ad, had⟩ := Classical.axiomOfChoice h0
  exact ⟨fun i => (ad i).1, fun i => (ad i).2, fun i hi => had i hi, va_Zof (hts _ (List.mem_of_getElem? (i := 248) (by decide +kernel))) (hts _ (List.mem_of_getElem? (i := 10) (by decide +kernel))) (va_eqi (hs 4 _ (by decide +kernel))) hA, va_Zqof (hts _ (List.mem_of_getElem? (i := 270) (by decide +kernel))) (hts _ (List.mem_of_getElem? (i := 12) (by decide +kernel))) (hs 5 _ (by decide +kernel)) hA⟩
