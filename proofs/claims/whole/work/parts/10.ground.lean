/-! GROUND: a contract's form over a fixed world (xMi, xMv, xMl), and a call's row over it: the callee has the caller's whole world -/
def bN (v : Int32) : Prop := v = 0 ∨ v = 1
theorem bN0 : bN 0 := Or.inl rfl
theorem bN1 : bN 1 := Or.inr rfl
theorem bN_nar {v : Int32} (h : bN v) : narrow .boolean (.int v) = .int v := by rcases h with rfl | rfl <;> rfl
theorem bN_fit {v : Int32} (h : bN v) : fits .boolean (.int v) = true := by rcases h with rfl | rfl <;> rfl
theorem bN_vp {v : Int32} (h : bN v) : vp_nar .boolean v = v := by rcases h with rfl | rfl <;> rfl
abbrev xSI : Type := (Nat → Prop) → State → Heap → Prop
/-- what is said of constants holds on: in a warmer machine, over a heap that kept what isn't free, for fewer free places; and in a call -/
def xGood (SI : xSI) : Prop := (∀ (A A' : Nat → Prop) (U U' : State) (H H' : Heap), SI A U H → U.WarmedH U'.vm → (∀ a : Nat, a < H.size → ¬ A a → H'[a]? = H[a]?) → (∀ q, A' q → A q) → SI A' U' H') ∧ ∀ (A : Nat → Prop) (U : State) (g : JFrame) (mk : MethodId) (a : Array Value) (H : Heap), SI A U H → SI A (U.calling g mk a) H
def xPre (D : va_G) (cl : List vw_C) (tys : List (ClassId × FieldType)) (SI : xSI) (ws : va_W) (av : List Value) (sz : Nat) : Array Value → State → Prop := va_Pc av (fun U => U.heap.size = sz ∧ va_P D cl ws U.heap ∧ va_K D cl tys U ∧ va_D (fun _ => True) ws ∧ SI (va_A ws sz) U U.heap)
def xB (D : va_G) (cl : List vw_C) (tys : List (ClassId × FieldType)) (A : Nat → Prop) {S : Type} (w1 : S → va_W) : S → State → Prop := fun u t => va_P D cl (w1 u) t.heap ∧ va_K D cl tys t ∧ va_D A (w1 u)
def xMi (l : Launch) (D : va_G) (cl : List vw_C) (tys : List (ClassId × FieldType)) (SI : xSI) (y : MethodName) (wy : List Cond) (rm : Room) (ws : va_W) (av : List Value) {S : Type} (post : Int32 → S → Prop) (w1 : S → va_W) : Prop := ∀ sz : Nat, Met l y wy rm (xPre D cl tys SI ws av sz) (va_Qi post (xB D cl tys (va_A ws sz) w1) (va_A ws sz)) 0 0 (va_A ws sz)
def xMl (l : Launch) (D : va_G) (cl : List vw_C) (tys : List (ClassId × FieldType)) (SI : xSI) (y : MethodName) (wy : List Cond) (rm : Room) (ws : va_W) (av : List Value) {S : Type} (post : Int64 → S → Prop) (w1 : S → va_W) : Prop := ∀ sz : Nat, Met l y wy rm (xPre D cl tys SI ws av sz) (va_Ql post (xB D cl tys (va_A ws sz) w1) (va_A ws sz)) 0 0 (va_A ws sz)
def xMv (l : Launch) (D : va_G) (cl : List vw_C) (tys : List (ClassId × FieldType)) (SI : xSI) (y : MethodName) (wy : List Cond) (rm : Room) (ws : va_W) (av : List Value) {S : Type} (post : S → Prop) (w1 : S → va_W) : Prop := ∀ sz : Nat, Met l y wy rm (xPre D cl tys SI ws av sz) (va_Qv post (xB D cl tys (va_A ws sz) w1) (va_A ws sz)) 0 0 (va_A ws sz)
theorem xPre_blind {D : va_G} {cl : List vw_C} {tys : List (ClassId × FieldType)} {SI : xSI} (G : xGood SI) {ws : va_W} {av : List Value} {sz : Nat} : FrameBlind (xPre D cl tys SI ws av sz) := fun a U g mk q => by
  obtain ⟨q0, q1, qP, qK, qD, qI⟩ := q
  exact ⟨q0, q1, qP, va_K.moved (u := U) (U := U.calling g mk a) (Vm.Alike.refl U.vm) qK, qD, G.2 _ _ _ _ _ _ qI⟩
section XC
variable {p : Program} {l : Launch} {e : Env} {R : Room} {s : State} {m : MethodId} {args : Array Value} {below : List Frame} {meth : Method} {c : Code} {H : Heap} {locs : List Loc} {cells slots : Nat} {Q : State → Prop}
variable {cc bytes : ByteArray} {pc nL index maxL n : Nat} {ls : Array Slot} {rest st0 As : List Value} {own C : String} {y : MethodName} {ret : Option FieldType} {rm : Room} {Ts wy : List Cond} {b : Nat}
variable {D : va_G} {cl : List vw_C} {tys : List (ClassId × FieldType)} {SI : xSI} {ws : va_W} {A : Nat → Prop} {S : Type} {w1 : S → va_W}
theorem xc_free (hD : va_D A ws) (hS : va_S A s.heap H locs) (hA : ∀ q : Nat, s.heap.size ≤ q → A q) : ∀ q, va_A ws H.size q → A q := by
  intro q h
  rcases h with ⟨k, e, h⟩ | h
  · exact hD.2 k (q, e) h
  · exact hA q (Nat.le_trans hS.1 h)
theorem xc_pre (G : xGood SI) (hK : va_K D cl tys s) (hP : va_P D cl ws H) (hD : va_D A ws) (hS : va_S A s.heap H locs) (hA : ∀ q : Nat, s.heap.size ≤ q → A q) (hI : SI A s s.heap) {av : List Value} : ∀ U : State, U.heap = H → s.WarmedH U.vm → xPre D cl tys SI ws av H.size av.toArray U := by
  intro U hU hW
  refine ⟨rfl, by rw [hU], by rw [hU]; exact hP, va_K.moved hW.alike hK, hD.weaken (fun _ _ _ _ => trivial), ?_⟩
  rw [hU]
  exact G.1 _ _ _ _ _ _ hI hW hS.2.1 (xc_free hD hS hA)
theorem xc_vi {post : Int32 → S → Prop} (G : xGood SI) (Fx : CallFix p m c cc nL s args Ts own) (hM : xMi l D cl tys SI y wy rm ws (Value.ref b :: As) post w1) (cw : CallW R s args own C index y bytes maxL ret wy rm 0 0 n) (hrc : ∃ cellB : Cell, H[b]? = some cellB ∧ cellB.vm.isStatics = false ∧ s.vm.findClass C = some cellB.cls) (hK : va_K D cl tys s) (hP : va_P D cl ws H) (hD : va_D A ws) (hS : va_S A s.heap H locs) (hA : ∀ q : Nat, s.heap.size ≤ q → A q) (hI : SI A s s.heap) (hn : As.length = n) (hsz : ls.size = nL) (hst : st0 = As.reverse ++ .ref b :: rest) (hW : (rest.map fun v => v.category).sum ≤ 8) (hdg : decode cc pc = .ok (.invokevirtual index, 3)) (hf : cells ≤ R.cells ∧ slots ≤ R.slots)
    (kk : ∀ (r : Int32) (u : S) (H1 : Heap) (locs1 : List Loc), post r u → va_P D cl (w1 u) H1 → va_D A (w1 u) → va_S A s.heap H1 locs1 → W p l e R s m args below meth c H1 locs1 cells slots Q (F0 m (pc + 3) ls (.int r :: rest))) : W p l e R s m args below meth c H locs cells slots Q (F0 m pc ls st0) := by
  have hF := xc_free hD hS hA
  refine va_calli (va_runV (As := As) (rest := rest) Fx (hM H.size) cw ⟨xPre_blind G, hrc, xc_pre G hK hP hD hS hA hI⟩ rfl hn hsz hst (lv_room hW) hdg hf) hS (fun q _ h => hF q h) hF (fun r u t H1 locs1 ht hvm hw hB hz1 hk1 hS1 => ?_)
  obtain ⟨hP1, hK1, hD1⟩ := hB
  rw [ht] at hP1
  exact kk r u H1 locs1 hw hP1 (hD1.weaken (fun _ _ _ h => hF _ h)) hS1
theorem xc_vl {post : Int64 → S → Prop} (G : xGood SI) (Fx : CallFix p m c cc nL s args Ts own) (hM : xMl l D cl tys SI y wy rm ws (Value.ref b :: As) post w1) (cw : CallW R s args own C index y bytes maxL ret wy rm 0 0 n) (hrc : ∃ cellB : Cell, H[b]? = some cellB ∧ cellB.vm.isStatics = false ∧ s.vm.findClass C = some cellB.cls) (hK : va_K D cl tys s) (hP : va_P D cl ws H) (hD : va_D A ws) (hS : va_S A s.heap H locs) (hA : ∀ q : Nat, s.heap.size ≤ q → A q) (hI : SI A s s.heap) (hn : As.length = n) (hsz : ls.size = nL) (hst : st0 = As.reverse ++ .ref b :: rest) (hW : (rest.map fun v => v.category).sum ≤ 8) (hdg : decode cc pc = .ok (.invokevirtual index, 3)) (hf : cells ≤ R.cells ∧ slots ≤ R.slots)
    (kk : ∀ (r : Int64) (u : S) (H1 : Heap) (locs1 : List Loc), post r u → va_P D cl (w1 u) H1 → va_D A (w1 u) → va_S A s.heap H1 locs1 → W p l e R s m args below meth c H1 locs1 cells slots Q (F0 m (pc + 3) ls (.long r :: rest))) : W p l e R s m args below meth c H locs cells slots Q (F0 m pc ls st0) := by
  have hF := xc_free hD hS hA
  refine va_calll (va_runV (As := As) (rest := rest) Fx (hM H.size) cw ⟨xPre_blind G, hrc, xc_pre G hK hP hD hS hA hI⟩ rfl hn hsz hst (lv_room hW) hdg hf) hS (fun q _ h => hF q h) hF (fun r u t H1 locs1 ht hvm hw hB hz1 hk1 hS1 => ?_)
  obtain ⟨hP1, hK1, hD1⟩ := hB
  rw [ht] at hP1
  exact kk r u H1 locs1 hw hP1 (hD1.weaken (fun _ _ _ h => hF _ h)) hS1
theorem xc_vv {post : S → Prop} (G : xGood SI) (Fx : CallFix p m c cc nL s args Ts own) (hM : xMv l D cl tys SI y wy rm ws (Value.ref b :: As) post w1) (cw : CallW R s args own C index y bytes maxL ret wy rm 0 0 n) (hrc : ∃ cellB : Cell, H[b]? = some cellB ∧ cellB.vm.isStatics = false ∧ s.vm.findClass C = some cellB.cls) (hK : va_K D cl tys s) (hP : va_P D cl ws H) (hD : va_D A ws) (hS : va_S A s.heap H locs) (hA : ∀ q : Nat, s.heap.size ≤ q → A q) (hI : SI A s s.heap) (hn : As.length = n) (hsz : ls.size = nL) (hst : st0 = As.reverse ++ .ref b :: rest) (hW : (rest.map fun v => v.category).sum ≤ 8) (hdg : decode cc pc = .ok (.invokevirtual index, 3)) (hf : cells ≤ R.cells ∧ slots ≤ R.slots)
    (kk : ∀ (u : S) (H1 : Heap) (locs1 : List Loc), post u → va_P D cl (w1 u) H1 → va_D A (w1 u) → va_S A s.heap H1 locs1 → W p l e R s m args below meth c H1 locs1 cells slots Q (F0 m (pc + 3) ls rest)) : W p l e R s m args below meth c H locs cells slots Q (F0 m pc ls st0) := by
  have hF := xc_free hD hS hA
  refine va_callv (va_runV (As := As) (rest := rest) Fx (hM H.size) cw ⟨xPre_blind G, hrc, xc_pre G hK hP hD hS hA hI⟩ rfl hn hsz hst (lv_room hW) hdg hf) hS (fun q _ h => hF q h) hF (fun u t H1 locs1 ht hvm hw hB hz1 hk1 hS1 => ?_)
  obtain ⟨hP1, hK1, hD1⟩ := hB
  rw [ht] at hP1
  exact kk u H1 locs1 hw hP1 (hD1.weaken (fun _ _ _ h => hF _ h)) hS1
theorem xc_si {post : Int32 → S → Prop} (G : xGood SI) (Fx : CallFix p m c cc nL s args Ts own) (hM : xMi l D cl tys SI y wy rm ws As post w1) (cw : CallB R s args own index y bytes maxL ret wy rm 0 0 n ∧ (Cond.static y).before args s = true) (hK : va_K D cl tys s) (hP : va_P D cl ws H) (hD : va_D A ws) (hS : va_S A s.heap H locs) (hA : ∀ q : Nat, s.heap.size ≤ q → A q) (hI : SI A s s.heap) (hn : As.length = n) (hsz : ls.size = nL) (hst : st0 = As.reverse ++ rest) (hW : (rest.map fun v => v.category).sum ≤ 8) (hdg : decode cc pc = .ok (.invokestatic index, 3)) (hf : cells ≤ R.cells ∧ slots ≤ R.slots)
    (kk : ∀ (r : Int32) (u : S) (H1 : Heap) (locs1 : List Loc), post r u → va_P D cl (w1 u) H1 → va_D A (w1 u) → va_S A s.heap H1 locs1 → W p l e R s m args below meth c H1 locs1 cells slots Q (F0 m (pc + 3) ls (.int r :: rest))) : W p l e R s m args below meth c H locs cells slots Q (F0 m pc ls st0) := by
  have hF := xc_free hD hS hA
  refine va_calli (va_runS (As := As) (rest := rest) Fx (hM H.size) cw ⟨xPre_blind G, xc_pre G hK hP hD hS hA hI⟩ rfl hn hsz hst (lv_room hW) hdg hf) hS (fun q _ h => hF q h) hF (fun r u t H1 locs1 ht hvm hw hB hz1 hk1 hS1 => ?_)
  obtain ⟨hP1, hK1, hD1⟩ := hB
  rw [ht] at hP1
  exact kk r u H1 locs1 hw hP1 (hD1.weaken (fun _ _ _ h => hF _ h)) hS1
theorem xc_sv {post : S → Prop} (G : xGood SI) (Fx : CallFix p m c cc nL s args Ts own) (hM : xMv l D cl tys SI y wy rm ws As post w1) (cw : CallB R s args own index y bytes maxL ret wy rm 0 0 n ∧ (Cond.static y).before args s = true) (hK : va_K D cl tys s) (hP : va_P D cl ws H) (hD : va_D A ws) (hS : va_S A s.heap H locs) (hA : ∀ q : Nat, s.heap.size ≤ q → A q) (hI : SI A s s.heap) (hn : As.length = n) (hsz : ls.size = nL) (hst : st0 = As.reverse ++ rest) (hW : (rest.map fun v => v.category).sum ≤ 8) (hdg : decode cc pc = .ok (.invokestatic index, 3)) (hf : cells ≤ R.cells ∧ slots ≤ R.slots)
    (kk : ∀ (u : S) (H1 : Heap) (locs1 : List Loc), post u → va_P D cl (w1 u) H1 → va_D A (w1 u) → va_S A s.heap H1 locs1 → W p l e R s m args below meth c H1 locs1 cells slots Q (F0 m (pc + 3) ls rest)) : W p l e R s m args below meth c H locs cells slots Q (F0 m pc ls st0) := by
  have hF := xc_free hD hS hA
  refine va_callv (va_runS (As := As) (rest := rest) Fx (hM H.size) cw ⟨xPre_blind G, xc_pre G hK hP hD hS hA hI⟩ rfl hn hsz hst (lv_room hW) hdg hf) hS (fun q _ h => hF q h) hF (fun u t H1 locs1 ht hvm hw hB hz1 hk1 hS1 => ?_)
  obtain ⟨hP1, hK1, hD1⟩ := hB
  rw [ht] at hP1
  exact kk u H1 locs1 hw hP1 (hD1.weaken (fun _ _ _ h => hF _ h)) hS1
end XC
theorem sw_ne {x : Int32} {k : Int} {v : Int32} (hv : v.toInt = k) (h : ¬ x = v) : x.toInt ≠ k := fun q => h (Int32.toInt_inj.mp (q.trans hv.symm))
theorem sw_out0_4 {x : Int32} (h0 : ¬ x = 0) (h1 : ¬ x = 1) (h2 : ¬ x = 2) (h3 : ¬ x = 3) (h4 : ¬ x = 4) : x.toInt < 0 ∨ 4 < x.toInt := by
  have a0 := sw_ne (k := 0) (by decide) h0
  have a1 := sw_ne (k := 1) (by decide) h1
  have a2 := sw_ne (k := 2) (by decide) h2
  have a3 := sw_ne (k := 3) (by decide) h3
  have a4 := sw_ne (k := 4) (by decide) h4
  omega
theorem sw_out2_6 {x : Int32} (h2 : ¬ x = 2) (h3 : ¬ x = 3) (h4 : ¬ x = 4) (h5 : ¬ x = 5) (h6 : ¬ x = 6) : x.toInt < 2 ∨ 6 < x.toInt := by
  have a2 := sw_ne (k := 2) (by decide) h2
  have a3 := sw_ne (k := 3) (by decide) h3
  have a4 := sw_ne (k := 4) (by decide) h4
  have a5 := sw_ne (k := 5) (by decide) h5
  have a6 := sw_ne (k := 6) (by decide) h6
  omega
