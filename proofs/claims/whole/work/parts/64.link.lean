/-! PURE 25: one link of a step's chain (class) -/
theorem kx_link {post : Int32 → Int32 → (Nat → Int32) → (Nat → Int32) → Prop} {N : Int32 → (Nat → Int32) → (Nat → Int32) → Prop} {i j a : Nat} {f v : Nat → Int32} {w : List Int32} (hi : i < nS) (hj : j < nS) (ha : a ≤ 5) (hw : w.length ≤ 30) (hr : (sB j).length ≤ (sB i).length) (hf : rW f w) (hv : rV v w)
    (hN : sfx w (sB i) = false → N (nI w.length) f v) (hY : sfx w (sB i) = true → ∀ f' v', rW f' (tryF w (sB i) (sB j) a) → rV v' (tryF w (sB i) (sB j) a) → post 1 (nI (tryF w (sB i) (sB j) a).length) f' v') :
    wpX4_tries (fun r s f v => ((¬ r = 0 → post 1 s f v) ∧ (r = 0 → N s f v))) (nI w.length) f v i j (nI a) :=
  kx_tries hi hj ha hw hr hf hv (fun z => ⟨fun q => absurd rfl q, fun _ => hN z⟩) (fun z f' v' h1 h2 => ⟨fun _ => hY z f' v' h1 h2, fun q => absurd q (by decide)⟩)
/-- the last link -/
theorem kx_linkZ {post : Int32 → Int32 → (Nat → Int32) → (Nat → Int32) → Prop} {i j a : Nat} {f v : Nat → Int32} {w : List Int32} (hi : i < nS) (hj : j < nS) (ha : a ≤ 5) (hw : w.length ≤ 30) (hr : (sB j).length ≤ (sB i).length) (hf : rW f w) (hv : rV v w)
    (hN : sfx w (sB i) = false → post 0 (nI w.length) f v) (hY : sfx w (sB i) = true → ∀ f' v', rW f' (tryF w (sB i) (sB j) a) → rV v' (tryF w (sB i) (sB j) a) → post 1 (nI (tryF w (sB i) (sB j) a).length) f' v') :
    wpX4_tries (fun r s f v => ((r = 0 → post 0 s f v) ∧ (¬ r = 0 → post 1 s f v))) (nI w.length) f v i j (nI a) :=
  kx_tries hi hj ha hw hr hf hv (fun z => ⟨fun _ => hN z, fun q => absurd rfl q⟩) (fun z f' v' h1 h2 => ⟨fun q => absurd q (by decide), fun _ => hY z f' v' h1 h2⟩)
