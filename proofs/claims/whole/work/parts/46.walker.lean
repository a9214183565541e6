/-! PURE 7: the walker over lines, and the lines of a text: bO, eO, dO, sO, lO: where line i begins, ends, its depth, signed, led -/
def sgF (t : Nat → Int32) (n b : Nat) (sp : Bool) : Bool := decide (depthF t n b = 0) && (sp || mkF t b (lineEnd t n b))
def leF (t : Nat → Int32) (n b : Nat) : Bool := ldF t n b (lineEnd t n b) && decide (0 < depthF t n (lineEnd t n b + 1))
theorem depthF_le (t : Nat → Int32) (n k : Nat) : depthF t n k ≤ n - k := dP_le t n (n - k) k
theorem kx_adv_led {post : Int32 → Int32 → Int32 → Int32 → Int32 → Int32 → Prop} {t : Nat → Int32} {n b d : Nat} {s : Bool} {x : Int32} (hn : n ≤ 1500) (hb : b ≤ n) (hL : lineAt t n b (lineEnd t n b)) (h : post 1 (nI b) (nI (lineEnd t n b)) (nI d) (b2i s) (b2i (leF t n b))) : ∀ y : Int32, wjX2_advance_118 post (nI n) t (nI b) (nI (lineEnd t n b)) (nI d) y x (b2i s) := by
  intro y
  obtain ⟨l1, l2, -, -⟩ := hL
  refine ⟨b2i_bN s, kx_leads hn l1 l2 (b_ifz (fun z => ?_) (fun z => ?_))⟩
  · rw [leF, z] at h
    exact ⟨bN0, h⟩
  · rw [leF, z, Bool.true_and] at h
    rw [nI_1]
    refine kx_depth hn (by omega) ?_
    have hq : nI (depthF t n (lineEnd t n b + 1)) ≤ 0 ↔ depthF t n (lineEnd t n b + 1) ≤ 0 := by
      rw [← nI_0, nI_leI (by have := depthF_le t n (lineEnd t n b + 1); omega) (by omega)]
    rw [hq]
    refine ⟨fun q => ?_, fun q => ?_⟩
    · rw [decide_eq_false (by omega)] at h; exact ⟨bN0, h⟩
    · rw [decide_eq_true (by omega)] at h; exact ⟨bN1, h⟩
theorem kx_adv_79 {post : Int32 → Int32 → Int32 → Int32 → Int32 → Int32 → Prop} {t : Nat → Int32} {n b : Nat} {sp : Bool} {x y : Int32} (hn : n ≤ 1500) (hb : b ≤ n) (hL : lineAt t n b (lineEnd t n b)) (h : post 1 (nI b) (nI (lineEnd t n b)) (nI (depthF t n b)) (b2i (sgF t n b sp)) (b2i (leF t n b))) : wjX2_advance_79 post (nI n) t (nI b) (nI (lineEnd t n b)) y (b2i sp) x := by
  refine kx_depth hn (by omega) ?_
  have hq : nI (depthF t n b) = 0 ↔ depthF t n b = 0 := by
    rw [← nI_0, nI_eq (by have := depthF_le t n b; omega) (by omega)]
  rw [hq]
  have yes : sgF t n b sp = true → wjX2_advance_113 post (nI n) t (nI b) (nI (lineEnd t n b)) (nI (depthF t n b)) (b2i sp) x := fun z => by
    rw [z] at h; exact kx_adv_led (s := true) hn hb hL h _
  have no : sgF t n b sp = false → wjX2_advance_117 post (nI n) t (nI b) (nI (lineEnd t n b)) (nI (depthF t n b)) (b2i sp) x := fun z => by
    rw [z] at h; exact kx_adv_led (s := false) hn hb hL h _
  refine ⟨fun q => no (by rw [sgF, decide_eq_false q]; rfl), fun q => b_if (fun z => yes (by rw [sgF, decide_eq_true q, z]; rfl)) (fun z => kx_mark hn hL (b_ifz (fun z2 => no (by rw [sgF, z, z2]; simp)) (fun z2 => yes (by rw [sgF, decide_eq_true q, z, z2]; rfl))))⟩
theorem kx_adv_loop {post : Int32 → Int32 → Int32 → Int32 → Int32 → Int32 → Prop} {t : Nat → Int32} {n : Nat} {b d s l : Int32} (hn : n ≤ 1500) : ∀ (f k : Nat), n - k ≤ f → k ≤ n → wjX2_advance_79 post (nI n) t b (nI (lE t n f k)) d s l → wlX2_advance_36 post (nI n) t b d s l (f + 1) (nI k) := by
  intro f
  induction f with
  | zero => intro k h1 h2 h; exact ⟨fun _ => h, fun q => absurd (nI_le (by omega) (by omega)) q⟩
  | succ f ih =>
    intro k h1 h2 h
    refine ⟨fun q => ?_, fun q => kx_get hn (by omega) ?_⟩
    · rw [nI_leI (by omega) (by omega)] at q
      rw [lE, if_neg (by omega)] at h; exact h
    · rw [nI_leI (by omega) (by omega)] at q
      rw [gF_lt (by omega)]
      rw [lE] at h
      refine ⟨fun q2 => ?_, fun q2 x ex => ?_⟩
      · rw [if_neg (fun z => z.2 q2)] at h; exact h
      · rw [if_pos ⟨by omega, q2⟩] at h
        rw [ex, nI_1]
        exact ih (k + 1) (by omega) (by omega) h
theorem kx_advance {post : Int32 → Int32 → Int32 → Int32 → Int32 → Int32 → Prop} {t : Nat → Int32} {n b : Nat} {sp : Bool} {wb we wd wl : Int32} (hn : n ≤ 1500) (he : we + 1 = nI b) (hL : b < n → lineAt t n b (lineEnd t n b)) (hb : b ≤ 1501)
    (h1 : b < n → post 1 (nI b) (nI (lineEnd t n b)) (nI (depthF t n b)) (b2i (sgF t n b sp)) (b2i (leF t n b))) (h0 : ¬ b < n → post 0 wb we wd (b2i sp) wl) : wpX2_advance post wb we wd (b2i sp) wl (nI n) t := by
  refine ⟨fun q => ?_, fun q => ?_⟩
  · rw [he, nI_ltI (by omega) (by omega)] at q
    intro x ex
    rw [he] at ex
    subst ex
    exact ⟨_, kx_adv_loop hn (n - b) b (Nat.le_refl _) (by omega) (kx_adv_79 hn (by omega) (hL q) (h1 q))⟩
  · rw [he, nI_ltI (by omega) (by omega)] at q
    exact h0 q
def bO (t : Nat → Int32) (n : Nat) : Nat → Nat
  | 0 => 0
  | i + 1 => lineEnd t n (bO t n i) + 1
def eO (t : Nat → Int32) (n i : Nat) : Nat := lineEnd t n (bO t n i)
def dO (t : Nat → Int32) (n i : Nat) : Nat := depthF t n (bO t n i)
/-- signed, ahead of line i -/
def sO (t : Nat → Int32) (n : Nat) : Nat → Bool
  | 0 => false
  | i + 1 => sgF t n (bO t n i) (sO t n i)
def lO (t : Nat → Int32) (n i : Nat) : Bool := leF t n (bO t n i)
theorem bO_line {t : Nat → Int32} {n : Nat} : ∀ i, bO t n i < n → lineAt t n (bO t n i) (eO t n i) := by
  intro i h
  obtain ⟨h1, h2, h3, -⟩ := lineEnd_spec (t := t) (Nat.le_of_lt h)
  refine ⟨h1, h2, h3, fun hp => ?_⟩
  cases i with
  | zero => exact absurd hp (by show ¬ 0 < 0; omega)
  | succ i =>
    have hq : lineEnd t n (bO t n i) < n := by
      have : lineEnd t n (bO t n i) + 1 < n := h
      omega
    rcases Nat.lt_or_ge n (bO t n i) with z | z
    · have : lineEnd t n (bO t n i) = bO t n i := by rw [lineEnd, show n - bO t n i = 0 by omega]; rfl
      omega
    · exact (lineEnd_spec (t := t) z).2.2.1 hq
theorem bO_ge {t : Nat → Int32} {n : Nat} : ∀ i, (∀ j, j < i → bO t n j < n) → i ≤ bO t n i ∧ bO t n i ≤ n + 1 := by
  intro i
  induction i with
  | zero => intro _; exact ⟨Nat.le_refl _, by show 0 ≤ n + 1; omega⟩
  | succ i ih =>
    intro h
    have hi := h i (Nat.lt_succ_self i)
    have := ih (fun j hj => h j (by omega))
    obtain ⟨h1, h2, -, -⟩ := lineEnd_spec (t := t) (Nat.le_of_lt hi)
    show i + 1 ≤ lineEnd t n (bO t n i) + 1 ∧ lineEnd t n (bO t n i) + 1 ≤ n + 1
    omega
/-- L is how many lines there are -/
def cntL (t : Nat → Int32) (n L : Nat) : Prop := n ≤ bO t n L ∧ ∀ i, i < L → bO t n i < n
theorem cntL_ex (t : Nat → Int32) (n : Nat) : ∃ L, cntL t n L := by
  rcases Classical.em (∃ L, n ≤ bO t n L) with h | h
  · obtain ⟨L, h1, h2⟩ := pk_least _ h
    exact ⟨L, h1, fun i hi => Nat.lt_of_not_le (h2 i hi)⟩
  · have q : ∀ j, bO t n j < n := fun j => Nat.lt_of_not_le (fun z => h ⟨j, z⟩)
    have := (bO_ge (t := t) (n := n) n (fun j _ => q j)).1
    exact absurd (q n) (by omega)
theorem cntL_le {t : Nat → Int32} {n L : Nat} (h : cntL t n L) : L ≤ n := by
  cases L with
  | zero => omega
  | succ L =>
    have h1 := (bO_ge (t := t) (n := n) L (fun j hj => h.2 j (by omega))).1
    have h2 := h.2 L (Nat.lt_succ_self L)
    omega
