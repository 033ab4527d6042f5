/-! numbers -/
theorem lit_ (n : Nat) : (OfNat.ofNat n : Int32) = nI n := rfl
theorem vpin_n {n N : Nat} (h : n < N) (hN : N < 2 ^ 31 := by omega) : vpin_ (nI n) N = true := decide_eq_true (nI_in h hN)
theorem vpin_e {x : Int32} (n : Nat) {N : Nat} (h : n < N) (hx : x = nI n := by rfl) (hN : N < 2 ^ 31 := by omega) : vpin_ x N = true := by
  subst hx
  exact vpin_n h hN
theorem cl_ {n : Nat} (h : n < 2 ^ 31) : Int32.toNatClampNeg (nI n) = n := nI_clamp h
theorem sI_at (σ : St_) (o i : Nat) (x : Int32) (a j : Nat) : (sI_ σ o i x).1 a j = if a = o ∧ j = i then x else σ.1 a j := rfl
theorem sI_2 (σ : St_) (o i : Nat) (x : Int32) : (sI_ σ o i x).2 = σ.2 := rfl
theorem sI_row (σ : St_) (o i : Nat) (x : Int32) {a : Nat} (h : a ≠ o) : (sI_ σ o i x).1 a = σ.1 a := u2_row _ _ _ _ h
/-- a place that was searched, or none -/
def on_ (o : Option Nat) : Int32 := match o with
  | none => -1
  | some i => nI i
def idx_ (g : Nat → Nat) (v : Nat) : Nat → Nat → Option Nat
  | 0, _ => none
  | k + 1, i => if g i = v then some i else idx_ g v k (i + 1)
theorem c_placeOf {σ : St_} {q n v m : Nat} {g : Nat → Nat} (hq : KC.1 q = (14, n)) (hn : n < 2 ^ 31) (hm : m ≤ n) (hg : ∀ j, j < m → σ.1 q j = nI (g j) ∧ g j < 2 ^ 31) (hv : v < 2 ^ 31) : f_X0_placeOf KC [.int (nI v), .ref q, .int (nI m)] σ = some (some (.int (on_ (idx_ g v m 0))), σ) := by
  have loop : ∀ k i, i + k = m → Ev_ (P_X0_placeOf KC) 2 [some (.int (nI v)), some (.ref q), some (.int (nI m)), some (.int (nI i))] [] σ (some (.int (on_ (idx_ g v k i))), σ) := by
    intro k
    induction k with
    | zero =>
      intro i hi
      refine e_X0_placeOf_2 hq ?_
      exact pk_le m i (fun _ => rfl) (fun h => by omega)
    | succ k ih =>
      intro i hi
      refine e_X0_placeOf_2 hq ?_
      refine pk_le m i (fun h => by omega) (fun _ => ?_)
      refine pk_le n i (fun h => by omega) (fun _ => ⟨vpin_n (by omega), ?_⟩)
      have h1 := hg i (by omega)
      refine pk_eq (g i) v (fun h => ?_) (fun h => ?_) (by rw [cl_ (by omega)]; exact h1.1)
      · simp only [idx_, if_pos h, on_]
      · rw [nI_1]
        have := ih (i + 1) (by omega)
        simpa only [idx_, if_neg h] using this
  exact z_X0_placeOf (e_X0_placeOf_0 hq (loop m 0 (by omega)))
/-- a byte as the class holds it -/
def b8_ (t : Nat) : Int32 := (nI t).toInt8.toInt32
theorem c_hasRoom {σ : St_} {n k : Nat} (h : σ.1 1 2 = nI n) (hn : n ≤ 1040) (hk : k < 10000) : f_X8_hasRoom KC [.ref 1, .int (nI k)] σ = some (some (.int (if n + k ≤ 1040 then 1 else 0)), σ) := by
  refine z_X8_hasRoom (e_X8_hasRoom_0 ?_)
  refine pk_lt 1040 (n + k) (fun h1 => ?_) (fun h1 => ?_) rfl (by rw [h, nI_add])
  · rw [if_neg (by omega)]
  · rw [if_pos (by omega)]
/-- the k-th byte of a number, the highest first -/
def by_ (x : Int32) (s : Int32) : Int32 := (Int32.toUInt32 x >>> (Int32.toUInt32 s &&& Int32.toUInt32 31)).toInt32
theorem by_t (x s : Int32) : by_ x s &&& 255 = nI ((by_ x s &&& 255).toBitVec.toNat) ∧ (by_ x s &&& 255).toBitVec.toNat < 256 := by
  have h := pk_and (by_ x s) (m := 255) 8 (by decide)
  constructor
  · rw [h, pk_tn (by have := Nat.mod_lt (by_ x s).toBitVec.toNat (show 0 < 2 ^ 8 by decide); omega)]
  · rw [h, pk_tn (by have := Nat.mod_lt (by_ x s).toBitVec.toNat (show 0 < 2 ^ 8 by decide); omega)]
    exact Nat.mod_lt _ (by decide)
/-! frames: which rows of ints have changed -/
def fr_ (S : List Nat) (σ σ' : St_) : Prop := (∀ o, o ∉ S → σ'.1 o = σ.1 o) ∧ σ'.2 = σ.2
theorem fr_rf (S : List Nat) (σ : St_) : fr_ S σ σ := ⟨fun _ _ => rfl, rfl⟩
theorem fr_tr {S : List Nat} {σ σ' σ'' : St_} (h : fr_ S σ σ') (h2 : fr_ S σ' σ'') : fr_ S σ σ'' := ⟨fun o ho => (h2.1 o ho).trans (h.1 o ho), h2.2.trans h.2⟩
theorem fr_mono {S S' : List Nat} {σ σ' : St_} (h : fr_ S σ σ') (hs : ∀ o, o ∈ S → o ∈ S') : fr_ S' σ σ' := ⟨fun o ho => h.1 o (fun z => ho (hs o z)), h.2⟩
theorem fr_sI {S : List Nat} {σ : St_} {o i : Nat} {x : Int32} (h : o ∈ S) : fr_ S σ (sI_ σ o i x) := ⟨fun _ ha => sI_row _ _ _ _ (fun z => ha (z ▸ h)), rfl⟩
/-! the tape -/
def bN_ (x s : Int32) : Nat := (by_ x s &&& 255).toBitVec.toNat
theorem bN_lt (x s : Int32) : bN_ x s < 256 := (by_t x s).2
theorem bN_nI (x s : Int32) : by_ x s &&& 255 = nI (bN_ x s) := (by_t x s).1
theorem bN_b8 (x s : Int32) : vp_nar .byte ((by_ x s).toInt8.toInt32) = b8_ (bN_ x s) := by
  unfold b8_
  rw [pk_vb, ← bN_nI, fa_byte_low]
/-- t with v at n -/
def tu_ (t : Nat → Nat) (n v : Nat) : Nat → Nat := fun i => if i = n then v else t i
def tw_ (t : Nat → Nat) (n : Nat) (x : Int32) : Nat → Nat := tu_ (tu_ (tu_ (tu_ t n (bN_ x 24)) (n + 1) (bN_ x 16)) (n + 2) (bN_ x 8)) (n + 3) (bN_ x 0)
/-- the class's tape: n bytes t -/
def CT (σ : St_) (n : Nat) (t : Nat → Nat) : Prop := σ.1 1 2 = nI n ∧ n ≤ 1040 ∧ ∀ i, σ.1 2 i = b8_ (t i)
/-- the reference's -/
def MT (μ : St_) (n : Nat) (t : Nat → Nat) : Prop := μ.1 219 2 = nI n ∧ n ≤ 1040 ∧ ∀ i, μ.1 220 i = nI (t i)
theorem CT_put {σ : St_} {n v : Nat} {t : Nat → Nat} {x : Int32} (h : CT σ n t) (hx : x = b8_ v) (hn : n < 1040) : CT (sI_ (sI_ σ 2 n x) 1 2 (nI (n + 1))) (n + 1) (tu_ t n v) := by
  refine ⟨by simp [sI_at], by omega, fun i => ?_⟩
  simp only [sI_at]
  by_cases c : i = n
  · simp [c, tu_, hx]
  · simp [c, tu_, h.2.2 i]
theorem MT_put {μ : St_} {n v : Nat} {t : Nat → Nat} {x : Int32} (h : MT μ n t) (hx : x = nI v) (hn : n < 1040) : MT (sI_ (sI_ μ 220 n x) 219 2 (nI (n + 1))) (n + 1) (tu_ t n v) := by
  refine ⟨by simp [sI_at], by omega, fun i => ?_⟩
  simp only [sI_at]
  by_cases c : i = n
  · simp [c, tu_, hx]
  · simp [c, tu_, h.2.2 i]
theorem c_append1 {σ : St_} {n : Nat} {t : Nat → Nat} {x s s' : Int32} (h : CT σ n t) (hn : n < 1040) (hs : ¬ s < 0) (hs' : s + (-8) = s') : ∃ σ', CT σ' (n + 1) (tu_ t n (bN_ x s)) ∧ fr_ [1, 2] σ σ' ∧ (∀ f, f ≠ 2 → σ'.1 1 f = σ.1 1 f) ∧ ∀ out, Ev_ (P_X8_append KC) 3 [some (.ref 1), some (.int x), some (.int s')] [] σ' out → Ev_ (P_X8_append KC) 3 [some (.ref 1), some (.int x), some (.int s)] [] σ out := by
  refine ⟨sI_ (sI_ σ 2 n (vp_nar .byte ((by_ x s).toInt8.toInt32))) 1 2 (nI (n + 1)), CT_put h (bN_b8 x s) hn, fr_tr (fr_sI (by simp)) (fr_sI (by simp)), fun f hf => by simp [sI_at, hf], fun out k => ?_⟩
  refine e_X8_append_3 (br_f hs ?_)
  refine pk_le 1040 n (fun h1 => by omega) (fun _ => ⟨vpin_e n hn h.1, ?_⟩) rfl h.1
  have e1 : Int32.toNatClampNeg (σ.1 1 2) = n := pk_cl n h.1
  have e2 : (sI_ σ 2 (Int32.toNatClampNeg (σ.1 1 2)) (vp_nar .byte (Int32.toInt8 (Int32.toUInt32 x >>> (Int32.toUInt32 s &&& Int32.toUInt32 31)).toInt32).toInt32)).1 1 2 = nI n := by simp [sI_at, h.1]
  rw [e2, nI_1, e1, hs']
  exact k
theorem c_append {σ : St_} {n : Nat} {t : Nat → Nat} (x : Int32) (h : CT σ n t) (hn : n + 4 ≤ 1040) : ∃ σ', f_X8_append KC [.ref 1, .int x] σ = some (none, σ') ∧ CT σ' (n + 4) (tw_ t n x) ∧ fr_ [1, 2] σ σ' ∧ ∀ f, f ≠ 2 → σ'.1 1 f = σ.1 1 f := by
  obtain ⟨σ1, a1, b1, d1, k1⟩ := c_append1 (x := x) (s := 24) (s' := 16) h (by omega) (by decide) (by decide)
  obtain ⟨σ2, a2, b2, d2, k2⟩ := c_append1 (x := x) (s := 16) (s' := 8) a1 (by omega) (by decide) (by decide)
  obtain ⟨σ3, a3, b3, d3, k3⟩ := c_append1 (x := x) (s := 8) (s' := 0) a2 (by omega) (by decide) (by decide)
  obtain ⟨σ4, a4, b4, d4, k4⟩ := c_append1 (x := x) (s := 0) (s' := -8) a3 (by omega) (by decide) (by decide)
  refine ⟨σ4, z_X8_append (e_X8_append_0 (k1 _ (k2 _ (k3 _ (k4 _ (e_X8_append_3 (br_t (by decide) rfl))))))), a4, fr_tr b1 (fr_tr b2 (fr_tr b3 b4)), fun f hf => ?_⟩
  rw [d4 f hf, d3 f hf, d2 f hf, d1 f hf]
/-- twenty bytes more -/
def tf_ (t : Nat → Nat) (n : Nat) (a b c d e : Int32) : Nat → Nat := tw_ (tw_ (tw_ (tw_ (tw_ t n a) (n + 4) b) (n + 8) c) (n + 12) d) (n + 16) e
theorem c_feed {σ : St_} {n : Nat} {t : Nat → Nat} (a b c d e : Int32) (h : CT σ n t) : ∃ σ', f_X11_feed KC [.ref 0, .int a, .int b, .int c, .int d, .int e] σ = some (some (.int (if n + 20 ≤ 1040 then nI (n + 20) else -1)), σ') ∧ (if n + 20 ≤ 1040 then CT σ' (n + 20) (tf_ t n a b c d e) else CT σ' n t) ∧ fr_ [1, 2] σ σ' ∧ ∀ f, f ≠ 2 → σ'.1 1 f = σ.1 1 f := by
  have hr := c_hasRoom (k := 20) h.1 h.2.1 (by omega)
  by_cases hn : n + 20 ≤ 1040
  · rw [if_pos hn] at hr ⊢
    obtain ⟨σ1, f1, a1, b1, d1⟩ := c_append a h (by omega)
    obtain ⟨σ2, f2, a2, b2, d2⟩ := c_append b a1 (by omega)
    obtain ⟨σ3, f3, a3, b3, d3⟩ := c_append c a2 (by omega)
    obtain ⟨σ4, f4, a4, b4, d4⟩ := c_append d a3 (by omega)
    obtain ⟨σ5, f5, a5, b5, d5⟩ := c_append e a4 (by omega)
    refine ⟨σ5, z_X11_feed (e_X11_feed_0 ⟨1, σ, hr, br_f (by decide) ⟨σ1, f1, σ2, f2, σ3, f3, σ4, f4, σ5, f5, ?_⟩⟩), ?_, fr_tr b1 (fr_tr b2 (fr_tr b3 (fr_tr b4 b5))), fun f hf => ?_⟩
    · rw [a5.1]
    · rw [if_pos hn]
      exact a5
    · rw [d5 f hf, d4 f hf, d3 f hf, d2 f hf, d1 f hf]
  · rw [if_neg hn] at hr ⊢
    refine ⟨σ, z_X11_feed (e_X11_feed_0 ⟨0, σ, hr, br_t rfl rfl⟩), ?_, fr_rf _ _, fun _ _ => rfl⟩
    rw [if_neg hn]
    exact h
theorem m_come1 {μ : St_} {n : Nat} {t : Nat → Nat} {x s s' : Int32} (h : MT μ n t) (hn : n < 1040) (hs : ¬ s < 0) (hs' : s + (-8) = s') : ∃ μ', MT μ' (n + 1) (tu_ t n (bN_ x s)) ∧ fr_ [219, 220] μ μ' ∧ (∀ f, f ≠ 2 → μ'.1 219 f = μ.1 219 f) ∧ ∀ out, Ev_ (P_X12_come KC) 3 [some (.ref 219), some (.int x), some (.int s')] [] μ' out → Ev_ (P_X12_come KC) 3 [some (.ref 219), some (.int x), some (.int s)] [] μ out := by
  refine ⟨sI_ (sI_ μ 220 n (by_ x s &&& 255)) 219 2 (nI (n + 1)), MT_put h (bN_nI x s) hn, fr_tr (fr_sI (by simp)) (fr_sI (by simp)), fun f hf => by simp [sI_at, hf], fun out k => ?_⟩
  refine e_X12_come_3 (br_f hs ⟨vpin_e n hn h.1, ?_⟩)
  have e1 : Int32.toNatClampNeg (μ.1 219 2) = n := pk_cl n h.1
  have e2 : (sI_ μ 220 (Int32.toNatClampNeg (μ.1 219 2)) ((Int32.toUInt32 x >>> (Int32.toUInt32 s &&& Int32.toUInt32 31)).toInt32 &&& (255 : Int32))).1 219 2 = nI n := by simp [sI_at, h.1]
  rw [e2, nI_1, e1, hs']
  exact k
theorem m_come {μ : St_} {n : Nat} {t : Nat → Nat} (x : Int32) (h : MT μ n t) (hn : n + 4 ≤ 1040) : ∃ μ', f_X12_come KC [.ref 219, .int x] μ = some (none, μ') ∧ MT μ' (n + 4) (tw_ t n x) ∧ fr_ [219, 220] μ μ' ∧ ∀ f, f ≠ 2 → μ'.1 219 f = μ.1 219 f := by
  obtain ⟨σ1, a1, b1, d1, k1⟩ := m_come1 (x := x) (s := 24) (s' := 16) h (by omega) (by decide) (by decide)
  obtain ⟨σ2, a2, b2, d2, k2⟩ := m_come1 (x := x) (s := 16) (s' := 8) a1 (by omega) (by decide) (by decide)
  obtain ⟨σ3, a3, b3, d3, k3⟩ := m_come1 (x := x) (s := 8) (s' := 0) a2 (by omega) (by decide) (by decide)
  obtain ⟨σ4, a4, b4, d4, k4⟩ := m_come1 (x := x) (s := 0) (s' := -8) a3 (by omega) (by decide) (by decide)
  refine ⟨σ4, z_X12_come (e_X12_come_0 (k1 _ (k2 _ (k3 _ (k4 _ (e_X12_come_3 (br_t (by decide) rfl))))))), a4, fr_tr b1 (fr_tr b2 (fr_tr b3 b4)), fun f hf => ?_⟩
  rw [d4 f hf, d3 f hf, d2 f hf, d1 f hf]
theorem MT_thrown {μ : St_} {n : Nat} {t : Nat → Nat} (h : MT μ n t) (x : Int32) : MT (sI_ μ 219 0 x) n t := ⟨by simp [sI_at, h.1], h.2.1, fun i => by simp [sI_at, h.2.2 i]⟩
theorem m_feed {μ : St_} {n : Nat} {t : Nat → Nat} (a b c d e : Int32) (h : MT μ n t) : ∃ μ', f_X12_feed KC [.ref 219, .int a, .int b, .int c, .int d, .int e] μ = some (some (.int (if n + 20 ≤ 1040 then nI (n + 20) else -1)), μ') ∧ (if n + 20 ≤ 1040 then MT μ' (n + 20) (tf_ t n a b c d e) else MT μ' n t) ∧ fr_ [219, 220] μ μ' ∧ ∀ f, f ≠ 2 → f ≠ 0 → μ'.1 219 f = μ.1 219 f := by
  have h0 := MT_thrown h 0
  have hb := h.2.1
  have e0 : (sI_ μ 219 0 (0 : Int32)).1 219 2 + 20 = nI (n + 20) := by rw [h0.1]; exact nI_add n 20
  by_cases hn : n + 20 ≤ 1040
  · obtain ⟨σ1, f1, a1, b1, d1⟩ := m_come a h0 (by omega)
    obtain ⟨σ2, f2, a2, b2, d2⟩ := m_come b a1 (by omega)
    obtain ⟨σ3, f3, a3, b3, d3⟩ := m_come c a2 (by omega)
    obtain ⟨σ4, f4, a4, b4, d4⟩ := m_come d a3 (by omega)
    obtain ⟨σ5, f5, a5, b5, d5⟩ := m_come e a4 (by omega)
    refine ⟨σ5, z_X12_feed (e_X12_feed_0 (pk_le (n + 20) 1040 (fun _ => ⟨σ1, f1, σ2, f2, σ3, f3, σ4, f4, σ5, f5, ?_⟩) (fun z => by omega) e0)), ?_, fr_tr (fr_sI (by simp)) (fr_tr b1 (fr_tr b2 (fr_tr b3 (fr_tr b4 b5)))), fun f hf hf0 => ?_⟩
    · rw [a5.1, if_pos hn]
    · rw [if_pos hn]
      exact a5
    · rw [d5 f hf, d4 f hf, d3 f hf, d2 f hf, d1 f hf]
      simp [sI_at, hf0]
  · refine ⟨sI_ μ 219 0 0, z_X12_feed (e_X12_feed_0 (pk_le (n + 20) 1040 (fun z => by omega) (fun _ => ?_) e0)), ?_, fr_sI (by simp), fun f hf hf0 => by simp [sI_at, hf0]⟩
    · rw [if_neg hn]
    · rw [if_neg hn]
      exact h0
