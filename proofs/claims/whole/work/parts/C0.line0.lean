/-! LINES -/
def b0_ (B : Nat → Nat → Nat) (j v : Nat) : Nat → Nat → Nat := fun i k => if i = 0 ∧ k = j then v else B i k
theorem b0_n {B : Nat → Nat → Nat} {j v i : Nat} (h : i ≠ 0) (k : Nat) : b0_ B j v i k = B i k := if_neg (fun z => h z.1)
theorem b0_k {B : Nat → Nat → Nat} {j v k : Nat} (h : k ≠ j) : b0_ B j v 0 k = B 0 k := if_neg (fun z => h z.2)
theorem b0_j {B : Nat → Nat → Nat} {j v : Nat} : b0_ B j v 0 j = v := if_pos ⟨rfl, rfl⟩
theorem BO_0 {B : Nat → Nat → Nat} {j v : Nat} (hO : BO_ B) (hj : (j = 2 ∧ 1 ≤ v ∧ v ≤ 99) ∨ (j = 3 ∧ v ≤ 10)) : BO_ (b0_ B j v) := by
  obtain ⟨⟨a1, a2, a3, a4, a5⟩, h2, h3⟩ := hO
  refine ⟨?_, fun c hc => ?_, fun r hr => ?_⟩
  · rcases hj with ⟨rfl, h⟩ | ⟨rfl, h⟩
    · exact ⟨by rw [b0_k (by omega)]; exact a1, by rw [b0_k (by omega)]; exact a2, by rw [b0_j]; exact h.1, by rw [b0_j]; exact h.2, by rw [b0_k (by omega)]; exact a5⟩
    · exact ⟨by rw [b0_k (by omega)]; exact a1, by rw [b0_k (by omega)]; exact a2, by rw [b0_k (by omega)]; exact a3, by rw [b0_k (by omega)]; exact a4, by rw [b0_j]; exact h⟩
  · rw [b0_k (by omega)] at hc
    obtain ⟨q1, q2, q3, q4, q5, q6⟩ := h2 c hc
    rw [b0_n (by omega), b0_n (by omega), b0_n (by omega), b0_n (by omega)]
    exact ⟨q1, q2, q3, q4, fun d hd => by rw [b0_n (by omega)]; exact q5 d hd, by rw [fb_sm_cong (fun k _ => b0_n (by omega) k)]; exact q6⟩
  · rw [b0_k (by omega)] at hr
    rw [b0_n (by omega), b0_n (by omega), b0_n (by omega), b0_n (by omega), b0_n (by omega), b0_n (by omega)]
    exact h3 r hr
theorem CB_0 {σ : St_} {b : Nat} {B : Nat → Nat → Nat} {v : Nat} (hb : isB b) (h : CB_ σ b B) : CB_ (sI_ σ b 14 (nI v)) b (b0_ B 2 v) ∧ CB_ (sI_ σ b 15 (nI v)) b (b0_ B 3 v) := by
  have hb1 := isB_ge hb
  obtain ⟨⟨a1, a2, a3, a4⟩, h2, h3⟩ := h
  have hr : ∀ (f : Nat) (o i : Nat), o ≠ b → (sI_ σ b f (nI v)).1 o i = σ.1 o i := fun f o i ho => by rw [sI_row _ _ _ _ ho]
  have hf : ∀ (f i : Nat), i ≠ f → (sI_ σ b f (nI v)).1 b i = σ.1 b i := fun f i hi => by rw [sI_at, if_neg (fun z => hi z.2)]
  have hg : ∀ f, (sI_ σ b f (nI v)).1 b f = nI v := fun f => by rw [sI_at, if_pos ⟨rfl, rfl⟩]
  have hc : ∀ f j, j ≠ 0 → j ≠ 1 → ∀ c, c < b0_ B j v 0 0 → (sI_ σ b f (nI v)).1 (b + 1) c = nI (b0_ B j v 9 c) ∧ (sI_ σ b f (nI v)).1 (b + 2) c = nI (b0_ B j v 1 c) ∧ (sI_ σ b f (nI v)).1 (b + 3) c = nI (b0_ B j v 2 c) ∧ (sI_ σ b f (nI v)).1 (b + 4) c = nI (b0_ B j v 3 c) ∧ ∀ d, d < 16 → (sI_ σ b f (nI v)).1 (b + 6 + c) d = nI (b0_ B j v (16 + c) d) := by
    intro f j j0 j1 c hcc
    rw [b0_k (by omega)] at hcc
    rw [hr _ _ _ (by omega), hr _ _ _ (by omega), hr _ _ _ (by omega), hr _ _ _ (by omega), b0_n (by omega), b0_n (by omega), b0_n (by omega), b0_n (by omega)]
    obtain ⟨e1, e2, e3, e4, e5⟩ := h2 c hcc
    exact ⟨e1, e2, e3, e4, fun d hd => by rw [hr _ _ _ (by omega), b0_n (by omega)]; exact e5 d hd⟩
  have hd : ∀ f j, j ≠ 0 → j ≠ 1 → ∀ r, r < b0_ B j v 0 1 → (sI_ σ b f (nI v)).1 (b + 22) r = nI (b0_ B j v 10 r) ∧ (sI_ σ b f (nI v)).1 (b + 23) r = nI (b0_ B j v 4 r) ∧ (sI_ σ b f (nI v)).1 (b + 24) r = nI (b0_ B j v 5 r) ∧ (sI_ σ b f (nI v)).1 (b + 25) r = nI (b0_ B j v 6 r) ∧ (sI_ σ b f (nI v)).1 (b + 26) r = nI (b0_ B j v 7 r) ∧ (sI_ σ b f (nI v)).1 (b + 27) r = nI (b0_ B j v 8 r) := by
    intro f j j0 j1 r hrr
    rw [b0_k (by omega)] at hrr
    rw [hr _ _ _ (by omega), hr _ _ _ (by omega), hr _ _ _ (by omega), hr _ _ _ (by omega), hr _ _ _ (by omega), hr _ _ _ (by omega), b0_n (by omega), b0_n (by omega), b0_n (by omega), b0_n (by omega), b0_n (by omega), b0_n (by omega)]
    exact h3 r hrr
  refine ⟨⟨⟨?_, ?_, ?_, ?_⟩, hc 14 2 (by omega) (by omega), hd 14 2 (by omega) (by omega)⟩, ⟨⟨?_, ?_, ?_, ?_⟩, hc 15 3 (by omega) (by omega), hd 15 3 (by omega) (by omega)⟩⟩
  · rw [hf _ _ (by omega), b0_k (by omega)]; exact a1
  · rw [hf _ _ (by omega), b0_k (by omega)]; exact a2
  · rw [hg, b0_j]
  · rw [hf _ _ (by omega), b0_k (by omega)]; exact a4
  · rw [hf _ _ (by omega), b0_k (by omega)]; exact a1
  · rw [hf _ _ (by omega), b0_k (by omega)]; exact a2
  · rw [hf _ _ (by omega), b0_k (by omega)]; exact a3
  · rw [hg, b0_j]
theorem MB_0 {μ : St_} {B : Nat → Nat → Nat} {j v : Nat} (hj : j = 2 ∨ j = 3) (hO : BO_ B) (h : MB_ μ 222 0 225 0 B) : MB_ (sI_ μ 222 j (nI v)) 222 0 225 0 (b0_ B j v) := by
  obtain ⟨⟨a1, a2, a3, a4⟩, h2, h3⟩ := h
  simp only [Nat.zero_add] at a1 a2 a3 a4 h2 h3
  have hf : ∀ i, i ≠ j → (sI_ μ 222 j (nI v)).1 222 i = μ.1 222 i := fun i hi => by rw [sI_at, if_neg (fun z => hi z.2)]
  refine ⟨?_, fun c hc => ?_, fun r hr => ?_⟩
  · simp only [Nat.zero_add]
    refine ⟨by rw [hf _ (by omega), b0_k (by omega)]; exact a1, by rw [hf _ (by omega), b0_k (by omega)]; exact a2, ?_, ?_⟩
    · rcases hj with rfl | rfl
      · rw [sI_at, if_pos ⟨rfl, rfl⟩, b0_j]
      · rw [hf _ (by omega), b0_k (by omega)]; exact a3
    · rcases hj with rfl | rfl
      · rw [hf _ (by omega), b0_k (by omega)]; exact a4
      · rw [sI_at, if_pos ⟨rfl, rfl⟩, b0_j]
  · rw [b0_k (by omega)] at hc
    simp only [Nat.zero_add]
    obtain ⟨e1, e2, e3, e4, e5⟩ := h2 c hc
    rw [hf _ (by omega), hf _ (by omega), hf _ (by omega), b0_n (by omega), b0_n (by omega), b0_n (by omega), b0_n (by omega)]
    exact ⟨e1, e2, e3, e4, fun d hd => by rw [hf _ (by omega), b0_n (by omega)]; exact e5 d hd⟩
  · rw [b0_k (by omega)] at hr
    simp only [Nat.zero_add]
    obtain ⟨e1, e2, e3, e4, e5, e6⟩ := h3 r hr
    rw [hf _ (by omega), hf _ (by omega), hf _ (by omega), hf _ (by omega), hf _ (by omega), b0_n (by omega), b0_n (by omega), b0_n (by omega), b0_n (by omega), b0_n (by omega), b0_n (by omega)]
    exact ⟨e1, e2, e3, e4, e5, e6⟩
/-- which WORD a LINE begins with -/
theorem rl_go {n κ pl e c : Nat} {μ : St_} {out : Out_} (w : Nat) (hT : TO_ n κ pl e c) (hM : TM_ μ κ pl e c) (hw : w ≤ 4) (h1 : ∀ j, j < w → κ ≠ kk_ j) (h2 : w < 4 → κ = kk_ w) (h : Ev_ (P_X12_readLine KC) 21 [some (.ref 219), some (.int (nI w))] [] μ out) : f_X12_readLine KC [.ref 219] μ = some out := by
  have loop : ∀ k i, i + k = w → Ev_ (P_X12_readLine KC) 2 [some (.ref 219), some (.int (nI i))] [] μ out := by
    intro k
    induction k with
    | zero =>
      intro i hi
      obtain rfl : i = w := by omega
      refine e_X12_readLine_2 (pk_lt 3 i (fun _ => h) (fun z => ?_))
      have := m_isWord (k := i) hT hM (by omega)
      rw [if_pos (h2 (by omega))] at this
      exact ⟨1, μ, this, br_f (by decide) h⟩
    | succ k ih =>
      intro i hi
      refine e_X12_readLine_2 (pk_lt 3 i (fun z => by omega) (fun z => ?_))
      have := m_isWord (k := i) hT hM (by omega)
      rw [if_neg (h1 i (by omega))] at this
      refine ⟨0, μ, this, br_t rfl ?_⟩
      rw [nI_1]
      exact ih (i + 1) (by omega)
  exact z_X12_readLine (e_X12_readLine_0 (loop w 0 (by omega)))
/-- bits of what was told: 4 'speed', 8 'again' -/
def hd_ (hs ha : Nat) : Nat := 4 * hs + 8 * ha
theorem has_all : ∀ (hs ha : Fin 2), ((nI (hd_ hs.val ha.val) >>> ((2 : Int32) &&& 31)) &&& (1 : Int32) = 1 ↔ hs.val = 1) ∧ ((nI (hd_ hs.val ha.val) >>> ((3 : Int32) &&& 31)) &&& (1 : Int32) = 1 ↔ ha.val = 1) ∧ (hs.val = 0 → nI (hd_ hs.val ha.val) ||| ((1 : Int32) <<< ((2 : Int32) &&& 31)) = nI (hd_ 1 ha.val)) ∧ (ha.val = 0 → nI (hd_ hs.val ha.val) ||| ((1 : Int32) <<< ((3 : Int32) &&& 31)) = nI (hd_ hs.val 1)) := by decide +kernel
theorem m_has {x y : Int32} {p : Prop} [Decidable p] (h : (x >>> (y &&& 31)) &&& (1 : Int32) = 1 ↔ p) (σ : St_) : f_X12_has KC [.int x, .int y] σ = some (some (.int (if p then 1 else 0)), σ) := by
  refine z_X12_has (e_X12_has_0 (ek_if h (fun z => ?_) (fun z => ?_)))
  · rw [if_pos z]
  · rw [if_neg z]
