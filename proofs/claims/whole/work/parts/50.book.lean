/-! a BOOK: B 0 0 CHAPS, B 0 1 READERS, B 0 2 speed, B 0 3 again; of CHAP c: B 9 c name, B 1 c PAGES, B 2 c WORTH, B 3 c must, B (16 + c) d leaning; of READER r: B 10 r name, B 4 r PACE, B 5 r TELL, B 6 r KEEP, B 7 r TIME, B 8 r skips -/
def CB_ (σ : St_) (b : Nat) (B : Nat → Nat → Nat) : Prop :=
  (σ.1 b 11 = nI (B 0 0) ∧ σ.1 b 12 = nI (B 0 1) ∧ σ.1 b 14 = nI (B 0 2) ∧ σ.1 b 15 = nI (B 0 3)) ∧
  (∀ c, c < B 0 0 → σ.1 (b + 1) c = nI (B 9 c) ∧ σ.1 (b + 2) c = nI (B 1 c) ∧ σ.1 (b + 3) c = nI (B 2 c) ∧ σ.1 (b + 4) c = nI (B 3 c) ∧ ∀ d, d < 16 → σ.1 (b + 6 + c) d = nI (B (16 + c) d)) ∧
  (∀ r, r < B 0 1 → σ.1 (b + 22) r = nI (B 10 r) ∧ σ.1 (b + 23) r = nI (B 4 r) ∧ σ.1 (b + 24) r = nI (B 5 r) ∧ σ.1 (b + 25) r = nI (B 6 r) ∧ σ.1 (b + 26) r = nI (B 7 r) ∧ σ.1 (b + 27) r = nI (B 8 r))
/-- the reference's: in the row a from o on, the names in the row na from no on -/
def MB_ (μ : St_) (a o na no : Nat) (B : Nat → Nat → Nat) : Prop :=
  (μ.1 a o = nI (B 0 0) ∧ μ.1 a (o + 1) = nI (B 0 1) ∧ μ.1 a (o + 2) = nI (B 0 2) ∧ μ.1 a (o + 3) = nI (B 0 3)) ∧
  (∀ c, c < B 0 0 → μ.2.1 na (no + c) = lN (cm_ (B 9 c)) ∧ μ.1 a (o + (10 + 4 * c)) = nI (B 1 c) ∧ μ.1 a (o + (10 + 4 * c + 1)) = nI (B 2 c) ∧ μ.1 a (o + (10 + 4 * c + 2)) = nI (B 3 c) ∧ ∀ d, d < 16 → μ.1 a (o + (130 + 16 * c + d)) = nI (B (16 + c) d)) ∧
  (∀ r, r < B 0 1 → μ.2.1 na (no + (16 + r)) = lN (cm_ (B 10 r)) ∧ μ.1 a (o + (80 + 5 * r)) = nI (B 4 r) ∧ μ.1 a (o + (80 + 5 * r + 1)) = nI (B 5 r) ∧ μ.1 a (o + (80 + 5 * r + 2)) = nI (B 6 r) ∧ μ.1 a (o + (80 + 5 * r + 3)) = nI (B 7 r) ∧ μ.1 a (o + (80 + 5 * r + 4)) = nI (B 8 r))
/-- what always holds of a BOOK -/
def BO_ (B : Nat → Nat → Nat) : Prop := (B 0 0 ≤ 16 ∧ B 0 1 ≤ 9 ∧ 1 ≤ B 0 2 ∧ B 0 2 ≤ 99 ∧ B 0 3 ≤ 10) ∧
  (∀ c, c < B 0 0 → okc_ (B 9 c) ∧ (1 ≤ B 1 c ∧ B 1 c ≤ 999) ∧ B 2 c ≤ 999 ∧ B 3 c ≤ 1 ∧ (∀ d, d < 16 → B (16 + c) d ≤ 10 ∧ (c ≤ d → B (16 + c) d = 0)) ∧ fb_sm (B (16 + c)) 16 ≤ 10) ∧
  (∀ r, r < B 0 1 → okc_ (B 10 r) ∧ (1 ≤ B 4 r ∧ B 4 r ≤ 99) ∧ B 5 r ≤ 10 ∧ B 6 r ≤ 10 ∧ B 7 r ≤ 240 ∧ B 8 r ≤ 10)
theorem c_chapNamed {σ : St_} {b : Nat} {B : Nat → Nat → Nat} {v : Nat} (hb : isB b) (hC : CB_ σ b B) (hO : BO_ B) (hv : v < 2 ^ 31) : f_X0_chapNamed KC [.ref b, .int (nI v)] σ = some (some (.int (on_ (idx_ (B 9) v (B 0 0) 0))), σ) := by
  refine z_X0_chapNamed (e_X0_chapNamed_0 hb ⟨_, σ, ?_, rfl⟩)
  rw [hC.1.1]
  exact c_placeOf (kb_k0 hb) (by omega) hO.1.1 (fun j hj => ⟨(hC.2.1 j hj).1, by have := okc_lt (hO.2.1 j hj).1; omega⟩) hv
theorem c_readerNamed {σ : St_} {b : Nat} {B : Nat → Nat → Nat} {v : Nat} (hb : isB b) (hC : CB_ σ b B) (hO : BO_ B) (hv : v < 2 ^ 31) : f_X0_readerNamed KC [.ref b, .int (nI v)] σ = some (some (.int (on_ (idx_ (B 10) v (B 0 1) 0))), σ) := by
  refine z_X0_readerNamed (e_X0_readerNamed_0 hb ⟨_, σ, ?_, rfl⟩)
  rw [hC.1.2.1]
  exact c_placeOf (kb_k5 hb) (by omega) hO.1.2.1 (fun j hj => ⟨(hC.2.2 j hj).1, by have := okc_lt (hO.2.2 j hj).1; omega⟩) hv
theorem idx_lt {g : Nat → Nat} {v : Nat} : ∀ (k i j : Nat), idx_ g v k i = some j → i ≤ j ∧ j < i + k ∧ g j = v
  | 0, _, _, h => by cases h
  | k + 1, i, j, h => by
    rw [idx_] at h
    split at h
    · cases h
      exact ⟨Nat.le_refl _, by omega, by assumption⟩
    · have := idx_lt k (i + 1) j h
      exact ⟨by omega, by omega, this.2.2⟩
/-- a NAME among all: a CHAP's place, or 16 and a READER's -/
def fn2_ (B : Nat → Nat → Nat) (v : Nat) : Option Nat := match idx_ (B 9) v (B 0 0) 0 with
  | some i => some i
  | none => match idx_ (B 10) v (B 0 1) 0 with
    | some j => some (16 + j)
    | none => none
theorem m_findRead {μ : St_} {B : Nat → Nat → Nat} {v : Nat} (hM : MB_ μ 222 0 225 0 B) (hO : BO_ B) (hv : okc_ v) (hw : μ.2.1 219 12 = lN (cm_ v)) : f_X12_findRead KC [.ref 219] μ = some (some (.int (on_ (fn2_ B v))), μ) := by
  have hcv := cm_lt hv
  have h0 : μ.1 222 0 = nI (B 0 0) := hM.1.1
  have h1 : μ.1 222 1 = nI (B 0 1) := hM.1.2.1
  have b0 := hO.1.1
  have b1 := hO.1.2.1
  have l2 : ∀ k i, i + k = B 0 1 → Ev_ (P_X12_findRead KC) 36 [some (.ref 219), some (.int (nI i))] [] μ (some (.int (on_ (match idx_ (B 10) v k i with | some j => some (16 + j) | none => none))), μ) := by
    intro k
    induction k with
    | zero =>
      intro i hi
      exact e_X12_findRead_36 ⟨by decide, pk_le (B 0 1) i (fun _ => rfl) (fun z => by omega) h1⟩
    | succ k ih =>
      intro i hi
      refine e_X12_findRead_36 ⟨by decide, pk_le (B 0 1) i (fun z => by omega) (fun _ => ?_) h1⟩
      have e16 : (16 : Int32) + nI i = nI (16 + i) := nI_add 16 i
      rw [e16, cl_ (by omega)]
      refine ⟨vpin_n (by omega), ?_⟩
      have hn := (hM.2.2 i (by omega)).1
      rw [Nat.zero_add] at hn
      have ho := (hO.2.2 i (by omega)).1
      have hlt := cm_lt ho
      rw [hn, hw]
      refine ek_if ((lg_0 _ _).trans ((lN_eq (by omega) (by omega)).trans ⟨fun z => cm_inj ho hv z, fun z => by rw [z]⟩)) (fun z => ?_) (fun z => ?_)
      · rw [idx_, if_pos z]
        rfl
      · rw [idx_, if_neg z, nI_1]
        exact ih (i + 1) (by omega)
  have l1 : ∀ k i, i + k = B 0 0 → Ev_ (P_X12_findRead KC) 2 [some (.ref 219), some (.int (nI i))] [] μ (some (.int (on_ (match idx_ (B 9) v k i with | some j => some j | none => match idx_ (B 10) v (B 0 1) 0 with | some j => some (16 + j) | none => none))), μ) := by
    intro k
    induction k with
    | zero =>
      intro i hi
      exact e_X12_findRead_2 ⟨by decide, pk_le (B 0 0) i (fun _ => l2 (B 0 1) 0 (by omega)) (fun z => by omega) h0⟩
    | succ k ih =>
      intro i hi
      refine e_X12_findRead_2 ⟨by decide, pk_le (B 0 0) i (fun z => by omega) (fun _ => ?_) h0⟩
      rw [cl_ (by omega)]
      refine ⟨vpin_n (by omega), ?_⟩
      have hn := (hM.2.1 i (by omega)).1
      rw [Nat.zero_add] at hn
      have ho := (hO.2.1 i (by omega)).1
      have hlt := cm_lt ho
      rw [hn, hw]
      refine ek_if ((lg_0 _ _).trans ((lN_eq (by omega) (by omega)).trans ⟨fun z => cm_inj ho hv z, fun z => by rw [z]⟩)) (fun z => ?_) (fun z => ?_)
      · rw [idx_, if_pos z]
        rfl
      · rw [idx_, if_neg z, nI_1]
        exact ih (i + 1) (by omega)
  exact z_X12_findRead (e_X12_findRead_0 (l1 (B 0 0) 0 (by omega)))
