/-! NET -/
def nin_ (B : Nat → Nat → Nat) (t : Nat → Nat) (s : Nat) : Nat → Nat
  | 0 => 0
  | i + 1 => if s.testBit i = true then nin_ B t s i + B 1 (t i) else nin_ B t s i
def nou_ (B : Nat → Nat → Nat) (t : Nat → Nat) (s : Nat) : Nat → Nat
  | 0 => 0
  | i + 1 => if s.testBit i = true then nou_ B t s i else nou_ B t s i + B 1 (t i)
/-- what goes over, from place i, of the first j -/
def nvj_ (B : Nat → Nat → Nat) (t : Nat → Nat) (s i : Nat) : Nat → Nat
  | 0 => 0
  | j + 1 => if s.testBit i = s.testBit j then nvj_ B t s i j else nvj_ B t s i j + B (16 + t i) (t j)
def nvi_ (B : Nat → Nat → Nat) (t : Nat → Nat) (N s : Nat) : Nat → Nat
  | 0 => 0
  | i + 1 => nvi_ B t N s i + nvj_ B t s i N
/-- the best of the sets below s -/
def nt_ (B : Nat → Nat → Nat) (t : Nat → Nat) (N P : Nat) : Nat → Option (Nat × Nat)
  | 0 => none
  | s + 1 => if s = 0 then none else if nin_ B t s N ≤ P ∧ nou_ B t s N ≤ P then (match nt_ B t N P s with
      | none => some (nvi_ B t N s N, s)
      | some (v, q) => if nvi_ B t N s N < v then some (nvi_ B t N s N, s) else some (v, q)) else nt_ B t N P s
section NE
variable {σ μ : St_} {b N P : Nat} {B : Nat → Nat → Nat} {t : Nat → Nat}
def NO_ (B : Nat → Nat → Nat) (N P : Nat) (t : Nat → Nat) : Prop := 2 ≤ N ∧ N ≤ 10 ∧ (∀ i, i < N → t i < B 0 0) ∧ 1 ≤ P ∧ P ≤ 9999
theorem nin_le (hO : BO_ B) {s : Nat} (h : ∀ i, i < N → t i < B 0 0) : ∀ i, i ≤ N → nin_ B t s i ≤ 999 * i ∧ nou_ B t s i ≤ 999 * i
  | 0, _ => ⟨Nat.le_refl _, Nat.le_refl _⟩
  | i + 1, hi => by
    have ih := nin_le hO (s := s) h i (by omega)
    have := BO_cc hO (h i (by omega))
    rw [nin_, nou_]
    split <;> omega
theorem nvj_le (hO : BO_ B) {s i : Nat} (h : ∀ i, i < N → t i < B 0 0) (hi : i < N) : ∀ j, j ≤ N → nvj_ B t s i j ≤ 10 * j
  | 0, _ => Nat.le_refl _
  | j + 1, hj => by
    have ih := nvj_le hO (s := s) h hi j (by omega)
    have h1 := hO.1.1
    have h2 := h j (by omega)
    have := BO_ln hO (h i hi) (show t j < 16 by omega)
    rw [nvj_]
    split <;> omega
theorem nvi_le (hO : BO_ B) {s : Nat} (h : ∀ i, i < N → t i < B 0 0) : ∀ i, i ≤ N → nvi_ B t N s i ≤ 10 * N * i
  | 0, _ => Nat.le_refl _
  | i + 1, hi => by
    have ih := nvi_le hO (s := s) h i (by omega)
    have := nvj_le hO (s := s) (i := i) h (by omega) N (Nat.le_refl _)
    rw [nvi_, Nat.mul_add]
    omega
theorem nt_lt (hO : BO_ B) (h : NO_ B N P t) : ∀ s v q, nt_ B t N P s = some (v, q) → v ≤ 1000 ∧ q < s
  | 0, _, _, hs => by cases hs
  | s + 1, v, q, hs => by
    have hv := nvi_le hO (s := s) h.2.2.1 N (Nat.le_refl _)
    have hN := h.2.1
    have hv2 : 10 * N * N ≤ 10 * 10 * 10 := Nat.mul_le_mul (by omega) (by omega)
    rw [nt_] at hs
    split at hs
    · cases hs
    · split at hs
      · split at hs
        · cases hs
          exact ⟨by omega, by omega⟩
        · rename_i v' q' hm
          have := nt_lt hO h s v' q' hm
          split at hs
          · cases hs
            exact ⟨by omega, by omega⟩
          · cases hs
            exact ⟨this.1, by omega⟩
      · have := nt_lt hO h s v q hs
        exact ⟨this.1, by omega⟩
theorem s_bt {s i : Nat} (hs : s < 2 ^ 16) (hi : i < 16) : ((nI s >>> (nI i &&& 31)) &&& nI 1) = if s.testBit i = true then nI 1 else nI 0 := by
  rw [bt_v]
  by_cases h : s.testBit i = true
  · rw [if_pos h, if_pos (by rw [hb_n (by omega) (by omega)]; exact h)]
  · rw [if_neg h, if_neg (by rw [hb_n (by omega) (by omega)]; exact h)]
theorem c_sidesFit (hB : isB b) (hC : CB_ σ b B) (hO : BO_ B) (hT : ∀ i, σ.1 2 i = b8_ (t i)) (ht : ∀ i, t i < 256) (h : NO_ B N P t) {s : Nat} (hs : s < 2 ^ 16) : f_X2_sidesFit KC [.ref b, .ref 1, .int (nI N), .int (nI s), .int (nI P)] σ = some (some (.int (if nin_ B t s N ≤ P ∧ nou_ B t s N ≤ P then nI 1 else nI 0)), σ) := by
  obtain ⟨h1, h2, h3, h4, h5⟩ := h
  have h16 := hO.1.1
  have bd := nin_le hO (s := s) h3 N (Nat.le_refl _)
  have loop : ∀ n i, i + n = N → Ev_ (P_X2_sidesFit KC) 9 [some (.ref b), some (.ref 1), some (.int (nI N)), some (.int (nI s)), some (.int (nI P)), some (.int (nI (nin_ B t s i))), some (.int (nI (nou_ B t s i))), some (.int (nI i)), none] [] σ (some (.int (if nin_ B t s N ≤ P ∧ nou_ B t s N ≤ P then nI 1 else nI 0)), σ) := by
    intro n
    induction n with
    | zero =>
      intro i hi
      obtain rfl : i = N := by omega
      refine e_X2_sidesFit_9 hB ?_
      by_cases e1 : P < nin_ B t s i
      · rw [if_neg (fun z => by omega)]
        simp (disch := first | assumption | omega) only [Nat.le_refl, e1, Option.some.injEq, Prod.mk.injEq, Value.int.injEq, exists_and_left, exists_eq_left', and_assoc, true_and, and_true, true_implies, false_implies, not_true_eq_false, not_false_eq_true, li_0, li_1, li_2, li_3, li_4, li_5, li_8, li_9, li_10, li_16, li_20, li_80, li_100, li_130, li_144, li_390, li_400, li_M, li_H, li_of, nI_add, pk_mul, cl_, vp_iff, nI_leI, nI_ltI, nI_eq, Nat.add_zero, Nat.zero_add, Nat.reduceEqDiff, Nat.reduceAdd, eq_self, reduceIte, Bool.false_eq_true, li_neg]
      · by_cases e2 : P < nou_ B t s i
        · rw [if_neg (fun z => by omega)]
          simp (disch := first | assumption | omega) only [Nat.le_refl, e1, e2, Option.some.injEq, Prod.mk.injEq, Value.int.injEq, exists_and_left, exists_eq_left', and_assoc, true_and, and_true, true_implies, false_implies, not_true_eq_false, not_false_eq_true, li_0, li_1, li_2, li_3, li_4, li_5, li_8, li_9, li_10, li_16, li_20, li_80, li_100, li_130, li_144, li_390, li_400, li_M, li_H, li_of, nI_add, pk_mul, cl_, vp_iff, nI_leI, nI_ltI, nI_eq, Nat.add_zero, Nat.zero_add, Nat.reduceEqDiff, Nat.reduceAdd, eq_self, reduceIte, Bool.false_eq_true, li_neg]
        · rw [if_pos ⟨by omega, by omega⟩]
          simp (disch := first | assumption | omega) only [Nat.le_refl, e1, e2, Option.some.injEq, Prod.mk.injEq, Value.int.injEq, exists_and_left, exists_eq_left', and_assoc, true_and, and_true, true_implies, false_implies, not_true_eq_false, not_false_eq_true, li_0, li_1, li_2, li_3, li_4, li_5, li_8, li_9, li_10, li_16, li_20, li_80, li_100, li_130, li_144, li_390, li_400, li_M, li_H, li_of, nI_add, pk_mul, cl_, vp_iff, nI_leI, nI_ltI, nI_eq, Nat.add_zero, Nat.zero_add, Nat.reduceEqDiff, Nat.reduceAdd, eq_self, reduceIte, Bool.false_eq_true, li_neg]
    | succ n ih =>
      intro i hi
      have hi1 : ¬ N ≤ i := by omega
      have hti := h3 i (by omega)
      have ih1 := ih (i + 1) (by omega)
      rw [nin_, nou_] at ih1
      refine e_X2_sidesFit_9 hB ?_
      by_cases e : s.testBit i = true
      · rw [if_pos e, if_pos e] at ih1
        simp (disch := first | assumption | omega) only [hi1, c_byteAt hT ht, (hC.2.1 (t i) hti).2.1, hb_0, hb_n, e, Option.some.injEq, Prod.mk.injEq, Value.int.injEq, exists_and_left, exists_eq_left', and_assoc, true_and, and_true, true_implies, false_implies, not_true_eq_false, not_false_eq_true, li_0, li_1, li_2, li_3, li_4, li_5, li_8, li_9, li_10, li_16, li_20, li_80, li_100, li_130, li_144, li_390, li_400, li_M, li_H, li_of, nI_add, pk_mul, cl_, vp_iff, nI_leI, nI_ltI, nI_eq, Nat.add_zero, Nat.zero_add, Nat.reduceEqDiff, Nat.reduceAdd, eq_self, reduceIte, Bool.false_eq_true, li_neg]
        (repeat' apply And.intro) <;> first | omega | rfl | assumption | exact ih1
      · rw [if_neg e, if_neg e] at ih1
        simp (disch := first | assumption | omega) only [hi1, c_byteAt hT ht, (hC.2.1 (t i) hti).2.1, hb_0, hb_n, e, Option.some.injEq, Prod.mk.injEq, Value.int.injEq, exists_and_left, exists_eq_left', and_assoc, true_and, and_true, true_implies, false_implies, not_true_eq_false, not_false_eq_true, li_0, li_1, li_2, li_3, li_4, li_5, li_8, li_9, li_10, li_16, li_20, li_80, li_100, li_130, li_144, li_390, li_400, li_M, li_H, li_of, nI_add, pk_mul, cl_, vp_iff, nI_leI, nI_ltI, nI_eq, Nat.add_zero, Nat.zero_add, Nat.reduceEqDiff, Nat.reduceAdd, eq_self, reduceIte, Bool.false_eq_true, li_neg]
        (repeat' apply And.intro) <;> first | omega | rfl | assumption | exact ih1
  exact z_X2_sidesFit (e_X2_sidesFit_0 hB (loop N 0 (by omega)))
theorem ite_bb {p q : Bool} : ((if p = true then nI 1 else nI 0) = (if q = true then nI 1 else nI 0)) = (p = q) := by
  cases p <;> cases q <;> simp <;> decide
theorem c_overSides (hB : isB b) (hC : CB_ σ b B) (hO : BO_ B) (hT : ∀ i, σ.1 2 i = b8_ (t i)) (ht : ∀ i, t i < 256) (h : NO_ B N P t) {s : Nat} (hs : s < 2 ^ 16) : f_X2_overSides KC [.ref b, .ref 1, .int (nI N), .int (nI s)] σ = some (some (.int (nI (nvi_ B t N s N))), σ) := by
  obtain ⟨h1, h2, h3, h4, h5⟩ := h
  have h16 := hO.1.1
  have in_ : ∀ i, i < N → Ev_ (P_X2_overSides KC) 6 [some (.ref b), some (.ref 1), some (.int (nI N)), some (.int (nI s)), some (.int (nI (nvi_ B t N s (i + 1)))), some (.int (nI (i + 1))), none, none] [] σ (some (.int (nI (nvi_ B t N s N))), σ) → ∀ n j, j + n = N → Ev_ (P_X2_overSides KC) 28 [some (.ref b), some (.ref 1), some (.int (nI N)), some (.int (nI s)), some (.int (nI (nvi_ B t N s i + nvj_ B t s i j))), some (.int (nI i)), some (.ref (b + 6 + t i)), some (.int (nI j))] [] σ (some (.int (nI (nvi_ B t N s N))), σ) := by
    intro i hi hend n
    have hti := h3 i hi
    have kq : KC.1 (b + 6 + t i) = (14, 16) := kb_rk hB _ (by omega)
    induction n with
    | zero =>
      intro j hj
      obtain rfl : j = N := by omega
      refine e_X2_overSides_28 hB kq ?_
      simp (disch := first | assumption | omega) only [Nat.le_refl, Option.some.injEq, Prod.mk.injEq, Value.int.injEq, exists_and_left, exists_eq_left', and_assoc, true_and, and_true, true_implies, false_implies, not_true_eq_false, not_false_eq_true, li_0, li_1, li_2, li_3, li_4, li_5, li_8, li_9, li_10, li_16, li_20, li_80, li_100, li_130, li_144, li_390, li_400, li_M, li_H, li_of, nI_add, pk_mul, cl_, vp_iff, nI_leI, nI_ltI, nI_eq, Nat.add_zero, Nat.zero_add, Nat.reduceEqDiff, Nat.reduceAdd, eq_self, reduceIte, Bool.false_eq_true, li_neg]
      exact hend
    | succ n ih =>
      intro j hj
      have hj1 : ¬ N ≤ j := by omega
      have htj := h3 j (by omega)
      have ih1 := ih (j + 1) (by omega)
      rw [nvj_] at ih1
      refine e_X2_overSides_28 hB kq ?_
      by_cases e : s.testBit i = s.testBit j
      · rw [if_pos e] at ih1
        simp (disch := first | assumption | omega) only [hj1, s_bt, ite_bb, e, Option.some.injEq, Prod.mk.injEq, Value.int.injEq, exists_and_left, exists_eq_left', and_assoc, true_and, and_true, true_implies, false_implies, not_true_eq_false, not_false_eq_true, li_0, li_1, li_2, li_3, li_4, li_5, li_8, li_9, li_10, li_16, li_20, li_80, li_100, li_130, li_144, li_390, li_400, li_M, li_H, li_of, nI_add, pk_mul, cl_, vp_iff, nI_leI, nI_ltI, nI_eq, Nat.add_zero, Nat.zero_add, Nat.reduceEqDiff, Nat.reduceAdd, eq_self, reduceIte, Bool.false_eq_true, li_neg]
        exact ih1
      · rw [if_neg e, ← Nat.add_assoc] at ih1
        simp (disch := first | assumption | omega) only [hj1, s_bt, ite_bb, e, c_byteAt hT ht, (hC.2.1 (t i) hti).2.2.2.2, Option.some.injEq, Prod.mk.injEq, Value.int.injEq, exists_and_left, exists_eq_left', and_assoc, true_and, and_true, true_implies, false_implies, not_true_eq_false, not_false_eq_true, li_0, li_1, li_2, li_3, li_4, li_5, li_8, li_9, li_10, li_16, li_20, li_80, li_100, li_130, li_144, li_390, li_400, li_M, li_H, li_of, nI_add, pk_mul, cl_, vp_iff, nI_leI, nI_ltI, nI_eq, Nat.add_zero, Nat.zero_add, Nat.reduceEqDiff, Nat.reduceAdd, eq_self, reduceIte, Bool.false_eq_true, li_neg]
        (repeat' apply And.intro) <;> first | omega | rfl | assumption | exact ih1
  have loop : ∀ n i, i + n = N → Ev_ (P_X2_overSides KC) 6 [some (.ref b), some (.ref 1), some (.int (nI N)), some (.int (nI s)), some (.int (nI (nvi_ B t N s i))), some (.int (nI i)), none, none] [] σ (some (.int (nI (nvi_ B t N s N))), σ) := by
    intro n
    induction n with
    | zero =>
      intro i hi
      obtain rfl : i = N := by omega
      refine e_X2_overSides_6 hB ?_
      simp (disch := first | assumption | omega) only [Nat.le_refl, Option.some.injEq, Prod.mk.injEq, Value.int.injEq, exists_and_left, exists_eq_left', and_assoc, true_and, and_true, true_implies, false_implies, not_true_eq_false, not_false_eq_true, li_0, li_1, li_2, li_3, li_4, li_5, li_8, li_9, li_10, li_16, li_20, li_80, li_100, li_130, li_144, li_390, li_400, li_M, li_H, li_of, nI_add, pk_mul, cl_, vp_iff, nI_leI, nI_ltI, nI_eq, Nat.add_zero, Nat.zero_add, Nat.reduceEqDiff, Nat.reduceAdd, eq_self, reduceIte, Bool.false_eq_true, li_neg]
    | succ n ih =>
      intro i hi
      have hi1 : ¬ N ≤ i := by omega
      have hti := h3 i (by omega)
      have t28 := in_ i (by omega) (ih (i + 1) (by omega)) N 0 (by omega)
      refine e_X2_overSides_6 hB ?_
      simp (disch := first | assumption | omega) only [hi1, c_byteAt hT ht, Option.some.injEq, Prod.mk.injEq, Value.int.injEq, exists_and_left, exists_eq_left', and_assoc, true_and, and_true, true_implies, false_implies, not_true_eq_false, not_false_eq_true, li_0, li_1, li_2, li_3, li_4, li_5, li_8, li_9, li_10, li_16, li_20, li_80, li_100, li_130, li_144, li_390, li_400, li_M, li_H, li_of, nI_add, pk_mul, cl_, vp_iff, nI_leI, nI_ltI, nI_eq, Nat.add_zero, Nat.zero_add, Nat.reduceEqDiff, Nat.reduceAdd, eq_self, reduceIte, Bool.false_eq_true, li_neg]
      (repeat' apply And.intro) <;> first | omega | rfl | assumption | exact t28
  exact z_X2_overSides (e_X2_overSides_0 hB (loop N 0 (by omega)))
theorem c_divide (hB : isB b) (hC : CB_ σ b B) (hO : BO_ B) (hT : ∀ i, σ.1 2 i = b8_ (t i)) (ht : ∀ i, t i < 256) (h : NO_ B N P t) : f_X2_divide KC [.ref 105, .ref b, .ref 1, .int (nI N), .int (nI P)] σ = some (match nt_ B t N P (2 ^ (N - 1)) with | none => (some (.int nM_), σ) | some (v, q) => (some (.int (nI v)), sI_ σ 105 2 (nI q))) := by
  have h' := h
  obtain ⟨h1, h2, h3, h4, h5⟩ := h
  have hp : 2 ^ (N - 1) ≤ 2 ^ 9 := Nat.pow_le_pow_right (by decide) (by omega)
  have hp1 : 1 ≤ 2 ^ (N - 1) := Nat.two_pow_pos _
  have loop : ∀ n s, s + n = 2 ^ (N - 1) → 1 ≤ s → Ev_ (P_X2_divide KC) 10 [some (.ref 105), some (.ref b), some (.ref 1), some (.int (nI N)), some (.int (nI P)), some (.int (match nt_ B t N P s with | none => nI 1000000 | some (v, _) => nI v)), some (.int (match nt_ B t N P s with | none => nM_ | some (_, q) => nI q)), some (.int (nI s)), none] [] σ (match nt_ B t N P (2 ^ (N - 1)) with | none => (some (.int nM_), σ) | some (v, q) => (some (.int (nI v)), sI_ σ 105 2 (nI q))) := by
    intro n
    induction n with
    | zero =>
      intro s hs hs1
      obtain rfl : s = 2 ^ (N - 1) := by omega
      refine e_X2_divide_10 hB ?_
      cases hm : nt_ B t N P (2 ^ (N - 1)) with
      | none => simp (disch := first | assumption | omega) only [pk_sub, sh_1, Nat.le_refl, Option.some.injEq, Prod.mk.injEq, Value.int.injEq, exists_and_left, exists_eq_left', and_assoc, true_and, and_true, true_implies, false_implies, not_true_eq_false, not_false_eq_true, li_0, li_1, li_2, li_3, li_4, li_5, li_8, li_9, li_10, li_16, li_20, li_80, li_100, li_130, li_144, li_390, li_400, li_M, li_H, li_of, nI_add, pk_mul, cl_, vp_iff, nI_leI, nI_ltI, nI_eq, Nat.add_zero, Nat.zero_add, Nat.reduceEqDiff, Nat.reduceAdd, eq_self, reduceIte, Bool.false_eq_true, li_neg]
      | some vq =>
        obtain ⟨v, q⟩ := vq
        have hq := nt_lt hO h' _ v q hm
        have hqn : ¬ nI q = nM_ := nI_m1 (by omega)
        simp (disch := first | assumption | omega) only [pk_sub, sh_1, Nat.le_refl, hqn, Option.some.injEq, Prod.mk.injEq, Value.int.injEq, exists_and_left, exists_eq_left', and_assoc, true_and, and_true, true_implies, false_implies, not_true_eq_false, not_false_eq_true, li_0, li_1, li_2, li_3, li_4, li_5, li_8, li_9, li_10, li_16, li_20, li_80, li_100, li_130, li_144, li_390, li_400, li_M, li_H, li_of, nI_add, pk_mul, cl_, vp_iff, nI_leI, nI_ltI, nI_eq, Nat.add_zero, Nat.zero_add, Nat.reduceEqDiff, Nat.reduceAdd, eq_self, reduceIte, Bool.false_eq_true, li_neg]
    | succ n ih =>
      intro s hs hs1
      have hs2 : ¬ 2 ^ (N - 1) ≤ s := by omega
      have hs0 : ¬ s = 0 := by omega
      have hs16 : s < 2 ^ 16 := by omega
      have hf := c_sidesFit hB hC hO hT ht h' hs16
      have ho := c_overSides hB hC hO hT ht h' hs16
      have hvl := nvi_le hO (s := s) h3 N (Nat.le_refl _)
      have hv2 : 10 * N * N ≤ 10 * 10 * 10 := Nat.mul_le_mul (by omega) (by omega)
      have ih1 := ih (s + 1) (by omega) (by omega)
      rw [nt_, if_neg hs0] at ih1
      refine e_X2_divide_10 hB ?_
      by_cases e : nin_ B t s N ≤ P ∧ nou_ B t s N ≤ P
      · rw [if_pos e] at hf ih1
        cases hm : nt_ B t N P s with
        | none =>
          rw [hm] at ih1
          have hg : ¬ 1000000 ≤ nvi_ B t N s N := by omega
          simp (disch := first | assumption | omega) only [pk_sub, sh_1, hs2, hf, ho, hg, Option.some.injEq, Prod.mk.injEq, Value.int.injEq, exists_and_left, exists_eq_left', and_assoc, true_and, and_true, true_implies, false_implies, not_true_eq_false, not_false_eq_true, li_0, li_1, li_2, li_3, li_4, li_5, li_8, li_9, li_10, li_16, li_20, li_80, li_100, li_130, li_144, li_390, li_400, li_M, li_H, li_of, nI_add, pk_mul, cl_, vp_iff, nI_leI, nI_ltI, nI_eq, Nat.add_zero, Nat.zero_add, Nat.reduceEqDiff, Nat.reduceAdd, eq_self, reduceIte, Bool.false_eq_true, li_neg]
          exact ih1
        | some vq =>
          obtain ⟨v, q⟩ := vq
          have hq := nt_lt hO h' _ v q hm
          rw [hm] at ih1
          try dsimp only at ih1
          by_cases hg : nvi_ B t N s N < v
          · have hg2 : ¬ v ≤ nvi_ B t N s N := by omega
            rw [if_pos hg] at ih1
            simp (disch := first | assumption | omega) only [pk_sub, sh_1, hs2, hf, ho, hg2, Option.some.injEq, Prod.mk.injEq, Value.int.injEq, exists_and_left, exists_eq_left', and_assoc, true_and, and_true, true_implies, false_implies, not_true_eq_false, not_false_eq_true, li_0, li_1, li_2, li_3, li_4, li_5, li_8, li_9, li_10, li_16, li_20, li_80, li_100, li_130, li_144, li_390, li_400, li_M, li_H, li_of, nI_add, pk_mul, cl_, vp_iff, nI_leI, nI_ltI, nI_eq, Nat.add_zero, Nat.zero_add, Nat.reduceEqDiff, Nat.reduceAdd, eq_self, reduceIte, Bool.false_eq_true, li_neg]
            exact ih1
          · have hg2 : v ≤ nvi_ B t N s N := by omega
            rw [if_neg hg] at ih1
            simp (disch := first | assumption | omega) only [pk_sub, sh_1, hs2, hf, ho, hg2, Option.some.injEq, Prod.mk.injEq, Value.int.injEq, exists_and_left, exists_eq_left', and_assoc, true_and, and_true, true_implies, false_implies, not_true_eq_false, not_false_eq_true, li_0, li_1, li_2, li_3, li_4, li_5, li_8, li_9, li_10, li_16, li_20, li_80, li_100, li_130, li_144, li_390, li_400, li_M, li_H, li_of, nI_add, pk_mul, cl_, vp_iff, nI_leI, nI_ltI, nI_eq, Nat.add_zero, Nat.zero_add, Nat.reduceEqDiff, Nat.reduceAdd, eq_self, reduceIte, Bool.false_eq_true, li_neg]
            exact ih1
      · rw [if_neg e] at hf ih1
        simp (disch := first | assumption | omega) only [pk_sub, sh_1, hs2, hf, Option.some.injEq, Prod.mk.injEq, Value.int.injEq, exists_and_left, exists_eq_left', and_assoc, true_and, and_true, true_implies, false_implies, not_true_eq_false, not_false_eq_true, li_0, li_1, li_2, li_3, li_4, li_5, li_8, li_9, li_10, li_16, li_20, li_80, li_100, li_130, li_144, li_390, li_400, li_M, li_H, li_of, nI_add, pk_mul, cl_, vp_iff, nI_leI, nI_ltI, nI_eq, Nat.add_zero, Nat.zero_add, Nat.reduceEqDiff, Nat.reduceAdd, eq_self, reduceIte, Bool.false_eq_true, li_neg]
        exact ih1
  have l0 := loop (2 ^ (N - 1) - 1) 1 (by omega) (Nat.le_refl _)
  have e1 : nt_ B t N P 1 = none := by rw [nt_, if_pos rfl]
  rw [e1] at l0
  exact z_X2_divide (e_X2_divide_0 hB l0)
/-- the reference's sets -/
theorem m_net107 (hx : RX_ μ B) (hT : ∀ i, μ.1 220 i = nI (t i)) (h : NO_ B N P t) : ∀ n s, s + n = 2 ^ (N - 1) → 1 ≤ s → Ev_ (P_X12_net KC) 107 [some (.ref 219), some (.int (nI P)), some (.int (nI N)), none, some (.int (match nt_ B t N P s with | none => nM_ | some (v, _) => nI v)), some (.int (match nt_ B t N P s with | none => nI 0 | some (_, q) => nI q)), some (.int (nI s)), none, none, none, none, none] [] μ (match nt_ B t N P (2 ^ (N - 1)) with | none => (some (.int nM_), μ) | some (v, q) => (some (.int (nI v)), sI_ μ 219 47 (nI q))) := by
  have hO := hx.2
  have h' := h
  obtain ⟨h1, h2, h3, h4, h5⟩ := h
  have h16 := hO.1.1
  have hp : 2 ^ (N - 1) ≤ 2 ^ 9 := Nat.pow_le_pow_right (by decide) (by omega)
  have hp1 : 1 ≤ 2 ^ (N - 1) := Nat.two_pow_pos _
  intro n
  induction n with
  | zero =>
    intro s hs hs1
    obtain rfl : s = 2 ^ (N - 1) := by omega
    refine e_X12_net_107 ?_
    cases hm : nt_ B t N P (2 ^ (N - 1)) with
    | none => simp (disch := first | assumption | omega) only [pk_sub, sh_1, Nat.le_refl, Option.some.injEq, Prod.mk.injEq, Value.int.injEq, exists_and_left, exists_eq_left', and_assoc, true_and, and_true, true_implies, false_implies, not_true_eq_false, not_false_eq_true, li_0, li_1, li_2, li_3, li_4, li_5, li_8, li_9, li_10, li_16, li_20, li_80, li_100, li_130, li_144, li_390, li_400, li_M, li_H, li_of, nI_add, pk_mul, cl_, vp_iff, nI_leI, nI_ltI, nI_eq, Nat.add_zero, Nat.zero_add, Nat.reduceEqDiff, Nat.reduceAdd, eq_self, reduceIte, Bool.false_eq_true, li_neg]
    | some vq =>
      obtain ⟨v, q⟩ := vq
      have hq := nt_lt hO h' _ v q hm
      have hqn : ¬ nI v = nM_ := nI_m1 (by omega)
      simp (disch := first | assumption | omega) only [pk_sub, sh_1, Nat.le_refl, hqn, Option.some.injEq, Prod.mk.injEq, Value.int.injEq, exists_and_left, exists_eq_left', and_assoc, true_and, and_true, true_implies, false_implies, not_true_eq_false, not_false_eq_true, li_0, li_1, li_2, li_3, li_4, li_5, li_8, li_9, li_10, li_16, li_20, li_80, li_100, li_130, li_144, li_390, li_400, li_M, li_H, li_of, nI_add, pk_mul, cl_, vp_iff, nI_leI, nI_ltI, nI_eq, Nat.add_zero, Nat.zero_add, Nat.reduceEqDiff, Nat.reduceAdd, eq_self, reduceIte, Bool.false_eq_true, li_neg]
  | succ n ih =>
    intro s hs hs1
    have hs2 : ¬ 2 ^ (N - 1) ≤ s := by omega
    have hs0 : ¬ s = 0 := by omega
    have hs16 : s < 2 ^ 16 := by omega
    have hvl := nvi_le hO (s := s) h3 N (Nat.le_refl _)
    have hv2 : 10 * N * N ≤ 10 * 10 * 10 := Nat.mul_le_mul (by omega) (by omega)
    have bd := nin_le hO (s := s) h3 N (Nat.le_refl _)
    have ih1 := ih (s + 1) (by omega) (by omega)
    rw [nt_, if_neg hs0] at ih1
    have hit : ∀ p : Prop, ∀ _ : Decidable p, True := fun _ _ => trivial
    -- what goes over from place i
    have in_ : ∀ (x4 x5 : Int32) (out : Out_) (i : Nat), i < N → Ev_ (P_X12_net KC) 129 [some (.ref 219), some (.int (nI P)), some (.int (nI N)), none, some (.int x4), some (.int x5), some (.int (nI s)), some (.int (nI (nin_ B t s (i + 1)))), some (.int (nI (nou_ B t s (i + 1)))), some (.int (nI (nvi_ B t N s (i + 1)))), some (.int (nI (i + 1))), none] [] μ out → ∀ n j, j + n = N → Ev_ (P_X12_net KC) 185 [some (.ref 219), some (.int (nI P)), some (.int (nI N)), none, some (.int x4), some (.int x5), some (.int (nI s)), some (.int (nI (nin_ B t s (i + 1)))), some (.int (nI (nou_ B t s (i + 1)))), some (.int (nI (nvi_ B t N s i + nvj_ B t s i j))), some (.int (nI i)), some (.int (nI j))] [] μ out := by
      intro x4 x5 out i hi hend n
      have hti := h3 i hi
      induction n with
      | zero =>
        intro j hj
        obtain rfl : j = N := by omega
        refine e_X12_net_185 ?_
        simp (disch := first | assumption | omega) only [Nat.le_refl, Option.some.injEq, Prod.mk.injEq, Value.int.injEq, exists_and_left, exists_eq_left', and_assoc, true_and, and_true, true_implies, false_implies, not_true_eq_false, not_false_eq_true, li_0, li_1, li_2, li_3, li_4, li_5, li_8, li_9, li_10, li_16, li_20, li_80, li_100, li_130, li_144, li_390, li_400, li_M, li_H, li_of, nI_add, pk_mul, cl_, vp_iff, nI_leI, nI_ltI, nI_eq, Nat.add_zero, Nat.zero_add, Nat.reduceEqDiff, Nat.reduceAdd, eq_self, reduceIte, Bool.false_eq_true, li_neg]
        exact hend
      | succ n ihn =>
        intro j hj
        have hj1 : ¬ N ≤ j := by omega
        have htj := h3 j (by omega)
        have ih2 := ihn (j + 1) (by omega)
        rw [nvj_] at ih2
        refine e_X12_net_185 ?_
        by_cases e : s.testBit i = s.testBit j
        · rw [if_pos e] at ih2
          by_cases e2 : s.testBit j = true
          · have e3 : s.testBit i = true := e.trans e2
            simp (disch := first | assumption | omega) only [hj1, m_hasK, hb_n, e3, e2, Option.some.injEq, Prod.mk.injEq, Value.int.injEq, exists_and_left, exists_eq_left', and_assoc, true_and, and_true, true_implies, false_implies, not_true_eq_false, not_false_eq_true, li_0, li_1, li_2, li_3, li_4, li_5, li_8, li_9, li_10, li_16, li_20, li_80, li_100, li_130, li_144, li_390, li_400, li_M, li_H, li_of, nI_add, pk_mul, cl_, vp_iff, nI_leI, nI_ltI, nI_eq, Nat.add_zero, Nat.zero_add, Nat.reduceEqDiff, Nat.reduceAdd, eq_self, reduceIte, Bool.false_eq_true, li_neg]
            exact ih2
          · have e3 : ¬ s.testBit i = true := by rw [e]; exact e2
            simp (disch := first | assumption | omega) only [hj1, m_hasK, hb_n, e3, e2, Option.some.injEq, Prod.mk.injEq, Value.int.injEq, exists_and_left, exists_eq_left', and_assoc, true_and, and_true, true_implies, false_implies, not_true_eq_false, not_false_eq_true, li_0, li_1, li_2, li_3, li_4, li_5, li_8, li_9, li_10, li_16, li_20, li_80, li_100, li_130, li_144, li_390, li_400, li_M, li_H, li_of, nI_add, pk_mul, cl_, vp_iff, nI_leI, nI_ltI, nI_eq, Nat.add_zero, Nat.zero_add, Nat.reduceEqDiff, Nat.reduceAdd, eq_self, reduceIte, Bool.false_eq_true, li_neg]
            exact ih2
        · rw [if_neg e] at ih2
          have hne : ¬ ((@ite Int32 (s.testBit i = true) (Classical.propDecidable _) (nI 1) (nI 0)) = (@ite Int32 (s.testBit j = true) (Classical.propDecidable _) (nI 1) (nI 0))) := by
            cases hbi : s.testBit i <;> cases hbj : s.testBit j
            · exact absurd (hbi.trans hbj.symm) e
            · simp; decide
            · simp; decide
            · exact absurd (hbi.trans hbj.symm) e
          have hl := m_leanOf hx hti (show t j < 16 by omega)
          have g1 := m_hasK (nI s) i μ
          have g2 := m_hasK (nI s) j μ
          have pi : hb_ (nI s) i = (s.testBit i = true) := hb_n (by omega) (by omega)
          have pj : hb_ (nI s) j = (s.testBit j = true) := hb_n (by omega) (by omega)
          have hne2 : ¬ ((@ite Int32 (hb_ (nI s) i) (Classical.propDecidable _) (nI 1) (nI 0)) = (@ite Int32 (hb_ (nI s) j) (Classical.propDecidable _) (nI 1) (nI 0))) := by
            by_cases z1 : hb_ (nI s) i <;> by_cases z2 : hb_ (nI s) j
            · rw [pi] at z1
              rw [pj] at z2
              exact absurd (z1.trans z2.symm) e
            · rw [if_pos z1, if_neg z2]; decide
            · rw [if_neg z1, if_pos z2]; decide
            · rw [pi] at z1
              rw [pj] at z2
              exact absurd ((Bool.eq_false_iff.mpr z1).trans (Bool.eq_false_iff.mpr z2).symm) e
          by_cases hge : t i ≤ t j
          · have hz : B (16 + t i) (t j) = 0 := ((hO.2.1 (t i) hti).2.2.2.2.1 (t j) (by omega)).2 hge
            rw [hz, Nat.add_zero] at ih2
            simp (disch := first | assumption | omega) only [hj1, g1, g2, hne2, hT, hge, Option.some.injEq, Prod.mk.injEq, Value.int.injEq, exists_and_left, exists_eq_left', and_assoc, true_and, and_true, true_implies, false_implies, not_true_eq_false, not_false_eq_true, li_0, li_1, li_2, li_3, li_4, li_5, li_8, li_9, li_10, li_16, li_20, li_80, li_100, li_130, li_144, li_390, li_400, li_M, li_H, li_of, nI_add, pk_mul, cl_, vp_iff, nI_leI, nI_ltI, nI_eq, Nat.add_zero, Nat.zero_add, Nat.reduceEqDiff, Nat.reduceAdd, eq_self, reduceIte, Bool.false_eq_true, li_neg]
            (repeat' apply And.intro) <;> first | omega | rfl | assumption | exact ih2
          · rw [← Nat.add_assoc] at ih2
            simp (disch := first | assumption | omega) only [hj1, g1, g2, hne2, hT, hge, hl, Option.some.injEq, Prod.mk.injEq, Value.int.injEq, exists_and_left, exists_eq_left', and_assoc, true_and, and_true, true_implies, false_implies, not_true_eq_false, not_false_eq_true, li_0, li_1, li_2, li_3, li_4, li_5, li_8, li_9, li_10, li_16, li_20, li_80, li_100, li_130, li_144, li_390, li_400, li_M, li_H, li_of, nI_add, pk_mul, cl_, vp_iff, nI_leI, nI_ltI, nI_eq, Nat.add_zero, Nat.zero_add, Nat.reduceEqDiff, Nat.reduceAdd, eq_self, reduceIte, Bool.false_eq_true, li_neg]
            (repeat' apply And.intro) <;> first | omega | rfl | assumption | exact ih2
    have mid : ∀ (x4 x5 : Int32) (out : Out_), Ev_ (P_X12_net KC) 129 [some (.ref 219), some (.int (nI P)), some (.int (nI N)), none, some (.int x4), some (.int x5), some (.int (nI s)), some (.int (nI (nin_ B t s N))), some (.int (nI (nou_ B t s N))), some (.int (nI (nvi_ B t N s N))), some (.int (nI N)), none] [] μ out → ∀ n i, i + n = N → Ev_ (P_X12_net KC) 129 [some (.ref 219), some (.int (nI P)), some (.int (nI N)), none, some (.int x4), some (.int x5), some (.int (nI s)), some (.int (nI (nin_ B t s i))), some (.int (nI (nou_ B t s i))), some (.int (nI (nvi_ B t N s i))), some (.int (nI i)), none] [] μ out := by
      intro x4 x5 out hend n
      induction n with
      | zero =>
        intro i hi
        obtain rfl : i = N := by omega
        exact hend
      | succ n ihn =>
        intro i hi
        have hi1 : ¬ N ≤ i := by omega
        have hti := h3 i (by omega)
        have t185 := in_ x4 x5 out i (by omega) (ihn (i + 1) (by omega)) N 0 (by omega)
        rw [nin_, nou_, nvj_, Nat.add_zero] at t185
        have hpg := m_chapOf (w := 0) hx hti (by omega)
        refine e_X12_net_129 ?_
        by_cases e : s.testBit i = true
        · rw [if_pos e, if_pos e] at t185
          simp (disch := first | assumption | omega) only [hi1, m_hasK, hb_n, e, hT, hpg, Option.some.injEq, Prod.mk.injEq, Value.int.injEq, exists_and_left, exists_eq_left', and_assoc, true_and, and_true, true_implies, false_implies, not_true_eq_false, not_false_eq_true, li_0, li_1, li_2, li_3, li_4, li_5, li_8, li_9, li_10, li_16, li_20, li_80, li_100, li_130, li_144, li_390, li_400, li_M, li_H, li_of, nI_add, pk_mul, cl_, vp_iff, nI_leI, nI_ltI, nI_eq, Nat.add_zero, Nat.zero_add, Nat.reduceEqDiff, Nat.reduceAdd, eq_self, reduceIte, Bool.false_eq_true, li_neg]
          (repeat' apply And.intro) <;> first | omega | rfl | assumption | exact t185
        · rw [if_neg e, if_neg e] at t185
          simp (disch := first | assumption | omega) only [hi1, m_hasK, hb_n, e, hT, hpg, Option.some.injEq, Prod.mk.injEq, Value.int.injEq, exists_and_left, exists_eq_left', and_assoc, true_and, and_true, true_implies, false_implies, not_true_eq_false, not_false_eq_true, li_0, li_1, li_2, li_3, li_4, li_5, li_8, li_9, li_10, li_16, li_20, li_80, li_100, li_130, li_144, li_390, li_400, li_M, li_H, li_of, nI_add, pk_mul, cl_, vp_iff, nI_leI, nI_ltI, nI_eq, Nat.add_zero, Nat.zero_add, Nat.reduceEqDiff, Nat.reduceAdd, eq_self, reduceIte, Bool.false_eq_true, li_neg]
          (repeat' apply And.intro) <;> first | omega | rfl | assumption | exact t185
    have fin : ∀ (x4 x5 : Int32) (out : Out_), Ev_ (P_X12_net KC) 129 [some (.ref 219), some (.int (nI P)), some (.int (nI N)), none, some (.int x4), some (.int x5), some (.int (nI s)), some (.int (nI (nin_ B t s N))), some (.int (nI (nou_ B t s N))), some (.int (nI (nvi_ B t N s N))), some (.int (nI N)), none] [] μ out → Ev_ (P_X12_net KC) 107 [some (.ref 219), some (.int (nI P)), some (.int (nI N)), none, some (.int x4), some (.int x5), some (.int (nI s)), none, none, none, none, none] [] μ out := fun x4 x5 out q => by
      have m1 := mid x4 x5 out q N 0 (by omega)
      rw [nin_, nou_, nvi_] at m1
      refine e_X12_net_107 ?_
      simp (disch := first | assumption | omega) only [pk_sub, sh_1, hs2, Option.some.injEq, Prod.mk.injEq, Value.int.injEq, exists_and_left, exists_eq_left', and_assoc, true_and, and_true, true_implies, false_implies, not_true_eq_false, not_false_eq_true, li_0, li_1, li_2, li_3, li_4, li_5, li_8, li_9, li_10, li_16, li_20, li_80, li_100, li_130, li_144, li_390, li_400, li_M, li_H, li_of, nI_add, pk_mul, cl_, vp_iff, nI_leI, nI_ltI, nI_eq, Nat.add_zero, Nat.zero_add, Nat.reduceEqDiff, Nat.reduceAdd, eq_self, reduceIte, Bool.false_eq_true, li_neg]
      exact m1
    refine fin _ _ _ (e_X12_net_129 ?_)
    by_cases e : nin_ B t s N ≤ P ∧ nou_ B t s N ≤ P
    · rw [if_pos e] at ih1
      have e1 : ¬ P < nin_ B t s N := by omega
      have e2 : ¬ P < nou_ B t s N := by omega
      cases hm : nt_ B t N P s with
      | none =>
        rw [hm] at ih1
        simp (disch := first | assumption | omega) only [Nat.le_refl, e1, e2, Option.some.injEq, Prod.mk.injEq, Value.int.injEq, exists_and_left, exists_eq_left', and_assoc, true_and, and_true, true_implies, false_implies, not_true_eq_false, not_false_eq_true, li_0, li_1, li_2, li_3, li_4, li_5, li_8, li_9, li_10, li_16, li_20, li_80, li_100, li_130, li_144, li_390, li_400, li_M, li_H, li_of, nI_add, pk_mul, cl_, vp_iff, nI_leI, nI_ltI, nI_eq, Nat.add_zero, Nat.zero_add, Nat.reduceEqDiff, Nat.reduceAdd, eq_self, reduceIte, Bool.false_eq_true, li_neg]
        exact ih1
      | some vq =>
        obtain ⟨v, q⟩ := vq
        have hq := nt_lt hO h' _ v q hm
        have hqn : ¬ nI v = nM_ := nI_m1 (by omega)
        rw [hm] at ih1
        try dsimp only at ih1
        by_cases hg : nvi_ B t N s N < v
        · rw [if_pos hg] at ih1
          simp (disch := first | assumption | omega) only [Nat.le_refl, e1, e2, hqn, hg, Option.some.injEq, Prod.mk.injEq, Value.int.injEq, exists_and_left, exists_eq_left', and_assoc, true_and, and_true, true_implies, false_implies, not_true_eq_false, not_false_eq_true, li_0, li_1, li_2, li_3, li_4, li_5, li_8, li_9, li_10, li_16, li_20, li_80, li_100, li_130, li_144, li_390, li_400, li_M, li_H, li_of, nI_add, pk_mul, cl_, vp_iff, nI_leI, nI_ltI, nI_eq, Nat.add_zero, Nat.zero_add, Nat.reduceEqDiff, Nat.reduceAdd, eq_self, reduceIte, Bool.false_eq_true, li_neg]
          exact ih1
        · rw [if_neg hg] at ih1
          simp (disch := first | assumption | omega) only [Nat.le_refl, e1, e2, hqn, hg, Option.some.injEq, Prod.mk.injEq, Value.int.injEq, exists_and_left, exists_eq_left', and_assoc, true_and, and_true, true_implies, false_implies, not_true_eq_false, not_false_eq_true, li_0, li_1, li_2, li_3, li_4, li_5, li_8, li_9, li_10, li_16, li_20, li_80, li_100, li_130, li_144, li_390, li_400, li_M, li_H, li_of, nI_add, pk_mul, cl_, vp_iff, nI_leI, nI_ltI, nI_eq, Nat.add_zero, Nat.zero_add, Nat.reduceEqDiff, Nat.reduceAdd, eq_self, reduceIte, Bool.false_eq_true, li_neg]
          exact ih1
    · rw [if_neg e] at ih1
      by_cases e1 : P < nin_ B t s N
      · simp (disch := first | assumption | omega) only [Nat.le_refl, e1, Option.some.injEq, Prod.mk.injEq, Value.int.injEq, exists_and_left, exists_eq_left', and_assoc, true_and, and_true, true_implies, false_implies, not_true_eq_false, not_false_eq_true, li_0, li_1, li_2, li_3, li_4, li_5, li_8, li_9, li_10, li_16, li_20, li_80, li_100, li_130, li_144, li_390, li_400, li_M, li_H, li_of, nI_add, pk_mul, cl_, vp_iff, nI_leI, nI_ltI, nI_eq, Nat.add_zero, Nat.zero_add, Nat.reduceEqDiff, Nat.reduceAdd, eq_self, reduceIte, Bool.false_eq_true, li_neg]
        exact ih1
      · have e2 : P < nou_ B t s N := by omega
        simp (disch := first | assumption | omega) only [Nat.le_refl, e1, e2, Option.some.injEq, Prod.mk.injEq, Value.int.injEq, exists_and_left, exists_eq_left', and_assoc, true_and, and_true, true_implies, false_implies, not_true_eq_false, not_false_eq_true, li_0, li_1, li_2, li_3, li_4, li_5, li_8, li_9, li_10, li_16, li_20, li_80, li_100, li_130, li_144, li_390, li_400, li_M, li_H, li_of, nI_add, pk_mul, cl_, vp_iff, nI_leI, nI_ltI, nI_eq, Nat.add_zero, Nat.zero_add, Nat.reduceEqDiff, Nat.reduceAdd, eq_self, reduceIte, Bool.false_eq_true, li_neg]
        exact ih1
theorem m_net43 (hx : RX_ μ B) (ht : ∀ i, t i < 256) (hT : ∀ i, μ.1 220 i = nI (t i)) (hN : 2 ≤ N ∧ N ≤ 10) (hP : 1 ≤ P ∧ P ≤ 9999) : ∀ n i q, i + n = N → us_ t (B 0 0) i = some q → Ev_ (P_X12_net KC) 43 [some (.ref 219), some (.int (nI P)), some (.int (nI N)), some (.int (nI q)), some (.int (nI i)), none, none, none, none, none, none, none] [] μ (if us_ t (B 0 0) N = none then (some (.int (-2)), μ) else match nt_ B t N P (2 ^ (N - 1)) with | none => (some (.int nM_), μ) | some (v, q) => (some (.int (nI v)), sI_ μ 219 47 (nI q))) := by
  have hO := hx.2
  have h3 := BO_c hO
  have l1040 : (1040 : Int32) = nI 1040 := rfl
  intro n
  induction n with
  | zero =>
    intro i q hi hq
    obtain rfl : i = N := by omega
    have hul := us_lt (show B 0 0 ≤ 16 by omega) i q hq
    have l0 := m_net107 (P := P) hx hT ⟨hN.1, hN.2, hul.2, hP.1, hP.2⟩ (2 ^ (i - 1) - 1) 1 (by have : 1 ≤ 2 ^ (i - 1) := Nat.two_pow_pos _; omega) (Nat.le_refl _)
    have e1 : nt_ B t i P 1 = none := by rw [nt_, if_pos rfl]
    rw [e1] at l0
    rw [if_neg (by rw [hq]; simp)]
    refine e_X12_net_43 ?_
    simp (disch := first | assumption | omega) only [Nat.le_refl, Option.some.injEq, Prod.mk.injEq, Value.int.injEq, exists_and_left, exists_eq_left', and_assoc, true_and, and_true, true_implies, false_implies, not_true_eq_false, not_false_eq_true, li_0, li_1, li_2, li_3, li_4, li_5, li_8, li_9, li_10, li_16, li_20, li_80, li_100, li_130, li_144, li_390, li_400, li_M, li_H, li_of, nI_add, pk_mul, cl_, vp_iff, nI_leI, nI_ltI, nI_eq, Nat.add_zero, Nat.zero_add, Nat.reduceEqDiff, Nat.reduceAdd, eq_self, reduceIte, Bool.false_eq_true, li_neg]
    exact l0
  | succ n ih =>
    intro i q hi hq
    have hi1 : ¬ N ≤ i := by omega
    have hul := us_lt (show B 0 0 ≤ 16 by omega) i q hq
    have hti := ht i
    have hrd := m_isChapN hx (show t i < 2 ^ 31 by omega)
    have m2 : (-2 : Int32) = -nI 2 := by decide
    by_cases h5 : t i < B 0 0
    · rw [if_pos h5] at hrd
      by_cases h6 : q.testBit (t i) = true
      · have hno : us_ t (B 0 0) N = none := by
          have : us_ t (B 0 0) (i + 1) = none := by rw [us_, hq]; exact if_neg (fun z => by rw [h6] at z; cases z.2)
          have := us_none n (i + 1) this
          rwa [show i + 1 + n = N by omega] at this
        rw [if_pos hno]
        refine e_X12_net_43 ?_
        simp (disch := first | assumption | omega) only [hi1, hT, hrd, m_hasK, hb_n, h6, Option.some.injEq, Prod.mk.injEq, Value.int.injEq, exists_and_left, exists_eq_left', and_assoc, true_and, and_true, true_implies, false_implies, not_true_eq_false, not_false_eq_true, li_0, li_1, li_2, li_3, li_4, li_5, li_8, li_9, li_10, li_16, li_20, li_80, li_100, li_130, li_144, li_390, li_400, li_M, li_H, li_of, nI_add, pk_mul, cl_, vp_iff, nI_leI, nI_ltI, nI_eq, Nat.add_zero, Nat.zero_add, Nat.reduceEqDiff, Nat.reduceAdd, eq_self, reduceIte, Bool.false_eq_true, li_neg]
        (repeat' apply And.intro) <;> first | omega | rfl | assumption
      · have hsome : us_ t (B 0 0) (i + 1) = some (q ||| 2 ^ t i) := by rw [us_, hq]; exact if_pos ⟨h5, Bool.eq_false_iff.mpr h6⟩
        have ih1 := ih (i + 1) (q ||| 2 ^ t i) (by omega) hsome
        refine e_X12_net_43 ?_
        simp (disch := first | assumption | omega) only [hi1, hT, hrd, m_hasK, hb_n, h6, sh_1, fa_or, Option.some.injEq, Prod.mk.injEq, Value.int.injEq, exists_and_left, exists_eq_left', and_assoc, true_and, and_true, true_implies, false_implies, not_true_eq_false, not_false_eq_true, li_0, li_1, li_2, li_3, li_4, li_5, li_8, li_9, li_10, li_16, li_20, li_80, li_100, li_130, li_144, li_390, li_400, li_M, li_H, li_of, nI_add, pk_mul, cl_, vp_iff, nI_leI, nI_ltI, nI_eq, Nat.add_zero, Nat.zero_add, Nat.reduceEqDiff, Nat.reduceAdd, eq_self, reduceIte, Bool.false_eq_true, li_neg]
        (repeat' apply And.intro) <;> first | omega | rfl | assumption | exact ih1
    · rw [if_neg h5] at hrd
      have hno : us_ t (B 0 0) N = none := by
        have : us_ t (B 0 0) (i + 1) = none := by rw [us_, hq]; exact if_neg (fun z => h5 z.1)
        have := us_none n (i + 1) this
        rwa [show i + 1 + n = N by omega] at this
      rw [if_pos hno]
      refine e_X12_net_43 ?_
      simp (disch := first | assumption | omega) only [hi1, hT, hrd, Option.some.injEq, Prod.mk.injEq, Value.int.injEq, exists_and_left, exists_eq_left', and_assoc, true_and, and_true, true_implies, false_implies, not_true_eq_false, not_false_eq_true, li_0, li_1, li_2, li_3, li_4, li_5, li_8, li_9, li_10, li_16, li_20, li_80, li_100, li_130, li_144, li_390, li_400, li_M, li_H, li_of, nI_add, pk_mul, cl_, vp_iff, nI_leI, nI_ltI, nI_eq, Nat.add_zero, Nat.zero_add, Nat.reduceEqDiff, Nat.reduceAdd, eq_self, reduceIte, Bool.false_eq_true, li_neg]
      (repeat' apply And.intro) <;> first | omega | rfl | assumption
end NE
