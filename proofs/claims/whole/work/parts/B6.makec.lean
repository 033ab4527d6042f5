/-! make, on both sides: the kinds -/
def lim_ (w : Nat) : Nat := if w = 1 then 10 else if w = 2 then 16 else 4
section CQ2
variable {σ μ μ1 : St_} {b p a : Nat} {B P : Nat → Nat → Nat} {T : T_}
theorem c_isKindYes {w k : Nat} (hw : 1 ≤ w ∧ w ≤ 4) (hk : 1 ≤ k ∧ k ≤ lim_ w) : f_X4_isKind KC [.int (nI w), .int (nI k)] σ = some (some (.int (nI 1)), σ) := by
  have l10 : (10 : Int32) = nI 10 := rfl
  have l16 : (16 : Int32) = nI 16 := rfl
  have l4 : (4 : Int32) = nI 4 := rfl
  have ht : ¬ ((nI w).toInt < 0 ∨ 4 < (nI w).toInt) := in_t (n := 4) hw.2 (by omega)
  have k1 : ¬ k < 1 := by omega
  have w4 : w = 1 ∨ w = 2 ∨ w = 3 ∨ w = 4 := by omega
  unfold lim_ at hk
  refine z_X4_isKind (e_X4_isKind_0 ?_)
  rcases w4 with rfl | rfl | rfl | rfl
  · have k2 : ¬ 10 < k := by simp at hk; omega
    simp (disch := first | assumption | omega) only [ht, k1, l10, k2, Option.some.injEq, Prod.mk.injEq, Value.int.injEq, exists_and_left, exists_eq_left', and_assoc, true_and, and_true, true_implies, false_implies, not_true_eq_false, not_false_eq_true, li_0, li_1, li_2, li_3, li_4, li_5, li_8, li_9, li_10, li_16, li_20, li_80, li_100, li_130, li_144, li_390, li_400, li_M, li_H, li_of, nI_add, pk_mul, cl_, vp_iff, nI_leI, nI_ltI, nI_eq, Nat.add_zero, Nat.zero_add, Nat.reduceEqDiff, Nat.reduceAdd, eq_self, reduceIte, Bool.false_eq_true, li_neg]
  · have k2 : ¬ 16 < k := by simp at hk; omega
    simp (disch := first | assumption | omega) only [ht, k1, l16, k2, Option.some.injEq, Prod.mk.injEq, Value.int.injEq, exists_and_left, exists_eq_left', and_assoc, true_and, and_true, true_implies, false_implies, not_true_eq_false, not_false_eq_true, li_0, li_1, li_2, li_3, li_4, li_5, li_8, li_9, li_10, li_16, li_20, li_80, li_100, li_130, li_144, li_390, li_400, li_M, li_H, li_of, nI_add, pk_mul, cl_, vp_iff, nI_leI, nI_ltI, nI_eq, Nat.add_zero, Nat.zero_add, Nat.reduceEqDiff, Nat.reduceAdd, eq_self, reduceIte, Bool.false_eq_true, li_neg]
  · have k2 : ¬ 4 < k := by simp at hk; omega
    simp (disch := first | assumption | omega) only [ht, k1, l4, k2, Option.some.injEq, Prod.mk.injEq, Value.int.injEq, exists_and_left, exists_eq_left', and_assoc, true_and, and_true, true_implies, false_implies, not_true_eq_false, not_false_eq_true, li_0, li_1, li_2, li_3, li_4, li_5, li_8, li_9, li_10, li_16, li_20, li_80, li_100, li_130, li_144, li_390, li_400, li_M, li_H, li_of, nI_add, pk_mul, cl_, vp_iff, nI_leI, nI_ltI, nI_eq, Nat.add_zero, Nat.zero_add, Nat.reduceEqDiff, Nat.reduceAdd, eq_self, reduceIte, Bool.false_eq_true, li_neg]
  · have k2 : ¬ 4 < k := by simp at hk; omega
    simp (disch := first | assumption | omega) only [ht, k1, l4, k2, Option.some.injEq, Prod.mk.injEq, Value.int.injEq, exists_and_left, exists_eq_left', and_assoc, true_and, and_true, true_implies, false_implies, not_true_eq_false, not_false_eq_true, li_0, li_1, li_2, li_3, li_4, li_5, li_8, li_9, li_10, li_16, li_20, li_80, li_100, li_130, li_144, li_390, li_400, li_M, li_H, li_of, nI_add, pk_mul, cl_, vp_iff, nI_leI, nI_ltI, nI_eq, Nat.add_zero, Nat.zero_add, Nat.reduceEqDiff, Nat.reduceAdd, eq_self, reduceIte, Bool.false_eq_true, li_neg]
theorem c_isKind0 (x : Int32) : f_X4_isKind KC [.int (nI 0), .int x] σ = some (some (.int (nI 1)), σ) := by
  have ht : ¬ ((nI 0).toInt < 0 ∨ 4 < (nI 0).toInt) := in_t (n := 4) (by omega) (by omega)
  refine z_X4_isKind (e_X4_isKind_0 ?_)
  simp (disch := first | assumption | omega) only [ht, Option.some.injEq, Prod.mk.injEq, Value.int.injEq, exists_and_left, exists_eq_left', and_assoc, true_and, and_true, true_implies, false_implies, not_true_eq_false, not_false_eq_true, li_0, li_1, li_2, li_3, li_4, li_5, li_8, li_9, li_10, li_16, li_20, li_80, li_100, li_130, li_144, li_390, li_400, li_M, li_H, li_of, nI_add, pk_mul, cl_, vp_iff, nI_leI, nI_ltI, nI_eq, Nat.add_zero, Nat.zero_add, Nat.reduceEqDiff, Nat.reduceAdd, eq_self, reduceIte, Bool.false_eq_true, li_neg]
theorem c_isKindNo {w : Nat} {x : Int32} (hw : 1 ≤ w ∧ w ≤ 4) (hk : x < nI 1 ∨ nI (lim_ w) < x) : f_X4_isKind KC [.int (nI w), .int x] σ = some (some (.int (nI 0)), σ) := by
  have l10 : (10 : Int32) = nI 10 := rfl
  have l16 : (16 : Int32) = nI 16 := rfl
  have l4 : (4 : Int32) = nI 4 := rfl
  have ht : ¬ ((nI w).toInt < 0 ∨ 4 < (nI w).toInt) := in_t (n := 4) hw.2 (by omega)
  have w4 : w = 1 ∨ w = 2 ∨ w = 3 ∨ w = 4 := by omega
  refine z_X4_isKind (e_X4_isKind_0 ?_)
  by_cases h1 : x < nI 1
  · rcases w4 with rfl | rfl | rfl | rfl
    · simp (disch := first | assumption | omega) only [ht, h1, Option.some.injEq, Prod.mk.injEq, Value.int.injEq, exists_and_left, exists_eq_left', and_assoc, true_and, and_true, true_implies, false_implies, not_true_eq_false, not_false_eq_true, li_0, li_1, li_2, li_3, li_4, li_5, li_8, li_9, li_10, li_16, li_20, li_80, li_100, li_130, li_144, li_390, li_400, li_M, li_H, li_of, nI_add, pk_mul, cl_, vp_iff, nI_leI, nI_ltI, nI_eq, Nat.add_zero, Nat.zero_add, Nat.reduceEqDiff, Nat.reduceAdd, eq_self, reduceIte, Bool.false_eq_true, li_neg]
    · simp (disch := first | assumption | omega) only [ht, h1, Option.some.injEq, Prod.mk.injEq, Value.int.injEq, exists_and_left, exists_eq_left', and_assoc, true_and, and_true, true_implies, false_implies, not_true_eq_false, not_false_eq_true, li_0, li_1, li_2, li_3, li_4, li_5, li_8, li_9, li_10, li_16, li_20, li_80, li_100, li_130, li_144, li_390, li_400, li_M, li_H, li_of, nI_add, pk_mul, cl_, vp_iff, nI_leI, nI_ltI, nI_eq, Nat.add_zero, Nat.zero_add, Nat.reduceEqDiff, Nat.reduceAdd, eq_self, reduceIte, Bool.false_eq_true, li_neg]
    · simp (disch := first | assumption | omega) only [ht, h1, Option.some.injEq, Prod.mk.injEq, Value.int.injEq, exists_and_left, exists_eq_left', and_assoc, true_and, and_true, true_implies, false_implies, not_true_eq_false, not_false_eq_true, li_0, li_1, li_2, li_3, li_4, li_5, li_8, li_9, li_10, li_16, li_20, li_80, li_100, li_130, li_144, li_390, li_400, li_M, li_H, li_of, nI_add, pk_mul, cl_, vp_iff, nI_leI, nI_ltI, nI_eq, Nat.add_zero, Nat.zero_add, Nat.reduceEqDiff, Nat.reduceAdd, eq_self, reduceIte, Bool.false_eq_true, li_neg]
    · simp (disch := first | assumption | omega) only [ht, h1, Option.some.injEq, Prod.mk.injEq, Value.int.injEq, exists_and_left, exists_eq_left', and_assoc, true_and, and_true, true_implies, false_implies, not_true_eq_false, not_false_eq_true, li_0, li_1, li_2, li_3, li_4, li_5, li_8, li_9, li_10, li_16, li_20, li_80, li_100, li_130, li_144, li_390, li_400, li_M, li_H, li_of, nI_add, pk_mul, cl_, vp_iff, nI_leI, nI_ltI, nI_eq, Nat.add_zero, Nat.zero_add, Nat.reduceEqDiff, Nat.reduceAdd, eq_self, reduceIte, Bool.false_eq_true, li_neg]
  · have h2 := hk.resolve_left h1
    rcases w4 with rfl | rfl | rfl | rfl
    · have h3 : nI 10 < x := h2
      simp (disch := first | assumption | omega) only [ht, h1, l10, h3, Option.some.injEq, Prod.mk.injEq, Value.int.injEq, exists_and_left, exists_eq_left', and_assoc, true_and, and_true, true_implies, false_implies, not_true_eq_false, not_false_eq_true, li_0, li_1, li_2, li_3, li_4, li_5, li_8, li_9, li_10, li_16, li_20, li_80, li_100, li_130, li_144, li_390, li_400, li_M, li_H, li_of, nI_add, pk_mul, cl_, vp_iff, nI_leI, nI_ltI, nI_eq, Nat.add_zero, Nat.zero_add, Nat.reduceEqDiff, Nat.reduceAdd, eq_self, reduceIte, Bool.false_eq_true, li_neg]
    · have h3 : nI 16 < x := h2
      simp (disch := first | assumption | omega) only [ht, h1, l16, h3, Option.some.injEq, Prod.mk.injEq, Value.int.injEq, exists_and_left, exists_eq_left', and_assoc, true_and, and_true, true_implies, false_implies, not_true_eq_false, not_false_eq_true, li_0, li_1, li_2, li_3, li_4, li_5, li_8, li_9, li_10, li_16, li_20, li_80, li_100, li_130, li_144, li_390, li_400, li_M, li_H, li_of, nI_add, pk_mul, cl_, vp_iff, nI_leI, nI_ltI, nI_eq, Nat.add_zero, Nat.zero_add, Nat.reduceEqDiff, Nat.reduceAdd, eq_self, reduceIte, Bool.false_eq_true, li_neg]
    · have h3 : nI 4 < x := h2
      simp (disch := first | assumption | omega) only [ht, h1, l4, h3, Option.some.injEq, Prod.mk.injEq, Value.int.injEq, exists_and_left, exists_eq_left', and_assoc, true_and, and_true, true_implies, false_implies, not_true_eq_false, not_false_eq_true, li_0, li_1, li_2, li_3, li_4, li_5, li_8, li_9, li_10, li_16, li_20, li_80, li_100, li_130, li_144, li_390, li_400, li_M, li_H, li_of, nI_add, pk_mul, cl_, vp_iff, nI_leI, nI_ltI, nI_eq, Nat.add_zero, Nat.zero_add, Nat.reduceEqDiff, Nat.reduceAdd, eq_self, reduceIte, Bool.false_eq_true, li_neg]
    · have h3 : nI 4 < x := h2
      simp (disch := first | assumption | omega) only [ht, h1, l4, h3, Option.some.injEq, Prod.mk.injEq, Value.int.injEq, exists_and_left, exists_eq_left', and_assoc, true_and, and_true, true_implies, false_implies, not_true_eq_false, not_false_eq_true, li_0, li_1, li_2, li_3, li_4, li_5, li_8, li_9, li_10, li_16, li_20, li_80, li_100, li_130, li_144, li_390, li_400, li_M, li_H, li_of, nI_add, pk_mul, cl_, vp_iff, nI_leI, nI_ltI, nI_eq, Nat.add_zero, Nat.zero_add, Nat.reduceEqDiff, Nat.reduceAdd, eq_self, reduceIte, Bool.false_eq_true, li_neg]
theorem c_isKindOut {x1 x2 : Int32} (h : x1 < nI 0 ∨ nI 4 < x1) : f_X4_isKind KC [.int x1, .int x2] σ = some (some (.int (nI 0)), σ) := by
  have ht : x1.toInt < 0 ∨ 4 < x1.toInt := h.elim (fun z => .inl (neg_t z)) (fun z => .inr (big_t (n := 4) (by omega) z))
  have hn : ∀ w, w ≤ 4 → ¬ x1 = nI w := fun w hw z => by
    subst z
    exact in_t (n := 4) hw (by omega) ht
  have n0 := hn 0 (by omega)
  have n1 := hn 1 (by omega)
  have n2 := hn 2 (by omega)
  have n3 := hn 3 (by omega)
  have n4 := hn 4 (by omega)
  refine z_X4_isKind (e_X4_isKind_0 ?_)
  simp (disch := first | assumption | omega) only [ht, n0, n1, n2, n3, n4, Option.some.injEq, Prod.mk.injEq, Value.int.injEq, exists_and_left, exists_eq_left', and_assoc, true_and, and_true, true_implies, false_implies, not_true_eq_false, not_false_eq_true, li_0, li_1, li_2, li_3, li_4, li_5, li_8, li_9, li_10, li_16, li_20, li_80, li_100, li_130, li_144, li_390, li_400, li_M, li_H, li_of, nI_add, pk_mul, cl_, vp_iff, nI_leI, nI_ltI, nI_eq, Nat.add_zero, Nat.zero_add, Nat.reduceEqDiff, Nat.reduceAdd, eq_self, reduceIte, Bool.false_eq_true, li_neg]
end CQ2
