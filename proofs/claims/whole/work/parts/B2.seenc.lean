/-! seen, on both sides -/
def sn_ (most : Int64) (nt : Int32) : Nat → Nat → Int64 → Int32
  | 0, _, _ => nM_
  | k + 1, i, x => if 0 < lg_cmp x most then sn_ most nt k (i + 1) ((x * (Int32.toInt64 nt)) / (10 : Int64)) else nI i
section CM2
variable {σ μ μ1 : St_} {b : Nat} {B : Nat → Nat → Nat}
theorem c_seen53 {x1 x2 nt : Int32} {most : Int64} : ∀ k i x, i + k = 301 → Ev_ (P_X11_seen KC) 53 [some (.ref 0), some (.int x1), some (.int x2), some (.long x), none, some (.long most), none, some (.int nt), some (.int (nI i))] [] σ (some (.int (sn_ most nt k i x)), σ) := by
  have l300 : (300 : Int32) = nI 300 := rfl
  intro k
  induction k with
  | zero =>
    intro i x hi
    have h1 : 300 < i := by omega
    refine e_X11_seen_53 ?_
    rw [sn_]
    simp (disch := first | assumption | omega) only [l300, h1, Option.some.injEq, Prod.mk.injEq, Value.int.injEq, exists_and_left, exists_eq_left', and_assoc, true_and, and_true, true_implies, false_implies, not_true_eq_false, not_false_eq_true, li_0, li_1, li_2, li_3, li_4, li_5, li_8, li_9, li_10, li_16, li_20, li_80, li_100, li_130, li_144, li_390, li_400, li_M, li_H, li_of, nI_add, pk_mul, cl_, vp_iff, nI_leI, nI_ltI, nI_eq, Nat.add_zero, Nat.zero_add, Nat.reduceEqDiff, Nat.reduceAdd, eq_self, reduceIte, Bool.false_eq_true, li_neg]
  | succ k ih =>
    intro i x hi
    have h1 : ¬ 300 < i := by omega
    have ih1 := ih (i + 1) ((x * (Int32.toInt64 nt)) / (10 : Int64)) (by omega)
    refine e_X11_seen_53 (br_f (fun z => h1 ((nI_ltI (by omega) (by omega)).mp (show nI 300 < nI i from z))) ?_)
    rw [sn_]
    by_cases h2 : 0 < lg_cmp x most
    · rw [if_pos h2]
      refine br_t h2 ?_
      rw [nI_1]
      exact ih1
    · rw [if_neg h2]
      exact br_f h2 rfl
theorem m_seen44 (hx : RX_ μ B) {r : Nat} (hr : r < B 0 1) {x2 : Int32} {most : Int64} : ∀ k i x, i + k = 301 → Ev_ (P_X12_seen KC) 44 [some (.ref 219), some (.int (nI r)), some (.int x2), some (.long x), none, some (.long most), none, some (.int (nI i))] [] μ (some (.int (sn_ most (nI 10 - nI (B 8 r)) k i x)), μ) := by
  have l300 : (300 : Int32) = nI 300 := rfl
  have e8 : f_X12_readerOf KC [.ref 219, .int (nI r), .int (nI 4)] μ = some (some (.int (nI (B 8 r))), μ) := m_readerOf (w := 4) hx hr (by omega)
  intro k
  induction k with
  | zero =>
    intro i x hi
    have h1 : 300 < i := by omega
    refine e_X12_seen_44 ?_
    rw [sn_]
    simp (disch := first | assumption | omega) only [l300, h1, Option.some.injEq, Prod.mk.injEq, Value.int.injEq, exists_and_left, exists_eq_left', and_assoc, true_and, and_true, true_implies, false_implies, not_true_eq_false, not_false_eq_true, li_0, li_1, li_2, li_3, li_4, li_5, li_8, li_9, li_10, li_16, li_20, li_80, li_100, li_130, li_144, li_390, li_400, li_M, li_H, li_of, nI_add, pk_mul, cl_, vp_iff, nI_leI, nI_ltI, nI_eq, Nat.add_zero, Nat.zero_add, Nat.reduceEqDiff, Nat.reduceAdd, eq_self, reduceIte, Bool.false_eq_true, li_neg]
  | succ k ih =>
    intro i x hi
    have h1 : ¬ 300 < i := by omega
    have ih1 := ih (i + 1) ((x * (Int32.toInt64 (nI 10 - nI (B 8 r)))) / (10 : Int64)) (by omega)
    refine e_X12_seen_44 (br_f (fun z => h1 ((nI_ltI (by omega) (by omega)).mp (show nI 300 < nI i from z))) ?_)
    rw [sn_]
    by_cases h2 : 0 < lg_cmp x most
    · rw [if_pos h2]
      refine br_t h2 ⟨_, _, e8, ?_⟩
      rw [nI_1]
      exact ih1
    · rw [if_neg h2]
      exact br_f h2 rfl
theorem long_n0 {x : Nat} (h : 1 ≤ x) (h2 : x < 2 ^ 31) : ¬ Int32.toInt64 (nI x) = 0 := fun z => by
  have := congrArg Int64.toInt z
  rw [Int32.toInt_toInt64, nI_toInt h2, show (0 : Int64).toInt = 0 from rfl] at this
  omega
theorem seen_both (hB : isB b) (h12 : σ.2.2 0 12 = some b) (hC : CB_ σ b B) (hl : LY_ μ μ1) (hx : RX_ μ1 B) (x1 x2 : Int32) : ∃ v, f_X11_seen KC [.ref 0, .int x1, .int x2] σ = some (some (.int v), σ) ∧ f_X12_seen KC [.ref 219, .int x1, .int x2] μ = some (some (.int v), μ1) := by
  have hl' : f_X12_lay KC [.ref 219] (sI_ μ 219 0 (nI 0)) = some (none, μ1) := hl
  have lM : (1000000 : Int32) = nI 1000000 := rfl
  have hO := hx.2
  have h9 := hO.1.2.1
  rcases id_or x1 (n := B 0 1) (by omega) with ⟨r, rfl, hr⟩ | h1
  · have hr9 : r < 9 := by omega
    have es := (hC.2.2 r hr).2.2.2.2.2
    rcases in_or x2 (a := 1) (b := 1000000) (by omega) (by omega) with ⟨w, rfl, w1, w2⟩ | h2
    · have w1' : ¬ w < 1 := by omega
      have i2 := m_isInYes (μ := μ1) (b := 1000000) (by omega) (show 1 ≤ w ∧ w ≤ 1000000 from ⟨w1, w2⟩)
      have n0 := long_n0 w1 (by omega)
      have c53 := c_seen53 (σ := σ) (x1 := nI r) (x2 := nI w) (nt := nI 10 - nI (B 8 r)) (most := (1000000000000000 : Int64) / Int32.toInt64 (nI w)) 301 0 (1000000000000000 : Int64) (by omega)
      have m44 := m_seen44 (x2 := nI w) (most := (1000000000000000 : Int64) / Int32.toInt64 (nI w)) hx hr 301 0 (1000000000000000 : Int64) (by omega)
      refine ⟨sn_ ((1000000000000000 : Int64) / Int32.toInt64 (nI w)) (nI 10 - nI (B 8 r)) 301 0 1000000000000000, z_X11_seen (e_X11_seen_0 ?_), z_X12_seen (e_X12_seen_0 ?_)⟩
      · generalize (some (Value.int (sn_ ((1000000000000000 : Int64) / Int32.toInt64 (nI w)) (nI 10 - nI (B 8 r)) 301 0 1000000000000000)), σ) = out at c53 ⊢
        simp (disch := first | assumption | omega) only [h12, hB, c_hasReaderYes hB hC hO hr, w1', lM, w2, n0, es, Option.some.injEq, Prod.mk.injEq, Value.int.injEq, exists_and_left, exists_eq_left', and_assoc, true_and, and_true, true_implies, false_implies, not_true_eq_false, not_false_eq_true, li_0, li_1, li_2, li_3, li_4, li_5, li_8, li_9, li_10, li_16, li_20, li_80, li_100, li_130, li_144, li_390, li_400, li_M, li_H, li_of, nI_add, pk_mul, cl_, vp_iff, nI_leI, nI_ltI, nI_eq, Nat.add_zero, Nat.zero_add, Nat.reduceEqDiff, Nat.reduceAdd, eq_self, reduceIte, Bool.false_eq_true, li_neg]
        all_goals ((repeat' apply And.intro) <;> first | omega | rfl | assumption | exact c53)
      · generalize (some (Value.int (sn_ ((1000000000000000 : Int64) / Int32.toInt64 (nI w)) (nI 10 - nI (B 8 r)) 301 0 1000000000000000)), μ1) = out at m44 ⊢
        simp (disch := first | assumption | omega) only [hl', m_isReaderYes hx hr, lM, i2, n0, Option.some.injEq, Prod.mk.injEq, Value.int.injEq, exists_and_left, exists_eq_left', and_assoc, true_and, and_true, true_implies, false_implies, not_true_eq_false, not_false_eq_true, li_0, li_1, li_2, li_3, li_4, li_5, li_8, li_9, li_10, li_16, li_20, li_80, li_100, li_130, li_144, li_390, li_400, li_M, li_H, li_of, nI_add, pk_mul, cl_, vp_iff, nI_leI, nI_ltI, nI_eq, Nat.add_zero, Nat.zero_add, Nat.reduceEqDiff, Nat.reduceAdd, eq_self, reduceIte, Bool.false_eq_true, li_neg]
        all_goals ((repeat' apply And.intro) <;> first | omega | rfl | assumption | exact m44)
    · have i2 := m_isInNo (μ := μ1) h2
      refine ⟨(-2), z_X11_seen (e_X11_seen_0 ?_), z_X12_seen (e_X12_seen_0 ?_)⟩
      · by_cases h3 : x2 < nI 1
        · simp (disch := first | assumption | omega) only [h12, hB, c_hasReaderYes hB hC hO hr, h3, Option.some.injEq, Prod.mk.injEq, Value.int.injEq, exists_and_left, exists_eq_left', and_assoc, true_and, and_true, true_implies, false_implies, not_true_eq_false, not_false_eq_true, li_0, li_1, li_2, li_3, li_4, li_5, li_8, li_9, li_10, li_16, li_20, li_80, li_100, li_130, li_144, li_390, li_400, li_M, li_H, li_of, nI_add, pk_mul, cl_, vp_iff, nI_leI, nI_ltI, nI_eq, Nat.add_zero, Nat.zero_add, Nat.reduceEqDiff, Nat.reduceAdd, eq_self, reduceIte, Bool.false_eq_true, li_neg]
        · have h4 := Int32.not_le.mpr (h2.resolve_left h3)
          simp (disch := first | assumption | omega) only [h12, hB, c_hasReaderYes hB hC hO hr, h3, lM, h4, Option.some.injEq, Prod.mk.injEq, Value.int.injEq, exists_and_left, exists_eq_left', and_assoc, true_and, and_true, true_implies, false_implies, not_true_eq_false, not_false_eq_true, li_0, li_1, li_2, li_3, li_4, li_5, li_8, li_9, li_10, li_16, li_20, li_80, li_100, li_130, li_144, li_390, li_400, li_M, li_H, li_of, nI_add, pk_mul, cl_, vp_iff, nI_leI, nI_ltI, nI_eq, Nat.add_zero, Nat.zero_add, Nat.reduceEqDiff, Nat.reduceAdd, eq_self, reduceIte, Bool.false_eq_true, li_neg]
      · simp (disch := first | assumption | omega) only [hl', m_isReaderYes hx hr, lM, i2, Option.some.injEq, Prod.mk.injEq, Value.int.injEq, exists_and_left, exists_eq_left', and_assoc, true_and, and_true, true_implies, false_implies, not_true_eq_false, not_false_eq_true, li_0, li_1, li_2, li_3, li_4, li_5, li_8, li_9, li_10, li_16, li_20, li_80, li_100, li_130, li_144, li_390, li_400, li_M, li_H, li_of, nI_add, pk_mul, cl_, vp_iff, nI_leI, nI_ltI, nI_eq, Nat.add_zero, Nat.zero_add, Nat.reduceEqDiff, Nat.reduceAdd, eq_self, reduceIte, Bool.false_eq_true, li_neg]
  · refine ⟨(-2), z_X11_seen (e_X11_seen_0 ?_), z_X12_seen (e_X12_seen_0 ?_)⟩
    · simp (disch := first | assumption | omega) only [h12, hB, c_hasReaderNo hB hC h1, Option.some.injEq, Prod.mk.injEq, Value.int.injEq, exists_and_left, exists_eq_left', and_assoc, true_and, and_true, true_implies, false_implies, not_true_eq_false, not_false_eq_true, li_0, li_1, li_2, li_3, li_4, li_5, li_8, li_9, li_10, li_16, li_20, li_80, li_100, li_130, li_144, li_390, li_400, li_M, li_H, li_of, nI_add, pk_mul, cl_, vp_iff, nI_leI, nI_ltI, nI_eq, Nat.add_zero, Nat.zero_add, Nat.reduceEqDiff, Nat.reduceAdd, eq_self, reduceIte, Bool.false_eq_true, li_neg]
    · simp (disch := first | assumption | omega) only [hl', m_isReaderNo hx h1, Option.some.injEq, Prod.mk.injEq, Value.int.injEq, exists_and_left, exists_eq_left', and_assoc, true_and, and_true, true_implies, false_implies, not_true_eq_false, not_false_eq_true, li_0, li_1, li_2, li_3, li_4, li_5, li_8, li_9, li_10, li_16, li_20, li_80, li_100, li_130, li_144, li_390, li_400, li_M, li_H, li_of, nI_add, pk_mul, cl_, vp_iff, nI_leI, nI_ltI, nI_eq, Nat.add_zero, Nat.zero_add, Nat.reduceEqDiff, Nat.reduceAdd, eq_self, reduceIte, Bool.false_eq_true, li_neg]
end CM2
