/-! numbers that calls are given; the reference's loops of CUT, BEST, all -/
theorem in_or (x : Int32) {a b : Nat} (ha : a < 2 ^ 31) (hb : b < 2 ^ 31) : (∃ n, x = nI n ∧ a ≤ n ∧ n ≤ b) ∨ x < nI a ∨ nI b < x := by
  by_cases h1 : x < nI a
  · exact .inr (.inl h1)
  · by_cases h2 : nI b < x
    · exact .inr (.inr h2)
    · have e1 : ¬ x.toInt < (nI a).toInt := fun z => h1 (Int32.lt_iff_toInt_lt.mpr z)
      have e2 : ¬ (nI b).toInt < x.toInt := fun z => h2 (Int32.lt_iff_toInt_lt.mpr z)
      rw [nI_toInt ha] at e1
      rw [nI_toInt hb] at e2
      refine .inl ⟨x.toInt.toNat, Int32.toInt_inj.1 ?_, by omega, by omega⟩
      rw [nI_toInt (by omega)]
      omega
theorem lt_tr32 {x : Int32} {a b : Nat} (ha : a < 2 ^ 31) (hb : b < 2 ^ 31) (h : x < nI a) (hab : a ≤ b) : x < nI b := by
  have := Int32.lt_iff_toInt_lt.mp h
  refine Int32.lt_iff_toInt_lt.mpr ?_
  rw [nI_toInt ha] at this
  rw [nI_toInt hb]
  omega
theorem m_isInNo {x : Int32} {a b : Nat} {μ : St_} (h : x < nI a ∨ nI b < x) : f_X12_isIn KC [.int x, .int (nI a), .int (nI b)] μ = some (some (.int (nI 0)), μ) := by
  refine z_X12_isIn (e_X12_isIn_0 ?_)
  by_cases h1 : x < nI a
  · simp (disch := first | assumption | omega) only [h1, Option.some.injEq, Prod.mk.injEq, Value.int.injEq, exists_and_left, exists_eq_left', and_assoc, true_and, and_true, true_implies, false_implies, not_true_eq_false, not_false_eq_true, li_0, li_1, li_2, li_3, li_4, li_5, li_8, li_9, li_10, li_16, li_20, li_80, li_100, li_130, li_144, li_390, li_400, li_M, li_H, li_of, nI_add, pk_mul, cl_, vp_iff, nI_leI, nI_ltI, nI_eq, Nat.add_zero, Nat.zero_add, Nat.reduceEqDiff, Nat.reduceAdd, eq_self, reduceIte, Bool.false_eq_true, li_neg]
  · have h2 := h.resolve_left h1
    simp (disch := first | assumption | omega) only [h1, h2, Option.some.injEq, Prod.mk.injEq, Value.int.injEq, exists_and_left, exists_eq_left', and_assoc, true_and, and_true, true_implies, false_implies, not_true_eq_false, not_false_eq_true, li_0, li_1, li_2, li_3, li_4, li_5, li_8, li_9, li_10, li_16, li_20, li_80, li_100, li_130, li_144, li_390, li_400, li_M, li_H, li_of, nI_add, pk_mul, cl_, vp_iff, nI_leI, nI_ltI, nI_eq, Nat.add_zero, Nat.zero_add, Nat.reduceEqDiff, Nat.reduceAdd, eq_self, reduceIte, Bool.false_eq_true, li_neg]
theorem m_isInYes {n a b : Nat} {μ : St_} (hb : b < 2 ^ 31) (h : a ≤ n ∧ n ≤ b) : f_X12_isIn KC [.int (nI n), .int (nI a), .int (nI b)] μ = some (some (.int (nI 1)), μ) := by
  refine z_X12_isIn (e_X12_isIn_0 ?_)
  have h1 : ¬ n < a := by omega
  have h2 : ¬ b < n := by omega
  simp (disch := first | assumption | omega) only [h1, h2, Option.some.injEq, Prod.mk.injEq, Value.int.injEq, exists_and_left, exists_eq_left', and_assoc, true_and, and_true, true_implies, false_implies, not_true_eq_false, not_false_eq_true, li_0, li_1, li_2, li_3, li_4, li_5, li_8, li_9, li_10, li_16, li_20, li_80, li_100, li_130, li_144, li_390, li_400, li_M, li_H, li_of, nI_add, pk_mul, cl_, vp_iff, nI_leI, nI_ltI, nI_eq, Nat.add_zero, Nat.zero_add, Nat.reduceEqDiff, Nat.reduceAdd, eq_self, reduceIte, Bool.false_eq_true, li_neg]
section CL
variable {μ : St_} {B : Nat → Nat → Nat} {k : K_}
theorem m_cut67 {N : Nat} (hN : N ≤ 9) {x2 : Int32} {g : Nat → Int32} : ∀ n i (μ : St_), i + n = N → (∀ j, j < N → μ.1 239 j = g j) → (∀ j, j < i → μ.1 238 j = g j) → ∃ μ', Ev_ (P_X12_cut KC) 67 [some (.ref 219), some (.int (nI N)), some (.int x2), some (.int (nI i))] [] μ (some (.int (μ.1 219 43)), μ') ∧ (∀ j, j < N → μ'.1 238 j = g j) ∧ fr_ [238] μ μ' := by
  intro n
  induction n with
  | zero =>
    intro i μ hi h1 h2
    obtain rfl : i = N := by omega
    refine ⟨μ, e_X12_cut_67 ?_, h2, fr_rf _ _⟩
    simp (disch := first | assumption | omega) only [Nat.le_refl, Option.some.injEq, Prod.mk.injEq, Value.int.injEq, exists_and_left, exists_eq_left', and_assoc, true_and, and_true, true_implies, false_implies, not_true_eq_false, not_false_eq_true, li_0, li_1, li_2, li_3, li_4, li_5, li_8, li_9, li_10, li_16, li_20, li_80, li_100, li_130, li_144, li_390, li_400, li_M, li_H, li_of, nI_add, pk_mul, cl_, vp_iff, nI_leI, nI_ltI, nI_eq, Nat.add_zero, Nat.zero_add, Nat.reduceEqDiff, Nat.reduceAdd, eq_self, reduceIte, Bool.false_eq_true, li_neg]
  | succ n ih =>
    intro i μ hi h1 h2
    have hi1 : ¬ N ≤ i := by omega
    have hi2 : i < 9 := by omega
    obtain ⟨μ', q1, q2, q3⟩ := ih (i + 1) (sI_ μ 238 i (g i)) (by omega) (fun j hj => by rw [sI_row _ _ _ _ (by decide)]; exact h1 j hj) (fun j hj => by
      rw [sI_at]
      by_cases e : j = i
      · rw [if_pos ⟨rfl, e⟩, e]
      · rw [if_neg (fun z => e z.2)]
        exact h2 j (by omega))
    refine ⟨μ', e_X12_cut_67 ?_, q2, fr_tr (fr_sI (by simp)) q3⟩
    rw [sI_row _ _ _ _ (by decide)] at q1
    simp (disch := first | assumption | omega) only [hi1, h1 i (by omega), Option.some.injEq, Prod.mk.injEq, Value.int.injEq, exists_and_left, exists_eq_left', and_assoc, true_and, and_true, true_implies, false_implies, not_true_eq_false, not_false_eq_true, li_0, li_1, li_2, li_3, li_4, li_5, li_8, li_9, li_10, li_16, li_20, li_80, li_100, li_130, li_144, li_390, li_400, li_M, li_H, li_of, nI_add, pk_mul, cl_, vp_iff, nI_leI, nI_ltI, nI_eq, Nat.add_zero, Nat.zero_add, Nat.reduceEqDiff, Nat.reduceAdd, eq_self, reduceIte, Bool.false_eq_true, li_neg]
    (repeat' apply And.intro) <;> first | omega | rfl | assumption | exact q1
theorem m_chain124 {N : Nat} (hN : N ≤ 7) {g : Nat → Int32} : ∀ n i (μ : St_), i + n = N → μ.1 219 54 = nI N → (∀ j, j < N → μ.1 242 j = g j) → (∀ j, j < i → μ.1 241 j = g j) → ∃ μ', Ev_ (P_X12_chain KC) 124 [some (.ref 219), none, some (.int (nI i))] [] μ (some (.int (μ.1 219 52)), μ') ∧ (∀ j, j < N → μ'.1 241 j = g j) ∧ fr_ [241] μ μ' := by
  intro n
  induction n with
  | zero =>
    intro i μ hi h0 h1 h2
    obtain rfl : i = N := by omega
    refine ⟨μ, e_X12_chain_124 ?_, h2, fr_rf _ _⟩
    simp (disch := first | assumption | omega) only [h0, Nat.le_refl, Option.some.injEq, Prod.mk.injEq, Value.int.injEq, exists_and_left, exists_eq_left', and_assoc, true_and, and_true, true_implies, false_implies, not_true_eq_false, not_false_eq_true, li_0, li_1, li_2, li_3, li_4, li_5, li_8, li_9, li_10, li_16, li_20, li_80, li_100, li_130, li_144, li_390, li_400, li_M, li_H, li_of, nI_add, pk_mul, cl_, vp_iff, nI_leI, nI_ltI, nI_eq, Nat.add_zero, Nat.zero_add, Nat.reduceEqDiff, Nat.reduceAdd, eq_self, reduceIte, Bool.false_eq_true, li_neg]
  | succ n ih =>
    intro i μ hi h0 h1 h2
    have hi1 : ¬ N ≤ i := by omega
    have hi2 : i < 7 := by omega
    obtain ⟨μ', q1, q2, q3⟩ := ih (i + 1) (sI_ μ 241 i (g i)) (by omega) (by rw [sI_row _ _ _ _ (by decide)]; exact h0) (fun j hj => by rw [sI_row _ _ _ _ (by decide)]; exact h1 j hj) (fun j hj => by
      rw [sI_at]
      by_cases e : j = i
      · rw [if_pos ⟨rfl, e⟩, e]
      · rw [if_neg (fun z => e z.2)]
        exact h2 j (by omega))
    refine ⟨μ', e_X12_chain_124 ?_, q2, fr_tr (fr_sI (by simp)) q3⟩
    rw [sI_row _ _ _ _ (by decide)] at q1
    simp (disch := first | assumption | omega) only [h0, hi1, h1 i (by omega), Option.some.injEq, Prod.mk.injEq, Value.int.injEq, exists_and_left, exists_eq_left', and_assoc, true_and, and_true, true_implies, false_implies, not_true_eq_false, not_false_eq_true, li_0, li_1, li_2, li_3, li_4, li_5, li_8, li_9, li_10, li_16, li_20, li_80, li_100, li_130, li_144, li_390, li_400, li_M, li_H, li_of, nI_add, pk_mul, cl_, vp_iff, nI_leI, nI_ltI, nI_eq, Nat.add_zero, Nat.zero_add, Nat.reduceEqDiff, Nat.reduceAdd, eq_self, reduceIte, Bool.false_eq_true, li_neg]
    (repeat' apply And.intro) <;> first | omega | rfl | assumption | exact q1
theorem m_best73 {m w : Nat} (hm : m ≤ 6) (hw : w ≤ 9) {g : Nat → Nat} (hg : ∀ j, j < m → g j ≤ w) : ∀ n i (μ : St_), i + n = m → (∀ j, j < m → μ.1 235 j = nI (g j)) → (∀ j, j < i → μ.1 236 j = tv_ w (g j)) → ∃ μ', Ev_ (P_X12_best KC) 73 [some (.ref 219), some (.int (nI m)), some (.int (nI w)), some (.int (nI i))] [] μ (some (.int (μ.1 219 37)), μ') ∧ (∀ j, j < m → μ'.1 236 j = tv_ w (g j)) ∧ fr_ [236] μ μ' := by
  intro n
  induction n with
  | zero =>
    intro i μ hi h1 h2
    obtain rfl : i = m := by omega
    refine ⟨μ, e_X12_best_73 ?_, h2, fr_rf _ _⟩
    simp (disch := first | assumption | omega) only [Nat.le_refl, Option.some.injEq, Prod.mk.injEq, Value.int.injEq, exists_and_left, exists_eq_left', and_assoc, true_and, and_true, true_implies, false_implies, not_true_eq_false, not_false_eq_true, li_0, li_1, li_2, li_3, li_4, li_5, li_8, li_9, li_10, li_16, li_20, li_80, li_100, li_130, li_144, li_390, li_400, li_M, li_H, li_of, nI_add, pk_mul, cl_, vp_iff, nI_leI, nI_ltI, nI_eq, Nat.add_zero, Nat.zero_add, Nat.reduceEqDiff, Nat.reduceAdd, eq_self, reduceIte, Bool.false_eq_true, li_neg]
  | succ n ih =>
    intro i μ hi h1 h2
    have hi1 : ¬ m ≤ i := by omega
    have hi2 : i < 6 := by omega
    have hgi := hg i (by omega)
    obtain ⟨μ', q1, q2, q3⟩ := ih (i + 1) (sI_ μ 236 i (tv_ w (g i))) (by omega) (fun j hj => by rw [sI_row _ _ _ _ (by decide)]; exact h1 j hj) (fun j hj => by
      rw [sI_at]
      by_cases e : j = i
      · rw [if_pos ⟨rfl, e⟩, e]
      · rw [if_neg (fun z => e z.2)]
        exact h2 j (by omega))
    refine ⟨μ', e_X12_best_73 ?_, q2, fr_tr (fr_sI (by simp)) q3⟩
    rw [sI_row _ _ _ _ (by decide)] at q1
    by_cases e : g i = w
    · rw [show tv_ w (g i) = nM_ from if_pos e] at q1
      simp (disch := first | assumption | omega) only [hi1, h1 i (by omega), e, Option.some.injEq, Prod.mk.injEq, Value.int.injEq, exists_and_left, exists_eq_left', and_assoc, true_and, and_true, true_implies, false_implies, not_true_eq_false, not_false_eq_true, li_0, li_1, li_2, li_3, li_4, li_5, li_8, li_9, li_10, li_16, li_20, li_80, li_100, li_130, li_144, li_390, li_400, li_M, li_H, li_of, nI_add, pk_mul, cl_, vp_iff, nI_leI, nI_ltI, nI_eq, Nat.add_zero, Nat.zero_add, Nat.reduceEqDiff, Nat.reduceAdd, eq_self, reduceIte, Bool.false_eq_true, li_neg]
      (repeat' apply And.intro) <;> first | omega | rfl | assumption | exact q1
    · rw [show tv_ w (g i) = nI (g i) from if_neg e] at q1
      simp (disch := first | assumption | omega) only [hi1, h1 i (by omega), e, Option.some.injEq, Prod.mk.injEq, Value.int.injEq, exists_and_left, exists_eq_left', and_assoc, true_and, and_true, true_implies, false_implies, not_true_eq_false, not_false_eq_true, li_0, li_1, li_2, li_3, li_4, li_5, li_8, li_9, li_10, li_16, li_20, li_80, li_100, li_130, li_144, li_390, li_400, li_M, li_H, li_of, nI_add, pk_mul, cl_, vp_iff, nI_leI, nI_ltI, nI_eq, Nat.add_zero, Nat.zero_add, Nat.reduceEqDiff, Nat.reduceAdd, eq_self, reduceIte, Bool.false_eq_true, li_neg]
      (repeat' apply And.intro) <;> first | omega | rfl | assumption | exact q1
theorem m_all52 (hx : RX_ μ B) (hk : MK_ μ B k) {x1 : Int32} : (B 0 1 = 0 → Ev_ (P_X12_all KC) 52 [some (.ref 219), some (.int x1), some (.int nM_), some (.int (nI 1)), none] [] μ (some (.int (se_ B k)), μ)) ∧ (¬ B 0 1 = 0 → Ev_ (P_X12_all KC) 52 [some (.ref 219), some (.int x1), some (.int (nI 0)), some (.int (nI 1)), none] [] μ (some (.int (se_ B k)), μ)) := by
  have h3 := BO_c hx.2
  constructor
  · intro h
    rw [show se_ B k = nM_ from if_pos h]
    refine e_X12_all_52 ?_
    have h1 : B 0 1 ≤ 1 := by omega
    simp (disch := first | assumption | omega) only [m_readers hx, h1, Option.some.injEq, Prod.mk.injEq, Value.int.injEq, exists_and_left, exists_eq_left', and_assoc, true_and, and_true, true_implies, false_implies, not_true_eq_false, not_false_eq_true, li_0, li_1, li_2, li_3, li_4, li_5, li_8, li_9, li_10, li_16, li_20, li_80, li_100, li_130, li_144, li_390, li_400, li_M, li_H, li_of, nI_add, pk_mul, cl_, vp_iff, nI_leI, nI_ltI, nI_eq, Nat.add_zero, Nat.zero_add, Nat.reduceEqDiff, Nat.reduceAdd, eq_self, reduceIte, Bool.false_eq_true, li_neg]
  · intro h
    have loop : ∀ n d, d + 1 + n = B 0 1 → Ev_ (P_X12_all KC) 52 [some (.ref 219), some (.int x1), some (.int (nI (bs_ B k d))), some (.int (nI (d + 1))), none] [] μ (some (.int (se_ B k)), μ) := by
      intro n
      induction n with
      | zero =>
        intro d hd
        have h1 : B 0 1 ≤ d + 1 := by omega
        rw [show se_ B k = nI (bs_ B k (B 0 1 - 1)) from if_neg h, show B 0 1 - 1 = d by omega]
        refine e_X12_all_52 ?_
        simp (disch := first | assumption | omega) only [m_readers hx, h1, Option.some.injEq, Prod.mk.injEq, Value.int.injEq, exists_and_left, exists_eq_left', and_assoc, true_and, and_true, true_implies, false_implies, not_true_eq_false, not_false_eq_true, li_0, li_1, li_2, li_3, li_4, li_5, li_8, li_9, li_10, li_16, li_20, li_80, li_100, li_130, li_144, li_390, li_400, li_M, li_H, li_of, nI_add, pk_mul, cl_, vp_iff, nI_leI, nI_ltI, nI_eq, Nat.add_zero, Nat.zero_add, Nat.reduceEqDiff, Nat.reduceAdd, eq_self, reduceIte, Bool.false_eq_true, li_neg]
      | succ n ih =>
        intro d hd
        have h1 : ¬ B 0 1 ≤ d + 1 := by omega
        have ih1 := ih (d + 1) (by omega)
        have hle := bs_le B k d
        have i1 := m_inAll hx hk (show d + 1 < 9 by omega)
        have i2 := m_inAll hx hk (show bs_ B k d < 9 by omega)
        refine e_X12_all_52 ?_
        by_cases h4 : ia_ B k (bs_ B k d) < ia_ B k (d + 1)
        · have h5 := Int32.not_le.mpr h4
          rw [bs_, if_pos h4] at ih1
          simp (disch := first | assumption | omega) only [m_readers hx, h1, i1, i2, h5, Option.some.injEq, Prod.mk.injEq, Value.int.injEq, exists_and_left, exists_eq_left', and_assoc, true_and, and_true, true_implies, false_implies, not_true_eq_false, not_false_eq_true, li_0, li_1, li_2, li_3, li_4, li_5, li_8, li_9, li_10, li_16, li_20, li_80, li_100, li_130, li_144, li_390, li_400, li_M, li_H, li_of, nI_add, pk_mul, cl_, vp_iff, nI_leI, nI_ltI, nI_eq, Nat.add_zero, Nat.zero_add, Nat.reduceEqDiff, Nat.reduceAdd, eq_self, reduceIte, Bool.false_eq_true, li_neg]
          exact ih1
        · have h5 := Int32.not_lt.mp h4
          rw [bs_, if_neg h4] at ih1
          simp (disch := first | assumption | omega) only [m_readers hx, h1, i1, i2, h5, Option.some.injEq, Prod.mk.injEq, Value.int.injEq, exists_and_left, exists_eq_left', and_assoc, true_and, and_true, true_implies, false_implies, not_true_eq_false, not_false_eq_true, li_0, li_1, li_2, li_3, li_4, li_5, li_8, li_9, li_10, li_16, li_20, li_80, li_100, li_130, li_144, li_390, li_400, li_M, li_H, li_of, nI_add, pk_mul, cl_, vp_iff, nI_leI, nI_ltI, nI_eq, Nat.add_zero, Nat.zero_add, Nat.reduceEqDiff, Nat.reduceAdd, eq_self, reduceIte, Bool.false_eq_true, li_neg]
          exact ih1
    exact loop (B 0 1 - 1) 0 (by omega)
theorem m_all94 (hx : RX_ μ B) (hk : MK_ μ B k) {x1 : Int32} : ∀ n r, r + n = B 0 1 → Ev_ (P_X12_all KC) 94 [some (.ref 219), some (.int x1), some (.int (nI (um_ B k r))), some (.int (nI r)), none] [] μ (some (.int (nI (um_ B k (B 0 1)))), μ) := by
  have hO := hx.2
  have h3 := BO_c hO
  have in_ : ∀ r, r < B 0 1 → Ev_ (P_X12_all KC) 94 [some (.ref 219), some (.int x1), some (.int (nI (um_ B k (r + 1)))), some (.int (nI (r + 1))), none] [] μ (some (.int (nI (um_ B k (B 0 1)))), μ) → ∀ n c, c + n = B 0 0 → Ev_ (P_X12_all KC) 105 [some (.ref 219), some (.int x1), some (.int (nI (um_ B k r + uc_ B k r c))), some (.int (nI r)), some (.int (nI c))] [] μ (some (.int (nI (um_ B k (B 0 1)))), μ) := by
    intro r hr hend n
    induction n with
    | zero =>
      intro c hc
      obtain rfl : c = B 0 0 := by omega
      refine e_X12_all_105 ?_
      simp (disch := first | assumption | omega) only [m_chaps hx, Nat.le_refl, Option.some.injEq, Prod.mk.injEq, Value.int.injEq, exists_and_left, exists_eq_left', and_assoc, true_and, and_true, true_implies, false_implies, not_true_eq_false, not_false_eq_true, li_0, li_1, li_2, li_3, li_4, li_5, li_8, li_9, li_10, li_16, li_20, li_80, li_100, li_130, li_144, li_390, li_400, li_M, li_H, li_of, nI_add, pk_mul, cl_, vp_iff, nI_leI, nI_ltI, nI_eq, Nat.add_zero, Nat.zero_add, Nat.reduceEqDiff, Nat.reduceAdd, eq_self, reduceIte, Bool.false_eq_true, li_neg]
      exact hend
    | succ n ih =>
      intro c hc
      have h1 : ¬ B 0 0 ≤ c := by omega
      have h2 : c < B 0 0 := by omega
      have hr9 : r < 9 := by omega
      have h4 := BO_cc hO h2
      have ih1 := ih (c + 1) (by omega)
      have ew : f_X12_chapOf KC [.ref 219, .int (nI c), .int (nI 2)] μ = some (some (.int (nI (B 3 c))), μ) := m_chapOf (w := 2) hx h2 (by omega)
      refine e_X12_all_105 ?_
      by_cases h5 : B 3 c = 1
      · by_cases h6 : hb_ (k.2.1 r) c
        · rw [uc_, if_neg (fun z => z.2 h6)] at ih1
          simp (disch := first | assumption | omega) only [m_chaps hx, h1, ew, h5, MK_r hk hr, m_hasK, h6, if_true, if_pos, Option.some.injEq, Prod.mk.injEq, Value.int.injEq, exists_and_left, exists_eq_left', and_assoc, true_and, and_true, true_implies, false_implies, not_true_eq_false, not_false_eq_true, li_0, li_1, li_2, li_3, li_4, li_5, li_8, li_9, li_10, li_16, li_20, li_80, li_100, li_130, li_144, li_390, li_400, li_M, li_H, li_of, nI_add, pk_mul, cl_, vp_iff, nI_leI, nI_ltI, nI_eq, Nat.add_zero, Nat.zero_add, Nat.reduceEqDiff, Nat.reduceAdd, eq_self, reduceIte, Bool.false_eq_true, li_neg]
          (repeat' apply And.intro) <;> first | omega | rfl | assumption | exact ih1
        · rw [uc_, if_pos ⟨h5, h6⟩] at ih1
          simp (disch := first | assumption | omega) only [m_chaps hx, h1, ew, h5, MK_r hk hr, m_hasK, h6, if_false, if_neg, Option.some.injEq, Prod.mk.injEq, Value.int.injEq, exists_and_left, exists_eq_left', and_assoc, true_and, and_true, true_implies, false_implies, not_true_eq_false, not_false_eq_true, li_0, li_1, li_2, li_3, li_4, li_5, li_8, li_9, li_10, li_16, li_20, li_80, li_100, li_130, li_144, li_390, li_400, li_M, li_H, li_of, nI_add, pk_mul, cl_, vp_iff, nI_leI, nI_ltI, nI_eq, Nat.add_zero, Nat.zero_add, Nat.reduceEqDiff, Nat.reduceAdd, eq_self, reduceIte, Bool.false_eq_true, li_neg]
          (repeat' apply And.intro) <;> first | omega | rfl | assumption | exact ih1
      · rw [uc_, if_neg (fun z => h5 z.1)] at ih1
        simp (disch := first | assumption | omega) only [m_chaps hx, h1, ew, h5, Option.some.injEq, Prod.mk.injEq, Value.int.injEq, exists_and_left, exists_eq_left', and_assoc, true_and, and_true, true_implies, false_implies, not_true_eq_false, not_false_eq_true, li_0, li_1, li_2, li_3, li_4, li_5, li_8, li_9, li_10, li_16, li_20, li_80, li_100, li_130, li_144, li_390, li_400, li_M, li_H, li_of, nI_add, pk_mul, cl_, vp_iff, nI_leI, nI_ltI, nI_eq, Nat.add_zero, Nat.zero_add, Nat.reduceEqDiff, Nat.reduceAdd, eq_self, reduceIte, Bool.false_eq_true, li_neg]
        (repeat' apply And.intro) <;> first | omega | rfl | assumption | exact ih1
  intro n
  induction n with
  | zero =>
    intro r hr
    obtain rfl : r = B 0 1 := by omega
    refine e_X12_all_94 ?_
    simp (disch := first | assumption | omega) only [m_readers hx, Nat.le_refl, Option.some.injEq, Prod.mk.injEq, Value.int.injEq, exists_and_left, exists_eq_left', and_assoc, true_and, and_true, true_implies, false_implies, not_true_eq_false, not_false_eq_true, li_0, li_1, li_2, li_3, li_4, li_5, li_8, li_9, li_10, li_16, li_20, li_80, li_100, li_130, li_144, li_390, li_400, li_M, li_H, li_of, nI_add, pk_mul, cl_, vp_iff, nI_leI, nI_ltI, nI_eq, Nat.add_zero, Nat.zero_add, Nat.reduceEqDiff, Nat.reduceAdd, eq_self, reduceIte, Bool.false_eq_true, li_neg]
  | succ n ih =>
    intro r hr
    have h1 : ¬ B 0 1 ≤ r := by omega
    have t := in_ r (by omega) (ih (r + 1) (by omega)) (B 0 0) 0 (by omega)
    refine e_X12_all_94 ?_
    simp (disch := first | assumption | omega) only [m_readers hx, h1, Option.some.injEq, Prod.mk.injEq, Value.int.injEq, exists_and_left, exists_eq_left', and_assoc, true_and, and_true, true_implies, false_implies, not_true_eq_false, not_false_eq_true, li_0, li_1, li_2, li_3, li_4, li_5, li_8, li_9, li_10, li_16, li_20, li_80, li_100, li_130, li_144, li_390, li_400, li_M, li_H, li_of, nI_add, pk_mul, cl_, vp_iff, nI_leI, nI_ltI, nI_eq, Nat.add_zero, Nat.zero_add, Nat.reduceEqDiff, Nat.reduceAdd, eq_self, reduceIte, Bool.false_eq_true, li_neg]
    exact t
end CL
