/-! after, all, extra, ask -/
section CI
variable {σ μ μ1 : St_} {b p a : Nat} {B P : Nat → Nat → Nat}
theorem in_t {w n : Nat} (h : w ≤ n) (hn : n < 2 ^ 31) : ¬ ((nI w).toInt < 0 ∨ (n : Int) < (nI w).toInt) := by
  rw [nI_toInt (by omega)]
  omega
theorem after_both (h : NOW_ σ μ1 b p B P a) (hl : LY_ μ μ1) (x1 x2 : Int32) : ∃ v σ' μ', f_X11_after KC [.ref 0, .int x1, .int x2] σ = some (some (.int v), σ') ∧ f_X12_after KC [.ref 219, .int x1, .int x2] μ = some (some (.int v), μ') ∧ REd_ σ σ' μ1 μ' b B P a := by
  have h0 := h
  obtain ⟨⟨hB, hP, h12, h14⟩, ⟨hC, hp, hr⟩, hx, hpm, ho⟩ := h
  have hO := hx.2
  have hb := BO_c hO
  obtain ⟨σ', μ', a1, a2, a3, a4, a5, a6, b1, b2, b3, b4, b5, b6, b7⟩ := now_run h0 hl
  rcases id_or x1 (n := B 0 1) (by omega) with ⟨r, rfl, hr1⟩ | h1
  · have hr9 : r < 9 := by omega
    have c1 := c_hasReaderYes hB hC hO hr1
    have m1 := m_isReaderYes b5 hr1
    rcases in_or x2 (a := 0) (b := 3) (by omega) (by omega) with ⟨w, rfl, -, hw⟩ | h2
    · have i3 := m_isInYes (μ := μ') (b := 3) (by omega) (show 0 ≤ w ∧ w ≤ 3 from ⟨Nat.zero_le _, hw⟩)
      have ht : ¬ ((nI w).toInt < 0 ∨ 3 < (nI w).toInt) := in_t (n := 3) hw (by omega)
      have fin : ∀ v, f_X11_after KC [.ref 0, .int (nI r), .int (nI w)] σ = some (some (.int v), σ') → f_X12_after KC [.ref 219, .int (nI r), .int (nI w)] μ = some (some (.int v), μ') → ∃ v σ' μ', f_X11_after KC [.ref 0, .int (nI r), .int (nI w)] σ = some (some (.int v), σ') ∧ f_X12_after KC [.ref 219, .int (nI r), .int (nI w)] μ = some (some (.int v), μ') ∧ REd_ σ σ' μ1 μ' b B P a := fun v q1 q2 => ⟨v, σ', μ', q1, q2, a5, b6, .inr ⟨a3, a4⟩, a6, b7⟩
      have w4 : w = 0 ∨ w = 1 ∨ w = 2 ∨ w = 3 := by omega
      have e1 := CK_l a4.2.1 hr1
      have e2 := CK_r a4.2.1 hr1
      have e3 := (a4.2.1.1 r hr1).2.2
      have e3' : σ'.1 83 r = (ru_ B P a).1.2.2.1 r := e3
      have e1' : σ'.1 81 r = (ru_ B P a).1.1 r := e1
      have e2' : σ'.1 82 r = (ru_ B P a).1.2.1 r := e2
      have f1 := MK_l b2 hr1
      have f2 := MK_r b2 hr1
      have f3 : μ'.1 232 r = (ru_ B P a).1.2.2.1 r := (b2.1 r hr1).2.2
      rcases w4 with rfl | rfl | rfl | rfl
      · refine fin ((ru_ B P a).1.1 r) (z_X11_after (e_X11_after_0 ?_)) (z_X12_after (e_X12_after_0 ?_))
        · simp (disch := first | assumption | omega) only [h12, hB, c1, a1, ht, e1', Option.some.injEq, Prod.mk.injEq, Value.int.injEq, exists_and_left, exists_eq_left', and_assoc, true_and, and_true, true_implies, false_implies, not_true_eq_false, not_false_eq_true, li_0, li_1, li_2, li_3, li_4, li_5, li_8, li_9, li_10, li_16, li_20, li_80, li_100, li_130, li_144, li_390, li_400, li_M, li_H, li_of, nI_add, pk_mul, cl_, vp_iff, nI_leI, nI_ltI, nI_eq, Nat.add_zero, Nat.zero_add, Nat.reduceEqDiff, Nat.reduceAdd, eq_self, reduceIte, Bool.false_eq_true, li_neg]
          all_goals ((repeat' apply And.intro) <;> first | omega | rfl | assumption)
        · simp (disch := first | assumption | omega) only [b1, m1, i3, f1, Option.some.injEq, Prod.mk.injEq, Value.int.injEq, exists_and_left, exists_eq_left', and_assoc, true_and, and_true, true_implies, false_implies, not_true_eq_false, not_false_eq_true, li_0, li_1, li_2, li_3, li_4, li_5, li_8, li_9, li_10, li_16, li_20, li_80, li_100, li_130, li_144, li_390, li_400, li_M, li_H, li_of, nI_add, pk_mul, cl_, vp_iff, nI_leI, nI_ltI, nI_eq, Nat.add_zero, Nat.zero_add, Nat.reduceEqDiff, Nat.reduceAdd, eq_self, reduceIte, Bool.false_eq_true, li_neg]
          all_goals ((repeat' apply And.intro) <;> first | omega | rfl | assumption)
      · refine fin (ia_ B (ru_ B P a).1 r) (z_X11_after (e_X11_after_0 ?_)) (z_X12_after (e_X12_after_0 ?_))
        · simp (disch := first | assumption | omega) only [h12, hB, c1, a1, ht, c_inAll a2 a4.2.1 hr9, Option.some.injEq, Prod.mk.injEq, Value.int.injEq, exists_and_left, exists_eq_left', and_assoc, true_and, and_true, true_implies, false_implies, not_true_eq_false, not_false_eq_true, li_0, li_1, li_2, li_3, li_4, li_5, li_8, li_9, li_10, li_16, li_20, li_80, li_100, li_130, li_144, li_390, li_400, li_M, li_H, li_of, nI_add, pk_mul, cl_, vp_iff, nI_leI, nI_ltI, nI_eq, Nat.add_zero, Nat.zero_add, Nat.reduceEqDiff, Nat.reduceAdd, eq_self, reduceIte, Bool.false_eq_true, li_neg]
          all_goals ((repeat' apply And.intro) <;> first | omega | rfl | assumption)
        · simp (disch := first | assumption | omega) only [b1, m1, i3, m_inAll b5 b2 hr9, Option.some.injEq, Prod.mk.injEq, Value.int.injEq, exists_and_left, exists_eq_left', and_assoc, true_and, and_true, true_implies, false_implies, not_true_eq_false, not_false_eq_true, li_0, li_1, li_2, li_3, li_4, li_5, li_8, li_9, li_10, li_16, li_20, li_80, li_100, li_130, li_144, li_390, li_400, li_M, li_H, li_of, nI_add, pk_mul, cl_, vp_iff, nI_leI, nI_ltI, nI_eq, Nat.add_zero, Nat.zero_add, Nat.reduceEqDiff, Nat.reduceAdd, eq_self, reduceIte, Bool.false_eq_true, li_neg]
          all_goals ((repeat' apply And.intro) <;> first | omega | rfl | assumption)
      · refine fin ((ru_ B P a).1.2.1 r) (z_X11_after (e_X11_after_0 ?_)) (z_X12_after (e_X12_after_0 ?_))
        · simp (disch := first | assumption | omega) only [h12, hB, c1, a1, ht, e2', Option.some.injEq, Prod.mk.injEq, Value.int.injEq, exists_and_left, exists_eq_left', and_assoc, true_and, and_true, true_implies, false_implies, not_true_eq_false, not_false_eq_true, li_0, li_1, li_2, li_3, li_4, li_5, li_8, li_9, li_10, li_16, li_20, li_80, li_100, li_130, li_144, li_390, li_400, li_M, li_H, li_of, nI_add, pk_mul, cl_, vp_iff, nI_leI, nI_ltI, nI_eq, Nat.add_zero, Nat.zero_add, Nat.reduceEqDiff, Nat.reduceAdd, eq_self, reduceIte, Bool.false_eq_true, li_neg]
          all_goals ((repeat' apply And.intro) <;> first | omega | rfl | assumption)
        · simp (disch := first | assumption | omega) only [b1, m1, i3, f2, Option.some.injEq, Prod.mk.injEq, Value.int.injEq, exists_and_left, exists_eq_left', and_assoc, true_and, and_true, true_implies, false_implies, not_true_eq_false, not_false_eq_true, li_0, li_1, li_2, li_3, li_4, li_5, li_8, li_9, li_10, li_16, li_20, li_80, li_100, li_130, li_144, li_390, li_400, li_M, li_H, li_of, nI_add, pk_mul, cl_, vp_iff, nI_leI, nI_ltI, nI_eq, Nat.add_zero, Nat.zero_add, Nat.reduceEqDiff, Nat.reduceAdd, eq_self, reduceIte, Bool.false_eq_true, li_neg]
          all_goals ((repeat' apply And.intro) <;> first | omega | rfl | assumption)
      · refine fin ((ru_ B P a).1.2.2.1 r) (z_X11_after (e_X11_after_0 ?_)) (z_X12_after (e_X12_after_0 ?_))
        · simp (disch := first | assumption | omega) only [h12, hB, c1, a1, ht, e3', Option.some.injEq, Prod.mk.injEq, Value.int.injEq, exists_and_left, exists_eq_left', and_assoc, true_and, and_true, true_implies, false_implies, not_true_eq_false, not_false_eq_true, li_0, li_1, li_2, li_3, li_4, li_5, li_8, li_9, li_10, li_16, li_20, li_80, li_100, li_130, li_144, li_390, li_400, li_M, li_H, li_of, nI_add, pk_mul, cl_, vp_iff, nI_leI, nI_ltI, nI_eq, Nat.add_zero, Nat.zero_add, Nat.reduceEqDiff, Nat.reduceAdd, eq_self, reduceIte, Bool.false_eq_true, li_neg]
          all_goals ((repeat' apply And.intro) <;> first | omega | rfl | assumption)
        · simp (disch := first | assumption | omega) only [b1, m1, i3, f3, Option.some.injEq, Prod.mk.injEq, Value.int.injEq, exists_and_left, exists_eq_left', and_assoc, true_and, and_true, true_implies, false_implies, not_true_eq_false, not_false_eq_true, li_0, li_1, li_2, li_3, li_4, li_5, li_8, li_9, li_10, li_16, li_20, li_80, li_100, li_130, li_144, li_390, li_400, li_M, li_H, li_of, nI_add, pk_mul, cl_, vp_iff, nI_leI, nI_ltI, nI_eq, Nat.add_zero, Nat.zero_add, Nat.reduceEqDiff, Nat.reduceAdd, eq_self, reduceIte, Bool.false_eq_true, li_neg]
          all_goals ((repeat' apply And.intro) <;> first | omega | rfl | assumption)
    · have i3 := m_isInNo (μ := μ') h2
      have ht : x2.toInt < 0 ∨ 3 < x2.toInt := h2.elim (fun z => .inl (neg_t z)) (fun z => .inr (big_t (n := 3) (by omega) z))
      have hn : ∀ w, w ≤ 3 → ¬ x2 = nI w := fun w hw z => by
        subst z
        exact in_t (n := 3) hw (by omega) ht
      have n0 := hn 0 (by omega)
      have n1 := hn 1 (by omega)
      have n2 := hn 2 (by omega)
      have n3 := hn 3 (by omega)
      refine ⟨nM_, σ', μ', z_X11_after (e_X11_after_0 ?_), z_X12_after (e_X12_after_0 ?_), a5, b6, .inr ⟨a3, a4⟩, a6, b7⟩
      · simp (disch := first | assumption | omega) only [h12, hB, c1, a1, ht, n0, n1, n2, n3, Option.some.injEq, Prod.mk.injEq, Value.int.injEq, exists_and_left, exists_eq_left', and_assoc, true_and, and_true, true_implies, false_implies, not_true_eq_false, not_false_eq_true, li_0, li_1, li_2, li_3, li_4, li_5, li_8, li_9, li_10, li_16, li_20, li_80, li_100, li_130, li_144, li_390, li_400, li_M, li_H, li_of, nI_add, pk_mul, cl_, vp_iff, nI_leI, nI_ltI, nI_eq, Nat.add_zero, Nat.zero_add, Nat.reduceEqDiff, Nat.reduceAdd, eq_self, reduceIte, Bool.false_eq_true, li_neg]
      · simp (disch := first | assumption | omega) only [b1, m1, i3, Option.some.injEq, Prod.mk.injEq, Value.int.injEq, exists_and_left, exists_eq_left', and_assoc, true_and, and_true, true_implies, false_implies, not_true_eq_false, not_false_eq_true, li_0, li_1, li_2, li_3, li_4, li_5, li_8, li_9, li_10, li_16, li_20, li_80, li_100, li_130, li_144, li_390, li_400, li_M, li_H, li_of, nI_add, pk_mul, cl_, vp_iff, nI_leI, nI_ltI, nI_eq, Nat.add_zero, Nat.zero_add, Nat.reduceEqDiff, Nat.reduceAdd, eq_self, reduceIte, Bool.false_eq_true, li_neg]
  · refine ⟨nM_, σ, μ', z_X11_after (e_X11_after_0 ?_), z_X12_after (e_X12_after_0 ?_), RCF_rf, b6, hr, rfl, b7⟩
    · simp (disch := first | assumption | omega) only [h12, hB, c_hasReaderNo hB hC h1, Option.some.injEq, Prod.mk.injEq, Value.int.injEq, exists_and_left, exists_eq_left', and_assoc, true_and, and_true, true_implies, false_implies, not_true_eq_false, not_false_eq_true, li_0, li_1, li_2, li_3, li_4, li_5, li_8, li_9, li_10, li_16, li_20, li_80, li_100, li_130, li_144, li_390, li_400, li_M, li_H, li_of, nI_add, pk_mul, cl_, vp_iff, nI_leI, nI_ltI, nI_eq, Nat.add_zero, Nat.zero_add, Nat.reduceEqDiff, Nat.reduceAdd, eq_self, reduceIte, Bool.false_eq_true, li_neg]
    · simp (disch := first | assumption | omega) only [b1, m_isReaderNo b5 h1, Option.some.injEq, Prod.mk.injEq, Value.int.injEq, exists_and_left, exists_eq_left', and_assoc, true_and, and_true, true_implies, false_implies, not_true_eq_false, not_false_eq_true, li_0, li_1, li_2, li_3, li_4, li_5, li_8, li_9, li_10, li_16, li_20, li_80, li_100, li_130, li_144, li_390, li_400, li_M, li_H, li_of, nI_add, pk_mul, cl_, vp_iff, nI_leI, nI_ltI, nI_eq, Nat.add_zero, Nat.zero_add, Nat.reduceEqDiff, Nat.reduceAdd, eq_self, reduceIte, Bool.false_eq_true, li_neg]
theorem all_both (h : NOW_ σ μ1 b p B P a) (hl : LY_ μ μ1) (x1 : Int32) : ∃ v σ' μ', f_X11_all KC [.ref 0, .int x1] σ = some (some (.int v), σ') ∧ f_X12_all KC [.ref 219, .int x1] μ = some (some (.int v), μ') ∧ REd_ σ σ' μ1 μ' b B P a := by
  have h0 := h
  obtain ⟨⟨hB, hP, h12, h14⟩, ⟨hC, hp, hr⟩, hx, hpm, ho⟩ := h
  have hO := hx.2
  have hb := BO_c hO
  have hK := KB_ru hO ho
  obtain ⟨σ', μ', a1, a2, a3, a4, a5, a6, b1, b2, b3, b4, b5, b6, b7⟩ := now_run h0 hl
  have fin : ∀ v, f_X11_all KC [.ref 0, .int x1] σ = some (some (.int v), σ') → f_X12_all KC [.ref 219, .int x1] μ = some (some (.int v), μ') → ∃ v σ' μ', f_X11_all KC [.ref 0, .int x1] σ = some (some (.int v), σ') ∧ f_X12_all KC [.ref 219, .int x1] μ = some (some (.int v), μ') ∧ REd_ σ σ' μ1 μ' b B P a := fun v q1 q2 => ⟨v, σ', μ', q1, q2, a5, b6, .inr ⟨a3, a4⟩, a6, b7⟩
  have l3 : (3 : Int32) = nI 3 := rfl
  rcases in_or x1 (a := 0) (b := 3) (by omega) (by omega) with ⟨w, rfl, -, hw⟩ | h2
  · have ht : ¬ ((nI w).toInt < 0 ∨ 3 < (nI w).toInt) := in_t (n := 3) hw (by omega)
    have w4 : w = 0 ∨ w = 1 ∨ w = 2 ∨ w = 3 := by omega
    rcases w4 with rfl | rfl | rfl | rfl
    · refine fin (smK_ B (ru_ B P a).1 (B 0 1)) (z_X11_all (e_X11_all_0 ?_)) (z_X12_all (e_X12_all_0 ?_))
      · simp (disch := first | assumption | omega) only [a1, ht, c_sum a2 a4.2.1, l3, Option.some.injEq, Prod.mk.injEq, Value.int.injEq, exists_and_left, exists_eq_left', and_assoc, true_and, and_true, true_implies, false_implies, not_true_eq_false, not_false_eq_true, li_0, li_1, li_2, li_3, li_4, li_5, li_8, li_9, li_10, li_16, li_20, li_80, li_100, li_130, li_144, li_390, li_400, li_M, li_H, li_of, nI_add, pk_mul, cl_, vp_iff, nI_leI, nI_ltI, nI_eq, Nat.add_zero, Nat.zero_add, Nat.reduceEqDiff, Nat.reduceAdd, eq_self, reduceIte, Bool.false_eq_true, li_neg]
      · simp (disch := first | assumption | omega) only [b1, m_readers b5, m_sum b5 b2 hb.2, l3, Option.some.injEq, Prod.mk.injEq, Value.int.injEq, exists_and_left, exists_eq_left', and_assoc, true_and, and_true, true_implies, false_implies, not_true_eq_false, not_false_eq_true, li_0, li_1, li_2, li_3, li_4, li_5, li_8, li_9, li_10, li_16, li_20, li_80, li_100, li_130, li_144, li_390, li_400, li_M, li_H, li_of, nI_add, pk_mul, cl_, vp_iff, nI_leI, nI_ltI, nI_eq, Nat.add_zero, Nat.zero_add, Nat.reduceEqDiff, Nat.reduceAdd, eq_self, reduceIte, Bool.false_eq_true, li_neg]
    · have m5 := m_all52 (x1 := nI 1) b5 b2
      refine fin (se_ B (ru_ B P a).1) (z_X11_all (e_X11_all_0 ?_)) (z_X12_all (e_X12_all_0 ?_))
      · simp (disch := first | assumption | omega) only [a1, ht, c_sent a2 a4.2.1 hK, l3, Option.some.injEq, Prod.mk.injEq, Value.int.injEq, exists_and_left, exists_eq_left', and_assoc, true_and, and_true, true_implies, false_implies, not_true_eq_false, not_false_eq_true, li_0, li_1, li_2, li_3, li_4, li_5, li_8, li_9, li_10, li_16, li_20, li_80, li_100, li_130, li_144, li_390, li_400, li_M, li_H, li_of, nI_add, pk_mul, cl_, vp_iff, nI_leI, nI_ltI, nI_eq, Nat.add_zero, Nat.zero_add, Nat.reduceEqDiff, Nat.reduceAdd, eq_self, reduceIte, Bool.false_eq_true, li_neg]
      · by_cases hR : B 0 1 = 0
        · have m5' := m5.1 hR
          simp (disch := first | assumption | omega) only [b1, m_readers b5, l3, hR, Option.some.injEq, Prod.mk.injEq, Value.int.injEq, exists_and_left, exists_eq_left', and_assoc, true_and, and_true, true_implies, false_implies, not_true_eq_false, not_false_eq_true, li_0, li_1, li_2, li_3, li_4, li_5, li_8, li_9, li_10, li_16, li_20, li_80, li_100, li_130, li_144, li_390, li_400, li_M, li_H, li_of, nI_add, pk_mul, cl_, vp_iff, nI_leI, nI_ltI, nI_eq, Nat.add_zero, Nat.zero_add, Nat.reduceEqDiff, Nat.reduceAdd, eq_self, reduceIte, Bool.false_eq_true, li_neg]
          all_goals ((repeat' apply And.intro) <;> first | omega | rfl | assumption | exact m5')
        · have m5' := m5.2 hR
          simp (disch := first | assumption | omega) only [b1, m_readers b5, l3, hR, Option.some.injEq, Prod.mk.injEq, Value.int.injEq, exists_and_left, exists_eq_left', and_assoc, true_and, and_true, true_implies, false_implies, not_true_eq_false, not_false_eq_true, li_0, li_1, li_2, li_3, li_4, li_5, li_8, li_9, li_10, li_16, li_20, li_80, li_100, li_130, li_144, li_390, li_400, li_M, li_H, li_of, nI_add, pk_mul, cl_, vp_iff, nI_leI, nI_ltI, nI_eq, Nat.add_zero, Nat.zero_add, Nat.reduceEqDiff, Nat.reduceAdd, eq_self, reduceIte, Bool.false_eq_true, li_neg]
          all_goals ((repeat' apply And.intro) <;> first | omega | rfl | assumption | exact m5')
    · have m9 := m_all94 (x1 := nI 2) b5 b2 (B 0 1) 0 (by omega)
      have m9' : Ev_ (P_X12_all KC) 94 [some (.ref 219), some (.int (nI 2)), some (.int (nI 0)), some (.int (nI 0)), none] [] μ' _ := m9
      refine fin (nI (um_ B (ru_ B P a).1 (B 0 1))) (z_X11_all (e_X11_all_0 ?_)) (z_X12_all (e_X12_all_0 ?_))
      · simp (disch := first | assumption | omega) only [a1, ht, c_unread a2 a4.2.1, l3, Option.some.injEq, Prod.mk.injEq, Value.int.injEq, exists_and_left, exists_eq_left', and_assoc, true_and, and_true, true_implies, false_implies, not_true_eq_false, not_false_eq_true, li_0, li_1, li_2, li_3, li_4, li_5, li_8, li_9, li_10, li_16, li_20, li_80, li_100, li_130, li_144, li_390, li_400, li_M, li_H, li_of, nI_add, pk_mul, cl_, vp_iff, nI_leI, nI_ltI, nI_eq, Nat.add_zero, Nat.zero_add, Nat.reduceEqDiff, Nat.reduceAdd, eq_self, reduceIte, Bool.false_eq_true, li_neg]
      · simp (disch := first | assumption | omega) only [b1, l3, Option.some.injEq, Prod.mk.injEq, Value.int.injEq, exists_and_left, exists_eq_left', and_assoc, true_and, and_true, true_implies, false_implies, not_true_eq_false, not_false_eq_true, li_0, li_1, li_2, li_3, li_4, li_5, li_8, li_9, li_10, li_16, li_20, li_80, li_100, li_130, li_144, li_390, li_400, li_M, li_H, li_of, nI_add, pk_mul, cl_, vp_iff, nI_leI, nI_ltI, nI_eq, Nat.add_zero, Nat.zero_add, Nat.reduceEqDiff, Nat.reduceAdd, eq_self, reduceIte, Bool.false_eq_true, li_neg]
        all_goals ((repeat' apply And.intro) <;> first | omega | rfl | assumption | exact m9')
    · refine fin (nI (la_ B (ru_ B P a).1 (B 0 0))) (z_X11_all (e_X11_all_0 ?_)) (z_X12_all (e_X12_all_0 ?_))
      · simp (disch := first | assumption | omega) only [a1, ht, c_lacking a2 a4.2.1, l3, Option.some.injEq, Prod.mk.injEq, Value.int.injEq, exists_and_left, exists_eq_left', and_assoc, true_and, and_true, true_implies, false_implies, not_true_eq_false, not_false_eq_true, li_0, li_1, li_2, li_3, li_4, li_5, li_8, li_9, li_10, li_16, li_20, li_80, li_100, li_130, li_144, li_390, li_400, li_M, li_H, li_of, nI_add, pk_mul, cl_, vp_iff, nI_leI, nI_ltI, nI_eq, Nat.add_zero, Nat.zero_add, Nat.reduceEqDiff, Nat.reduceAdd, eq_self, reduceIte, Bool.false_eq_true, li_neg]
      · simp (disch := first | assumption | omega) only [b1, m_lacking b5 b2 hK, l3, Option.some.injEq, Prod.mk.injEq, Value.int.injEq, exists_and_left, exists_eq_left', and_assoc, true_and, and_true, true_implies, false_implies, not_true_eq_false, not_false_eq_true, li_0, li_1, li_2, li_3, li_4, li_5, li_8, li_9, li_10, li_16, li_20, li_80, li_100, li_130, li_144, li_390, li_400, li_M, li_H, li_of, nI_add, pk_mul, cl_, vp_iff, nI_leI, nI_ltI, nI_eq, Nat.add_zero, Nat.zero_add, Nat.reduceEqDiff, Nat.reduceAdd, eq_self, reduceIte, Bool.false_eq_true, li_neg]
  · have ht : x1.toInt < 0 ∨ 3 < x1.toInt := h2.elim (fun z => .inl (neg_t z)) (fun z => .inr (big_t (n := 3) (by omega) z))
    have hn : ∀ w, w ≤ 3 → ¬ x1 = nI w := fun w hw z => by
      subst z
      exact in_t (n := 3) hw (by omega) ht
    have n0 := hn 0 (by omega)
    have n1 := hn 1 (by omega)
    have n2 := hn 2 (by omega)
    have n3 := hn 3 (by omega)
    refine fin nM_ (z_X11_all (e_X11_all_0 ?_)) (z_X12_all (e_X12_all_0 ?_))
    · simp (disch := first | assumption | omega) only [a1, ht, l3, n0, n1, n2, n3, Option.some.injEq, Prod.mk.injEq, Value.int.injEq, exists_and_left, exists_eq_left', and_assoc, true_and, and_true, true_implies, false_implies, not_true_eq_false, not_false_eq_true, li_0, li_1, li_2, li_3, li_4, li_5, li_8, li_9, li_10, li_16, li_20, li_80, li_100, li_130, li_144, li_390, li_400, li_M, li_H, li_of, nI_add, pk_mul, cl_, vp_iff, nI_leI, nI_ltI, nI_eq, Nat.add_zero, Nat.zero_add, Nat.reduceEqDiff, Nat.reduceAdd, eq_self, reduceIte, Bool.false_eq_true, li_neg]
    · simp (disch := first | assumption | omega) only [b1, l3, n0, n1, n2, n3, Option.some.injEq, Prod.mk.injEq, Value.int.injEq, exists_and_left, exists_eq_left', and_assoc, true_and, and_true, true_implies, false_implies, not_true_eq_false, not_false_eq_true, li_0, li_1, li_2, li_3, li_4, li_5, li_8, li_9, li_10, li_16, li_20, li_80, li_100, li_130, li_144, li_390, li_400, li_M, li_H, li_of, nI_add, pk_mul, cl_, vp_iff, nI_leI, nI_ltI, nI_eq, Nat.add_zero, Nat.zero_add, Nat.reduceEqDiff, Nat.reduceAdd, eq_self, reduceIte, Bool.false_eq_true, li_neg]
theorem extra_both (h : NOW_ σ μ1 b p B P a) (hl : LY_ μ μ1) (x1 : Int32) : ∃ v σ' μ', f_X11_extra KC [.ref 0, .int x1] σ = some (some (.int v), σ') ∧ f_X12_extra KC [.ref 219, .int x1] μ = some (some (.int v), μ') ∧ REd_ σ σ' μ1 μ' b B P a := by
  have h0 := h
  obtain ⟨⟨hB, hP, h12, h14⟩, ⟨hC, hp, hr⟩, hx, hpm, ho⟩ := h
  have hO := hx.2
  have hb := BO_c hO
  obtain ⟨σ', μ', a1, a2, a3, a4, a5, a6, b1, b2, b3, b4, b5, b6, b7⟩ := now_run h0 hl
  rcases in_or x1 (a := 0) (b := 2) (by omega) (by omega) with ⟨w, rfl, -, hw⟩ | h2
  · have hw0 : ¬ nI w < nI 0 := nI_pos (by omega)
    have i3 := m_isInYes (μ := μ') (b := 2) (by omega) (show 0 ≤ w ∧ w ≤ 2 from ⟨Nat.zero_le _, hw⟩)
    obtain ⟨σ2, c1, ⟨c2, c3, c4⟩, c5, c6, c7, c8⟩ := c_findExtra a2 a4.2.1
    obtain ⟨μ2, d1, d2, d3⟩ := m_extra b5 b2 w (by omega)
    have e18 : σ2.1 0 18 = nI 1 := by rw [c7.1 0 (by simp)]; exact a3
    have hRK : RK_ σ2 b B P a := ⟨by rw [c7.2]; exact a4.1, c6, by rw [c8 4 (by simp)]; exact a4.2.2.1, by rw [c8 5 (by simp)]; exact a4.2.2.2⟩
    have hRC : RCF_ σ σ2 := ⟨GF_tr a5.1 (GF_fr c7 (by simp)), fun f hf => by rw [c7.1 0 (by simp)]; exact a5.2.1 f hf, fun f hf => by rw [c8 f (fun z => hf (by simp at z ⊢; omega))]; exact a5.2.2.1 f hf, fun o i hoi => by rw [c7.2]; exact a5.2.2.2 o i hoi⟩
    have hRM : RMF_ μ1 μ2 := ⟨fr_tr b6.1 (fr_mono d3 (by simp)), fun f hf => by rw [d3.1 219 (by decide)]; exact b6.2 f hf⟩
    refine ⟨(if w = 0 then (xr_ B (ru_ B P a).1 (B 0 1)).1 else if w = 1 then (xr_ B (ru_ B P a).1 (B 0 1)).2.1 else (xr_ B (ru_ B P a).1 (B 0 1)).2.2), σ2, μ2, z_X11_extra (e_X11_extra_0 ?_), z_X12_extra (e_X12_extra_0 ?_), hRC, hRM, .inr ⟨e18, hRK⟩, by rw [c7.1 0 (by simp)]; exact a6, by rw [d3.1 219 (by decide)]; exact b7⟩
    · have w3 : w = 0 ∨ w = 1 ∨ w = 2 := by omega
      rcases w3 with rfl | rfl | rfl
      · simp (disch := first | assumption | omega) only [hw0, a1, c1, c2, if_true, if_pos, Nat.reduceLeDiff, Option.some.injEq, Prod.mk.injEq, Value.int.injEq, exists_and_left, exists_eq_left', and_assoc, true_and, and_true, true_implies, false_implies, not_true_eq_false, not_false_eq_true, li_0, li_1, li_2, li_3, li_4, li_5, li_8, li_9, li_10, li_16, li_20, li_80, li_100, li_130, li_144, li_390, li_400, li_M, li_H, li_of, nI_add, pk_mul, cl_, vp_iff, nI_leI, nI_ltI, nI_eq, Nat.add_zero, Nat.zero_add, Nat.reduceEqDiff, Nat.reduceAdd, eq_self, reduceIte, Bool.false_eq_true, li_neg]
        all_goals ((repeat' apply And.intro) <;> first | omega | rfl | assumption)
      · simp (disch := first | assumption | omega) only [hw0, a1, c1, c3, if_true, if_pos, if_false, Nat.reduceLeDiff, Option.some.injEq, Prod.mk.injEq, Value.int.injEq, exists_and_left, exists_eq_left', and_assoc, true_and, and_true, true_implies, false_implies, not_true_eq_false, not_false_eq_true, li_0, li_1, li_2, li_3, li_4, li_5, li_8, li_9, li_10, li_16, li_20, li_80, li_100, li_130, li_144, li_390, li_400, li_M, li_H, li_of, nI_add, pk_mul, cl_, vp_iff, nI_leI, nI_ltI, nI_eq, Nat.add_zero, Nat.zero_add, Nat.reduceEqDiff, Nat.reduceAdd, eq_self, reduceIte, Bool.false_eq_true, li_neg]
        all_goals ((repeat' apply And.intro) <;> first | omega | rfl | assumption)
      · simp (disch := first | assumption | omega) only [hw0, a1, c1, c4, if_false, Nat.reduceLeDiff, Option.some.injEq, Prod.mk.injEq, Value.int.injEq, exists_and_left, exists_eq_left', and_assoc, true_and, and_true, true_implies, false_implies, not_true_eq_false, not_false_eq_true, li_0, li_1, li_2, li_3, li_4, li_5, li_8, li_9, li_10, li_16, li_20, li_80, li_100, li_130, li_144, li_390, li_400, li_M, li_H, li_of, nI_add, pk_mul, cl_, vp_iff, nI_leI, nI_ltI, nI_eq, Nat.add_zero, Nat.zero_add, Nat.reduceEqDiff, Nat.reduceAdd, eq_self, reduceIte, Bool.false_eq_true, li_neg]
        all_goals ((repeat' apply And.intro) <;> first | omega | rfl | assumption)
    · simp (disch := first | assumption | omega) only [b1, i3, Option.some.injEq, Prod.mk.injEq, Value.int.injEq, exists_and_left, exists_eq_left', and_assoc, true_and, and_true, true_implies, false_implies, not_true_eq_false, not_false_eq_true, li_0, li_1, li_2, li_3, li_4, li_5, li_8, li_9, li_10, li_16, li_20, li_80, li_100, li_130, li_144, li_390, li_400, li_M, li_H, li_of, nI_add, pk_mul, cl_, vp_iff, nI_leI, nI_ltI, nI_eq, Nat.add_zero, Nat.zero_add, Nat.reduceEqDiff, Nat.reduceAdd, eq_self, reduceIte, Bool.false_eq_true, li_neg]
      all_goals ((repeat' apply And.intro) <;> first | omega | rfl | assumption | exact d1)
  · have i3 := m_isInNo (μ := μ') h2
    refine ⟨nM_, σ, μ', z_X11_extra (e_X11_extra_0 ?_), z_X12_extra (e_X12_extra_0 ?_), RCF_rf, b6, hr, rfl, b7⟩
    · by_cases h3 : x1 < nI 0
      · simp (disch := first | assumption | omega) only [h3, Option.some.injEq, Prod.mk.injEq, Value.int.injEq, exists_and_left, exists_eq_left', and_assoc, true_and, and_true, true_implies, false_implies, not_true_eq_false, not_false_eq_true, li_0, li_1, li_2, li_3, li_4, li_5, li_8, li_9, li_10, li_16, li_20, li_80, li_100, li_130, li_144, li_390, li_400, li_M, li_H, li_of, nI_add, pk_mul, cl_, vp_iff, nI_leI, nI_ltI, nI_eq, Nat.add_zero, Nat.zero_add, Nat.reduceEqDiff, Nat.reduceAdd, eq_self, reduceIte, Bool.false_eq_true, li_neg]
      · have h4 := Int32.not_le.mpr (h2.resolve_left h3)
        simp (disch := first | assumption | omega) only [h3, h4, Option.some.injEq, Prod.mk.injEq, Value.int.injEq, exists_and_left, exists_eq_left', and_assoc, true_and, and_true, true_implies, false_implies, not_true_eq_false, not_false_eq_true, li_0, li_1, li_2, li_3, li_4, li_5, li_8, li_9, li_10, li_16, li_20, li_80, li_100, li_130, li_144, li_390, li_400, li_M, li_H, li_of, nI_add, pk_mul, cl_, vp_iff, nI_leI, nI_ltI, nI_eq, Nat.add_zero, Nat.zero_add, Nat.reduceEqDiff, Nat.reduceAdd, eq_self, reduceIte, Bool.false_eq_true, li_neg]
    · simp (disch := first | assumption | omega) only [b1, i3, Option.some.injEq, Prod.mk.injEq, Value.int.injEq, exists_and_left, exists_eq_left', and_assoc, true_and, and_true, true_implies, false_implies, not_true_eq_false, not_false_eq_true, li_0, li_1, li_2, li_3, li_4, li_5, li_8, li_9, li_10, li_16, li_20, li_80, li_100, li_130, li_144, li_390, li_400, li_M, li_H, li_of, nI_add, pk_mul, cl_, vp_iff, nI_leI, nI_ltI, nI_eq, Nat.add_zero, Nat.zero_add, Nat.reduceEqDiff, Nat.reduceAdd, eq_self, reduceIte, Bool.false_eq_true, li_neg]
end CI
