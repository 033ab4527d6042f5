/-! the calls ALONE, LEAVE, on both sides -/
theorem id_or (x : Int32) {n : Nat} (hn : n < 2 ^ 31) : (∃ r, x = nI r ∧ r < n) ∨ x < nI 0 ∨ nI n ≤ x := by
  by_cases h1 : x < nI 0
  · exact .inr (.inl h1)
  · by_cases h2 : nI n ≤ x
    · exact .inr (.inr h2)
    · have e1 : ¬ x.toInt < (nI 0).toInt := fun z => h1 (Int32.lt_iff_toInt_lt.mpr z)
      have e2 := Int32.lt_iff_toInt_lt.mp (Int32.not_le.mp h2)
      rw [nI_toInt (by omega)] at e1
      rw [nI_toInt hn] at e2
      refine .inl ⟨x.toInt.toNat, Int32.toInt_inj.1 ?_, by omega⟩
      rw [nI_toInt (by omega)]
      omega
section CD
variable {σ μ μ1 : St_} {b : Nat} {B : Nat → Nat → Nat}
theorem c_hasReaderNo (hB : isB b) (hC : CB_ σ b B) {x : Int32} (h : x < nI 0 ∨ nI (B 0 1) ≤ x) : f_X0_hasReader KC [.ref b, .int x] σ = some (some (.int (nI 0)), σ) := by
  refine z_X0_hasReader (e_X0_hasReader_0 hB ?_)
  by_cases h1 : x < nI 0
  · simp (disch := first | assumption | omega) only [h1, Option.some.injEq, Prod.mk.injEq, Value.int.injEq, exists_and_left, exists_eq_left', and_assoc, true_and, and_true, true_implies, false_implies, not_true_eq_false, not_false_eq_true, li_0, li_1, li_2, li_3, li_4, li_5, li_8, li_9, li_10, li_16, li_20, li_80, li_100, li_130, li_144, li_390, li_400, li_M, li_H, li_of, nI_add, pk_mul, cl_, vp_iff, nI_leI, nI_ltI, nI_eq, Nat.add_zero, Nat.zero_add, Nat.reduceEqDiff, Nat.reduceAdd, eq_self, reduceIte, Bool.false_eq_true, li_neg]
  · have h2 := h.resolve_left h1
    simp (disch := first | assumption | omega) only [h1, hC.1.2.1, h2, Option.some.injEq, Prod.mk.injEq, Value.int.injEq, exists_and_left, exists_eq_left', and_assoc, true_and, and_true, true_implies, false_implies, not_true_eq_false, not_false_eq_true, li_0, li_1, li_2, li_3, li_4, li_5, li_8, li_9, li_10, li_16, li_20, li_80, li_100, li_130, li_144, li_390, li_400, li_M, li_H, li_of, nI_add, pk_mul, cl_, vp_iff, nI_leI, nI_ltI, nI_eq, Nat.add_zero, Nat.zero_add, Nat.reduceEqDiff, Nat.reduceAdd, eq_self, reduceIte, Bool.false_eq_true, li_neg]
theorem c_hasReaderYes (hB : isB b) (hC : CB_ σ b B) (hO : BO_ B) {r : Nat} (h : r < B 0 1) : f_X0_hasReader KC [.ref b, .int (nI r)] σ = some (some (.int (nI 1)), σ) := by
  have h9 := hO.1.2.1
  have h0 : ¬ nI r < nI 0 := nI_pos (by omega)
  have h1 : ¬ B 0 1 ≤ r := by omega
  refine z_X0_hasReader (e_X0_hasReader_0 hB ?_)
  rw [show (0 : Int32) = nI 0 from rfl]
  simp only [h0]
  simp (disch := first | assumption | omega) only [hC.1.2.1, h1, Option.some.injEq, Prod.mk.injEq, Value.int.injEq, exists_and_left, exists_eq_left', and_assoc, true_and, and_true, true_implies, false_implies, not_true_eq_false, not_false_eq_true, li_0, li_1, li_2, li_3, li_4, li_5, li_8, li_9, li_10, li_16, li_20, li_80, li_100, li_130, li_144, li_390, li_400, li_M, li_H, li_of, nI_add, pk_mul, cl_, vp_iff, nI_leI, nI_ltI, nI_eq, Nat.add_zero, Nat.zero_add, Nat.reduceEqDiff, Nat.reduceAdd, eq_self, reduceIte, Bool.false_eq_true, li_neg]
theorem c_hasChapNo (hB : isB b) (hC : CB_ σ b B) {x : Int32} (h : x < nI 0 ∨ nI (B 0 0) ≤ x) : f_X0_hasChap KC [.ref b, .int x] σ = some (some (.int (nI 0)), σ) := by
  refine z_X0_hasChap (e_X0_hasChap_0 hB ?_)
  by_cases h1 : x < nI 0
  · simp (disch := first | assumption | omega) only [h1, Option.some.injEq, Prod.mk.injEq, Value.int.injEq, exists_and_left, exists_eq_left', and_assoc, true_and, and_true, true_implies, false_implies, not_true_eq_false, not_false_eq_true, li_0, li_1, li_2, li_3, li_4, li_5, li_8, li_9, li_10, li_16, li_20, li_80, li_100, li_130, li_144, li_390, li_400, li_M, li_H, li_of, nI_add, pk_mul, cl_, vp_iff, nI_leI, nI_ltI, nI_eq, Nat.add_zero, Nat.zero_add, Nat.reduceEqDiff, Nat.reduceAdd, eq_self, reduceIte, Bool.false_eq_true, li_neg]
  · have h2 := h.resolve_left h1
    simp (disch := first | assumption | omega) only [h1, hC.1.1, h2, Option.some.injEq, Prod.mk.injEq, Value.int.injEq, exists_and_left, exists_eq_left', and_assoc, true_and, and_true, true_implies, false_implies, not_true_eq_false, not_false_eq_true, li_0, li_1, li_2, li_3, li_4, li_5, li_8, li_9, li_10, li_16, li_20, li_80, li_100, li_130, li_144, li_390, li_400, li_M, li_H, li_of, nI_add, pk_mul, cl_, vp_iff, nI_leI, nI_ltI, nI_eq, Nat.add_zero, Nat.zero_add, Nat.reduceEqDiff, Nat.reduceAdd, eq_self, reduceIte, Bool.false_eq_true, li_neg]
theorem c_hasChapYes (hB : isB b) (hC : CB_ σ b B) (hO : BO_ B) {r : Nat} (h : r < B 0 0) : f_X0_hasChap KC [.ref b, .int (nI r)] σ = some (some (.int (nI 1)), σ) := by
  have h9 := hO.1.1
  have h0 : ¬ nI r < nI 0 := nI_pos (by omega)
  have h1 : ¬ B 0 0 ≤ r := by omega
  refine z_X0_hasChap (e_X0_hasChap_0 hB ?_)
  rw [show (0 : Int32) = nI 0 from rfl]
  simp only [h0]
  simp (disch := first | assumption | omega) only [hC.1.1, h1, Option.some.injEq, Prod.mk.injEq, Value.int.injEq, exists_and_left, exists_eq_left', and_assoc, true_and, and_true, true_implies, false_implies, not_true_eq_false, not_false_eq_true, li_0, li_1, li_2, li_3, li_4, li_5, li_8, li_9, li_10, li_16, li_20, li_80, li_100, li_130, li_144, li_390, li_400, li_M, li_H, li_of, nI_add, pk_mul, cl_, vp_iff, nI_leI, nI_ltI, nI_eq, Nat.add_zero, Nat.zero_add, Nat.reduceEqDiff, Nat.reduceAdd, eq_self, reduceIte, Bool.false_eq_true, li_neg]
theorem m_isReaderNo (hx : RX_ μ B) {x : Int32} (h : x < nI 0 ∨ nI (B 0 1) ≤ x) : f_X12_isReader KC [.ref 219, .int x] μ = some (some (.int (nI 0)), μ) := by
  refine z_X12_isReader (e_X12_isReader_0 ?_)
  by_cases h1 : x < nI 0
  · simp (disch := first | assumption | omega) only [h1, Option.some.injEq, Prod.mk.injEq, Value.int.injEq, exists_and_left, exists_eq_left', and_assoc, true_and, and_true, true_implies, false_implies, not_true_eq_false, not_false_eq_true, li_0, li_1, li_2, li_3, li_4, li_5, li_8, li_9, li_10, li_16, li_20, li_80, li_100, li_130, li_144, li_390, li_400, li_M, li_H, li_of, nI_add, pk_mul, cl_, vp_iff, nI_leI, nI_ltI, nI_eq, Nat.add_zero, Nat.zero_add, Nat.reduceEqDiff, Nat.reduceAdd, eq_self, reduceIte, Bool.false_eq_true, li_neg]
  · have h2 := h.resolve_left h1
    simp (disch := first | assumption | omega) only [h1, m_readers hx, h2, Option.some.injEq, Prod.mk.injEq, Value.int.injEq, exists_and_left, exists_eq_left', and_assoc, true_and, and_true, true_implies, false_implies, not_true_eq_false, not_false_eq_true, li_0, li_1, li_2, li_3, li_4, li_5, li_8, li_9, li_10, li_16, li_20, li_80, li_100, li_130, li_144, li_390, li_400, li_M, li_H, li_of, nI_add, pk_mul, cl_, vp_iff, nI_leI, nI_ltI, nI_eq, Nat.add_zero, Nat.zero_add, Nat.reduceEqDiff, Nat.reduceAdd, eq_self, reduceIte, Bool.false_eq_true, li_neg]
theorem m_isReaderYes (hx : RX_ μ B) {r : Nat} (h : r < B 0 1) : f_X12_isReader KC [.ref 219, .int (nI r)] μ = some (some (.int (nI 1)), μ) := by
  have h9 := hx.2.1.2.1
  have := m_isReaderN hx (show r < 2 ^ 31 by omega)
  rw [if_pos h] at this
  exact this
theorem m_isChapNo (hx : RX_ μ B) {x : Int32} (h : x < nI 0 ∨ nI (B 0 0) ≤ x) : f_X12_isChap KC [.ref 219, .int x] μ = some (some (.int (nI 0)), μ) := by
  refine z_X12_isChap (e_X12_isChap_0 ?_)
  by_cases h1 : x < nI 0
  · simp (disch := first | assumption | omega) only [h1, Option.some.injEq, Prod.mk.injEq, Value.int.injEq, exists_and_left, exists_eq_left', and_assoc, true_and, and_true, true_implies, false_implies, not_true_eq_false, not_false_eq_true, li_0, li_1, li_2, li_3, li_4, li_5, li_8, li_9, li_10, li_16, li_20, li_80, li_100, li_130, li_144, li_390, li_400, li_M, li_H, li_of, nI_add, pk_mul, cl_, vp_iff, nI_leI, nI_ltI, nI_eq, Nat.add_zero, Nat.zero_add, Nat.reduceEqDiff, Nat.reduceAdd, eq_self, reduceIte, Bool.false_eq_true, li_neg]
  · have h2 := h.resolve_left h1
    simp (disch := first | assumption | omega) only [h1, m_chaps hx, h2, Option.some.injEq, Prod.mk.injEq, Value.int.injEq, exists_and_left, exists_eq_left', and_assoc, true_and, and_true, true_implies, false_implies, not_true_eq_false, not_false_eq_true, li_0, li_1, li_2, li_3, li_4, li_5, li_8, li_9, li_10, li_16, li_20, li_80, li_100, li_130, li_144, li_390, li_400, li_M, li_H, li_of, nI_add, pk_mul, cl_, vp_iff, nI_leI, nI_ltI, nI_eq, Nat.add_zero, Nat.zero_add, Nat.reduceEqDiff, Nat.reduceAdd, eq_self, reduceIte, Bool.false_eq_true, li_neg]
theorem m_isChapYes (hx : RX_ μ B) {r : Nat} (h : r < B 0 0) : f_X12_isChap KC [.ref 219, .int (nI r)] μ = some (some (.int (nI 1)), μ) := by
  have h9 := hx.2.1.1
  have := m_isChapN hx (show r < 2 ^ 31 by omega)
  rw [if_pos h] at this
  exact this
theorem alone_both (hB : isB b) (h12 : σ.2.2 0 12 = some b) (hC : CB_ σ b B) (hl : LY_ μ μ1) (hx : RX_ μ1 B) (x1 x2 : Int32) : ∃ v σ', f_X11_alone KC [.ref 0, .int x1, .int x2] σ = some (some (.int v), σ') ∧ f_X12_alone KC [.ref 219, .int x1, .int x2] μ = some (some (.int v), μ1) ∧ fr_ [133, 134, 135] σ σ' ∧ NF2_ [0, 1] 133 σ σ' := by
  have hl' : f_X12_lay KC [.ref 219] (sI_ μ 219 0 (nI 0)) = some (none, μ1) := hl
  have hO := hx.2
  rcases id_or x1 (n := B 0 1) (by have := hO.1.2.1; omega) with ⟨r, rfl, hr⟩ | h1
  · have i1 := c_hasReaderYes hB hC hO hr
    have i2 := m_isReaderYes hx hr
    rcases in_or x2 (a := 0) (b := 1) (by omega) (by omega) with ⟨w, rfl, p1, p2⟩ | h2
    · have i3 := m_isInYes (μ := μ1) (b := 1) (by omega) (show 0 ≤ w ∧ w ≤ 1 from ⟨p1, p2⟩)
      have p1' : ¬ nI w < nI 0 := nI_pos (by omega)
      obtain ⟨σ', a1, a2, a3, a4, a5⟩ := c_readAlone hB hC hO hr
      have b1 := m_alone36 (x2 := w) hx hr (by omega) (2 ^ B 0 0) 0 (by omega)
      have b1' : Ev_ (P_X12_alone KC) 36 [some (.ref 219), some (.int (nI r)), some (.int (nI w)), some (.int (nI 0)), some (.int (nI 0)), some (.int (nI 0)), none, none, none] [] μ1 _ := b1
      refine ⟨if w = 0 then nI (al_ (tR_ B r) (B 2) (B 0 0) (B 7 r) (2 ^ B 0 0)).1 else nI (al_ (tR_ B r) (B 2) (B 0 0) (B 7 r) (2 ^ B 0 0)).2, σ', z_X11_alone (e_X11_alone_0 ?_), z_X12_alone (e_X12_alone_0 ?_), a4, a5⟩
      · have hw : w = 0 ∨ w = 1 := by omega
        rcases hw with rfl | rfl
        · simp (disch := first | assumption | omega) only [h12, hB, i1, p1', a1, a2, if_true, if_pos, Option.some.injEq, Prod.mk.injEq, Value.int.injEq, exists_and_left, exists_eq_left', and_assoc, true_and, and_true, true_implies, false_implies, not_true_eq_false, not_false_eq_true, li_0, li_1, li_2, li_3, li_4, li_5, li_8, li_9, li_10, li_16, li_20, li_80, li_100, li_130, li_144, li_390, li_400, li_M, li_H, li_of, nI_add, pk_mul, cl_, vp_iff, nI_leI, nI_ltI, nI_eq, Nat.add_zero, Nat.zero_add, Nat.reduceEqDiff, Nat.reduceAdd, eq_self, reduceIte, Bool.false_eq_true, li_neg]
          exact ⟨fun _ => trivial, fun z => absurd (Nat.zero_le 1) z⟩
        · simp (disch := first | assumption | omega) only [h12, hB, i1, p1', a1, a3, Nat.le_refl, Option.some.injEq, Prod.mk.injEq, Value.int.injEq, exists_and_left, exists_eq_left', and_assoc, true_and, and_true, true_implies, false_implies, not_true_eq_false, not_false_eq_true, li_0, li_1, li_2, li_3, li_4, li_5, li_8, li_9, li_10, li_16, li_20, li_80, li_100, li_130, li_144, li_390, li_400, li_M, li_H, li_of, nI_add, pk_mul, cl_, vp_iff, nI_leI, nI_ltI, nI_eq, Nat.add_zero, Nat.zero_add, Nat.reduceEqDiff, Nat.reduceAdd, eq_self, reduceIte, Bool.false_eq_true, li_neg]
      · simp (disch := first | assumption | omega) only [hl', i2, i3, Option.some.injEq, Prod.mk.injEq, Value.int.injEq, exists_and_left, exists_eq_left', and_assoc, true_and, and_true, true_implies, false_implies, not_true_eq_false, not_false_eq_true, li_0, li_1, li_2, li_3, li_4, li_5, li_8, li_9, li_10, li_16, li_20, li_80, li_100, li_130, li_144, li_390, li_400, li_M, li_H, li_of, nI_add, pk_mul, cl_, vp_iff, nI_leI, nI_ltI, nI_eq, Nat.add_zero, Nat.zero_add, Nat.reduceEqDiff, Nat.reduceAdd, eq_self, reduceIte, Bool.false_eq_true, li_neg]
        (repeat' apply And.intro) <;> first | omega | rfl | assumption | exact b1'
    · have i3 := m_isInNo (μ := μ1) h2
      refine ⟨nM_, σ, z_X11_alone (e_X11_alone_0 ?_), z_X12_alone (e_X12_alone_0 ?_), fr_rf _ _, fun _ _ => rfl⟩
      · by_cases h3 : x2 < nI 0
        · simp (disch := first | assumption | omega) only [h12, hB, i1, h3, Option.some.injEq, Prod.mk.injEq, Value.int.injEq, exists_and_left, exists_eq_left', and_assoc, true_and, and_true, true_implies, false_implies, not_true_eq_false, not_false_eq_true, li_0, li_1, li_2, li_3, li_4, li_5, li_8, li_9, li_10, li_16, li_20, li_80, li_100, li_130, li_144, li_390, li_400, li_M, li_H, li_of, nI_add, pk_mul, cl_, vp_iff, nI_leI, nI_ltI, nI_eq, Nat.add_zero, Nat.zero_add, Nat.reduceEqDiff, Nat.reduceAdd, eq_self, reduceIte, Bool.false_eq_true, li_neg]
        · have h4 := Int32.not_le.mpr (h2.resolve_left h3)
          simp (disch := first | assumption | omega) only [h12, hB, i1, h3, h4, Option.some.injEq, Prod.mk.injEq, Value.int.injEq, exists_and_left, exists_eq_left', and_assoc, true_and, and_true, true_implies, false_implies, not_true_eq_false, not_false_eq_true, li_0, li_1, li_2, li_3, li_4, li_5, li_8, li_9, li_10, li_16, li_20, li_80, li_100, li_130, li_144, li_390, li_400, li_M, li_H, li_of, nI_add, pk_mul, cl_, vp_iff, nI_leI, nI_ltI, nI_eq, Nat.add_zero, Nat.zero_add, Nat.reduceEqDiff, Nat.reduceAdd, eq_self, reduceIte, Bool.false_eq_true, li_neg]
      · simp (disch := first | assumption | omega) only [hl', i2, i3, Option.some.injEq, Prod.mk.injEq, Value.int.injEq, exists_and_left, exists_eq_left', and_assoc, true_and, and_true, true_implies, false_implies, not_true_eq_false, not_false_eq_true, li_0, li_1, li_2, li_3, li_4, li_5, li_8, li_9, li_10, li_16, li_20, li_80, li_100, li_130, li_144, li_390, li_400, li_M, li_H, li_of, nI_add, pk_mul, cl_, vp_iff, nI_leI, nI_ltI, nI_eq, Nat.add_zero, Nat.zero_add, Nat.reduceEqDiff, Nat.reduceAdd, eq_self, reduceIte, Bool.false_eq_true, li_neg]
  · have i1 := c_hasReaderNo hB hC h1
    have i2 := m_isReaderNo hx h1
    refine ⟨nM_, σ, z_X11_alone (e_X11_alone_0 ?_), z_X12_alone (e_X12_alone_0 ?_), fr_rf _ _, fun _ _ => rfl⟩
    · simp (disch := first | assumption | omega) only [h12, hB, i1, Option.some.injEq, Prod.mk.injEq, Value.int.injEq, exists_and_left, exists_eq_left', and_assoc, true_and, and_true, true_implies, false_implies, not_true_eq_false, not_false_eq_true, li_0, li_1, li_2, li_3, li_4, li_5, li_8, li_9, li_10, li_16, li_20, li_80, li_100, li_130, li_144, li_390, li_400, li_M, li_H, li_of, nI_add, pk_mul, cl_, vp_iff, nI_leI, nI_ltI, nI_eq, Nat.add_zero, Nat.zero_add, Nat.reduceEqDiff, Nat.reduceAdd, eq_self, reduceIte, Bool.false_eq_true, li_neg]
    · simp (disch := first | assumption | omega) only [hl', i2, Option.some.injEq, Prod.mk.injEq, Value.int.injEq, exists_and_left, exists_eq_left', and_assoc, true_and, and_true, true_implies, false_implies, not_true_eq_false, not_false_eq_true, li_0, li_1, li_2, li_3, li_4, li_5, li_8, li_9, li_10, li_16, li_20, li_80, li_100, li_130, li_144, li_390, li_400, li_M, li_H, li_of, nI_add, pk_mul, cl_, vp_iff, nI_leI, nI_ltI, nI_eq, Nat.add_zero, Nat.zero_add, Nat.reduceEqDiff, Nat.reduceAdd, eq_self, reduceIte, Bool.false_eq_true, li_neg]
theorem leave_both (hB : isB b) (h12 : σ.2.2 0 12 = some b) (hC : CB_ σ b B) (hl : LY_ μ μ1) (hx : RX_ μ1 B) (x1 : Int32) : ∃ v σ' μ', f_X11_leave KC [.ref 0, .int x1] σ = some (some (.int v), σ') ∧ f_X12_leave KC [.ref 219, .int x1] μ = some (some (.int v), μ') ∧ GF_ [133, 137, 138] σ σ' ∧ NF2_ [0, 1, 9] 133 σ σ' ∧ (∀ f, f ≠ 8 → σ'.2.2 133 f = σ.2.2 133 f) ∧ fr_ [244] μ1 μ' := by
  have hl' : f_X12_lay KC [.ref 219] (sI_ μ 219 0 (nI 0)) = some (none, μ1) := hl
  have hO := hx.2
  have h9 := hO.1.2.1
  have no : f_X11_leave KC [.ref 0, .int x1] σ = some (some (.int nM_), σ) → f_X12_leave KC [.ref 219, .int x1] μ = some (some (.int nM_), μ1) → ∃ v σ' μ', f_X11_leave KC [.ref 0, .int x1] σ = some (some (.int v), σ') ∧ f_X12_leave KC [.ref 219, .int x1] μ = some (some (.int v), μ') ∧ GF_ [133, 137, 138] σ σ' ∧ NF2_ [0, 1, 9] 133 σ σ' ∧ (∀ f, f ≠ 8 → σ'.2.2 133 f = σ.2.2 133 f) ∧ fr_ [244] μ1 μ' := fun a1 a2 => ⟨nM_, σ, μ1, a1, a2, GF_rf _ _, fun _ _ => rfl, fun _ _ => rfl, fr_rf _ _⟩
  rcases in_or x1 (a := 0) (b := 1) (by omega) (by omega) with ⟨w, rfl, p1, p2⟩ | h2
  · have i3 := m_isInYes (μ := μ1) (b := 1) (by omega) (show 0 ≤ w ∧ w ≤ 1 from ⟨p1, p2⟩)
    have p1' : ¬ nI w < nI 0 := nI_pos (by omega)
    by_cases hR : B 0 1 < 1
    · have hR0 : B 0 1 = 0 := by omega
      refine no (z_X11_leave (e_X11_leave_0 ?_)) (z_X12_leave (e_X12_leave_0 ?_))
      · simp (disch := first | assumption | omega) only [h12, hB, hC.1.2.1, hR, Option.some.injEq, Prod.mk.injEq, Value.int.injEq, exists_and_left, exists_eq_left', and_assoc, true_and, and_true, true_implies, false_implies, not_true_eq_false, not_false_eq_true, li_0, li_1, li_2, li_3, li_4, li_5, li_8, li_9, li_10, li_16, li_20, li_80, li_100, li_130, li_144, li_390, li_400, li_M, li_H, li_of, nI_add, pk_mul, cl_, vp_iff, nI_leI, nI_ltI, nI_eq, Nat.add_zero, Nat.zero_add, Nat.reduceEqDiff, Nat.reduceAdd, eq_self, reduceIte, Bool.false_eq_true, li_neg]
      · simp (disch := first | assumption | omega) only [hl', i3, m_readers hx, hR0, Option.some.injEq, Prod.mk.injEq, Value.int.injEq, exists_and_left, exists_eq_left', and_assoc, true_and, and_true, true_implies, false_implies, not_true_eq_false, not_false_eq_true, li_0, li_1, li_2, li_3, li_4, li_5, li_8, li_9, li_10, li_16, li_20, li_80, li_100, li_130, li_144, li_390, li_400, li_M, li_H, li_of, nI_add, pk_mul, cl_, vp_iff, nI_leI, nI_ltI, nI_eq, Nat.add_zero, Nat.zero_add, Nat.reduceEqDiff, Nat.reduceAdd, eq_self, reduceIte, Bool.false_eq_true, li_neg]
    · have hR0 : ¬ B 0 1 = 0 := by omega
      obtain ⟨σ', a1, a2, a3, a4⟩ := c_leaveOut hB hO (by omega) hC
      obtain ⟨μ', b1, b2⟩ := m_leave31 (x1 := w) hx (by omega) (by omega)
      obtain ⟨v, q, c1, c2⟩ := leave_eq hO (show 1 ≤ B 0 1 by omega)
      rw [c2] at a3 a4
      rw [c1] at b1
      have b1' : Ev_ (P_X12_leave KC) 31 [some (.ref 219), some (.int (nI w)), some (.int (nI 0)), some (.int (nI 0)), none, none, none, none, none] [] μ1 (some (.int (if w = 0 then nI v else nI q)), μ') := b1
      refine ⟨if w = 0 then nI v else nI q, σ', μ', z_X11_leave (e_X11_leave_0 ?_), z_X12_leave (e_X12_leave_0 ?_), a2.2.2.1, a2.2.2.2.1, a2.2.2.2.2, b2⟩
      · have hw : w = 0 ∨ w = 1 := by omega
        have a3' : σ'.1 133 0 = nI v := a3
        have a4' : σ'.1 133 1 = nI q := a4
        rcases hw with rfl | rfl
        · simp (disch := first | assumption | omega) only [h12, hB, hC.1.2.1, hR, p1', a1, a3', if_true, if_pos, Option.some.injEq, Prod.mk.injEq, Value.int.injEq, exists_and_left, exists_eq_left', and_assoc, true_and, and_true, true_implies, false_implies, not_true_eq_false, not_false_eq_true, li_0, li_1, li_2, li_3, li_4, li_5, li_8, li_9, li_10, li_16, li_20, li_80, li_100, li_130, li_144, li_390, li_400, li_M, li_H, li_of, nI_add, pk_mul, cl_, vp_iff, nI_leI, nI_ltI, nI_eq, Nat.add_zero, Nat.zero_add, Nat.reduceEqDiff, Nat.reduceAdd, eq_self, reduceIte, Bool.false_eq_true, li_neg]
          exact ⟨fun _ => trivial, fun z => absurd (Nat.zero_le 1) z⟩
        · simp (disch := first | assumption | omega) only [h12, hB, hC.1.2.1, hR, p1', a1, a4', Nat.le_refl, Option.some.injEq, Prod.mk.injEq, Value.int.injEq, exists_and_left, exists_eq_left', and_assoc, true_and, and_true, true_implies, false_implies, not_true_eq_false, not_false_eq_true, li_0, li_1, li_2, li_3, li_4, li_5, li_8, li_9, li_10, li_16, li_20, li_80, li_100, li_130, li_144, li_390, li_400, li_M, li_H, li_of, nI_add, pk_mul, cl_, vp_iff, nI_leI, nI_ltI, nI_eq, Nat.add_zero, Nat.zero_add, Nat.reduceEqDiff, Nat.reduceAdd, eq_self, reduceIte, Bool.false_eq_true, li_neg]
      · simp (disch := first | assumption | omega) only [hl', i3, m_readers hx, hR0, Option.some.injEq, Prod.mk.injEq, Value.int.injEq, exists_and_left, exists_eq_left', and_assoc, true_and, and_true, true_implies, false_implies, not_true_eq_false, not_false_eq_true, li_0, li_1, li_2, li_3, li_4, li_5, li_8, li_9, li_10, li_16, li_20, li_80, li_100, li_130, li_144, li_390, li_400, li_M, li_H, li_of, nI_add, pk_mul, cl_, vp_iff, nI_leI, nI_ltI, nI_eq, Nat.add_zero, Nat.zero_add, Nat.reduceEqDiff, Nat.reduceAdd, eq_self, reduceIte, Bool.false_eq_true, li_neg]
        (repeat' apply And.intro) <;> first | omega | rfl | assumption | exact b1'
  · have i3 := m_isInNo (μ := μ1) h2
    refine no (z_X11_leave (e_X11_leave_0 ?_)) (z_X12_leave (e_X12_leave_0 ?_))
    · by_cases hR : B 0 1 < 1
      · simp (disch := first | assumption | omega) only [h12, hB, hC.1.2.1, hR, Option.some.injEq, Prod.mk.injEq, Value.int.injEq, exists_and_left, exists_eq_left', and_assoc, true_and, and_true, true_implies, false_implies, not_true_eq_false, not_false_eq_true, li_0, li_1, li_2, li_3, li_4, li_5, li_8, li_9, li_10, li_16, li_20, li_80, li_100, li_130, li_144, li_390, li_400, li_M, li_H, li_of, nI_add, pk_mul, cl_, vp_iff, nI_leI, nI_ltI, nI_eq, Nat.add_zero, Nat.zero_add, Nat.reduceEqDiff, Nat.reduceAdd, eq_self, reduceIte, Bool.false_eq_true, li_neg]
      · by_cases h3 : x1 < nI 0
        · simp (disch := first | assumption | omega) only [h12, hB, hC.1.2.1, hR, h3, Option.some.injEq, Prod.mk.injEq, Value.int.injEq, exists_and_left, exists_eq_left', and_assoc, true_and, and_true, true_implies, false_implies, not_true_eq_false, not_false_eq_true, li_0, li_1, li_2, li_3, li_4, li_5, li_8, li_9, li_10, li_16, li_20, li_80, li_100, li_130, li_144, li_390, li_400, li_M, li_H, li_of, nI_add, pk_mul, cl_, vp_iff, nI_leI, nI_ltI, nI_eq, Nat.add_zero, Nat.zero_add, Nat.reduceEqDiff, Nat.reduceAdd, eq_self, reduceIte, Bool.false_eq_true, li_neg]
        · have h4 := Int32.not_le.mpr (h2.resolve_left h3)
          simp (disch := first | assumption | omega) only [h12, hB, hC.1.2.1, hR, h3, h4, Option.some.injEq, Prod.mk.injEq, Value.int.injEq, exists_and_left, exists_eq_left', and_assoc, true_and, and_true, true_implies, false_implies, not_true_eq_false, not_false_eq_true, li_0, li_1, li_2, li_3, li_4, li_5, li_8, li_9, li_10, li_16, li_20, li_80, li_100, li_130, li_144, li_390, li_400, li_M, li_H, li_of, nI_add, pk_mul, cl_, vp_iff, nI_leI, nI_ltI, nI_eq, Nat.add_zero, Nat.zero_add, Nat.reduceEqDiff, Nat.reduceAdd, eq_self, reduceIte, Bool.false_eq_true, li_neg]
    · simp (disch := first | assumption | omega) only [hl', i3, Option.some.injEq, Prod.mk.injEq, Value.int.injEq, exists_and_left, exists_eq_left', and_assoc, true_and, and_true, true_implies, false_implies, not_true_eq_false, not_false_eq_true, li_0, li_1, li_2, li_3, li_4, li_5, li_8, li_9, li_10, li_16, li_20, li_80, li_100, li_130, li_144, li_390, li_400, li_M, li_H, li_of, nI_add, pk_mul, cl_, vp_iff, nI_leI, nI_ltI, nI_eq, Nat.add_zero, Nat.zero_add, Nat.reduceEqDiff, Nat.reduceAdd, eq_self, reduceIte, Bool.false_eq_true, li_neg]
end CD
