/-! the reference: WRONG, DOES, the RUN, what is KNOWN in all -/
section MR2
variable {μ : St_} {B : Nat → Nat → Nat} {c r d : Nat} {k : K_}
/-- a bit of a small number -/
theorem hb_n {x i : Nat} (hx : x < 2 ^ 31) (hi : i < 31) : hb_ (nI x) i = (x.testBit i = true) := by
  have hs : (Int32.toBitVec (nI i &&& 31)).smod 32 = BitVec.ofNat 32 i := by
    have : ∀ j : Fin 31, (Int32.toBitVec (nI j.val &&& 31)).smod 32 = BitVec.ofNat 32 j.val := by decide +kernel
    exact this ⟨i, hi⟩
  unfold hb_
  rw [pk_shrN hx (nI i &&& 31) i (by rw [hs, BitVec.toNat_ofNat, Nat.mod_eq_of_lt (by omega)]), pk_andN (by have := Nat.div_le_self x (2 ^ i); omega) 1 (by decide), show (1 : Int32) = nI 1 from rfl, nI_eq (by omega) (by omega), Nat.testBit_eq_decide_div_mod_eq]
  simp
theorem m_wrong (h : RX_ μ B) (hk : MK_ μ B k) {t f l : Nat} (ht : t < B 0 1) (hc : c < B 0 0) (hf : f ≤ 4) (hl : l < 2 ^ 16) : f_X12_wrong KC [.ref 219, .int (nI t), .int (nI c), .int (nI f), .int (nI l)] μ = some (some (.int (nI (wr_ B k t c f l))), μ) := by
  have hb := BO_c h.2
  have ht9 : t < 9 := by omega
  have hc16 : c < 16 := by omega
  refine z_X12_wrong (e_X12_wrong_0 ?_)
  by_cases h0 : f = 0
  · subst h0
    by_cases h1 : k.1 t < nI (tR_ B t c)
    · have h2 : ¬ nI (tR_ B t c) ≤ k.1 t := Int32.not_le.mpr h1
      simp (disch := first | assumption | omega) only [m_ttr h, MK_l hk ht, h2, wr_, h1, Option.some.injEq, Prod.mk.injEq, Value.int.injEq, exists_and_left, exists_eq_left', and_assoc, true_and, and_true, true_implies, false_implies, not_true_eq_false, not_false_eq_true, li_0, li_1, li_2, li_3, li_4, li_5, li_8, li_9, li_10, li_16, li_20, li_80, li_100, li_130, li_144, li_390, li_400, li_M, li_H, li_of, nI_add, pk_mul, cl_, vp_iff, nI_leI, nI_ltI, nI_eq, Nat.add_zero, Nat.zero_add, Nat.reduceEqDiff, Nat.reduceAdd, eq_self, reduceIte, Bool.false_eq_true, li_neg]
      omega
    · have h2 : nI (tR_ B t c) ≤ k.1 t := Int32.not_lt.mp h1
      simp (disch := first | assumption | omega) only [m_ttr h, MK_l hk ht, h2, wr_, h1, Option.some.injEq, Prod.mk.injEq, Value.int.injEq, exists_and_left, exists_eq_left', and_assoc, true_and, and_true, true_implies, false_implies, not_true_eq_false, not_false_eq_true, li_0, li_1, li_2, li_3, li_4, li_5, li_8, li_9, li_10, li_16, li_20, li_80, li_100, li_130, li_144, li_390, li_400, li_M, li_H, li_of, nI_add, pk_mul, cl_, vp_iff, nI_leI, nI_ltI, nI_eq, Nat.add_zero, Nat.zero_add, Nat.reduceEqDiff, Nat.reduceAdd, eq_self, reduceIte, Bool.false_eq_true, li_neg]
      omega
  · have hr : f < 2 ^ 31 := by omega
    by_cases h1 : k.1 t < nI (tT_ B c f)
    · have h2 : ¬ nI (tT_ B c f) ≤ k.1 t := Int32.not_le.mpr h1
      simp (disch := first | assumption | omega) only [m_ttt h, MK_l hk ht, h2, h0, wr_, h1, Option.some.injEq, Prod.mk.injEq, Value.int.injEq, exists_and_left, exists_eq_left', and_assoc, true_and, and_true, true_implies, false_implies, not_true_eq_false, not_false_eq_true, li_0, li_1, li_2, li_3, li_4, li_5, li_8, li_9, li_10, li_16, li_20, li_80, li_100, li_130, li_144, li_390, li_400, li_M, li_H, li_of, nI_add, pk_mul, cl_, vp_iff, nI_leI, nI_ltI, nI_eq, Nat.add_zero, Nat.zero_add, Nat.reduceEqDiff, Nat.reduceAdd, eq_self, reduceIte, Bool.false_eq_true, li_neg]
      omega
    · have h2 : nI (tT_ B c f) ≤ k.1 t := Int32.not_lt.mp h1
      have loop : ∀ n i, i + n = B 0 1 → (∀ r, r < i → ¬ (l.testBit r = true ∧ k.1 r < nI (tT_ B c f))) → Ev_ (P_X12_wrong KC) 49 [some (.ref 219), some (.int (nI t)), some (.int (nI c)), some (.int (nI f)), some (.int (nI l)), some (.int (nI (tT_ B c f))), some (.int (nI i))] [] μ (some (.int (nI (wr_ B k t c f l))), μ) := by
        intro n
        induction n with
        | zero =>
          intro i hi hn
          obtain rfl : i = B 0 1 := by omega
          have h3 : ¬ ∃ r, r < B 0 1 ∧ l.testBit r = true ∧ k.1 r < nI (tT_ B c f) := fun ⟨r, q1, q2⟩ => hn r q1 q2
          refine e_X12_wrong_49 ?_
          by_cases h4 : k.2.2.2 (16 * t + c) = nI 0
          · simp (disch := first | assumption | omega) only [m_readers h, MK_p hk ht9 hc16, wr_, h0, h1, h3, h4, Nat.le_refl, Option.some.injEq, Prod.mk.injEq, Value.int.injEq, exists_and_left, exists_eq_left', and_assoc, true_and, and_true, true_implies, false_implies, not_true_eq_false, not_false_eq_true, li_0, li_1, li_2, li_3, li_4, li_5, li_8, li_9, li_10, li_16, li_20, li_80, li_100, li_130, li_144, li_390, li_400, li_M, li_H, li_of, nI_add, pk_mul, cl_, vp_iff, nI_leI, nI_ltI, nI_eq, Nat.add_zero, Nat.zero_add, Nat.reduceEqDiff, Nat.reduceAdd, eq_self, reduceIte, Bool.false_eq_true, li_neg]
            omega
          · simp (disch := first | assumption | omega) only [m_readers h, MK_p hk ht9 hc16, wr_, h0, h1, h3, h4, Nat.le_refl, Option.some.injEq, Prod.mk.injEq, Value.int.injEq, exists_and_left, exists_eq_left', and_assoc, true_and, and_true, true_implies, false_implies, not_true_eq_false, not_false_eq_true, li_0, li_1, li_2, li_3, li_4, li_5, li_8, li_9, li_10, li_16, li_20, li_80, li_100, li_130, li_144, li_390, li_400, li_M, li_H, li_of, nI_add, pk_mul, cl_, vp_iff, nI_leI, nI_ltI, nI_eq, Nat.add_zero, Nat.zero_add, Nat.reduceEqDiff, Nat.reduceAdd, eq_self, reduceIte, Bool.false_eq_true, li_neg]
            omega
        | succ n ih =>
          intro i hi hn
          have hi2 : ¬ B 0 1 ≤ i := by omega
          have hi3 : i < B 0 1 := by omega
          refine e_X12_wrong_49 ?_
          by_cases h4 : l.testBit i = true
          · by_cases h5 : k.1 i < nI (tT_ B c f)
            · have h6 : ¬ nI (tT_ B c f) ≤ k.1 i := Int32.not_le.mpr h5
              have h3 : ∃ r, r < B 0 1 ∧ l.testBit r = true ∧ k.1 r < nI (tT_ B c f) := ⟨i, hi3, h4, h5⟩
              simp (disch := first | assumption | omega) only [m_readers h, m_hasK, hb_n, h4, MK_l hk hi3, h6, hi2, wr_, h0, h1, h3, Option.some.injEq, Prod.mk.injEq, Value.int.injEq, exists_and_left, exists_eq_left', and_assoc, true_and, and_true, true_implies, false_implies, not_true_eq_false, not_false_eq_true, li_0, li_1, li_2, li_3, li_4, li_5, li_8, li_9, li_10, li_16, li_20, li_80, li_100, li_130, li_144, li_390, li_400, li_M, li_H, li_of, nI_add, pk_mul, cl_, vp_iff, nI_leI, nI_ltI, nI_eq, Nat.add_zero, Nat.zero_add, Nat.reduceEqDiff, Nat.reduceAdd, eq_self, reduceIte, Bool.false_eq_true, li_neg]
              omega
            · have h6 : nI (tT_ B c f) ≤ k.1 i := Int32.not_lt.mp h5
              simp (disch := first | assumption | omega) only [m_readers h, m_hasK, hb_n, h4, MK_l hk hi3, h6, hi2, Option.some.injEq, Prod.mk.injEq, Value.int.injEq, exists_and_left, exists_eq_left', and_assoc, true_and, and_true, true_implies, false_implies, not_true_eq_false, not_false_eq_true, li_0, li_1, li_2, li_3, li_4, li_5, li_8, li_9, li_10, li_16, li_20, li_80, li_100, li_130, li_144, li_390, li_400, li_M, li_H, li_of, nI_add, pk_mul, cl_, vp_iff, nI_leI, nI_ltI, nI_eq, Nat.add_zero, Nat.zero_add, Nat.reduceEqDiff, Nat.reduceAdd, eq_self, reduceIte, Bool.false_eq_true, li_neg]
              refine ⟨by omega, ih (i + 1) (by omega) (fun r hr => ?_)⟩
              by_cases e : r = i
              · rw [e]
                exact fun z => h5 z.2
              · exact hn r (by omega)
          · simp (disch := first | assumption | omega) only [m_readers h, m_hasK, hb_n, h4, hi2, Option.some.injEq, Prod.mk.injEq, Value.int.injEq, exists_and_left, exists_eq_left', and_assoc, true_and, and_true, true_implies, false_implies, not_true_eq_false, not_false_eq_true, li_0, li_1, li_2, li_3, li_4, li_5, li_8, li_9, li_10, li_16, li_20, li_80, li_100, li_130, li_144, li_390, li_400, li_M, li_H, li_of, nI_add, pk_mul, cl_, vp_iff, nI_leI, nI_ltI, nI_eq, Nat.add_zero, Nat.zero_add, Nat.reduceEqDiff, Nat.reduceAdd, eq_self, reduceIte, Bool.false_eq_true, li_neg]
            refine ih (i + 1) (by omega) (fun r hr => ?_)
            by_cases e : r = i
            · rw [e]
              exact fun z => h4 z.1
            · exact hn r (by omega)
      simp (disch := first | assumption | omega) only [m_ttt h, MK_l hk ht, h2, h0, Option.some.injEq, Prod.mk.injEq, Value.int.injEq, exists_and_left, exists_eq_left', and_assoc, true_and, and_true, true_implies, false_implies, not_true_eq_false, not_false_eq_true, li_0, li_1, li_2, li_3, li_4, li_5, li_8, li_9, li_10, li_16, li_20, li_80, li_100, li_130, li_144, li_390, li_400, li_M, li_H, li_of, nI_add, pk_mul, cl_, vp_iff, nI_leI, nI_ltI, nI_eq, Nat.add_zero, Nat.zero_add, Nat.reduceEqDiff, Nat.reduceAdd, eq_self, reduceIte, Bool.false_eq_true, li_neg]
      (repeat' apply And.intro) <;> first | omega | rfl | assumption | exact loop (B 0 1) 0 (by omega) (fun r hr => absurd hr (by omega))
theorem m_does (h : RX_ μ B) (hk : MK_ μ B k) {t f l : Nat} (ht : t < B 0 1) (hc : c < B 0 0) (hf : f ≤ 4) (hl : l < 2 ^ 16) : ∃ μ', f_X12_does KC [.ref 219, .int (nI t), .int (nI c), .int (nI f), .int (nI l)] μ = some (none, μ') ∧ MK_ μ' B (doK_ B k t c f l) ∧ KF_ μ μ' := by
  have hb := BO_c h.2
  by_cases h0 : f = 0
  · subst h0
    obtain ⟨μ', h1, h2, h3⟩ := m_reads h hk ht hc
    refine ⟨μ', z_X12_does (e_X12_does_0 ?_), by unfold doK_; rw [if_pos rfl]; exact h2, h3⟩
    simp (disch := first | assumption | omega) only [h1, Option.some.injEq, Prod.mk.injEq, Value.int.injEq, exists_and_left, exists_eq_left', and_assoc, true_and, and_true, true_implies, false_implies, not_true_eq_false, not_false_eq_true, li_0, li_1, li_2, li_3, li_4, li_5, li_8, li_9, li_10, li_16, li_20, li_80, li_100, li_130, li_144, li_390, li_400, li_M, li_H, li_of, nI_add, pk_mul, cl_, vp_iff, nI_leI, nI_ltI, nI_eq, Nat.add_zero, Nat.zero_add, Nat.reduceEqDiff, Nat.reduceAdd, eq_self, reduceIte, Bool.false_eq_true, li_neg]
  · have loop : ∀ n i μ1, i + n = B 0 1 → RX_ μ1 B → MK_ μ1 B (dsK_ B t c f l i (lfK_ k t (tT_ B c f))) → ∃ μ', Ev_ (P_X12_does KC) 33 [some (.ref 219), some (.int (nI t)), some (.int (nI c)), some (.int (nI f)), some (.int (nI l)), some (.int (nI (tT_ B c f))), some (.int (nI i))] [] μ1 (none, μ') ∧ MK_ μ' B (dsK_ B t c f l (B 0 1) (lfK_ k t (tT_ B c f))) ∧ KF_ μ1 μ' := by
      intro n
      induction n with
      | zero =>
        intro i μ1 hi hx hm
        obtain rfl : i = B 0 1 := by omega
        refine ⟨μ1, e_X12_does_33 ?_, hm, KF_rf⟩
        simp (disch := first | assumption | omega) only [m_readers hx, Nat.le_refl, Option.some.injEq, Prod.mk.injEq, Value.int.injEq, exists_and_left, exists_eq_left', and_assoc, true_and, and_true, true_implies, false_implies, not_true_eq_false, not_false_eq_true, li_0, li_1, li_2, li_3, li_4, li_5, li_8, li_9, li_10, li_16, li_20, li_80, li_100, li_130, li_144, li_390, li_400, li_M, li_H, li_of, nI_add, pk_mul, cl_, vp_iff, nI_leI, nI_ltI, nI_eq, Nat.add_zero, Nat.zero_add, Nat.reduceEqDiff, Nat.reduceAdd, eq_self, reduceIte, Bool.false_eq_true, li_neg]
      | succ n ih =>
        intro i μ1 hi hx hm
        have hi2 : ¬ B 0 1 ≤ i := by omega
        have hi3 : i < B 0 1 := by omega
        by_cases h4 : l.testBit i = true
        · have hm2 := MK_1 hm i ((dsK_ B t c f l i (lfK_ k t (tT_ B c f))).1 i - nI (tT_ B c f))
          have hx2 : RX_ (sI_ μ1 230 i ((dsK_ B t c f l i (lfK_ k t (tT_ B c f))).1 i - nI (tT_ B c f))) B := RX_sI hx (by decide)
          obtain ⟨μ2, g1, g2, g3⟩ := m_gets (f := f) hx2 hm2 ht hi3 hc
          have e : gtK_ B (ud_ (dsK_ B t c f l i (lfK_ k t (tT_ B c f))).1 i ((dsK_ B t c f l i (lfK_ k t (tT_ B c f))).1 i - nI (tT_ B c f)), (dsK_ B t c f l i (lfK_ k t (tT_ B c f))).2) t i c f = dsK_ B t c f l (i + 1) (lfK_ k t (tT_ B c f)) := by
            rw [dsK_, if_pos h4]
            rfl
          rw [e] at g2
          obtain ⟨μ', q1, q2, q3⟩ := ih (i + 1) μ2 (by omega) (RX_KF hx2 g3) g2
          refine ⟨μ', e_X12_does_33 ?_, q2, KF_tr (KF_sI (by omega)) (KF_tr g3 q3)⟩
          simp (disch := first | assumption | omega) only [m_readers hx, m_hasK, hb_n, h4, MK_l hm hi3, hi2, g1, Option.some.injEq, Prod.mk.injEq, Value.int.injEq, exists_and_left, exists_eq_left', and_assoc, true_and, and_true, true_implies, false_implies, not_true_eq_false, not_false_eq_true, li_0, li_1, li_2, li_3, li_4, li_5, li_8, li_9, li_10, li_16, li_20, li_80, li_100, li_130, li_144, li_390, li_400, li_M, li_H, li_of, nI_add, pk_mul, cl_, vp_iff, nI_leI, nI_ltI, nI_eq, Nat.add_zero, Nat.zero_add, Nat.reduceEqDiff, Nat.reduceAdd, eq_self, reduceIte, Bool.false_eq_true, li_neg]
          (repeat' apply And.intro) <;> first | omega | rfl | assumption | exact q1
        · have e : dsK_ B t c f l (i + 1) (lfK_ k t (tT_ B c f)) = dsK_ B t c f l i (lfK_ k t (tT_ B c f)) := by
            rw [dsK_, if_neg h4]
          obtain ⟨μ', q1, q2, q3⟩ := ih (i + 1) μ1 (by omega) hx (by rw [e]; exact hm)
          refine ⟨μ', e_X12_does_33 ?_, q2, q3⟩
          simp (disch := first | assumption | omega) only [m_readers hx, m_hasK, hb_n, h4, hi2, Option.some.injEq, Prod.mk.injEq, Value.int.injEq, exists_and_left, exists_eq_left', and_assoc, true_and, and_true, true_implies, false_implies, not_true_eq_false, not_false_eq_true, li_0, li_1, li_2, li_3, li_4, li_5, li_8, li_9, li_10, li_16, li_20, li_80, li_100, li_130, li_144, li_390, li_400, li_M, li_H, li_of, nI_add, pk_mul, cl_, vp_iff, nI_leI, nI_ltI, nI_eq, Nat.add_zero, Nat.zero_add, Nat.reduceEqDiff, Nat.reduceAdd, eq_self, reduceIte, Bool.false_eq_true, li_neg]
          exact q1
    have hm1 := MK_1 hk t (k.1 t - nI (tT_ B c f))
    obtain ⟨μ', q1, q2, q3⟩ := loop (B 0 1) 0 (sI_ μ 230 t (k.1 t - nI (tT_ B c f))) (by omega) (RX_sI h (by decide)) hm1
    refine ⟨μ', z_X12_does (e_X12_does_0 ?_), by unfold doK_; rw [if_neg h0]; exact q2, KF_tr (KF_sI (by omega)) q3⟩
    simp (disch := first | assumption | omega) only [m_ttt h, MK_l hk ht, h0, Option.some.injEq, Prod.mk.injEq, Value.int.injEq, exists_and_left, exists_eq_left', and_assoc, true_and, and_true, true_implies, false_implies, not_true_eq_false, not_false_eq_true, li_0, li_1, li_2, li_3, li_4, li_5, li_8, li_9, li_10, li_16, li_20, li_80, li_100, li_130, li_144, li_390, li_400, li_M, li_H, li_of, nI_add, pk_mul, cl_, vp_iff, nI_leI, nI_ltI, nI_eq, Nat.add_zero, Nat.zero_add, Nat.reduceEqDiff, Nat.reduceAdd, eq_self, reduceIte, Bool.false_eq_true, li_neg]
    (repeat' apply And.intro) <;> first | omega | rfl | assumption | exact q1
theorem m_inAll (h : RX_ μ B) (hk : MK_ μ B k) (hr : r < 9) : f_X12_inAll KC [.ref 219, .int (nI r)] μ = some (some (.int (ia_ B k r)), μ) := by
  have hb := BO_c h.2
  have loop : ∀ n d, d + n = B 0 0 → Ev_ (P_X12_inAll KC) 4 [some (.ref 219), some (.int (nI r)), some (.int (iaS_ B k r d)), some (.int (nI d))] [] μ (some (.int (ia_ B k r)), μ) := by
    intro n
    induction n with
    | zero =>
      intro d hd
      obtain rfl : d = B 0 0 := by omega
      refine e_X12_inAll_4 ?_
      simp (disch := first | assumption | omega) only [m_chaps h, Nat.le_refl, Option.some.injEq, Prod.mk.injEq, Value.int.injEq, exists_and_left, exists_eq_left', and_assoc, true_and, and_true, true_implies, false_implies, not_true_eq_false, not_false_eq_true, li_0, li_1, li_2, li_3, li_4, li_5, li_8, li_9, li_10, li_16, li_20, li_80, li_100, li_130, li_144, li_390, li_400, li_M, li_H, li_of, nI_add, pk_mul, cl_, vp_iff, nI_leI, nI_ltI, nI_eq, Nat.add_zero, Nat.zero_add, Nat.reduceEqDiff, Nat.reduceAdd, eq_self, reduceIte, Bool.false_eq_true, li_neg]
      rfl
    | succ n ih =>
      intro d hd
      refine e_X12_inAll_4 ?_
      have h1 : ¬ B 0 0 ≤ d := by omega
      have h2 : d < B 0 0 := by omega
      simp (disch := first | assumption | omega) only [m_chaps h, h1, m_chapOf h h2, MK_p hk hr, Option.some.injEq, Prod.mk.injEq, Value.int.injEq, exists_and_left, exists_eq_left', and_assoc, true_and, and_true, true_implies, false_implies, not_true_eq_false, not_false_eq_true, li_0, li_1, li_2, li_3, li_4, li_5, li_8, li_9, li_10, li_16, li_20, li_80, li_100, li_130, li_144, li_390, li_400, li_M, li_H, li_of, nI_add, pk_mul, cl_, vp_iff, nI_leI, nI_ltI, nI_eq, Nat.add_zero, Nat.zero_add, Nat.reduceEqDiff, Nat.reduceAdd, eq_self, reduceIte, Bool.false_eq_true, li_neg]
      (repeat' apply And.intro) <;> first | omega | rfl | assumption | exact ih (d + 1) (by omega)
  exact z_X12_inAll (e_X12_inAll_0 (loop (B 0 0) 0 (by omega)))
theorem m_sum (h : RX_ μ B) (hk : MK_ μ B k) {m : Nat} (hm : m ≤ 9) : f_X12_sum KC [.ref 219, .int (nI m)] μ = some (some (.int (smK_ B k m)), μ) := by
  have loop : ∀ n d, d + n = m → Ev_ (P_X12_sum KC) 4 [some (.ref 219), some (.int (nI m)), some (.int (smK_ B k d)), some (.int (nI d))] [] μ (some (.int (smK_ B k m)), μ) := by
    intro n
    induction n with
    | zero =>
      intro d hd
      obtain rfl : d = m := by omega
      refine e_X12_sum_4 ?_
      simp (disch := first | assumption | omega) only [Nat.le_refl, Option.some.injEq, Prod.mk.injEq, Value.int.injEq, exists_and_left, exists_eq_left', and_assoc, true_and, and_true, true_implies, false_implies, not_true_eq_false, not_false_eq_true, li_0, li_1, li_2, li_3, li_4, li_5, li_8, li_9, li_10, li_16, li_20, li_80, li_100, li_130, li_144, li_390, li_400, li_M, li_H, li_of, nI_add, pk_mul, cl_, vp_iff, nI_leI, nI_ltI, nI_eq, Nat.add_zero, Nat.zero_add, Nat.reduceEqDiff, Nat.reduceAdd, eq_self, reduceIte, Bool.false_eq_true, li_neg]
    | succ n ih =>
      intro d hd
      refine e_X12_sum_4 ?_
      have h1 : ¬ m ≤ d := by omega
      simp (disch := first | assumption | omega) only [h1, m_inAll h hk, Option.some.injEq, Prod.mk.injEq, Value.int.injEq, exists_and_left, exists_eq_left', and_assoc, true_and, and_true, true_implies, false_implies, not_true_eq_false, not_false_eq_true, li_0, li_1, li_2, li_3, li_4, li_5, li_8, li_9, li_10, li_16, li_20, li_80, li_100, li_130, li_144, li_390, li_400, li_M, li_H, li_of, nI_add, pk_mul, cl_, vp_iff, nI_leI, nI_ltI, nI_eq, Nat.add_zero, Nat.zero_add, Nat.reduceEqDiff, Nat.reduceAdd, eq_self, reduceIte, Bool.false_eq_true, li_neg]
      exact ih (d + 1) (by omega)
  exact z_X12_sum (e_X12_sum_0 (loop m 0 (by omega)))
end MR2
