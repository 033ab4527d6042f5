/-! ROWS -/
noncomputable def rw_ (B : Nat → Nat → Nat) : Nat → Nat → Nat → T_ → T_
  | 0, _, _, T => T
  | n + 1, r, c, T => if B 0 1 ≤ r ∨ B 0 0 ≤ c then T else if T.1.1 r < nI (tR_ B r c) then rw_ B n (r + 1) c T else rw_ B n r (c + 1) (ta_ B T r c 0 0).2
section RW
variable {σ μ : St_} {b p : Nat} {B : Nat → Nat → Nat} {T : T_} {r c : Nat}
theorem rw_end : ∀ n r c (T : T_), (B 0 1 ≤ r ∨ B 0 0 ≤ c) → rw_ B n r c T = T
  | 0, _, _, _, _ => rfl
  | n + 1, r, c, T, h => by rw [rw_, if_pos h]
theorem ta_read (h : T.2.2 < 100) : ta_ B T r c 0 0 = if T.1.1 r < nI (tR_ B r c) then (false, T) else (true, rdK_ B T.1 r c, pu_ T.2.1 T.2.2 r c 0 0, T.2.2 + 1) := by
  unfold ta_
  rw [wr_0, do_0]
  by_cases h1 : T.1.1 r < nI (tR_ B r c)
  · rw [if_pos h1, if_pos h1, if_pos (Or.inr (by decide))]
  · rw [if_neg h1, if_neg h1, if_neg (fun z => z.elim (fun z => by omega) (fun z => z rfl))]
theorem c_rows15 : ∀ n r c (T : T_) (σ : St_), (B 0 1 - r) + (B 0 0 - c) ≤ n → r < B 0 1 → c ≤ B 0 0 → T.2.2 ≤ c → CG_ σ b p B T → ∃ σ', Ev_ (P_X4_addRows KC) 15 [some (.ref 85), some (.int (nI c)), some (.int (nI r))] [] σ (none, σ') ∧ CG_ σ' b p B (rw_ B n r c T) ∧ CFp_ p σ σ' := by
  intro n
  induction n with
  | zero => exact fun r c T σ h h2 _ => absurd h (by omega)
  | succ n ih =>
    intro r c T σ hn hr hcl ha h
    have hx := h.1.1
    have h3 := BO_c hx.2.2
    have hB := hx.1.2.1
    have h2 := h.1.2.1
    -- on with the next READER
    have next : ∀ (T' : T_) (σ1 : St_), T'.2.2 ≤ c → CG_ σ1 b p B T' → ∃ σ', Ev_ (P_X4_addRows KC) 4 [some (.ref 85), some (.int (nI c)), some (.int (nI (r + 1)))] [] σ1 (none, σ') ∧ CG_ σ' b p B (rw_ B n (r + 1) c T') ∧ CFp_ p σ1 σ' := by
      intro T' σ1 ha' h'
      have h2' := h'.1.2.1
      have hC' := h'.1.1.2.1
      by_cases hr1 : B 0 1 ≤ r + 1
      · refine ⟨σ1, e_X4_addRows_4 ?_, by rw [rw_end _ _ _ _ (Or.inl hr1)]; exact h', CFp_rf⟩
        simp (disch := first | assumption | omega) only [h2', hB, hC'.1.2.1, hr1, Option.some.injEq, Prod.mk.injEq, Value.int.injEq, exists_and_left, exists_eq_left', and_assoc, true_and, and_true, true_implies, false_implies, not_true_eq_false, not_false_eq_true, li_0, li_1, li_2, li_3, li_4, li_5, li_8, li_9, li_10, li_16, li_20, li_80, li_100, li_130, li_144, li_390, li_400, li_M, li_H, li_of, nI_add, pk_mul, cl_, vp_iff, nI_leI, nI_ltI, nI_eq, Nat.add_zero, Nat.zero_add, Nat.reduceEqDiff, Nat.reduceAdd, eq_self, reduceIte, Bool.false_eq_true, li_neg]
      · obtain ⟨σ', q1, q2⟩ := ih (r + 1) c T' σ1 (by omega) (by omega) hcl ha' h'
        refine ⟨σ', e_X4_addRows_4 ?_, q2⟩
        simp (disch := first | assumption | omega) only [h2', hB, hC'.1.2.1, hr1, Option.some.injEq, Prod.mk.injEq, Value.int.injEq, exists_and_left, exists_eq_left', and_assoc, true_and, and_true, true_implies, false_implies, not_true_eq_false, not_false_eq_true, li_0, li_1, li_2, li_3, li_4, li_5, li_8, li_9, li_10, li_16, li_20, li_80, li_100, li_130, li_144, li_390, li_400, li_M, li_H, li_of, nI_add, pk_mul, cl_, vp_iff, nI_leI, nI_ltI, nI_eq, Nat.add_zero, Nat.zero_add, Nat.reduceEqDiff, Nat.reduceAdd, eq_self, reduceIte, Bool.false_eq_true, li_neg]
        exact q1
    by_cases hc : B 0 0 ≤ c
    · obtain ⟨σ', q1, q2, q3⟩ := next T σ ha h
      refine ⟨σ', e_X4_addRows_15 ?_, ?_, q3⟩
      · simp (disch := first | assumption | omega) only [h2, hB, hx.2.1.1.1, hc, Option.some.injEq, Prod.mk.injEq, Value.int.injEq, exists_and_left, exists_eq_left', and_assoc, true_and, and_true, true_implies, false_implies, not_true_eq_false, not_false_eq_true, li_0, li_1, li_2, li_3, li_4, li_5, li_8, li_9, li_10, li_16, li_20, li_80, li_100, li_130, li_144, li_390, li_400, li_M, li_H, li_of, nI_add, pk_mul, cl_, vp_iff, nI_leI, nI_ltI, nI_eq, Nat.add_zero, Nat.zero_add, Nat.reduceEqDiff, Nat.reduceAdd, eq_self, reduceIte, Bool.false_eq_true, li_neg]
        exact q1
      · rw [rw_end _ _ _ _ (Or.inr hc)] at q2 ⊢
        exact q2
    · have hc2 : c < B 0 0 := by omega
      have hn2 : ¬ (B 0 1 ≤ r ∨ B 0 0 ≤ c) := by omega
      obtain ⟨σ2, g1, g2, g3⟩ := c_tryAct (f := 0) (l := 0) h hr hc2 (by omega) (Nat.two_pow_pos _)
      rw [ta_read (by omega)] at g1 g2
      by_cases ht : T.1.1 r < nI (tR_ B r c)
      · rw [if_pos ht] at g1 g2
        obtain ⟨σ', q1, q2, q3⟩ := next T σ2 ha g2
        refine ⟨σ', e_X4_addRows_15 ?_, by rw [rw_, if_neg hn2, if_pos ht]; exact q2, CFp_tr g3 q3⟩
        simp (disch := first | assumption | omega) only [h2, hB, hx.2.1.1.1, hc, g1, Option.some.injEq, Prod.mk.injEq, Value.int.injEq, exists_and_left, exists_eq_left', and_assoc, true_and, and_true, true_implies, false_implies, not_true_eq_false, not_false_eq_true, li_0, li_1, li_2, li_3, li_4, li_5, li_8, li_9, li_10, li_16, li_20, li_80, li_100, li_130, li_144, li_390, li_400, li_M, li_H, li_of, nI_add, pk_mul, cl_, vp_iff, nI_leI, nI_ltI, nI_eq, Nat.add_zero, Nat.zero_add, Nat.reduceEqDiff, Nat.reduceAdd, eq_self, reduceIte, Bool.false_eq_true, li_neg]
        exact q1
      · obtain ⟨σ', q1, q2, q3⟩ := ih r (c + 1) (ta_ B T r c 0 0).2 σ2 (by omega) hr (by omega) (by rw [ta_read (by omega), if_neg ht]; exact Nat.succ_le_succ ha) (by rw [ta_read (by omega)]; exact g2)
        rw [if_neg ht] at g1
        refine ⟨σ', e_X4_addRows_15 ?_, by rw [rw_, if_neg hn2, if_neg ht]; exact q2, CFp_tr g3 q3⟩
        simp (disch := first | assumption | omega) only [h2, hB, hx.2.1.1.1, hc, g1, Option.some.injEq, Prod.mk.injEq, Value.int.injEq, exists_and_left, exists_eq_left', and_assoc, true_and, and_true, true_implies, false_implies, not_true_eq_false, not_false_eq_true, li_0, li_1, li_2, li_3, li_4, li_5, li_8, li_9, li_10, li_16, li_20, li_80, li_100, li_130, li_144, li_390, li_400, li_M, li_H, li_of, nI_add, pk_mul, cl_, vp_iff, nI_leI, nI_ltI, nI_eq, Nat.add_zero, Nat.zero_add, Nat.reduceEqDiff, Nat.reduceAdd, eq_self, reduceIte, Bool.false_eq_true, li_neg]
        exact q1
theorem c_addRows (h : CG_ σ b p B T) (ha : T.2.2 = 0) : ∃ σ', f_X4_addRows KC [.ref 85] σ = some (none, σ') ∧ CG_ σ' b p B (rw_ B (B 0 1 + B 0 0) 0 0 T) ∧ CFp_ p σ σ' := by
  have hB := h.1.1.1.2.1
  have h3 := BO_c h.1.1.2.2
  by_cases hr : B 0 1 ≤ 0
  · refine ⟨σ, z_X4_addRows (e_X4_addRows_0 (e_X4_addRows_4 ?_)), by rw [rw_end _ _ _ _ (Or.inl hr)]; exact h, CFp_rf⟩
    simp (disch := first | assumption | omega) only [h.1.2.1, hB, h.1.1.2.1.1.2.1, hr, Option.some.injEq, Prod.mk.injEq, Value.int.injEq, exists_and_left, exists_eq_left', and_assoc, true_and, and_true, true_implies, false_implies, not_true_eq_false, not_false_eq_true, li_0, li_1, li_2, li_3, li_4, li_5, li_8, li_9, li_10, li_16, li_20, li_80, li_100, li_130, li_144, li_390, li_400, li_M, li_H, li_of, nI_add, pk_mul, cl_, vp_iff, nI_leI, nI_ltI, nI_eq, Nat.add_zero, Nat.zero_add, Nat.reduceEqDiff, Nat.reduceAdd, eq_self, reduceIte, Bool.false_eq_true, li_neg]
  · obtain ⟨σ', q1, q2⟩ := c_rows15 (B 0 1 + B 0 0) 0 0 T σ (by omega) (by omega) (by omega) (by omega) h
    refine ⟨σ', z_X4_addRows (e_X4_addRows_0 (e_X4_addRows_4 ?_)), q2⟩
    simp (disch := first | assumption | omega) only [h.1.2.1, hB, h.1.1.2.1.1.2.1, hr, Option.some.injEq, Prod.mk.injEq, Value.int.injEq, exists_and_left, exists_eq_left', and_assoc, true_and, and_true, true_implies, false_implies, not_true_eq_false, not_false_eq_true, li_0, li_1, li_2, li_3, li_4, li_5, li_8, li_9, li_10, li_16, li_20, li_80, li_100, li_130, li_144, li_390, li_400, li_M, li_H, li_of, nI_add, pk_mul, cl_, vp_iff, nI_leI, nI_ltI, nI_eq, Nat.add_zero, Nat.zero_add, Nat.reduceEqDiff, Nat.reduceAdd, eq_self, reduceIte, Bool.false_eq_true, li_neg]
    exact q1
theorem m_rows12 : ∀ n r c (T : T_) (μ : St_), (B 0 1 - r) + (B 0 0 - c) ≤ n → r ≤ B 0 1 → c < B 0 0 → T.2.2 ≤ c → RG_ μ B T → ∃ μ', Ev_ (P_X12_makeRows KC) 12 [some (.ref 219), some (.int (nI r)), some (.int (nI c))] [] μ (none, μ') ∧ RG_ μ' B (rw_ B n r c T) ∧ RFp_ μ μ' := by
  intro n
  induction n with
  | zero => exact fun r c T μ h h1 h2 => absurd h (by omega)
  | succ n ih =>
    intro r c T μ hn hr hc ha h
    have hx := h.1
    have h3 := BO_c hx.2
    by_cases hr1 : B 0 1 ≤ r
    · obtain rfl : r = B 0 1 := by omega
      refine ⟨μ, e_X12_makeRows_12 ?_, by rw [rw_end _ _ _ _ (Or.inl hr1)]; exact h, RFp_rf⟩
      simp (disch := first | assumption | omega) only [m_readers hx, Nat.le_refl, Option.some.injEq, Prod.mk.injEq, Value.int.injEq, exists_and_left, exists_eq_left', and_assoc, true_and, and_true, true_implies, false_implies, not_true_eq_false, not_false_eq_true, li_0, li_1, li_2, li_3, li_4, li_5, li_8, li_9, li_10, li_16, li_20, li_80, li_100, li_130, li_144, li_390, li_400, li_M, li_H, li_of, nI_add, pk_mul, cl_, vp_iff, nI_leI, nI_ltI, nI_eq, Nat.add_zero, Nat.zero_add, Nat.reduceEqDiff, Nat.reduceAdd, eq_self, reduceIte, Bool.false_eq_true, li_neg]
    · have hr2 : r < B 0 1 := by omega
      have hr3 : ¬ r = B 0 1 := by omega
      have hn2 : ¬ (B 0 1 ≤ r ∨ B 0 0 ≤ c) := by omega
      by_cases ht : T.1.1 r < nI (tR_ B r c)
      · have ht2 := Int32.not_le.mpr ht
        obtain ⟨μ', q1, q2, q3⟩ := ih (r + 1) c T μ (by omega) (by omega) hc ha h
        refine ⟨μ', e_X12_makeRows_12 ?_, by rw [rw_, if_neg hn2, if_pos ht]; exact q2, q3⟩
        simp (disch := first | assumption | omega) only [m_readers hx, hr1, m_ttr hx hr2 hc, MK_l h.2.2.1 hr2, ht2, Option.some.injEq, Prod.mk.injEq, Value.int.injEq, exists_and_left, exists_eq_left', and_assoc, true_and, and_true, true_implies, false_implies, not_true_eq_false, not_false_eq_true, li_0, li_1, li_2, li_3, li_4, li_5, li_8, li_9, li_10, li_16, li_20, li_80, li_100, li_130, li_144, li_390, li_400, li_M, li_H, li_of, nI_add, pk_mul, cl_, vp_iff, nI_leI, nI_ltI, nI_eq, Nat.add_zero, Nat.zero_add, Nat.reduceEqDiff, Nat.reduceAdd, eq_self, reduceIte, Bool.false_eq_true, li_neg]
        (repeat' apply And.intro) <;> first | omega | rfl | assumption | exact q1
      · have ht2 := Int32.not_lt.mp ht
        obtain ⟨μ2, g1, g2, g3⟩ := m_tries (f := 0) (l := 0) h hr2 hc (by omega) (Nat.two_pow_pos _)
        have hx2 := g2.1
        have e1 : (ta_ B T r c 0 0).1 = true := by rw [ta_read (by omega), if_neg ht]
        have ha2 : (ta_ B T r c 0 0).2.2.2 ≤ c + 1 := by rw [ta_read (by omega), if_neg ht]; exact Nat.succ_le_succ ha
        rw [if_pos e1] at g1
        have nx : ∃ μ', Ev_ (P_X12_makeRows KC) 4 [some (.ref 219), some (.int (nI r)), some (.int (nI (c + 1)))] [] μ2 (none, μ') ∧ RG_ μ' B (rw_ B n r (c + 1) (ta_ B T r c 0 0).2) ∧ RFp_ μ2 μ' := by
          by_cases hc1 : B 0 0 ≤ c + 1
          · refine ⟨μ2, e_X12_makeRows_4 ?_, by rw [rw_end _ _ _ _ (Or.inr hc1)]; exact g2, RFp_rf⟩
            simp (disch := first | assumption | omega) only [m_chaps hx2, hc1, Option.some.injEq, Prod.mk.injEq, Value.int.injEq, exists_and_left, exists_eq_left', and_assoc, true_and, and_true, true_implies, false_implies, not_true_eq_false, not_false_eq_true, li_0, li_1, li_2, li_3, li_4, li_5, li_8, li_9, li_10, li_16, li_20, li_80, li_100, li_130, li_144, li_390, li_400, li_M, li_H, li_of, nI_add, pk_mul, cl_, vp_iff, nI_leI, nI_ltI, nI_eq, Nat.add_zero, Nat.zero_add, Nat.reduceEqDiff, Nat.reduceAdd, eq_self, reduceIte, Bool.false_eq_true, li_neg]
          · obtain ⟨μ', q1, q2⟩ := ih r (c + 1) _ μ2 (by omega) hr (by omega) ha2 g2
            refine ⟨μ', e_X12_makeRows_4 ?_, q2⟩
            simp (disch := first | assumption | omega) only [m_chaps hx2, hc1, Option.some.injEq, Prod.mk.injEq, Value.int.injEq, exists_and_left, exists_eq_left', and_assoc, true_and, and_true, true_implies, false_implies, not_true_eq_false, not_false_eq_true, li_0, li_1, li_2, li_3, li_4, li_5, li_8, li_9, li_10, li_16, li_20, li_80, li_100, li_130, li_144, li_390, li_400, li_M, li_H, li_of, nI_add, pk_mul, cl_, vp_iff, nI_leI, nI_ltI, nI_eq, Nat.add_zero, Nat.zero_add, Nat.reduceEqDiff, Nat.reduceAdd, eq_self, reduceIte, Bool.false_eq_true, li_neg]
            exact q1
        obtain ⟨μ', q1, q2, q3⟩ := nx
        refine ⟨μ', e_X12_makeRows_12 ?_, by rw [rw_, if_neg hn2, if_neg ht]; exact q2, RFp_tr g3 q3⟩
        simp (disch := first | assumption | omega) only [m_readers hx, hr1, hr3, m_ttr hx hr2 hc, MK_l h.2.2.1 hr2, ht2, g1, Option.some.injEq, Prod.mk.injEq, Value.int.injEq, exists_and_left, exists_eq_left', and_assoc, true_and, and_true, true_implies, false_implies, not_true_eq_false, not_false_eq_true, li_0, li_1, li_2, li_3, li_4, li_5, li_8, li_9, li_10, li_16, li_20, li_80, li_100, li_130, li_144, li_390, li_400, li_M, li_H, li_of, nI_add, pk_mul, cl_, vp_iff, nI_leI, nI_ltI, nI_eq, Nat.add_zero, Nat.zero_add, Nat.reduceEqDiff, Nat.reduceAdd, eq_self, reduceIte, Bool.false_eq_true, li_neg]
        (repeat' apply And.intro) <;> first | omega | rfl | assumption | exact q1
theorem m_makeRows (h : RG_ μ B T) (ha : T.2.2 = 0) : ∃ μ', f_X12_makeRows KC [.ref 219] μ = some (none, μ') ∧ RG_ μ' B (rw_ B (B 0 1 + B 0 0) 0 0 T) ∧ RFp_ μ μ' := by
  have h3 := BO_c h.1.2
  by_cases hc : B 0 0 ≤ 0
  · refine ⟨μ, z_X12_makeRows (e_X12_makeRows_0 (e_X12_makeRows_4 ?_)), by rw [rw_end _ _ _ _ (Or.inr hc)]; exact h, RFp_rf⟩
    simp (disch := first | assumption | omega) only [m_chaps h.1, hc, Option.some.injEq, Prod.mk.injEq, Value.int.injEq, exists_and_left, exists_eq_left', and_assoc, true_and, and_true, true_implies, false_implies, not_true_eq_false, not_false_eq_true, li_0, li_1, li_2, li_3, li_4, li_5, li_8, li_9, li_10, li_16, li_20, li_80, li_100, li_130, li_144, li_390, li_400, li_M, li_H, li_of, nI_add, pk_mul, cl_, vp_iff, nI_leI, nI_ltI, nI_eq, Nat.add_zero, Nat.zero_add, Nat.reduceEqDiff, Nat.reduceAdd, eq_self, reduceIte, Bool.false_eq_true, li_neg]
  · obtain ⟨μ', q1, q2⟩ := m_rows12 (B 0 1 + B 0 0) 0 0 T μ (by omega) (by omega) (by omega) (by omega) h
    refine ⟨μ', z_X12_makeRows (e_X12_makeRows_0 (e_X12_makeRows_4 ?_)), q2⟩
    simp (disch := first | assumption | omega) only [m_chaps h.1, hc, Option.some.injEq, Prod.mk.injEq, Value.int.injEq, exists_and_left, exists_eq_left', and_assoc, true_and, and_true, true_implies, false_implies, not_true_eq_false, not_false_eq_true, li_0, li_1, li_2, li_3, li_4, li_5, li_8, li_9, li_10, li_16, li_20, li_80, li_100, li_130, li_144, li_390, li_400, li_M, li_H, li_of, nI_add, pk_mul, cl_, vp_iff, nI_leI, nI_ltI, nI_eq, Nat.add_zero, Nat.zero_add, Nat.reduceEqDiff, Nat.reduceAdd, eq_self, reduceIte, Bool.false_eq_true, li_neg]
    exact q1
/-! bits of what was READ -/
theorem hb_bit {x : Int32} {c : Nat} (hc : c < 31) : hb_ x c = (x.toBitVec.getLsbD c = true) := by
  have hs : ((nI c).toBitVec &&& Int32.toBitVec 31).smod 32 = BitVec.ofNat 32 c := by
    have : ∀ j : Fin 31, ((nI j.val).toBitVec &&& Int32.toBitVec 31).smod 32 = BitVec.ofNat 32 j.val := by decide +kernel
    exact this ⟨c, hc⟩
  have h0 := hb_0 x c
  have hb0 : ((x >>> (nI c &&& 31)) &&& nI 1).toBitVec.getLsbD 0 = x.toBitVec.getLsbD c := by
    simp only [Int32.toBitVec_and, Int32.toBitVec_shiftRight, hs, BitVec.getLsbD_and, BitVec.sshiftRight_eq']
    rw [BitVec.toNat_ofNat, Nat.mod_eq_of_lt (show c < 2 ^ 32 by omega), BitVec.getLsbD_sshiftRight]
    simp [show c < 32 by omega, nI]
  refine propext ⟨fun h => ?_, fun h => ?_⟩
  · rw [← hb0, show (x >>> (nI c &&& 31)) &&& nI 1 = nI 1 from h]
    decide
  · refine Classical.byContradiction fun hn => ?_
    have h1 : (x >>> (nI c &&& 31)) &&& nI 1 = nI 0 := by rw [h0]; exact hn
    rw [← hb0, h1] at h
    exact absurd h (by decide)
theorem hb_ob {x : Int32} {c d : Nat} (hc : c < 31) (hd : d < 31) : hb_ (ob_ x c) d = (hb_ x d ∨ d = c) := by
  have e1 : (nI (2 ^ c)).toBitVec = BitVec.ofNat 32 (2 ^ c) := rfl
  rw [hb_bit hd, hb_bit hd]
  unfold ob_
  rw [sh_1 hc, Int32.toBitVec_or, BitVec.getLsbD_or, e1, BitVec.getLsbD_ofNat, Nat.testBit_two_pow]
  simp only [show d < 32 by omega, decide_true, Bool.true_and, Bool.or_eq_true, decide_eq_true_eq]
  exact propext ⟨fun z => z.imp id Eq.symm, fun z => z.imp id Eq.symm⟩
theorem hb_00 {d : Nat} (hd : d < 31) : ¬ hb_ (nI 0) d := by
  rw [hb_n (by decide) hd]
  simp
/-- who has READ what: each CHAP one at most -/
def UQ_ (B : Nat → Nat → Nat) (k : K_) : Prop := ∀ c r q, c < B 0 0 → r < B 0 1 → q < B 0 1 → hb_ (k.2.1 r) c → hb_ (k.2.1 q) c → r = q
theorem UQ_rw (hO : BO_ B) : ∀ n r c (T : T_), T.2.2 ≤ c → UQ_ B T.1 → (∀ d q, c ≤ d → d < B 0 0 → q < B 0 1 → ¬ hb_ (T.1.2.1 q) d) → UQ_ B (rw_ B n r c T).1 ∧ (rw_ B n r c T).2.2 ≤ max c (B 0 0) := by
  have h3 := BO_c hO
  intro n
  induction n with
  | zero => exact fun r c T ha h _ => ⟨h, by rw [rw_]; omega⟩
  | succ n ih =>
    intro r c T ha h hn
    rw [rw_]
    split
    · exact ⟨h, by omega⟩
    · rename_i h1
      split
      · exact ih _ _ _ ha h hn
      · rename_i h2
        have h5 : ta_ B T r c 0 0 = (true, rdK_ B T.1 r c, pu_ T.2.1 T.2.2 r c 0 0, T.2.2 + 1) := by rw [ta_read (by omega), if_neg h2]
        rw [h5]
        have hrd : ∀ q d, d < 31 → hb_ ((rdK_ B T.1 r c).2.1 q) d → hb_ (T.1.2.1 q) d ∨ (d = c ∧ q = r) := by
          intro q d hd hh
          by_cases e : q = r
          · subst e
            rw [show (rdK_ B T.1 q c).2.1 q = ob_ (T.1.2.1 q) c from ud_eq _ _ _, hb_ob (by omega) hd] at hh
            exact hh.elim Or.inl (fun z => Or.inr ⟨z, rfl⟩)
          · rw [show (rdK_ B T.1 r c).2.1 q = T.1.2.1 q from ud_ne _ _ e] at hh
            exact Or.inl hh
        have := ih r (c + 1) (rdK_ B T.1 r c, pu_ T.2.1 T.2.2 r c 0 0, T.2.2 + 1) (Nat.succ_le_succ ha) (by
          intro d q1 q2 hd hq1 hq2 b1 b2
          rcases hrd q1 d (by omega) b1 with z1 | z1 <;> rcases hrd q2 d (by omega) b2 with z2 | z2
          · exact h d q1 q2 hd hq1 hq2 z1 z2
          · exact absurd z1 (hn d q1 (by omega) hd hq1)
          · exact absurd z2 (hn d q2 (by omega) hd hq2)
          · omega) (by
          intro d q hd hd2 hq hh
          rcases hrd q d (by omega) hh with z | z
          · exact hn d q (by omega) hd2 hq z
          · omega)
        exact ⟨this.1, Nat.le_trans this.2 (by omega)⟩
/-- the ROWS from the start -/
noncomputable def R0_ (B : Nat → Nat → Nat) : T_ := rw_ B (B 0 1 + B 0 0) 0 0 (k0_ B, fun _ _ => 0, 0)
theorem UQ_R0 (hO : BO_ B) : UQ_ B (R0_ B).1 ∧ (R0_ B).2.2 ≤ 16 := by
  have h3 := BO_c hO
  have := UQ_rw hO (B 0 1 + B 0 0) 0 0 (k0_ B, fun _ _ => 0, 0) (Nat.le_refl _) (fun c r q hc _ _ h1 _ => absurd h1 (hb_00 (by omega))) (fun d q _ hd _ => hb_00 (by omega))
  exact ⟨this.1, by have := this.2; show (rw_ B (B 0 1 + B 0 0) 0 0 (k0_ B, fun _ _ => 0, 0)).2.2 ≤ 16; omega⟩
end RW
