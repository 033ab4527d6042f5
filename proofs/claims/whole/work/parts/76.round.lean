/-! ROUND, both sides -/
section K3
variable {σ μ : St_} {b p : Nat} {B : Nat → Nat → Nat} {T : T_} {r c f : Nat}
theorem c_rounds15 (hf : 1 ≤ f ∧ f ≤ 4) (hr : r < B 0 1) : ∀ n c (T0 : T_) (σ : St_), c + n = B 0 0 → CG_ σ b p B (rdr_ B f T0 r c) → ∃ σ', (∀ out, Ev_ (P_X4_addRounds KC) 2 [some (.ref 85), some (.int (nI f)), some (.int (nI (r + 1))), none, none] [] σ' out → Ev_ (P_X4_addRounds KC) 15 [some (.ref 85), some (.int (nI f)), some (.int (nI r)), some (.int (nI c)), none] [] σ out) ∧ CG_ σ' b p B (rdr_ B f T0 r (B 0 0)) ∧ CFp_ p σ σ' := by
  intro n
  induction n with
  | zero =>
    intro c T0 σ hc h
    obtain rfl : c = B 0 0 := by omega
    have hB := h.1.1.1.2.1
    have h3 := BO_c h.1.1.2.2
    refine ⟨σ, fun out q => e_X4_addRounds_15 ?_, h, CFp_rf⟩
    simp (disch := first | assumption | omega) only [h.1.2.1, hB, h.1.1.2.1.1.1, Nat.le_refl, Option.some.injEq, Prod.mk.injEq, Value.int.injEq, exists_and_left, exists_eq_left', and_assoc, true_and, and_true, true_implies, false_implies, not_true_eq_false, not_false_eq_true, li_0, li_1, li_2, li_3, li_4, li_5, li_8, li_9, li_10, li_16, li_20, li_80, li_100, li_130, li_144, li_390, li_400, li_M, li_H, li_of, nI_add, pk_mul, cl_, vp_iff, nI_leI, nI_ltI, nI_eq, Nat.add_zero, Nat.zero_add, Nat.reduceEqDiff, Nat.reduceAdd, eq_self, reduceIte, Bool.false_eq_true, li_neg]
    exact q
  | succ n ih =>
    intro c T0 σ hc h
    have hB := h.1.1.1.2.1
    have hO := h.1.1.2.2
    have h3 := BO_c hO
    have hC := h.1.1.2.1
    have hk := h.2.2.1
    have h1 : ¬ B 0 0 ≤ c := by omega
    have h2 : c < B 0 0 := by omega
    have e88 : σ.1 88 r = (rdr_ B f T0 r c).1.2.1 r := CK_r (m := 86) hk hr
    by_cases hb : hb_ ((rdr_ B f T0 r c).1.2.1 r) c
    · have g1 := c_withTime h.1.1 hk (nI (tT_ B c f))
      have hwl := wt_lt (rdr_ B f T0 r c).1 (nI (tT_ B c f)) (B 0 1)
      have hw16 : wt_ (rdr_ B f T0 r c).1 (nI (tT_ B c f)) (B 0 1) < 2 ^ 16 := Nat.lt_of_lt_of_le hwl (Nat.pow_le_pow_right (by decide) (by omega))
      have hcb := cb_nI (s := r) hw16 (by omega)
      rw [ws_cb h3.2 _ hr] at hcb
      have hsl := ws_lt (k := (rdr_ B f T0 r c).1) (nI (tT_ B c f)) r (B 0 1)
      have hs16 : ws_ (rdr_ B f T0 r c).1 (nI (tT_ B c f)) r (B 0 1) < 2 ^ 16 := Nat.lt_of_lt_of_le hsl (Nat.pow_le_pow_right (by decide) (by omega))
      by_cases h0 : ws_ (rdr_ B f T0 r c).1 (nI (tT_ B c f)) r (B 0 1) = 0
      · have e : rdr_ B f T0 r (c + 1) = rdr_ B f T0 r c := by rw [rdr_]; unfold rdc_; rw [if_pos hb, if_pos h0]
        obtain ⟨σ', q1, q2⟩ := ih (c + 1) T0 σ (by omega) (by rw [e]; exact h)
        rw [h0] at hcb
        refine ⟨σ', fun out q => e_X4_addRounds_15 ?_, q2⟩
        have q1' := q1 out q
        simp (disch := first | assumption | omega) only [h.1.2.1, hB, hC.1.1, h1, e88, hb_0, hb, c_tellTime hB hC hO h2 hf.2, g1, sh_1, hcb, Option.some.injEq, Prod.mk.injEq, Value.int.injEq, exists_and_left, exists_eq_left', and_assoc, true_and, and_true, true_implies, false_implies, not_true_eq_false, not_false_eq_true, li_0, li_1, li_2, li_3, li_4, li_5, li_8, li_9, li_10, li_16, li_20, li_80, li_100, li_130, li_144, li_390, li_400, li_M, li_H, li_of, nI_add, pk_mul, cl_, vp_iff, nI_leI, nI_ltI, nI_eq, Nat.add_zero, Nat.zero_add, Nat.reduceEqDiff, Nat.reduceAdd, eq_self, reduceIte, Bool.false_eq_true, li_neg]
        (repeat' apply And.intro) <;> first | omega | rfl | assumption | exact q1'
      · have e : rdr_ B f T0 r (c + 1) = (ta_ B (rdr_ B f T0 r c) r c f (ws_ (rdr_ B f T0 r c).1 (nI (tT_ B c f)) r (B 0 1))).2 := by rw [rdr_]; unfold rdc_; rw [if_pos hb, if_neg h0]
        obtain ⟨σ2, k1, k2, k3⟩ := c_tryAct (f := f) h hr h2 hf.2 hsl
        obtain ⟨σ', q1, q2, q3⟩ := ih (c + 1) T0 σ2 (by omega) (by rw [e]; exact k2)
        refine ⟨σ', fun out q => e_X4_addRounds_15 ?_, q2, CFp_tr k3 q3⟩
        have q1' := q1 out q
        simp (disch := first | assumption | omega) only [h.1.2.1, hB, hC.1.1, h1, e88, hb_0, hb, c_tellTime hB hC hO h2 hf.2, g1, sh_1, hcb, h0, k1, Option.some.injEq, Prod.mk.injEq, Value.int.injEq, exists_and_left, exists_eq_left', and_assoc, true_and, and_true, true_implies, false_implies, not_true_eq_false, not_false_eq_true, li_0, li_1, li_2, li_3, li_4, li_5, li_8, li_9, li_10, li_16, li_20, li_80, li_100, li_130, li_144, li_390, li_400, li_M, li_H, li_of, nI_add, pk_mul, cl_, vp_iff, nI_leI, nI_ltI, nI_eq, Nat.add_zero, Nat.zero_add, Nat.reduceEqDiff, Nat.reduceAdd, eq_self, reduceIte, Bool.false_eq_true, li_neg]
        (repeat' apply And.intro) <;> first | omega | rfl | assumption | exact q1'
    · have e : rdr_ B f T0 r (c + 1) = rdr_ B f T0 r c := by rw [rdr_]; unfold rdc_; rw [if_neg hb]
      obtain ⟨σ', q1, q2⟩ := ih (c + 1) T0 σ (by omega) (by rw [e]; exact h)
      refine ⟨σ', fun out q => e_X4_addRounds_15 ?_, q2⟩
      have q1' := q1 out q
      simp (disch := first | assumption | omega) only [h.1.2.1, hB, hC.1.1, h1, e88, hb_0, hb, Option.some.injEq, Prod.mk.injEq, Value.int.injEq, exists_and_left, exists_eq_left', and_assoc, true_and, and_true, true_implies, false_implies, not_true_eq_false, not_false_eq_true, li_0, li_1, li_2, li_3, li_4, li_5, li_8, li_9, li_10, li_16, li_20, li_80, li_100, li_130, li_144, li_390, li_400, li_M, li_H, li_of, nI_add, pk_mul, cl_, vp_iff, nI_leI, nI_ltI, nI_eq, Nat.add_zero, Nat.zero_add, Nat.reduceEqDiff, Nat.reduceAdd, eq_self, reduceIte, Bool.false_eq_true, li_neg]
      (repeat' apply And.intro) <;> first | omega | rfl | assumption | exact q1'
theorem c_addRounds (hf : 1 ≤ f ∧ f ≤ 4) : ∀ n r (T0 : T_) (σ : St_), r + n = B 0 1 → CG_ σ b p B (rda_ B f T0 r) → ∃ σ', Ev_ (P_X4_addRounds KC) 2 [some (.ref 85), some (.int (nI f)), some (.int (nI r)), none, none] [] σ (none, σ') ∧ CG_ σ' b p B (rda_ B f T0 (B 0 1)) ∧ CFp_ p σ σ' := by
  intro n
  induction n with
  | zero =>
    intro r T0 σ hr h
    obtain rfl : r = B 0 1 := by omega
    have hB := h.1.1.1.2.1
    have h3 := BO_c h.1.1.2.2
    refine ⟨σ, e_X4_addRounds_2 ?_, h, CFp_rf⟩
    simp (disch := first | assumption | omega) only [h.1.2.1, hB, h.1.1.2.1.1.2.1, Nat.le_refl, Option.some.injEq, Prod.mk.injEq, Value.int.injEq, exists_and_left, exists_eq_left', and_assoc, true_and, and_true, true_implies, false_implies, not_true_eq_false, not_false_eq_true, li_0, li_1, li_2, li_3, li_4, li_5, li_8, li_9, li_10, li_16, li_20, li_80, li_100, li_130, li_144, li_390, li_400, li_M, li_H, li_of, nI_add, pk_mul, cl_, vp_iff, nI_leI, nI_ltI, nI_eq, Nat.add_zero, Nat.zero_add, Nat.reduceEqDiff, Nat.reduceAdd, eq_self, reduceIte, Bool.false_eq_true, li_neg]
  | succ n ih =>
    intro r T0 σ hr h
    have hB := h.1.1.1.2.1
    have h3 := BO_c h.1.1.2.2
    have h1 : ¬ B 0 1 ≤ r := by omega
    obtain ⟨σ2, k1, k2, k3⟩ := c_rounds15 hf (show r < B 0 1 by omega) (B 0 0) 0 (rda_ B f T0 r) σ (by omega) h
    obtain ⟨σ', q1, q2, q3⟩ := ih (r + 1) T0 σ2 (by omega) k2
    refine ⟨σ', e_X4_addRounds_2 ?_, q2, CFp_tr k3 q3⟩
    have k1' := k1 _ q1
    simp (disch := first | assumption | omega) only [h.1.2.1, hB, h.1.1.2.1.1.2.1, h1, Option.some.injEq, Prod.mk.injEq, Value.int.injEq, exists_and_left, exists_eq_left', and_assoc, true_and, and_true, true_implies, false_implies, not_true_eq_false, not_false_eq_true, li_0, li_1, li_2, li_3, li_4, li_5, li_8, li_9, li_10, li_16, li_20, li_80, li_100, li_130, li_144, li_390, li_400, li_M, li_H, li_of, nI_add, pk_mul, cl_, vp_iff, nI_leI, nI_ltI, nI_eq, Nat.add_zero, Nat.zero_add, Nat.reduceEqDiff, Nat.reduceAdd, eq_self, reduceIte, Bool.false_eq_true, li_neg]
    exact k1'
theorem m_round12 (hf : 1 ≤ f ∧ f ≤ 4) (hr : r < B 0 1) : ∀ n c (T0 : T_) (μ : St_), c + n = B 0 0 → RG_ μ B (rdr_ B f T0 r c) → ∃ μ', (∀ out, Ev_ (P_X12_makeRound KC) 2 [some (.ref 219), some (.int (nI f)), some (.int (nI (r + 1))), none, none, none] [] μ' out → Ev_ (P_X12_makeRound KC) 12 [some (.ref 219), some (.int (nI f)), some (.int (nI r)), some (.int (nI c)), none, none] [] μ out) ∧ RG_ μ' B (rdr_ B f T0 r (B 0 0)) ∧ RFp_ μ μ' := by
  intro n
  induction n with
  | zero =>
    intro c T0 μ hc h
    obtain rfl : c = B 0 0 := by omega
    have h3 := BO_c h.1.2
    refine ⟨μ, fun out q => e_X12_makeRound_12 ?_, h, RFp_rf⟩
    simp (disch := first | assumption | omega) only [m_chaps h.1, Nat.le_refl, Option.some.injEq, Prod.mk.injEq, Value.int.injEq, exists_and_left, exists_eq_left', and_assoc, true_and, and_true, true_implies, false_implies, not_true_eq_false, not_false_eq_true, li_0, li_1, li_2, li_3, li_4, li_5, li_8, li_9, li_10, li_16, li_20, li_80, li_100, li_130, li_144, li_390, li_400, li_M, li_H, li_of, nI_add, pk_mul, cl_, vp_iff, nI_leI, nI_ltI, nI_eq, Nat.add_zero, Nat.zero_add, Nat.reduceEqDiff, Nat.reduceAdd, eq_self, reduceIte, Bool.false_eq_true, li_neg]
    exact q
  | succ n ih =>
    intro c T0 μ hc h
    have hx := h.1
    have hO := hx.2
    have h3 := BO_c hO
    have hk := h.2.2.1
    have h1 : ¬ B 0 0 ≤ c := by omega
    have h2 : c < B 0 0 := by omega
    by_cases hb : hb_ ((rdr_ B f T0 r c).1.2.1 r) c
    · have hsl := ws_lt (k := (rdr_ B f T0 r c).1) (nI (tT_ B c f)) r (B 0 1)
      have hs16 : ws_ (rdr_ B f T0 r c).1 (nI (tT_ B c f)) r (B 0 1) < 2 ^ 16 := Nat.lt_of_lt_of_le hsl (Nat.pow_le_pow_right (by decide) (by omega))
      -- the listeners
      have lis : ∀ m u out, u + m = B 0 1 → Ev_ (P_X12_makeRound KC) 42 [some (.ref 219), some (.int (nI f)), some (.int (nI r)), some (.int (nI c)), some (.int (nI (ws_ (rdr_ B f T0 r c).1 (nI (tT_ B c f)) r (B 0 1)))), some (.int (nI (B 0 1)))] [] μ out → Ev_ (P_X12_makeRound KC) 42 [some (.ref 219), some (.int (nI f)), some (.int (nI r)), some (.int (nI c)), some (.int (nI (ws_ (rdr_ B f T0 r c).1 (nI (tT_ B c f)) r u))), some (.int (nI u))] [] μ out := by
        intro m
        induction m with
        | zero =>
          intro u out hu q
          obtain rfl : u = B 0 1 := by omega
          exact q
        | succ m ihm =>
          intro u out hu q
          have h5 : ¬ B 0 1 ≤ u := by omega
          have h6 : u < B 0 1 := by omega
          have ih1 := ihm (u + 1) out (by omega) q
          rw [ws_] at ih1
          refine e_X12_makeRound_42 ?_
          by_cases e : u = r
          · rw [if_pos e] at ih1
            have h5' : ¬ B 0 1 ≤ r := by omega
            rw [e] at ih1 ⊢
            simp (disch := first | assumption | omega) only [m_readers hx, h5', Option.some.injEq, Prod.mk.injEq, Value.int.injEq, exists_and_left, exists_eq_left', and_assoc, true_and, and_true, true_implies, false_implies, not_true_eq_false, not_false_eq_true, li_0, li_1, li_2, li_3, li_4, li_5, li_8, li_9, li_10, li_16, li_20, li_80, li_100, li_130, li_144, li_390, li_400, li_M, li_H, li_of, nI_add, pk_mul, cl_, vp_iff, nI_leI, nI_ltI, nI_eq, Nat.add_zero, Nat.zero_add, Nat.reduceEqDiff, Nat.reduceAdd, eq_self, reduceIte, Bool.false_eq_true, li_neg]
            exact ih1
          · rw [if_neg e] at ih1
            by_cases ht : (rdr_ B f T0 r c).1.1 u < nI (tT_ B c f)
            · rw [if_pos ht] at ih1
              simp (disch := first | assumption | omega) only [m_readers hx, h5, e, m_ttt hx h2 hf.2, MK_l hk h6, ht, Option.some.injEq, Prod.mk.injEq, Value.int.injEq, exists_and_left, exists_eq_left', and_assoc, true_and, and_true, true_implies, false_implies, not_true_eq_false, not_false_eq_true, li_0, li_1, li_2, li_3, li_4, li_5, li_8, li_9, li_10, li_16, li_20, li_80, li_100, li_130, li_144, li_390, li_400, li_M, li_H, li_of, nI_add, pk_mul, cl_, vp_iff, nI_leI, nI_ltI, nI_eq, Nat.add_zero, Nat.zero_add, Nat.reduceEqDiff, Nat.reduceAdd, eq_self, reduceIte, Bool.false_eq_true, li_neg]
              (repeat' apply And.intro) <;> first | omega | rfl | assumption | exact ih1
            · rw [if_neg ht] at ih1
              simp (disch := first | assumption | omega) only [m_readers hx, h5, e, m_ttt hx h2 hf.2, MK_l hk h6, ht, sh_1, fa_or, Option.some.injEq, Prod.mk.injEq, Value.int.injEq, exists_and_left, exists_eq_left', and_assoc, true_and, and_true, true_implies, false_implies, not_true_eq_false, not_false_eq_true, li_0, li_1, li_2, li_3, li_4, li_5, li_8, li_9, li_10, li_16, li_20, li_80, li_100, li_130, li_144, li_390, li_400, li_M, li_H, li_of, nI_add, pk_mul, cl_, vp_iff, nI_leI, nI_ltI, nI_eq, Nat.add_zero, Nat.zero_add, Nat.reduceEqDiff, Nat.reduceAdd, eq_self, reduceIte, Bool.false_eq_true, li_neg]
              (repeat' apply And.intro) <;> first | omega | rfl | assumption | exact ih1
      by_cases h0 : ws_ (rdr_ B f T0 r c).1 (nI (tT_ B c f)) r (B 0 1) = 0
      · have e : rdr_ B f T0 r (c + 1) = rdr_ B f T0 r c := by rw [rdr_]; unfold rdc_; rw [if_pos hb, if_pos h0]
        obtain ⟨μ', q1, q2⟩ := ih (c + 1) T0 μ (by omega) (by rw [e]; exact h)
        refine ⟨μ', fun out q => e_X12_makeRound_12 ?_, q2⟩
        have q1' := q1 out q
        have l0 := lis (B 0 1) 0 out (by omega) (by
          refine e_X12_makeRound_42 ?_
          simp (disch := first | assumption | omega) only [m_readers hx, Nat.le_refl, h0, Option.some.injEq, Prod.mk.injEq, Value.int.injEq, exists_and_left, exists_eq_left', and_assoc, true_and, and_true, true_implies, false_implies, not_true_eq_false, not_false_eq_true, li_0, li_1, li_2, li_3, li_4, li_5, li_8, li_9, li_10, li_16, li_20, li_80, li_100, li_130, li_144, li_390, li_400, li_M, li_H, li_of, nI_add, pk_mul, cl_, vp_iff, nI_leI, nI_ltI, nI_eq, Nat.add_zero, Nat.zero_add, Nat.reduceEqDiff, Nat.reduceAdd, eq_self, reduceIte, Bool.false_eq_true, li_neg]
          exact q1')
        rw [ws_] at l0
        simp (disch := first | assumption | omega) only [m_chaps hx, h1, MK_r hk hr, m_hasK, hb, Option.some.injEq, Prod.mk.injEq, Value.int.injEq, exists_and_left, exists_eq_left', and_assoc, true_and, and_true, true_implies, false_implies, not_true_eq_false, not_false_eq_true, li_0, li_1, li_2, li_3, li_4, li_5, li_8, li_9, li_10, li_16, li_20, li_80, li_100, li_130, li_144, li_390, li_400, li_M, li_H, li_of, nI_add, pk_mul, cl_, vp_iff, nI_leI, nI_ltI, nI_eq, Nat.add_zero, Nat.zero_add, Nat.reduceEqDiff, Nat.reduceAdd, eq_self, reduceIte, Bool.false_eq_true, li_neg]
        (repeat' apply And.intro) <;> first | omega | rfl | assumption | exact l0
      · have e : rdr_ B f T0 r (c + 1) = (ta_ B (rdr_ B f T0 r c) r c f (ws_ (rdr_ B f T0 r c).1 (nI (tT_ B c f)) r (B 0 1))).2 := by rw [rdr_]; unfold rdc_; rw [if_pos hb, if_neg h0]
        obtain ⟨μ2, k1, k2, k3⟩ := m_tries (f := f) h hr h2 hf.2 hsl
        obtain ⟨μ', q1, q2, q3⟩ := ih (c + 1) T0 μ2 (by omega) (by rw [e]; exact k2)
        refine ⟨μ', fun out q => e_X12_makeRound_12 ?_, q2, RFp_tr k3 q3⟩
        have q1' := q1 out q
        have l0 := lis (B 0 1) 0 out (by omega) (by
          refine e_X12_makeRound_42 ?_
          simp (disch := first | assumption | omega) only [m_readers hx, Nat.le_refl, h0, k1, Option.some.injEq, Prod.mk.injEq, Value.int.injEq, exists_and_left, exists_eq_left', and_assoc, true_and, and_true, true_implies, false_implies, not_true_eq_false, not_false_eq_true, li_0, li_1, li_2, li_3, li_4, li_5, li_8, li_9, li_10, li_16, li_20, li_80, li_100, li_130, li_144, li_390, li_400, li_M, li_H, li_of, nI_add, pk_mul, cl_, vp_iff, nI_leI, nI_ltI, nI_eq, Nat.add_zero, Nat.zero_add, Nat.reduceEqDiff, Nat.reduceAdd, eq_self, reduceIte, Bool.false_eq_true, li_neg]
          exact q1')
        rw [ws_] at l0
        simp (disch := first | assumption | omega) only [m_chaps hx, h1, MK_r hk hr, m_hasK, hb, Option.some.injEq, Prod.mk.injEq, Value.int.injEq, exists_and_left, exists_eq_left', and_assoc, true_and, and_true, true_implies, false_implies, not_true_eq_false, not_false_eq_true, li_0, li_1, li_2, li_3, li_4, li_5, li_8, li_9, li_10, li_16, li_20, li_80, li_100, li_130, li_144, li_390, li_400, li_M, li_H, li_of, nI_add, pk_mul, cl_, vp_iff, nI_leI, nI_ltI, nI_eq, Nat.add_zero, Nat.zero_add, Nat.reduceEqDiff, Nat.reduceAdd, eq_self, reduceIte, Bool.false_eq_true, li_neg]
        (repeat' apply And.intro) <;> first | omega | rfl | assumption | exact l0
    · have e : rdr_ B f T0 r (c + 1) = rdr_ B f T0 r c := by rw [rdr_]; unfold rdc_; rw [if_neg hb]
      obtain ⟨μ', q1, q2⟩ := ih (c + 1) T0 μ (by omega) (by rw [e]; exact h)
      refine ⟨μ', fun out q => e_X12_makeRound_12 ?_, q2⟩
      have q1' := q1 out q
      simp (disch := first | assumption | omega) only [m_chaps hx, h1, MK_r hk hr, m_hasK, hb, Option.some.injEq, Prod.mk.injEq, Value.int.injEq, exists_and_left, exists_eq_left', and_assoc, true_and, and_true, true_implies, false_implies, not_true_eq_false, not_false_eq_true, li_0, li_1, li_2, li_3, li_4, li_5, li_8, li_9, li_10, li_16, li_20, li_80, li_100, li_130, li_144, li_390, li_400, li_M, li_H, li_of, nI_add, pk_mul, cl_, vp_iff, nI_leI, nI_ltI, nI_eq, Nat.add_zero, Nat.zero_add, Nat.reduceEqDiff, Nat.reduceAdd, eq_self, reduceIte, Bool.false_eq_true, li_neg]
      (repeat' apply And.intro) <;> first | omega | rfl | assumption | exact q1'
theorem m_makeRound (hf : 1 ≤ f ∧ f ≤ 4) : ∀ n r (T0 : T_) (μ : St_), r + n = B 0 1 → RG_ μ B (rda_ B f T0 r) → ∃ μ', Ev_ (P_X12_makeRound KC) 2 [some (.ref 219), some (.int (nI f)), some (.int (nI r)), none, none, none] [] μ (none, μ') ∧ RG_ μ' B (rda_ B f T0 (B 0 1)) ∧ RFp_ μ μ' := by
  intro n
  induction n with
  | zero =>
    intro r T0 μ hr h
    obtain rfl : r = B 0 1 := by omega
    have h3 := BO_c h.1.2
    refine ⟨μ, e_X12_makeRound_2 ?_, h, RFp_rf⟩
    simp (disch := first | assumption | omega) only [m_readers h.1, Nat.le_refl, Option.some.injEq, Prod.mk.injEq, Value.int.injEq, exists_and_left, exists_eq_left', and_assoc, true_and, and_true, true_implies, false_implies, not_true_eq_false, not_false_eq_true, li_0, li_1, li_2, li_3, li_4, li_5, li_8, li_9, li_10, li_16, li_20, li_80, li_100, li_130, li_144, li_390, li_400, li_M, li_H, li_of, nI_add, pk_mul, cl_, vp_iff, nI_leI, nI_ltI, nI_eq, Nat.add_zero, Nat.zero_add, Nat.reduceEqDiff, Nat.reduceAdd, eq_self, reduceIte, Bool.false_eq_true, li_neg]
  | succ n ih =>
    intro r T0 μ hr h
    have h3 := BO_c h.1.2
    have h1 : ¬ B 0 1 ≤ r := by omega
    obtain ⟨μ2, k1, k2, k3⟩ := m_round12 hf (show r < B 0 1 by omega) (B 0 0) 0 (rda_ B f T0 r) μ (by omega) h
    obtain ⟨μ', q1, q2, q3⟩ := ih (r + 1) T0 μ2 (by omega) k2
    refine ⟨μ', e_X12_makeRound_2 ?_, q2, RFp_tr k3 q3⟩
    have k1' := k1 _ q1
    simp (disch := first | assumption | omega) only [m_readers h.1, h1, Option.some.injEq, Prod.mk.injEq, Value.int.injEq, exists_and_left, exists_eq_left', and_assoc, true_and, and_true, true_implies, false_implies, not_true_eq_false, not_false_eq_true, li_0, li_1, li_2, li_3, li_4, li_5, li_8, li_9, li_10, li_16, li_20, li_80, li_100, li_130, li_144, li_390, li_400, li_M, li_H, li_of, nI_add, pk_mul, cl_, vp_iff, nI_leI, nI_ltI, nI_eq, Nat.add_zero, Nat.zero_add, Nat.reduceEqDiff, Nat.reduceAdd, eq_self, reduceIte, Bool.false_eq_true, li_neg]
    exact k1'
end K3
