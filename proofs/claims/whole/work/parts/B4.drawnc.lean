/-! DRAWN, on both sides -/
section CO2
variable {σ μ μ1 : St_} {b p a : Nat} {B P : Nat → Nat → Nat}
/-- a new PLAN, of the same BOOK -/
def NP_ (σ σ' μ1 μ' : St_) (b p : Nat) (B : Nat → Nat → Nat) (P' : Nat → Nat → Nat) (a' : Nat) : Prop := NOW_ σ' μ' b p B P' a' ∧ (GF_ [0, 85, 86, 87, 88, 89, 90, p, p + 1, p + 2, p + 3, p + 4] σ σ' ∧ NF2_ [18] 0 σ σ' ∧ ∀ o i, ¬ (o = 85 ∧ (i = 2 ∨ i = 3)) → ¬ (o = 86 ∧ i = 9) → σ'.2.2 o i = σ.2.2 o i) ∧ fr_ [219, 221, 228] μ1 μ' ∧ (∀ i, i < 390 ∨ 800 ≤ i → μ'.1 221 i = μ1.1 221 i) ∧ NF2_ [24, 33] 219 μ1 μ'
theorem drawn_both (h : NOW_ σ μ1 b p B P a) (hl : LY_ μ μ1) (x1 x2 : Int32) : ∃ v σ' μ' P' a', f_X11_drawn KC [.ref 0, .int x1, .int x2] σ = some (some (.int v), σ') ∧ f_X12_drawn KC [.ref 219, .int x1, .int x2] μ = some (some (.int v), μ') ∧ NP_ σ σ' μ1 μ' b p B P' a' := by
  have hl' : f_X12_lay KC [.ref 219] (sI_ μ 219 0 (nI 0)) = some (none, μ1) := hl
  have h0 := h
  obtain ⟨⟨hB, hP, h12, h14⟩, ⟨hC, hp, hr⟩, hx, hpm, ho⟩ := h
  have hO := hx.2
  have hb := BO_c hO
  have l60 : (60 : Int32) = nI 60 := rfl
  have no : f_X11_drawn KC [.ref 0, .int x1, .int x2] σ = some (some (.int nM_), σ) → f_X12_drawn KC [.ref 219, .int x1, .int x2] μ = some (some (.int nM_), μ1) → ∃ v σ' μ' P' a', f_X11_drawn KC [.ref 0, .int x1, .int x2] σ = some (some (.int v), σ') ∧ f_X12_drawn KC [.ref 219, .int x1, .int x2] μ = some (some (.int v), μ') ∧ NP_ σ σ' μ1 μ' b p B P' a' := fun q1 q2 => ⟨nM_, σ, μ1, P, a, q1, q2, h0, ⟨GF_rf _ _, fun _ _ => rfl, fun _ _ _ _ => rfl⟩, fr_rf _ _, fun _ _ => rfl, fun _ _ => rfl⟩
  rcases in_or x1 (a := 1) (b := 60) (by omega) (by omega) with ⟨n, rfl, n1, n2⟩ | h1
  · have i1 := m_isInYes (μ := μ1) (b := 60) (by omega) (show 1 ≤ n ∧ n ≤ 60 from ⟨n1, n2⟩)
    have n1' : ¬ n < 1 := by omega
    have n2' : ¬ 60 < n := by omega
    by_cases hR : B 0 1 < 2
    · refine no (z_X11_drawn (e_X11_drawn_0 ?_)) (z_X12_drawn (e_X12_drawn_0 ?_))
      · simp (disch := first | assumption | omega) only [n1', l60, n2', h12, hB, hC.1.2.1, hR, Option.some.injEq, Prod.mk.injEq, Value.int.injEq, exists_and_left, exists_eq_left', and_assoc, true_and, and_true, true_implies, false_implies, not_true_eq_false, not_false_eq_true, li_0, li_1, li_2, li_3, li_4, li_5, li_8, li_9, li_10, li_16, li_20, li_80, li_100, li_130, li_144, li_390, li_400, li_M, li_H, li_of, nI_add, pk_mul, cl_, vp_iff, nI_leI, nI_ltI, nI_eq, Nat.add_zero, Nat.zero_add, Nat.reduceEqDiff, Nat.reduceAdd, eq_self, reduceIte, Bool.false_eq_true, li_neg]
      · simp (disch := first | assumption | omega) only [hl', l60, i1, m_readers hx, hR, Option.some.injEq, Prod.mk.injEq, Value.int.injEq, exists_and_left, exists_eq_left', and_assoc, true_and, and_true, true_implies, false_implies, not_true_eq_false, not_false_eq_true, li_0, li_1, li_2, li_3, li_4, li_5, li_8, li_9, li_10, li_16, li_20, li_80, li_100, li_130, li_144, li_390, li_400, li_M, li_H, li_of, nI_add, pk_mul, cl_, vp_iff, nI_leI, nI_ltI, nI_eq, Nat.add_zero, Nat.zero_add, Nat.reduceEqDiff, Nat.reduceAdd, eq_self, reduceIte, Bool.false_eq_true, li_neg]
    · by_cases hc : 1 ≤ B 0 0
      · have hc0 : ¬ B 0 0 = 0 := by omega
        have bn := b_no hB
        have pn := p_no hP
        obtain ⟨σ2, a1, a2, a3, a4, a5, a6⟩ := c_mbegin hB hP hC hO
        have hbp : ∀ o, b ≤ o → o ≤ b + 27 → ¬ (o = 0 ∨ o = 85 ∨ o = 86 ∨ o = 87 ∨ o = 88 ∨ o = 89 ∨ o = 90 ∨ o = p ∨ o = p + 1 ∨ o = p + 2 ∨ o = p + 3 ∨ o = p + 4) := fun o o1 o2 => by
          unfold isB at hB
          unfold isP at hP
          omega
        have hp85 : ∀ o, p ≤ o → o ≤ p + 4 → o ≠ 85 ∧ o ≠ 0 := fun o o1 o2 => by
          unfold isP at hP
          omega
        obtain ⟨⟨g1, g2, g3, g4⟩, g5, g6, g7⟩ := a2
        obtain ⟨σ3, c1, c2, c3, c4⟩ := c_drawActs hB hP hO (by omega) hc n2 x2 n 0 (sI_ σ2 85 4 x2) (by omega) (CB_row hB g1.2.1 (fun o o1 o2 => sI_row _ _ _ _ (fun z => hbp o o1 o2 (by omega))) hO) g2 g3 (by rw [sI_at, if_pos ⟨rfl, rfl⟩]; rfl) (PC_cg g5 (fun o o1 o2 => sI_row _ _ _ _ (hp85 o o1 o2).1)) x2
        have cdr : f_X4_drawActs KC [.ref 85, .int (nI n), .int x2] σ2 = some (none, σ3) := z_X4_drawActs (e_X4_drawActs_0 c1)
        have e14 : (sI_ σ3 0 18 (nI 0)).2.2 0 14 = some p := by
          rw [sI_2, c3.2, sI_2, a6 0 14 (by omega) (by omega)]
          exact h14
        have e12 : (sI_ σ3 0 18 (nI 0)).2.2 0 12 = some b := by
          rw [sI_2, c3.2, sI_2, a6 0 12 (by omega) (by omega)]
          exact h12
        have hPC : PC_ (sI_ σ3 0 18 (nI 0)) p (dd_ B x2 n).2 n := PC_cg c2 (fun o o1 o2 => sI_row _ _ _ _ (hp85 o o1 o2).2)
        have hx2 : RX_ (sI_ (sI_ μ1 219 33 x2) 219 24 (nI 0)) B := RX_sI (RX_sI hx (by decide)) (by decide)
        obtain ⟨μ', d1, d2, d3, d4, d5⟩ := m_drawn48 hx2 (by omega) hc n2 x2 n 0 (sI_ (sI_ μ1 219 33 x2) 219 24 (nI 0)) (by omega) hx2 (by rw [sI_at, if_neg (by omega), sI_at, if_pos ⟨rfl, rfl⟩]; rfl) ⟨by rw [sI_at, if_pos ⟨rfl, rfl⟩], fun i hi => absurd hi (by omega)⟩ x2
        have hx' : RX_ μ' B := ⟨MB_cg hx2.1 (fun i hi => by
          rw [Nat.zero_add]
          exact d4 i (by unfold rM_ at hi; omega)) (fun i hi => by rw [d3.2]), hO⟩
        have g221 : (sI_ (sI_ μ1 219 33 x2) 219 24 (nI 0)).1 221 = μ1.1 221 := by rw [sI_row _ _ _ _ (by decide), sI_row _ _ _ _ (by decide)]
        have fC : GF_ [0, 85, 86, 87, 88, 89, 90, p, p + 1, p + 2, p + 3, p + 4] σ (sI_ σ3 0 18 (nI 0)) := GF_tr (GF_mono a3 (fun o ho => by simp at ho ⊢; omega)) (GF_tr (GF_sI (by simp)) (GF_tr (GF_fr c3 (fun o ho => by simp at ho ⊢; omega)) (GF_sI (by simp))))
        have r0 : σ3.1 0 = σ.1 0 := by
          have q0 := (hp85 p (by omega) (by omega)).2
          rw [c3.1 0 (by simp; omega), sI_row _ _ _ _ (by decide), (a3.1 0 (by simp; omega)).1]
        refine ⟨nI n, sI_ σ3 0 18 (nI 0), μ', (dd_ B x2 n).2, n, z_X11_drawn (e_X11_drawn_0 ?_), z_X12_drawn (e_X12_drawn_0 ?_), ⟨⟨hB, hP, e12, e14⟩, ⟨CB_row hB hC (fun o o1 o2 => (fC.1 o (fun z => hbp o o1 o2 (by
            have := hbp o o1 o2
            simp at z
            unfold isB at hB
            omega))).1) hO, hPC, .inl (by rw [sI_at, if_pos ⟨rfl, rfl⟩])⟩, hx', d2, dd_PO hO (by omega) hc x2 n n2⟩, ⟨fC, fun f hf => by rw [sI_at, if_neg (fun z => hf (by rw [z.2]; simp)), r0], fun o i q1 q2 => by rw [sI_2, c3.2, sI_2]; exact a6 o i q1 q2⟩, fr_tr (fr_sI (by simp)) (fr_tr (fr_sI (by simp)) d3), fun i hi => by rw [d4 i hi, g221], fun f hf => by rw [d5 f hf, sI_at, if_neg (fun z => hf (by rw [z.2]; simp)), sI_at, if_neg (fun z => hf (by rw [z.2]; simp))]⟩
        · simp (disch := first | assumption | omega) only [n1', l60, n2', h12, hB, hC.1.2.1, hR, hC.1.1, hc, h14, hP, a1, cdr, e14, hPC.1, Option.some.injEq, Prod.mk.injEq, Value.int.injEq, exists_and_left, exists_eq_left', and_assoc, true_and, and_true, true_implies, false_implies, not_true_eq_false, not_false_eq_true, li_0, li_1, li_2, li_3, li_4, li_5, li_8, li_9, li_10, li_16, li_20, li_80, li_100, li_130, li_144, li_390, li_400, li_M, li_H, li_of, nI_add, pk_mul, cl_, vp_iff, nI_leI, nI_ltI, nI_eq, Nat.add_zero, Nat.zero_add, Nat.reduceEqDiff, Nat.reduceAdd, eq_self, reduceIte, Bool.false_eq_true, li_neg]
        · simp (disch := first | assumption | omega) only [hl', l60, i1, m_readers hx, hR, m_chaps hx, hc0, Option.some.injEq, Prod.mk.injEq, Value.int.injEq, exists_and_left, exists_eq_left', and_assoc, true_and, and_true, true_implies, false_implies, not_true_eq_false, not_false_eq_true, li_0, li_1, li_2, li_3, li_4, li_5, li_8, li_9, li_10, li_16, li_20, li_80, li_100, li_130, li_144, li_390, li_400, li_M, li_H, li_of, nI_add, pk_mul, cl_, vp_iff, nI_leI, nI_ltI, nI_eq, Nat.add_zero, Nat.zero_add, Nat.reduceEqDiff, Nat.reduceAdd, eq_self, reduceIte, Bool.false_eq_true, li_neg]
          all_goals ((repeat' apply And.intro) <;> first | omega | rfl | assumption | exact d1)
      · have hc0 : B 0 0 = 0 := by omega
        refine no (z_X11_drawn (e_X11_drawn_0 ?_)) (z_X12_drawn (e_X12_drawn_0 ?_))
        · simp (disch := first | assumption | omega) only [n1', l60, n2', h12, hB, hC.1.2.1, hR, hC.1.1, hc, Option.some.injEq, Prod.mk.injEq, Value.int.injEq, exists_and_left, exists_eq_left', and_assoc, true_and, and_true, true_implies, false_implies, not_true_eq_false, not_false_eq_true, li_0, li_1, li_2, li_3, li_4, li_5, li_8, li_9, li_10, li_16, li_20, li_80, li_100, li_130, li_144, li_390, li_400, li_M, li_H, li_of, nI_add, pk_mul, cl_, vp_iff, nI_leI, nI_ltI, nI_eq, Nat.add_zero, Nat.zero_add, Nat.reduceEqDiff, Nat.reduceAdd, eq_self, reduceIte, Bool.false_eq_true, li_neg]
        · simp (disch := first | assumption | omega) only [hl', l60, i1, m_readers hx, hR, m_chaps hx, hc0, Option.some.injEq, Prod.mk.injEq, Value.int.injEq, exists_and_left, exists_eq_left', and_assoc, true_and, and_true, true_implies, false_implies, not_true_eq_false, not_false_eq_true, li_0, li_1, li_2, li_3, li_4, li_5, li_8, li_9, li_10, li_16, li_20, li_80, li_100, li_130, li_144, li_390, li_400, li_M, li_H, li_of, nI_add, pk_mul, cl_, vp_iff, nI_leI, nI_ltI, nI_eq, Nat.add_zero, Nat.zero_add, Nat.reduceEqDiff, Nat.reduceAdd, eq_self, reduceIte, Bool.false_eq_true, li_neg]
  · have i1 := m_isInNo (μ := μ1) h1
    refine no (z_X11_drawn (e_X11_drawn_0 ?_)) (z_X12_drawn (e_X12_drawn_0 ?_))
    · by_cases h3 : x1 < nI 1
      · simp (disch := first | assumption | omega) only [h3, Option.some.injEq, Prod.mk.injEq, Value.int.injEq, exists_and_left, exists_eq_left', and_assoc, true_and, and_true, true_implies, false_implies, not_true_eq_false, not_false_eq_true, li_0, li_1, li_2, li_3, li_4, li_5, li_8, li_9, li_10, li_16, li_20, li_80, li_100, li_130, li_144, li_390, li_400, li_M, li_H, li_of, nI_add, pk_mul, cl_, vp_iff, nI_leI, nI_ltI, nI_eq, Nat.add_zero, Nat.zero_add, Nat.reduceEqDiff, Nat.reduceAdd, eq_self, reduceIte, Bool.false_eq_true, li_neg]
      · have h4 := h1.resolve_left h3
        simp (disch := first | assumption | omega) only [h3, l60, h4, Option.some.injEq, Prod.mk.injEq, Value.int.injEq, exists_and_left, exists_eq_left', and_assoc, true_and, and_true, true_implies, false_implies, not_true_eq_false, not_false_eq_true, li_0, li_1, li_2, li_3, li_4, li_5, li_8, li_9, li_10, li_16, li_20, li_80, li_100, li_130, li_144, li_390, li_400, li_M, li_H, li_of, nI_add, pk_mul, cl_, vp_iff, nI_leI, nI_ltI, nI_eq, Nat.add_zero, Nat.zero_add, Nat.reduceEqDiff, Nat.reduceAdd, eq_self, reduceIte, Bool.false_eq_true, li_neg]
    · simp (disch := first | assumption | omega) only [hl', l60, i1, Option.some.injEq, Prod.mk.injEq, Value.int.injEq, exists_and_left, exists_eq_left', and_assoc, true_and, and_true, true_implies, false_implies, not_true_eq_false, not_false_eq_true, li_0, li_1, li_2, li_3, li_4, li_5, li_8, li_9, li_10, li_16, li_20, li_80, li_100, li_130, li_144, li_390, li_400, li_M, li_H, li_of, nI_add, pk_mul, cl_, vp_iff, nI_leI, nI_ltI, nI_eq, Nat.add_zero, Nat.zero_add, Nat.reduceEqDiff, Nat.reduceAdd, eq_self, reduceIte, Bool.false_eq_true, li_neg]
end CO2
