/-! make, the reference, and both -/
section CS2
variable {σ μ μ1 : St_} {b p a : Nat} {B P : Nat → Nat → Nat} {T : T_}
def PD_ (μ1 μ' : St_) : Prop := fr_ [219, 221, 228, 229, 230, 231, 232, 233] μ1 μ' ∧ (∀ i, i < 390 ∨ 800 ≤ i → μ'.1 221 i = μ1.1 221 i) ∧ NF2_ [24, 33] 219 μ1 μ'
theorem m_plansT (h : RG_ μ B T) : ∃ μ', f_X12_plans KC [.ref 219] μ = some (some (.int (nI T.2.2)), μ') ∧ PM_ μ' T.2.1 T.2.2 ∧ RX_ μ' B ∧ fr_ [221] μ μ' ∧ (∀ i, i < 390 ∨ 800 ≤ i → μ'.1 221 i = μ.1 221 i) := by
  have hb := BO_c h.1.2
  obtain ⟨μ', q1, q2, q3, q4⟩ := m_plans h.2.1 h.2.2.2.1
  exact ⟨μ', q1, q2, ⟨MB_cg h.1.1 (fun i hi => by
    rw [Nat.zero_add]
    exact q4 i (by unfold rM_ at hi; omega)) (fun i hi => by rw [q3.2]), h.1.2⟩, q3, q4⟩
theorem m_fill {w k : Nat} {x : Int32} (hx : w ≠ 0 → x = nI k) (hw : w ≤ 4) (hk : w ≠ 0 → 1 ≤ k ∧ k ≤ lim_ w) (h : RX_ μ B) : ∃ μ' T, Ev_ (P_X12_make KC) 64 [some (.ref 219), some (.int (nI w)), some (.int x)] [] μ (some (.int (nI T.2.2)), μ') ∧ MT_ B w k T ∧ PM_ μ' T.2.1 T.2.2 ∧ RX_ μ' B ∧ PO_ B T.2.1 T.2.2 ∧ PD_ μ μ' := by
  obtain ⟨μ2, d1, d2, d3⟩ := m_dawn (RX_sI (o := 219) (i := 24) (x := nI 0) h (by decide))
  have hx2 : RX_ μ2 B := RX_fr (RX_sI h (by decide)) d3 (by decide)
  have g0 : RG_ μ2 B (Z0_ B) := ⟨hx2, ⟨by rw [d3.1 219 (by decide), sI_at, if_pos ⟨rfl, rfl⟩]; rfl, fun i hi => absurd hi (Nat.not_lt_zero i)⟩, d2, ⟨Nat.zero_le _, fun i hi => absurd hi (Nat.not_lt_zero i)⟩⟩
  -- what is left behind the kind
  have fin : ∀ (T : T_) (μ3 : St_), RG_ μ3 B T → fr_ [219, 228, 229, 230, 231, 232, 233] μ2 μ3 → NF2_ [24] 219 μ2 μ3 → MT_ B w k T → (∀ μ', f_X12_plans KC [.ref 219] μ3 = some (some (.int (nI T.2.2)), μ') → Ev_ (P_X12_make KC) 64 [some (.ref 219), some (.int (nI w)), some (.int x)] [] μ (some (.int (nI T.2.2)), μ')) → ∃ μ' T, Ev_ (P_X12_make KC) 64 [some (.ref 219), some (.int (nI w)), some (.int x)] [] μ (some (.int (nI T.2.2)), μ') ∧ MT_ B w k T ∧ PM_ μ' T.2.1 T.2.2 ∧ RX_ μ' B ∧ PO_ B T.2.1 T.2.2 ∧ PD_ μ μ' := by
    intro T μ3 h3 f1 f2 hM ht
    obtain ⟨μ', q1, q2, q3, q4, q5⟩ := m_plansT h3
    refine ⟨μ', T, ht μ' q1, hM, q2, q3, h3.2.2.2, fr_tr (fr_sI (by simp)) (fr_tr (fr_mono d3 (by simp)) (fr_tr (fr_mono f1 (by simp)) (fr_mono q4 (by simp)))), fun i hi => ?_, fun f hf => ?_⟩
    · rw [q5 i hi, f1.1 221 (by decide), d3.1 221 (by decide), sI_row _ _ _ _ (by decide)]
    · rw [q4.1 219 (by decide), f2 f (fun z => hf (by simp at z ⊢; omega)), d3.1 219 (by decide), sI_at, if_neg (fun z => hf (by rw [z.2]; simp))]
  have w5 : w = 0 ∨ w = 1 ∨ w = 2 ∨ w = 3 ∨ w = 4 := by omega
  have wide : ∀ {x y : St_}, fr_ [219, 228, 229, 230, 231, 232] x y → fr_ [219, 228, 229, 230, 231, 232, 233] x y := fun hf => fr_mono hf (by simp)
  rcases w5 with rfl | rfl | rfl | rfl | rfl
  · obtain ⟨μ3, r1, r2, r3⟩ := m_makeRows g0 rfl
    refine fin _ μ3 r2 (wide r3.1) r3.2 ⟨fun _ => rfl, fun z => absurd z (by decide), fun z => absurd z (by decide), fun z => absurd z (by decide), fun z => absurd z (by decide)⟩ (fun μ' q => ?_)
    have t100 : Ev_ (P_X12_make KC) 100 [some (.ref 219), some (.int (nI 0)), some (.int x)] [] μ3 (some (.int (nI (rw_ B (B 0 1 + B 0 0) 0 0 (Z0_ B)).2.2)), μ') := by
      refine e_X12_make_100 ?_
      simp (disch := first | assumption | omega) only [q, Option.some.injEq, Prod.mk.injEq, Value.int.injEq, exists_and_left, exists_eq_left', and_assoc, true_and, and_true, true_implies, false_implies, not_true_eq_false, not_false_eq_true, li_0, li_1, li_2, li_3, li_4, li_5, li_8, li_9, li_10, li_16, li_20, li_80, li_100, li_130, li_144, li_390, li_400, li_M, li_H, li_of, nI_add, pk_mul, cl_, vp_iff, nI_leI, nI_ltI, nI_eq, Nat.add_zero, Nat.zero_add, Nat.reduceEqDiff, Nat.reduceAdd, eq_self, reduceIte, Bool.false_eq_true, li_neg]
    refine e_X12_make_64 ?_
    simp (disch := first | assumption | omega) only [d1, r1, Option.some.injEq, Prod.mk.injEq, Value.int.injEq, exists_and_left, exists_eq_left', and_assoc, true_and, and_true, true_implies, false_implies, not_true_eq_false, not_false_eq_true, li_0, li_1, li_2, li_3, li_4, li_5, li_8, li_9, li_10, li_16, li_20, li_80, li_100, li_130, li_144, li_390, li_400, li_M, li_H, li_of, nI_add, pk_mul, cl_, vp_iff, nI_leI, nI_ltI, nI_eq, Nat.add_zero, Nat.zero_add, Nat.reduceEqDiff, Nat.reduceAdd, eq_self, reduceIte, Bool.false_eq_true, li_neg]
    exact t100
  · have hk1 := hk (by decide)
    have e := hx (by decide)
    subst e
    obtain ⟨μ3, q0, r1, r2, r3, r4, r5, r6⟩ := m_makeLean (f := k) (by unfold lim_ at hk1; simp at hk1; omega) g0
    refine fin _ μ3 r2 r5 r6 ⟨fun z => absurd z (by decide), fun _ => ⟨q0, r3, r4, rfl⟩, fun z => absurd z (by decide), fun z => absurd z (by decide), fun z => absurd z (by decide)⟩ (fun μ' q => ?_)
    have t100 : Ev_ (P_X12_make KC) 100 [some (.ref 219), some (.int (nI 1)), some (.int (nI k))] [] μ3 (some (.int (nI (lpa_ B q0 (Z0_ B) (B 0 0)).2.2)), μ') := by
      refine e_X12_make_100 ?_
      simp (disch := first | assumption | omega) only [q, Option.some.injEq, Prod.mk.injEq, Value.int.injEq, exists_and_left, exists_eq_left', and_assoc, true_and, and_true, true_implies, false_implies, not_true_eq_false, not_false_eq_true, li_0, li_1, li_2, li_3, li_4, li_5, li_8, li_9, li_10, li_16, li_20, li_80, li_100, li_130, li_144, li_390, li_400, li_M, li_H, li_of, nI_add, pk_mul, cl_, vp_iff, nI_leI, nI_ltI, nI_eq, Nat.add_zero, Nat.zero_add, Nat.reduceEqDiff, Nat.reduceAdd, eq_self, reduceIte, Bool.false_eq_true, li_neg]
    refine e_X12_make_64 ?_
    simp (disch := first | assumption | omega) only [d1, r1, Option.some.injEq, Prod.mk.injEq, Value.int.injEq, exists_and_left, exists_eq_left', and_assoc, true_and, and_true, true_implies, false_implies, not_true_eq_false, not_false_eq_true, li_0, li_1, li_2, li_3, li_4, li_5, li_8, li_9, li_10, li_16, li_20, li_80, li_100, li_130, li_144, li_390, li_400, li_M, li_H, li_of, nI_add, pk_mul, cl_, vp_iff, nI_leI, nI_ltI, nI_eq, Nat.add_zero, Nat.zero_add, Nat.reduceEqDiff, Nat.reduceAdd, eq_self, reduceIte, Bool.false_eq_true, li_neg]
    exact t100
  · have hk1 := hk (by decide)
    have e := hx (by decide)
    subst e
    obtain ⟨μ3, r1, r2, r3⟩ := m_makeRows g0 rfl
    obtain ⟨μ4, s1, s2, s3⟩ := m_twice (r := k) (by unfold lim_ at hk1; simp at hk1; omega) (min k (B 0 0)) 0 _ μ3 (by omega) r2
    have s1' : f_X12_makeTwice KC [.ref 219, .int (nI k)] μ3 = some (none, μ4) := z_X12_makeTwice (e_X12_makeTwice_0 s1)
    refine fin _ μ4 s2 (wide (fr_tr r3.1 s3.1)) (NF2_tr r3.2 s3.2) ⟨fun z => absurd z (by decide), fun z => absurd z (by decide), fun _ => rfl, fun z => absurd z (by decide), fun z => absurd z (by decide)⟩ (fun μ' q => ?_)
    have t100 : Ev_ (P_X12_make KC) 100 [some (.ref 219), some (.int (nI 2)), some (.int (nI k))] [] μ4 (some (.int (nI (tw2_ B (rw_ B (B 0 1 + B 0 0) 0 0 (Z0_ B)) (min k (B 0 0))).2.2.2)), μ') := by
      refine e_X12_make_100 ?_
      simp (disch := first | assumption | omega) only [q, Option.some.injEq, Prod.mk.injEq, Value.int.injEq, exists_and_left, exists_eq_left', and_assoc, true_and, and_true, true_implies, false_implies, not_true_eq_false, not_false_eq_true, li_0, li_1, li_2, li_3, li_4, li_5, li_8, li_9, li_10, li_16, li_20, li_80, li_100, li_130, li_144, li_390, li_400, li_M, li_H, li_of, nI_add, pk_mul, cl_, vp_iff, nI_leI, nI_ltI, nI_eq, Nat.add_zero, Nat.zero_add, Nat.reduceEqDiff, Nat.reduceAdd, eq_self, reduceIte, Bool.false_eq_true, li_neg]
    refine e_X12_make_64 ?_
    simp (disch := first | assumption | omega) only [d1, r1, s1', Option.some.injEq, Prod.mk.injEq, Value.int.injEq, exists_and_left, exists_eq_left', and_assoc, true_and, and_true, true_implies, false_implies, not_true_eq_false, not_false_eq_true, li_0, li_1, li_2, li_3, li_4, li_5, li_8, li_9, li_10, li_16, li_20, li_80, li_100, li_130, li_144, li_390, li_400, li_M, li_H, li_of, nI_add, pk_mul, cl_, vp_iff, nI_leI, nI_ltI, nI_eq, Nat.add_zero, Nat.zero_add, Nat.reduceEqDiff, Nat.reduceAdd, eq_self, reduceIte, Bool.false_eq_true, li_neg]
    exact t100
  · have hk1 := hk (by decide)
    have e := hx (by decide)
    subst e
    obtain ⟨μ3, r1, r2, r3⟩ := m_makeRows g0 rfl
    obtain ⟨μ4, s1, s2, s3⟩ := m_makeChain (f := k) (by unfold lim_ at hk1; simp at hk1; omega) (B 0 0) 0 (rw_ B (B 0 1 + B 0 0) 0 0 (Z0_ B)) μ3 (UQ_R0 h.2).1 (by omega) r2
    have s1' : f_X12_makeChain KC [.ref 219, .int (nI k)] μ3 = some (none, μ4) := z_X12_makeChain (e_X12_makeChain_0 s1)
    refine fin _ μ4 s2 (wide (fr_tr r3.1 s3.1)) (NF2_tr r3.2 s3.2) ⟨fun z => absurd z (by decide), fun z => absurd z (by decide), fun z => absurd z (by decide), fun _ => rfl, fun z => absurd z (by decide)⟩ (fun μ' q => ?_)
    have t100 : Ev_ (P_X12_make KC) 100 [some (.ref 219), some (.int (nI 3)), some (.int (nI k))] [] μ3 (some (.int (nI (cha_ B k (rw_ B (B 0 1 + B 0 0) 0 0 (Z0_ B)) (B 0 0)).2.2)), μ') := by
      refine e_X12_make_100 ?_
      simp (disch := first | assumption | omega) only [s1', q, Option.some.injEq, Prod.mk.injEq, Value.int.injEq, exists_and_left, exists_eq_left', and_assoc, true_and, and_true, true_implies, false_implies, not_true_eq_false, not_false_eq_true, li_0, li_1, li_2, li_3, li_4, li_5, li_8, li_9, li_10, li_16, li_20, li_80, li_100, li_130, li_144, li_390, li_400, li_M, li_H, li_of, nI_add, pk_mul, cl_, vp_iff, nI_leI, nI_ltI, nI_eq, Nat.add_zero, Nat.zero_add, Nat.reduceEqDiff, Nat.reduceAdd, eq_self, reduceIte, Bool.false_eq_true, li_neg]
    refine e_X12_make_64 ?_
    simp (disch := first | assumption | omega) only [d1, r1, Option.some.injEq, Prod.mk.injEq, Value.int.injEq, exists_and_left, exists_eq_left', and_assoc, true_and, and_true, true_implies, false_implies, not_true_eq_false, not_false_eq_true, li_0, li_1, li_2, li_3, li_4, li_5, li_8, li_9, li_10, li_16, li_20, li_80, li_100, li_130, li_144, li_390, li_400, li_M, li_H, li_of, nI_add, pk_mul, cl_, vp_iff, nI_leI, nI_ltI, nI_eq, Nat.add_zero, Nat.zero_add, Nat.reduceEqDiff, Nat.reduceAdd, eq_self, reduceIte, Bool.false_eq_true, li_neg]
    exact t100
  · have hk1 := hk (by decide)
    have e := hx (by decide)
    subst e
    obtain ⟨μ3, r1, r2, r3⟩ := m_makeRows g0 rfl
    obtain ⟨μ4, s1, s2, s3⟩ := m_makeRound (f := k) (by unfold lim_ at hk1; simp at hk1; omega) (B 0 1) 0 (rw_ B (B 0 1 + B 0 0) 0 0 (Z0_ B)) μ3 (by omega) r2
    have s1' : f_X12_makeRound KC [.ref 219, .int (nI k)] μ3 = some (none, μ4) := z_X12_makeRound (e_X12_makeRound_0 s1)
    refine fin _ μ4 s2 (wide (fr_tr r3.1 s3.1)) (NF2_tr r3.2 s3.2) ⟨fun z => absurd z (by decide), fun z => absurd z (by decide), fun z => absurd z (by decide), fun z => absurd z (by decide), fun _ => rfl⟩ (fun μ' q => ?_)
    have t100 : Ev_ (P_X12_make KC) 100 [some (.ref 219), some (.int (nI 4)), some (.int (nI k))] [] μ3 (some (.int (nI (rda_ B k (rw_ B (B 0 1 + B 0 0) 0 0 (Z0_ B)) (B 0 1)).2.2)), μ') := by
      refine e_X12_make_100 ?_
      simp (disch := first | assumption | omega) only [s1', q, Option.some.injEq, Prod.mk.injEq, Value.int.injEq, exists_and_left, exists_eq_left', and_assoc, true_and, and_true, true_implies, false_implies, not_true_eq_false, not_false_eq_true, li_0, li_1, li_2, li_3, li_4, li_5, li_8, li_9, li_10, li_16, li_20, li_80, li_100, li_130, li_144, li_390, li_400, li_M, li_H, li_of, nI_add, pk_mul, cl_, vp_iff, nI_leI, nI_ltI, nI_eq, Nat.add_zero, Nat.zero_add, Nat.reduceEqDiff, Nat.reduceAdd, eq_self, reduceIte, Bool.false_eq_true, li_neg]
    refine e_X12_make_64 ?_
    simp (disch := first | assumption | omega) only [d1, r1, Option.some.injEq, Prod.mk.injEq, Value.int.injEq, exists_and_left, exists_eq_left', and_assoc, true_and, and_true, true_implies, false_implies, not_true_eq_false, not_false_eq_true, li_0, li_1, li_2, li_3, li_4, li_5, li_8, li_9, li_10, li_16, li_20, li_80, li_100, li_130, li_144, li_390, li_400, li_M, li_H, li_of, nI_add, pk_mul, cl_, vp_iff, nI_leI, nI_ltI, nI_eq, Nat.add_zero, Nat.zero_add, Nat.reduceEqDiff, Nat.reduceAdd, eq_self, reduceIte, Bool.false_eq_true, li_neg]
    exact t100
/-- a PLAN made -/
def NPm_ (σ σ' μ1 μ' : St_) (b p : Nat) (B : Nat → Nat → Nat) (P' : Nat → Nat → Nat) (a' : Nat) : Prop := NOW_ σ' μ' b p B P' a' ∧ (GF_ [0, 85, 86, 87, 88, 89, 90, 91, p, p + 1, p + 2, p + 3, p + 4] σ σ' ∧ NF2_ [18] 0 σ σ' ∧ (∀ o i, ¬ (o = 85 ∧ (i = 2 ∨ i = 3)) → ¬ (o = 86 ∧ i = 9) → σ'.2.2 o i = σ.2.2 o i) ∧ ∀ x, x < 16 → ∃ y, y < 16 ∧ σ'.1 91 x = nI y) ∧ PD_ μ1 μ'
theorem c_make (hB : isB b) (hP : isP p) (h12 : σ.2.2 0 12 = some b) (h14 : σ.2.2 0 14 = some p) (hC : CB_ σ b B) (hO : BO_ B) {w k : Nat} {x : Int32} (hx : w ≠ 0 → x = nI k) (hw : w ≤ 4) (hk : w ≠ 0 → 1 ≤ k ∧ k ≤ lim_ w) (hi : f_X4_isKind KC [.int (nI w), .int x] σ = some (some (.int (nI 1)), σ)) (h91 : ∀ x, x < 16 → ∃ y, y < 16 ∧ σ.1 91 x = nI y) : ∃ σ' T, f_X11_make KC [.ref 0, .int (nI w), .int x] σ = some (some (.int (nI T.2.2)), σ') ∧ MT_ B w k T ∧ PC_ σ' p T.2.1 T.2.2 ∧ CB_ σ' b B ∧ σ'.1 0 18 = nI 0 ∧ (GF_ [0, 85, 86, 87, 88, 89, 90, 91, p, p + 1, p + 2, p + 3, p + 4] σ σ' ∧ NF2_ [18] 0 σ σ' ∧ (∀ o i, ¬ (o = 85 ∧ (i = 2 ∨ i = 3)) → ¬ (o = 86 ∧ i = 9) → σ'.2.2 o i = σ.2.2 o i) ∧ ∀ x, x < 16 → ∃ y, y < 16 ∧ σ'.1 91 x = nI y) := by
  have bn := b_no hB
  have pn := p_no hP
  obtain ⟨σ2, a1, a2, a3, a4, a5, a6⟩ := c_mbegin hB hP hC hO
  obtain ⟨σ3, T, f1, f2, f3, f4, f5⟩ := c_fill hx hw hk a2 (fun x hx => by rw [a4]; exact h91 x hx)
  have hbp : ∀ o, b ≤ o → o ≤ b + 27 → ¬ (o = 0 ∨ o = 85 ∨ o = 86 ∨ o = 87 ∨ o = 88 ∨ o = 89 ∨ o = 90 ∨ o = 91 ∨ o = p ∨ o = p + 1 ∨ o = p + 2 ∨ o = p + 3 ∨ o = p + 4) := fun o o1 o2 => by
    unfold isB at hB
    unfold isP at hP
    omega
  have hp0 : ∀ o, p ≤ o → o ≤ p + 4 → o ≠ 0 := fun o o1 o2 => by
    unfold isP at hP
    omega
  have h91p : 91 ≠ p ∧ 0 ≠ p ∧ 0 ≠ p + 1 ∧ 0 ≠ p + 2 ∧ 0 ≠ p + 3 ∧ 0 ≠ p + 4 := by
    unfold isP at hP
    omega
  have fC : GF_ [0, 85, 86, 87, 88, 89, 90, 91, p, p + 1, p + 2, p + 3, p + 4] σ (sI_ σ3 0 18 (nI 0)) := GF_tr (GF_mono a3 (fun o ho => by simp at ho ⊢; omega)) (GF_tr (GF_fr f4 (fun o ho => by simp at ho ⊢; omega)) (GF_sI (by simp)))
  have hPC : PC_ (sI_ σ3 0 18 (nI 0)) p T.2.1 T.2.2 := PC_cg f3.2.1 (fun o o1 o2 => sI_row _ _ _ _ (hp0 o o1 o2))
  have e14 : (sI_ σ3 0 18 (nI 0)).2.2 0 14 = some p := by
    rw [sI_2, f4.2, a6 0 14 (by omega) (by omega)]
    exact h14
  refine ⟨sI_ σ3 0 18 (nI 0), T, z_X11_make (e_X11_make_0 ?_), f2, hPC, ?_, by rw [sI_at, if_pos ⟨rfl, rfl⟩], fC, fun f hf => ?_, fun o i q1 q2 => ?_, fun x hx => ?_⟩
  · simp (disch := first | assumption | omega) only [hi, h12, hB, h14, hP, a1, f1, e14, hPC.1, Option.some.injEq, Prod.mk.injEq, Value.int.injEq, exists_and_left, exists_eq_left', and_assoc, true_and, and_true, true_implies, false_implies, not_true_eq_false, not_false_eq_true, li_0, li_1, li_2, li_3, li_4, li_5, li_8, li_9, li_10, li_16, li_20, li_80, li_100, li_130, li_144, li_390, li_400, li_M, li_H, li_of, nI_add, pk_mul, cl_, vp_iff, nI_leI, nI_ltI, nI_eq, Nat.add_zero, Nat.zero_add, Nat.reduceEqDiff, Nat.reduceAdd, eq_self, reduceIte, Bool.false_eq_true, li_neg]
  · exact CB_row hB hC (fun o o1 o2 => (fC.1 o (fun z => hbp o o1 o2 (by simpa using z))).1) hO
  · rw [sI_at, if_neg (fun z => hf (by rw [z.2]; simp)), f4.1 0 (by simp; omega), (a3.1 0 (by simp; omega)).1]
  · rw [sI_2, f4.2]
    exact a6 o i q1 q2
  · rw [sI_row _ _ _ _ (by decide)]
    exact f5 x hx
theorem make_both (h : NOW_ σ μ1 b p B P a) (hl : LY_ μ μ1) (h91 : ∀ x, x < 16 → ∃ y, y < 16 ∧ σ.1 91 x = nI y) (x1 x2 : Int32) : ∃ v σ' μ' P' a', f_X11_make KC [.ref 0, .int x1, .int x2] σ = some (some (.int v), σ') ∧ f_X12_make KC [.ref 219, .int x1, .int x2] μ = some (some (.int v), μ') ∧ NPm_ σ σ' μ1 μ' b p B P' a' := by
  have hl' : f_X12_lay KC [.ref 219] (sI_ μ 219 0 (nI 0)) = some (none, μ1) := hl
  have h0 := h
  obtain ⟨⟨hB, hP, h12, h14⟩, ⟨hC, hp, hr⟩, hx, hpm, ho⟩ := h
  have hO := hx.2
  have l10 : (10 : Int32) = nI 10 := rfl
  have l16 : (16 : Int32) = nI 16 := rfl
  have l4 : (4 : Int32) = nI 4 := rfl
  have no : f_X11_make KC [.ref 0, .int x1, .int x2] σ = some (some (.int nM_), σ) → f_X12_make KC [.ref 219, .int x1, .int x2] μ = some (some (.int nM_), μ1) → ∃ v σ' μ' P' a', f_X11_make KC [.ref 0, .int x1, .int x2] σ = some (some (.int v), σ') ∧ f_X12_make KC [.ref 219, .int x1, .int x2] μ = some (some (.int v), μ') ∧ NPm_ σ σ' μ1 μ' b p B P' a' := fun q1 q2 => ⟨nM_, σ, μ1, P, a, q1, q2, h0, ⟨GF_rf _ _, fun _ _ => rfl, fun _ _ _ _ => rfl, h91⟩, fr_rf _ _, fun _ _ => rfl, fun _ _ => rfl⟩
  have good : ∀ (w k : Nat), (w ≠ 0 → x2 = nI k) → w ≤ 4 → (w ≠ 0 → 1 ≤ k ∧ k ≤ lim_ w) → x1 = nI w → f_X4_isKind KC [.int (nI w), .int x2] σ = some (some (.int (nI 1)), σ) → (∀ out, Ev_ (P_X12_make KC) 64 [some (.ref 219), some (.int (nI w)), some (.int x2)] [] μ1 out → f_X12_make KC [.ref 219, .int (nI w), .int x2] μ = some out) → ∃ v σ' μ' P' a', f_X11_make KC [.ref 0, .int x1, .int x2] σ = some (some (.int v), σ') ∧ f_X12_make KC [.ref 219, .int x1, .int x2] μ = some (some (.int v), μ') ∧ NPm_ σ σ' μ1 μ' b p B P' a' := by
    intro w k e1 hw hk e2 hi ht
    subst e2
    obtain ⟨σ', T, a1, a2, a3, a4, a5, a6, a7, a8, a9⟩ := c_make hB hP h12 h14 hC hO e1 hw hk hi h91
    obtain ⟨μ', T', b1, b2, b3, b4, b5, b6⟩ := m_fill e1 hw hk hx
    have eT := MT_one hw b2 a2
    subst eT
    exact ⟨_, σ', μ', T'.2.1, T'.2.2, a1, ht _ b1, ⟨⟨hB, hP, by rw [a8 0 12 (by omega) (by omega)]; exact h12, by rw [a8 0 14 (by omega) (by omega)]; exact h14⟩, ⟨a4, a3, .inl a5⟩, b4, b3, b5⟩, ⟨a6, a7, a8, a9⟩, b6⟩
  rcases in_or x1 (a := 0) (b := 4) (by omega) (by omega) with ⟨w, rfl, -, hw⟩ | h1
  · have i1 := m_isInYes (μ := μ1) (b := 4) (by omega) (show 0 ≤ w ∧ w ≤ 4 from ⟨Nat.zero_le _, hw⟩)
    by_cases w0 : w = 0
    · subst w0
      refine good 0 0 (fun z => absurd rfl z) (by omega) (fun z => absurd rfl z) rfl (c_isKind0 x2) (fun out q => z_X12_make (e_X12_make_0 ?_))
      have t33 : Ev_ (P_X12_make KC) 33 [some (.ref 219), some (.int (nI 0)), some (.int x2)] [] μ1 out := by
        refine e_X12_make_33 ?_
        simp (disch := first | assumption | omega) only [Option.some.injEq, Prod.mk.injEq, Value.int.injEq, exists_and_left, exists_eq_left', and_assoc, true_and, and_true, true_implies, false_implies, not_true_eq_false, not_false_eq_true, li_0, li_1, li_2, li_3, li_4, li_5, li_8, li_9, li_10, li_16, li_20, li_80, li_100, li_130, li_144, li_390, li_400, li_M, li_H, li_of, nI_add, pk_mul, cl_, vp_iff, nI_leI, nI_ltI, nI_eq, Nat.add_zero, Nat.zero_add, Nat.reduceEqDiff, Nat.reduceAdd, eq_self, reduceIte, Bool.false_eq_true, li_neg]
        exact ⟨fun _ => q, fun z => absurd (by omega) z⟩
      simp (disch := first | assumption | omega) only [hl', l4, i1, Option.some.injEq, Prod.mk.injEq, Value.int.injEq, exists_and_left, exists_eq_left', and_assoc, true_and, and_true, true_implies, false_implies, not_true_eq_false, not_false_eq_true, li_0, li_1, li_2, li_3, li_4, li_5, li_8, li_9, li_10, li_16, li_20, li_80, li_100, li_130, li_144, li_390, li_400, li_M, li_H, li_of, nI_add, pk_mul, cl_, vp_iff, nI_leI, nI_ltI, nI_eq, Nat.add_zero, Nat.zero_add, Nat.reduceEqDiff, Nat.reduceAdd, eq_self, reduceIte, Bool.false_eq_true, li_neg]
      exact t33
    · have hw14 : 1 ≤ w ∧ w ≤ 4 := by omega
      have hlim : lim_ w < 2 ^ 31 := by unfold lim_; split <;> (try split) <;> omega
      rcases in_or x2 (a := 1) (b := lim_ w) (by omega) hlim with ⟨k, rfl, k1, k2⟩ | h2
      · have i2 := m_isInYes (μ := μ1) hlim (show 1 ≤ k ∧ k ≤ lim_ w from ⟨k1, k2⟩)
        refine good w k (fun _ => rfl) hw (fun _ => ⟨k1, k2⟩) rfl (c_isKindYes hw14 ⟨k1, k2⟩) (fun out q => z_X12_make (e_X12_make_0 ?_))
        have w4 : w = 1 ∨ w = 2 ∨ w = 3 ∨ w = 4 := by omega
        rcases w4 with rfl | rfl | rfl | rfl
        · rw [show lim_ 1 = 10 from rfl] at i2
          have t33 : Ev_ (P_X12_make KC) 33 [some (.ref 219), some (.int (nI 1)), some (.int (nI k))] [] μ1 out := by
            refine e_X12_make_33 ?_
            simp (disch := first | assumption | omega) only [Option.some.injEq, Prod.mk.injEq, Value.int.injEq, exists_and_left, exists_eq_left', and_assoc, true_and, and_true, true_implies, false_implies, not_true_eq_false, not_false_eq_true, li_0, li_1, li_2, li_3, li_4, li_5, li_8, li_9, li_10, li_16, li_20, li_80, li_100, li_130, li_144, li_390, li_400, li_M, li_H, li_of, nI_add, pk_mul, cl_, vp_iff, nI_leI, nI_ltI, nI_eq, Nat.add_zero, Nat.zero_add, Nat.reduceEqDiff, Nat.reduceAdd, eq_self, reduceIte, Bool.false_eq_true, li_neg]
            exact ⟨fun _ => q, fun z => absurd (by omega) z⟩
          simp (disch := first | assumption | omega) only [hl', l4, l10, i1, i2, Option.some.injEq, Prod.mk.injEq, Value.int.injEq, exists_and_left, exists_eq_left', and_assoc, true_and, and_true, true_implies, false_implies, not_true_eq_false, not_false_eq_true, li_0, li_1, li_2, li_3, li_4, li_5, li_8, li_9, li_10, li_16, li_20, li_80, li_100, li_130, li_144, li_390, li_400, li_M, li_H, li_of, nI_add, pk_mul, cl_, vp_iff, nI_leI, nI_ltI, nI_eq, Nat.add_zero, Nat.zero_add, Nat.reduceEqDiff, Nat.reduceAdd, eq_self, reduceIte, Bool.false_eq_true, li_neg]
          exact t33
        · rw [show lim_ 2 = 16 from rfl] at i2
          have t33 : Ev_ (P_X12_make KC) 33 [some (.ref 219), some (.int (nI 2)), some (.int (nI k))] [] μ1 out := by
            refine e_X12_make_33 ?_
            simp (disch := first | assumption | omega) only [l16, i2, Nat.le_refl, Option.some.injEq, Prod.mk.injEq, Value.int.injEq, exists_and_left, exists_eq_left', and_assoc, true_and, and_true, true_implies, false_implies, not_true_eq_false, not_false_eq_true, li_0, li_1, li_2, li_3, li_4, li_5, li_8, li_9, li_10, li_16, li_20, li_80, li_100, li_130, li_144, li_390, li_400, li_M, li_H, li_of, nI_add, pk_mul, cl_, vp_iff, nI_leI, nI_ltI, nI_eq, Nat.add_zero, Nat.zero_add, Nat.reduceEqDiff, Nat.reduceAdd, eq_self, reduceIte, Bool.false_eq_true, li_neg]
            exact q
          simp (disch := first | assumption | omega) only [hl', l4, i1, Option.some.injEq, Prod.mk.injEq, Value.int.injEq, exists_and_left, exists_eq_left', and_assoc, true_and, and_true, true_implies, false_implies, not_true_eq_false, not_false_eq_true, li_0, li_1, li_2, li_3, li_4, li_5, li_8, li_9, li_10, li_16, li_20, li_80, li_100, li_130, li_144, li_390, li_400, li_M, li_H, li_of, nI_add, pk_mul, cl_, vp_iff, nI_leI, nI_ltI, nI_eq, Nat.add_zero, Nat.zero_add, Nat.reduceEqDiff, Nat.reduceAdd, eq_self, reduceIte, Bool.false_eq_true, li_neg]
          exact t33
        · rw [show lim_ 3 = 4 from rfl] at i2
          have hn : ¬ 3 ≤ 2 := by omega
          have t33 : Ev_ (P_X12_make KC) 33 [some (.ref 219), some (.int (nI 3)), some (.int (nI k))] [] μ1 out := by
            refine e_X12_make_33 ?_
            simp (disch := first | assumption | omega) only [l4, i2, hn, Option.some.injEq, Prod.mk.injEq, Value.int.injEq, exists_and_left, exists_eq_left', and_assoc, true_and, and_true, true_implies, false_implies, not_true_eq_false, not_false_eq_true, li_0, li_1, li_2, li_3, li_4, li_5, li_8, li_9, li_10, li_16, li_20, li_80, li_100, li_130, li_144, li_390, li_400, li_M, li_H, li_of, nI_add, pk_mul, cl_, vp_iff, nI_leI, nI_ltI, nI_eq, Nat.add_zero, Nat.zero_add, Nat.reduceEqDiff, Nat.reduceAdd, eq_self, reduceIte, Bool.false_eq_true, li_neg]
            exact q
          simp (disch := first | assumption | omega) only [hl', l4, i1, Option.some.injEq, Prod.mk.injEq, Value.int.injEq, exists_and_left, exists_eq_left', and_assoc, true_and, and_true, true_implies, false_implies, not_true_eq_false, not_false_eq_true, li_0, li_1, li_2, li_3, li_4, li_5, li_8, li_9, li_10, li_16, li_20, li_80, li_100, li_130, li_144, li_390, li_400, li_M, li_H, li_of, nI_add, pk_mul, cl_, vp_iff, nI_leI, nI_ltI, nI_eq, Nat.add_zero, Nat.zero_add, Nat.reduceEqDiff, Nat.reduceAdd, eq_self, reduceIte, Bool.false_eq_true, li_neg]
          exact t33
        · rw [show lim_ 4 = 4 from rfl] at i2
          have hn : ¬ 4 ≤ 2 := by omega
          have t33 : Ev_ (P_X12_make KC) 33 [some (.ref 219), some (.int (nI 4)), some (.int (nI k))] [] μ1 out := by
            refine e_X12_make_33 ?_
            simp (disch := first | assumption | omega) only [l4, i2, hn, Option.some.injEq, Prod.mk.injEq, Value.int.injEq, exists_and_left, exists_eq_left', and_assoc, true_and, and_true, true_implies, false_implies, not_true_eq_false, not_false_eq_true, li_0, li_1, li_2, li_3, li_4, li_5, li_8, li_9, li_10, li_16, li_20, li_80, li_100, li_130, li_144, li_390, li_400, li_M, li_H, li_of, nI_add, pk_mul, cl_, vp_iff, nI_leI, nI_ltI, nI_eq, Nat.add_zero, Nat.zero_add, Nat.reduceEqDiff, Nat.reduceAdd, eq_self, reduceIte, Bool.false_eq_true, li_neg]
            exact q
          simp (disch := first | assumption | omega) only [hl', l4, i1, Option.some.injEq, Prod.mk.injEq, Value.int.injEq, exists_and_left, exists_eq_left', and_assoc, true_and, and_true, true_implies, false_implies, not_true_eq_false, not_false_eq_true, li_0, li_1, li_2, li_3, li_4, li_5, li_8, li_9, li_10, li_16, li_20, li_80, li_100, li_130, li_144, li_390, li_400, li_M, li_H, li_of, nI_add, pk_mul, cl_, vp_iff, nI_leI, nI_ltI, nI_eq, Nat.add_zero, Nat.zero_add, Nat.reduceEqDiff, Nat.reduceAdd, eq_self, reduceIte, Bool.false_eq_true, li_neg]
          exact t33
      · have i2 := m_isInNo (μ := μ1) h2
        refine no (z_X11_make (e_X11_make_0 ?_)) (z_X12_make (e_X12_make_0 ?_))
        · have c1 := c_isKindNo (σ := σ) hw14 h2
          simp (disch := first | assumption | omega) only [c1, Option.some.injEq, Prod.mk.injEq, Value.int.injEq, exists_and_left, exists_eq_left', and_assoc, true_and, and_true, true_implies, false_implies, not_true_eq_false, not_false_eq_true, li_0, li_1, li_2, li_3, li_4, li_5, li_8, li_9, li_10, li_16, li_20, li_80, li_100, li_130, li_144, li_390, li_400, li_M, li_H, li_of, nI_add, pk_mul, cl_, vp_iff, nI_leI, nI_ltI, nI_eq, Nat.add_zero, Nat.zero_add, Nat.reduceEqDiff, Nat.reduceAdd, eq_self, reduceIte, Bool.false_eq_true, li_neg]
        · have w4 : w = 1 ∨ w = 2 ∨ w = 3 ∨ w = 4 := by omega
          rcases w4 with rfl | rfl | rfl | rfl
          · rw [show lim_ 1 = 10 from rfl] at i2
            simp (disch := first | assumption | omega) only [hl', l4, l10, i1, i2, Option.some.injEq, Prod.mk.injEq, Value.int.injEq, exists_and_left, exists_eq_left', and_assoc, true_and, and_true, true_implies, false_implies, not_true_eq_false, not_false_eq_true, li_0, li_1, li_2, li_3, li_4, li_5, li_8, li_9, li_10, li_16, li_20, li_80, li_100, li_130, li_144, li_390, li_400, li_M, li_H, li_of, nI_add, pk_mul, cl_, vp_iff, nI_leI, nI_ltI, nI_eq, Nat.add_zero, Nat.zero_add, Nat.reduceEqDiff, Nat.reduceAdd, eq_self, reduceIte, Bool.false_eq_true, li_neg]
          · rw [show lim_ 2 = 16 from rfl] at i2
            have t33 : Ev_ (P_X12_make KC) 33 [some (.ref 219), some (.int (nI 2)), some (.int x2)] [] μ1 (some (.int nM_), μ1) := by
              refine e_X12_make_33 ?_
              simp (disch := first | assumption | omega) only [l16, i2, Option.some.injEq, Prod.mk.injEq, Value.int.injEq, exists_and_left, exists_eq_left', and_assoc, true_and, and_true, true_implies, false_implies, not_true_eq_false, not_false_eq_true, li_0, li_1, li_2, li_3, li_4, li_5, li_8, li_9, li_10, li_16, li_20, li_80, li_100, li_130, li_144, li_390, li_400, li_M, li_H, li_of, nI_add, pk_mul, cl_, vp_iff, nI_leI, nI_ltI, nI_eq, Nat.add_zero, Nat.zero_add, Nat.reduceEqDiff, Nat.reduceAdd, eq_self, reduceIte, Bool.false_eq_true, li_neg]
            simp (disch := first | assumption | omega) only [hl', l4, i1, Option.some.injEq, Prod.mk.injEq, Value.int.injEq, exists_and_left, exists_eq_left', and_assoc, true_and, and_true, true_implies, false_implies, not_true_eq_false, not_false_eq_true, li_0, li_1, li_2, li_3, li_4, li_5, li_8, li_9, li_10, li_16, li_20, li_80, li_100, li_130, li_144, li_390, li_400, li_M, li_H, li_of, nI_add, pk_mul, cl_, vp_iff, nI_leI, nI_ltI, nI_eq, Nat.add_zero, Nat.zero_add, Nat.reduceEqDiff, Nat.reduceAdd, eq_self, reduceIte, Bool.false_eq_true, li_neg]
            exact t33
          · rw [show lim_ 3 = 4 from rfl] at i2
            have hn : ¬ 3 ≤ 2 := by omega
            have t33 : Ev_ (P_X12_make KC) 33 [some (.ref 219), some (.int (nI 3)), some (.int x2)] [] μ1 (some (.int nM_), μ1) := by
              refine e_X12_make_33 ?_
              simp (disch := first | assumption | omega) only [l4, i2, hn, Option.some.injEq, Prod.mk.injEq, Value.int.injEq, exists_and_left, exists_eq_left', and_assoc, true_and, and_true, true_implies, false_implies, not_true_eq_false, not_false_eq_true, li_0, li_1, li_2, li_3, li_4, li_5, li_8, li_9, li_10, li_16, li_20, li_80, li_100, li_130, li_144, li_390, li_400, li_M, li_H, li_of, nI_add, pk_mul, cl_, vp_iff, nI_leI, nI_ltI, nI_eq, Nat.add_zero, Nat.zero_add, Nat.reduceEqDiff, Nat.reduceAdd, eq_self, reduceIte, Bool.false_eq_true, li_neg]
            simp (disch := first | assumption | omega) only [hl', l4, i1, Option.some.injEq, Prod.mk.injEq, Value.int.injEq, exists_and_left, exists_eq_left', and_assoc, true_and, and_true, true_implies, false_implies, not_true_eq_false, not_false_eq_true, li_0, li_1, li_2, li_3, li_4, li_5, li_8, li_9, li_10, li_16, li_20, li_80, li_100, li_130, li_144, li_390, li_400, li_M, li_H, li_of, nI_add, pk_mul, cl_, vp_iff, nI_leI, nI_ltI, nI_eq, Nat.add_zero, Nat.zero_add, Nat.reduceEqDiff, Nat.reduceAdd, eq_self, reduceIte, Bool.false_eq_true, li_neg]
            exact t33
          · rw [show lim_ 4 = 4 from rfl] at i2
            have hn : ¬ 4 ≤ 2 := by omega
            have t33 : Ev_ (P_X12_make KC) 33 [some (.ref 219), some (.int (nI 4)), some (.int x2)] [] μ1 (some (.int nM_), μ1) := by
              refine e_X12_make_33 ?_
              simp (disch := first | assumption | omega) only [l4, i2, hn, Option.some.injEq, Prod.mk.injEq, Value.int.injEq, exists_and_left, exists_eq_left', and_assoc, true_and, and_true, true_implies, false_implies, not_true_eq_false, not_false_eq_true, li_0, li_1, li_2, li_3, li_4, li_5, li_8, li_9, li_10, li_16, li_20, li_80, li_100, li_130, li_144, li_390, li_400, li_M, li_H, li_of, nI_add, pk_mul, cl_, vp_iff, nI_leI, nI_ltI, nI_eq, Nat.add_zero, Nat.zero_add, Nat.reduceEqDiff, Nat.reduceAdd, eq_self, reduceIte, Bool.false_eq_true, li_neg]
            simp (disch := first | assumption | omega) only [hl', l4, i1, Option.some.injEq, Prod.mk.injEq, Value.int.injEq, exists_and_left, exists_eq_left', and_assoc, true_and, and_true, true_implies, false_implies, not_true_eq_false, not_false_eq_true, li_0, li_1, li_2, li_3, li_4, li_5, li_8, li_9, li_10, li_16, li_20, li_80, li_100, li_130, li_144, li_390, li_400, li_M, li_H, li_of, nI_add, pk_mul, cl_, vp_iff, nI_leI, nI_ltI, nI_eq, Nat.add_zero, Nat.zero_add, Nat.reduceEqDiff, Nat.reduceAdd, eq_self, reduceIte, Bool.false_eq_true, li_neg]
            exact t33
  · have i1 := m_isInNo (μ := μ1) h1
    refine no (z_X11_make (e_X11_make_0 ?_)) (z_X12_make (e_X12_make_0 ?_))
    · have c1 := c_isKindOut (σ := σ) (x2 := x2) h1
      simp (disch := first | assumption | omega) only [c1, Option.some.injEq, Prod.mk.injEq, Value.int.injEq, exists_and_left, exists_eq_left', and_assoc, true_and, and_true, true_implies, false_implies, not_true_eq_false, not_false_eq_true, li_0, li_1, li_2, li_3, li_4, li_5, li_8, li_9, li_10, li_16, li_20, li_80, li_100, li_130, li_144, li_390, li_400, li_M, li_H, li_of, nI_add, pk_mul, cl_, vp_iff, nI_leI, nI_ltI, nI_eq, Nat.add_zero, Nat.zero_add, Nat.reduceEqDiff, Nat.reduceAdd, eq_self, reduceIte, Bool.false_eq_true, li_neg]
    · simp (disch := first | assumption | omega) only [hl', l4, i1, Option.some.injEq, Prod.mk.injEq, Value.int.injEq, exists_and_left, exists_eq_left', and_assoc, true_and, and_true, true_implies, false_implies, not_true_eq_false, not_false_eq_true, li_0, li_1, li_2, li_3, li_4, li_5, li_8, li_9, li_10, li_16, li_20, li_80, li_100, li_130, li_144, li_390, li_400, li_M, li_H, li_of, nI_add, pk_mul, cl_, vp_iff, nI_leI, nI_ltI, nI_eq, Nat.add_zero, Nat.zero_add, Nat.reduceEqDiff, Nat.reduceAdd, eq_self, reduceIte, Bool.false_eq_true, li_neg]
end CS2
