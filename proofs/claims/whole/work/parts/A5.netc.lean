/-! the call NET, on both sides -/
def RN_ (σ μ : St_) : Prop := σ.1 105 2 = μ.1 219 47
section CF
variable {σ μ μ1 : St_} {b n : Nat} {B : Nat → Nat → Nat} {t : Nat → Nat}
theorem net_both (hB : isB b) (h12 : σ.2.2 0 12 = some b) (hC : CB_ σ b B) (hl : LY_ μ μ1) (hx : RX_ μ1 B) (hT : TA_ σ μ1 n t) (x1 : Int32) : ∃ v σ' μ', f_X11_net KC [.ref 0, .int x1] σ = some (some (.int v), σ') ∧ f_X12_net KC [.ref 219, .int x1] μ = some (some (.int v), μ') ∧ TA_ σ' μ' 0 t ∧ fr_ [1, 105] σ σ' ∧ NF2_ [2] 1 σ σ' ∧ NF2_ [2] 105 σ σ' ∧ fr_ [219] μ1 μ' ∧ NF2_ [2, 47] 219 μ1 μ' ∧ (RN_ σ μ1 → RN_ σ' μ') := by
  have hl' : f_X12_lay KC [.ref 219] (sI_ μ 219 0 (nI 0)) = some (none, μ1) := hl
  have l9999 : (9999 : Int32) = nI 9999 := rfl
  have bn := b_no hB
  have hO := hx.2
  have h16 := hO.1.1
  obtain ⟨⟨hn, ht⟩, ⟨t1, t2⟩, t3, t4⟩ := hT
  have hC1 : CB_ (sI_ σ 1 2 (nI 0)) b B := CB_row hB hC (fun o h5 h6 => sI_row _ _ _ _ (by unfold isB at hB; omega)) hO
  have t2' : ∀ i, (sI_ σ 1 2 (nI 0)).1 2 i = b8_ (t i) := fun i => by rw [sI_row _ _ _ _ (by decide)]; exact t2 i
  have hun := c_areUnlike (bd := B 0 0) (m := 10) t2' ht hn (by omega) (by omega)
  have h12' : (sI_ σ 1 2 (nI 0)).2.2 0 12 = some b := h12
  have tk : f_X12_take KC [.ref 219] μ1 = some (some (.int (nI n)), sI_ μ1 219 2 (nI 0)) := z_X12_take (e_X12_take_0 (by rw [t3]; rfl))
  have hx2 : RX_ (sI_ μ1 219 2 (nI 0)) B := RX_sI hx (by decide)
  have t4' : ∀ i, (sI_ μ1 219 2 (nI 0)).1 220 i = nI (t i) := fun i => by rw [sI_row _ _ _ _ (by decide)]; exact t4 i
  have sc : ∀ f, f ∉ [2] → (sI_ σ 1 2 (nI 0)).1 1 f = σ.1 1 f := fun f hf => by rw [sI_at, if_neg (fun z => hf (by rw [z.2]; simp))]
  have sm : ∀ f, f ∉ [2] → (sI_ μ1 219 2 (nI 0)).1 219 f = μ1.1 219 f := fun f hf => by rw [sI_at, if_neg (fun z => hf (by rw [z.2]; simp))]
  have s2 : (sI_ σ 1 2 (nI 0)).1 1 2 = nI 0 := by rw [sI_at, if_pos ⟨rfl, rfl⟩]
  have m2 : (sI_ μ1 219 2 (nI 0)).1 219 2 = nI 0 := by rw [sI_at, if_pos ⟨rfl, rfl⟩]
  have no : ∀ v, f_X11_net KC [.ref 0, .int x1] σ = some (some (.int v), sI_ σ 1 2 (nI 0)) → f_X12_net KC [.ref 219, .int x1] μ = some (some (.int v), sI_ μ1 219 2 (nI 0)) → ∃ v σ' μ', f_X11_net KC [.ref 0, .int x1] σ = some (some (.int v), σ') ∧ f_X12_net KC [.ref 219, .int x1] μ = some (some (.int v), μ') ∧ TA_ σ' μ' 0 t ∧ fr_ [1, 105] σ σ' ∧ NF2_ [2] 1 σ σ' ∧ NF2_ [2] 105 σ σ' ∧ fr_ [219] μ1 μ' ∧ NF2_ [2, 47] 219 μ1 μ' ∧ (RN_ σ μ1 → RN_ σ' μ') := fun v a1 a2 => ⟨v, _, _, a1, a2, ⟨⟨by omega, ht⟩, ⟨s2, t2'⟩, m2, t4'⟩, fr_sI (by simp), sc, fun f _ => by rw [sI_row _ _ _ _ (by decide)], fr_sI (by simp), fun f hf => sm f (fun z => hf (by simp at z ⊢; omega)), fun z => by
    unfold RN_ at z ⊢
    rw [sI_row _ _ _ _ (by decide), sm 47 (by simp)]
    exact z⟩
  by_cases hr : 2 ≤ n ∧ n ≤ 10
  · have i1 := m_isInYes (μ := sI_ μ1 219 2 (nI 0)) (b := 10) (by omega) hr
    rcases in_or x1 (a := 1) (b := 9999) (by omega) (by omega) with ⟨P, rfl, p1, p2⟩ | h1
    · have i2 := m_isInYes (μ := sI_ μ1 219 2 (nI 0)) (b := 9999) (by omega) (show 1 ≤ P ∧ P ≤ 9999 from ⟨p1, p2⟩)
      have p1' : ¬ P < 1 := by omega
      have p2' : ¬ 9999 < P := by omega
      have e43 := m_net43 (P := P) hx2 ht t4' hr ⟨p1, p2⟩ n 0 0 (by omega) rfl
      by_cases hus : us_ t (B 0 0) n = none
      · rw [if_neg (fun z => z.2.2 hus)] at hun
        rw [if_pos hus] at e43
        refine no (-2) (z_X11_net (e_X11_net_0 ?_)) (z_X12_net (e_X12_net_0 ?_))
        · simp (disch := first | assumption | omega) only [p1', l9999, p2', h12', hB, t1, hC1.1.1, hun, Option.some.injEq, Prod.mk.injEq, Value.int.injEq, exists_and_left, exists_eq_left', and_assoc, true_and, and_true, true_implies, false_implies, not_true_eq_false, not_false_eq_true, li_0, li_1, li_2, li_3, li_4, li_5, li_8, li_9, li_10, li_16, li_20, li_80, li_100, li_130, li_144, li_390, li_400, li_M, li_H, li_of, nI_add, pk_mul, cl_, vp_iff, nI_leI, nI_ltI, nI_eq, Nat.add_zero, Nat.zero_add, Nat.reduceEqDiff, Nat.reduceAdd, eq_self, reduceIte, Bool.false_eq_true, li_neg]
        · simp (disch := first | assumption | omega) only [hl', tk, i1, l9999, i2, Option.some.injEq, Prod.mk.injEq, Value.int.injEq, exists_and_left, exists_eq_left', and_assoc, true_and, and_true, true_implies, false_implies, not_true_eq_false, not_false_eq_true, li_0, li_1, li_2, li_3, li_4, li_5, li_8, li_9, li_10, li_16, li_20, li_80, li_100, li_130, li_144, li_390, li_400, li_M, li_H, li_of, nI_add, pk_mul, cl_, vp_iff, nI_leI, nI_ltI, nI_eq, Nat.add_zero, Nat.zero_add, Nat.reduceEqDiff, Nat.reduceAdd, eq_self, reduceIte, Bool.false_eq_true, li_neg]
          (repeat' apply And.intro) <;> first | omega | rfl | assumption | exact e43
      · rw [if_pos ⟨hr.1, hr.2, hus⟩] at hun
        rw [if_neg hus] at e43
        have hNO : NO_ B n P t := ⟨hr.1, hr.2, by
          cases hu : us_ t (B 0 0) n with
          | none => exact absurd hu hus
          | some m => exact (us_lt h16 n m hu).2, p1, p2⟩
        have cd := c_divide hB hC1 hO t2' ht hNO
        cases hnt : nt_ B t n P (2 ^ (n - 1)) with
        | none =>
          rw [hnt] at cd e43
          have cd' : f_X2_divide KC [.ref 105, .ref b, .ref 1, .int (nI n), .int (nI P)] (sI_ σ 1 2 (nI 0)) = some (some (.int nM_), sI_ σ 1 2 (nI 0)) := cd
          have e43' : Ev_ (P_X12_net KC) 43 [some (.ref 219), some (.int (nI P)), some (.int (nI n)), some (.int (nI 0)), some (.int (nI 0)), none, none, none, none, none, none, none] [] (sI_ μ1 219 2 (nI 0)) (some (.int nM_), sI_ μ1 219 2 (nI 0)) := e43
          refine no nM_ (z_X11_net (e_X11_net_0 ?_)) (z_X12_net (e_X12_net_0 ?_))
          · simp (disch := first | assumption | omega) only [p1', l9999, p2', h12', hB, t1, hC1.1.1, hun, cd', Option.some.injEq, Prod.mk.injEq, Value.int.injEq, exists_and_left, exists_eq_left', and_assoc, true_and, and_true, true_implies, false_implies, not_true_eq_false, not_false_eq_true, li_0, li_1, li_2, li_3, li_4, li_5, li_8, li_9, li_10, li_16, li_20, li_80, li_100, li_130, li_144, li_390, li_400, li_M, li_H, li_of, nI_add, pk_mul, cl_, vp_iff, nI_leI, nI_ltI, nI_eq, Nat.add_zero, Nat.zero_add, Nat.reduceEqDiff, Nat.reduceAdd, eq_self, reduceIte, Bool.false_eq_true, li_neg]
          · simp (disch := first | assumption | omega) only [hl', tk, i1, l9999, i2, Option.some.injEq, Prod.mk.injEq, Value.int.injEq, exists_and_left, exists_eq_left', and_assoc, true_and, and_true, true_implies, false_implies, not_true_eq_false, not_false_eq_true, li_0, li_1, li_2, li_3, li_4, li_5, li_8, li_9, li_10, li_16, li_20, li_80, li_100, li_130, li_144, li_390, li_400, li_M, li_H, li_of, nI_add, pk_mul, cl_, vp_iff, nI_leI, nI_ltI, nI_eq, Nat.add_zero, Nat.zero_add, Nat.reduceEqDiff, Nat.reduceAdd, eq_self, reduceIte, Bool.false_eq_true, li_neg]
            (repeat' apply And.intro) <;> first | omega | rfl | assumption | exact e43'
        | some x =>
          obtain ⟨v, q⟩ := x
          rw [hnt] at cd e43
          have cd' : f_X2_divide KC [.ref 105, .ref b, .ref 1, .int (nI n), .int (nI P)] (sI_ σ 1 2 (nI 0)) = some (some (.int (nI v)), sI_ (sI_ σ 1 2 (nI 0)) 105 2 (nI q)) := cd
          have e43' : Ev_ (P_X12_net KC) 43 [some (.ref 219), some (.int (nI P)), some (.int (nI n)), some (.int (nI 0)), some (.int (nI 0)), none, none, none, none, none, none, none] [] (sI_ μ1 219 2 (nI 0)) (some (.int (nI v)), sI_ (sI_ μ1 219 2 (nI 0)) 219 47 (nI q)) := e43
          refine ⟨nI v, sI_ (sI_ σ 1 2 (nI 0)) 105 2 (nI q), sI_ (sI_ μ1 219 2 (nI 0)) 219 47 (nI q), z_X11_net (e_X11_net_0 ?_), z_X12_net (e_X12_net_0 ?_), ⟨⟨by omega, ht⟩, ⟨by rw [sI_row _ _ _ _ (by decide)]; exact s2, fun i => by rw [sI_row _ _ _ _ (by decide)]; exact t2' i⟩, by rw [sI_at, if_neg (by omega)]; exact m2, fun i => by rw [sI_row _ _ _ _ (by decide)]; exact t4' i⟩, fr_tr (fr_sI (by simp)) (fr_sI (by simp)), fun f hf => by rw [sI_row _ _ _ _ (by decide)]; exact sc f hf, fun f hf => by rw [sI_at, if_neg (fun z => hf (by rw [z.2]; simp)), sI_row _ _ _ _ (by decide)], fr_tr (fr_sI (by simp)) (fr_sI (by simp)), fun f hf => by rw [sI_at, if_neg (fun z => hf (by rw [z.2]; simp))]; exact sm f (fun z => hf (by simp at z ⊢; omega)), fun _ => ?_⟩
          · simp (disch := first | assumption | omega) only [p1', l9999, p2', h12', hB, t1, hC1.1.1, hun, cd', Option.some.injEq, Prod.mk.injEq, Value.int.injEq, exists_and_left, exists_eq_left', and_assoc, true_and, and_true, true_implies, false_implies, not_true_eq_false, not_false_eq_true, li_0, li_1, li_2, li_3, li_4, li_5, li_8, li_9, li_10, li_16, li_20, li_80, li_100, li_130, li_144, li_390, li_400, li_M, li_H, li_of, nI_add, pk_mul, cl_, vp_iff, nI_leI, nI_ltI, nI_eq, Nat.add_zero, Nat.zero_add, Nat.reduceEqDiff, Nat.reduceAdd, eq_self, reduceIte, Bool.false_eq_true, li_neg]
          · simp (disch := first | assumption | omega) only [hl', tk, i1, l9999, i2, Option.some.injEq, Prod.mk.injEq, Value.int.injEq, exists_and_left, exists_eq_left', and_assoc, true_and, and_true, true_implies, false_implies, not_true_eq_false, not_false_eq_true, li_0, li_1, li_2, li_3, li_4, li_5, li_8, li_9, li_10, li_16, li_20, li_80, li_100, li_130, li_144, li_390, li_400, li_M, li_H, li_of, nI_add, pk_mul, cl_, vp_iff, nI_leI, nI_ltI, nI_eq, Nat.add_zero, Nat.zero_add, Nat.reduceEqDiff, Nat.reduceAdd, eq_self, reduceIte, Bool.false_eq_true, li_neg]
            (repeat' apply And.intro) <;> first | omega | rfl | assumption | exact e43'
          · unfold RN_
            rw [sI_at, if_pos ⟨rfl, rfl⟩, sI_at, if_pos ⟨rfl, rfl⟩]
    · have i2 := m_isInNo (μ := sI_ μ1 219 2 (nI 0)) h1
      refine no (-2) (z_X11_net (e_X11_net_0 ?_)) (z_X12_net (e_X12_net_0 ?_))
      · by_cases h3 : x1 < nI 1
        · simp (disch := first | assumption | omega) only [h3, Option.some.injEq, Prod.mk.injEq, Value.int.injEq, exists_and_left, exists_eq_left', and_assoc, true_and, and_true, true_implies, false_implies, not_true_eq_false, not_false_eq_true, li_0, li_1, li_2, li_3, li_4, li_5, li_8, li_9, li_10, li_16, li_20, li_80, li_100, li_130, li_144, li_390, li_400, li_M, li_H, li_of, nI_add, pk_mul, cl_, vp_iff, nI_leI, nI_ltI, nI_eq, Nat.add_zero, Nat.zero_add, Nat.reduceEqDiff, Nat.reduceAdd, eq_self, reduceIte, Bool.false_eq_true, li_neg]
        · have h4 := h1.resolve_left h3
          simp (disch := first | assumption | omega) only [h3, l9999, h4, Option.some.injEq, Prod.mk.injEq, Value.int.injEq, exists_and_left, exists_eq_left', and_assoc, true_and, and_true, true_implies, false_implies, not_true_eq_false, not_false_eq_true, li_0, li_1, li_2, li_3, li_4, li_5, li_8, li_9, li_10, li_16, li_20, li_80, li_100, li_130, li_144, li_390, li_400, li_M, li_H, li_of, nI_add, pk_mul, cl_, vp_iff, nI_leI, nI_ltI, nI_eq, Nat.add_zero, Nat.zero_add, Nat.reduceEqDiff, Nat.reduceAdd, eq_self, reduceIte, Bool.false_eq_true, li_neg]
      · simp (disch := first | assumption | omega) only [hl', tk, i1, l9999, i2, Option.some.injEq, Prod.mk.injEq, Value.int.injEq, exists_and_left, exists_eq_left', and_assoc, true_and, and_true, true_implies, false_implies, not_true_eq_false, not_false_eq_true, li_0, li_1, li_2, li_3, li_4, li_5, li_8, li_9, li_10, li_16, li_20, li_80, li_100, li_130, li_144, li_390, li_400, li_M, li_H, li_of, nI_add, pk_mul, cl_, vp_iff, nI_leI, nI_ltI, nI_eq, Nat.add_zero, Nat.zero_add, Nat.reduceEqDiff, Nat.reduceAdd, eq_self, reduceIte, Bool.false_eq_true, li_neg]
  · rw [if_neg (fun z => hr ⟨z.1, z.2.1⟩)] at hun
    have hr2 : nI n < nI 2 ∨ nI 10 < nI n := by
      by_cases h : n < 2
      · exact .inl ((nI_ltI (by omega) (by omega)).mpr h)
      · exact .inr ((nI_ltI (by omega) (by omega)).mpr (by omega))
    have i1 := m_isInNo (μ := sI_ μ1 219 2 (nI 0)) hr2
    refine no (-2) (z_X11_net (e_X11_net_0 ?_)) (z_X12_net (e_X12_net_0 ?_))
    · by_cases h3 : x1 < nI 1
      · simp (disch := first | assumption | omega) only [h3, Option.some.injEq, Prod.mk.injEq, Value.int.injEq, exists_and_left, exists_eq_left', and_assoc, true_and, and_true, true_implies, false_implies, not_true_eq_false, not_false_eq_true, li_0, li_1, li_2, li_3, li_4, li_5, li_8, li_9, li_10, li_16, li_20, li_80, li_100, li_130, li_144, li_390, li_400, li_M, li_H, li_of, nI_add, pk_mul, cl_, vp_iff, nI_leI, nI_ltI, nI_eq, Nat.add_zero, Nat.zero_add, Nat.reduceEqDiff, Nat.reduceAdd, eq_self, reduceIte, Bool.false_eq_true, li_neg]
      · by_cases h4 : nI 9999 < x1
        · simp (disch := first | assumption | omega) only [h3, l9999, h4, Option.some.injEq, Prod.mk.injEq, Value.int.injEq, exists_and_left, exists_eq_left', and_assoc, true_and, and_true, true_implies, false_implies, not_true_eq_false, not_false_eq_true, li_0, li_1, li_2, li_3, li_4, li_5, li_8, li_9, li_10, li_16, li_20, li_80, li_100, li_130, li_144, li_390, li_400, li_M, li_H, li_of, nI_add, pk_mul, cl_, vp_iff, nI_leI, nI_ltI, nI_eq, Nat.add_zero, Nat.zero_add, Nat.reduceEqDiff, Nat.reduceAdd, eq_self, reduceIte, Bool.false_eq_true, li_neg]
        · simp (disch := first | assumption | omega) only [h3, l9999, h4, h12', hB, t1, hC1.1.1, hun, Option.some.injEq, Prod.mk.injEq, Value.int.injEq, exists_and_left, exists_eq_left', and_assoc, true_and, and_true, true_implies, false_implies, not_true_eq_false, not_false_eq_true, li_0, li_1, li_2, li_3, li_4, li_5, li_8, li_9, li_10, li_16, li_20, li_80, li_100, li_130, li_144, li_390, li_400, li_M, li_H, li_of, nI_add, pk_mul, cl_, vp_iff, nI_leI, nI_ltI, nI_eq, Nat.add_zero, Nat.zero_add, Nat.reduceEqDiff, Nat.reduceAdd, eq_self, reduceIte, Bool.false_eq_true, li_neg]
    · simp (disch := first | assumption | omega) only [hl', tk, i1, Option.some.injEq, Prod.mk.injEq, Value.int.injEq, exists_and_left, exists_eq_left', and_assoc, true_and, and_true, true_implies, false_implies, not_true_eq_false, not_false_eq_true, li_0, li_1, li_2, li_3, li_4, li_5, li_8, li_9, li_10, li_16, li_20, li_80, li_100, li_130, li_144, li_390, li_400, li_M, li_H, li_of, nI_add, pk_mul, cl_, vp_iff, nI_leI, nI_ltI, nI_eq, Nat.add_zero, Nat.zero_add, Nat.reduceEqDiff, Nat.reduceAdd, eq_self, reduceIte, Bool.false_eq_true, li_neg]
end CF
