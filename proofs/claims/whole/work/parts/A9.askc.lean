/-! the call ASK, on both sides -/
def RQ_ (σ μ : St_) : Prop := σ.1 133 2 = μ.1 219 56
section CJ
variable {σ μ μ1 : St_} {b p a n : Nat} {B P : Nat → Nat → Nat} {t : Nat → Nat}
theorem NOW_1 (h : NOW_ σ μ1 b p B P a) (i : Nat) (x : Int32) : NOW_ (sI_ σ 1 i x) μ1 b p B P a := by
  obtain ⟨⟨hB, hP, h12, h14⟩, ⟨hC, hp, hr⟩, hx, hpm, ho⟩ := h
  refine ⟨⟨hB, hP, h12, h14⟩, ⟨CB_row hB hC (fun o h5 h6 => sI_row _ _ _ _ (by unfold isB at hB; omega)) hx.2, PC_cg hp (fun o h1 h2 => sI_row _ _ _ _ (by unfold isP at hP; omega)), ?_⟩, hx, hpm, ho⟩
  unfold RU_ RK_ at hr ⊢
  rw [sI_row _ _ _ _ (show (0 : Nat) ≠ 1 by decide), sI_row _ _ _ _ (show (80 : Nat) ≠ 1 by decide)]
  exact hr.imp id (fun ⟨z1, z2, z3, z4, z5⟩ => ⟨z1, z2, CK_cg z3 (sI_row _ _ _ _ (by decide)) (sI_row _ _ _ _ (by decide)) (sI_row _ _ _ _ (by decide)) (sI_row _ _ _ _ (by decide)), z4, z5⟩)
theorem half_n (hn : n < 2 ^ 20) : nI n / nI 2 = nI (n / 2) ∧ nI n - nI (n / 2 * 2) = nI (n % 2) := by
  have e : nI n / nI 2 = nI (n / 2) := pk_div (by omega) (by decide) (by decide)
  refine ⟨e, ?_⟩
  rw [pk_sub (by omega)]
  congr 1
  omega
theorem ask_both (h : NOW_ σ μ1 b p B P a) (hl : LY_ μ μ1) (hT : TA_ σ μ1 n t) : ∃ v σ' μ', f_X11_ask KC [.ref 0] σ = some (some (.int v), σ') ∧ f_X12_ask KC [.ref 219] μ = some (some (.int v), μ') ∧ TA_ σ' μ' 0 t ∧ (GF_ [0, 1, 80, 81, 82, 83, 84, 133, 136] σ σ' ∧ NF2_ [18] 0 σ σ' ∧ NF2_ [2] 1 σ σ' ∧ NF2_ [4, 5, 6, 7, 8] 80 σ σ' ∧ NF2_ [2] 133 σ σ' ∧ ∀ o i, ¬ (o = 80 ∧ i = 9) → σ'.2.2 o i = σ.2.2 o i) ∧ (fr_ [219, 229, 230, 231, 232] μ1 μ' ∧ NF2_ [2, 29, 30, 56] 219 μ1 μ') ∧ RU_ σ' b B P a ∧ (RQ_ σ μ1 → RQ_ σ' μ') := by
  have h1 := NOW_1 h 2 (nI 0)
  obtain ⟨σ2, μ2, a1, a2, a3, a4, a5, a6, b1, b2, b3, b4, b5, b6, b7⟩ := now_run h1 hl
  obtain ⟨⟨hB, hP, h12, h14⟩, ⟨hC, hp, hr⟩, hx, hpm, ho⟩ := h
  have hO := hx.2
  have h16 := hO.1.1
  have hK := KB_ru hO ho
  obtain ⟨⟨hn, ht⟩, ⟨t1, t2⟩, t3, t4⟩ := hT
  have l20 : (20 : Int32) = nI 20 := rfl
  have l10 : (10 : Int32) = nI 10 := rfl
  obtain ⟨hd1, hd2⟩ := half_n (n := n) (by omega)
  have sc : ∀ f, f ∉ [2] → (sI_ σ 1 2 (nI 0)).1 1 f = σ.1 1 f := fun f hf => by rw [sI_at, if_neg (fun z => hf (by rw [z.2]; simp))]
  have s2 : (sI_ σ 1 2 (nI 0)).1 1 2 = nI 0 := by rw [sI_at, if_pos ⟨rfl, rfl⟩]
  have t2' : ∀ i, (sI_ σ 1 2 (nI 0)).1 2 i = b8_ (t i) := fun i => by rw [sI_row _ _ _ _ (by decide)]; exact t2 i
  have e2 : μ2.1 219 2 = nI n := by rw [b6.2 2 (by simp)]; exact t3
  have tk : f_X12_take KC [.ref 219] μ2 = some (some (.int (nI n)), sI_ μ2 219 2 (nI 0)) := z_X12_take (e_X12_take_0 (by rw [e2]; rfl))
  have m2 : (sI_ μ2 219 2 (nI 0)).1 219 2 = nI 0 := by rw [sI_at, if_pos ⟨rfl, rfl⟩]
  have mT : ∀ i, (sI_ μ2 219 2 (nI 0)).1 220 i = nI (t i) := fun i => by rw [sI_row _ _ _ _ (by decide), b6.1.1 220 (by decide)]; exact t4 i
  have mx : RX_ (sI_ μ2 219 2 (nI 0)) B := RX_sI b5 (by decide)
  have mk : MK_ (sI_ μ2 219 2 (nI 0)) B (ru_ B P a).1 := MK_cg b2 (sI_row _ _ _ _ (by decide)) (sI_row _ _ _ _ (by decide)) (sI_row _ _ _ _ (by decide)) (sI_row _ _ _ _ (by decide))
  have ml := m_lacking mx mk hK
  have mf : fr_ [219, 229, 230, 231, 232] μ1 (sI_ μ2 219 2 (nI 0)) := fr_tr b6.1 (fr_sI (by simp))
  have mg : NF2_ [2, 29, 30, 56] 219 μ1 (sI_ μ2 219 2 (nI 0)) := fun f hf => by
    rw [sI_at, if_neg (fun z => hf (by rw [z.2]; simp))]
    by_cases e : f = 31
    · rw [e]
      exact b7
    · exact b6.2 f (fun z => hf (by simp at z ⊢; omega))
  -- -2, when the tape holds no such questions: the class did not run
  have no : f_X11_ask KC [.ref 0] σ = some (some (.int (-2)), sI_ σ 1 2 (nI 0)) → f_X12_ask KC [.ref 219] μ = some (some (.int (-2)), sI_ μ2 219 2 (nI 0)) → ∃ v σ' μ', f_X11_ask KC [.ref 0] σ = some (some (.int v), σ') ∧ f_X12_ask KC [.ref 219] μ = some (some (.int v), μ') ∧ TA_ σ' μ' 0 t ∧ (GF_ [0, 1, 80, 81, 82, 83, 84, 133, 136] σ σ' ∧ NF2_ [18] 0 σ σ' ∧ NF2_ [2] 1 σ σ' ∧ NF2_ [4, 5, 6, 7, 8] 80 σ σ' ∧ NF2_ [2] 133 σ σ' ∧ ∀ o i, ¬ (o = 80 ∧ i = 9) → σ'.2.2 o i = σ.2.2 o i) ∧ (fr_ [219, 229, 230, 231, 232] μ1 μ' ∧ NF2_ [2, 29, 30, 56] 219 μ1 μ') ∧ RU_ σ' b B P a ∧ (RQ_ σ μ1 → RQ_ σ' μ') := fun q1 q2 => ⟨(-2), _, _, q1, q2, ⟨⟨by omega, ht⟩, ⟨s2, t2'⟩, m2, mT⟩, ⟨GF_sI (by simp), fun f _ => by rw [sI_row _ _ _ _ (by decide)], sc, fun f _ => by rw [sI_row _ _ _ _ (by decide)], fun f _ => by rw [sI_row _ _ _ _ (by decide)], fun _ _ _ => rfl⟩, ⟨mf, mg⟩, h1.2.1.2.2, fun z => by
    unfold RQ_ at z ⊢
    rw [sI_row _ _ _ _ (by decide), sI_at, if_neg (by omega), b6.2 56 (by simp)]
    exact z⟩
  by_cases hev : n % 2 = 0
  · by_cases hrg : 1 ≤ n / 2 ∧ n / 2 ≤ 10
    · have i1 := m_isInYes (μ := sI_ μ2 219 2 (nI 0)) (b := 10) (by omega) hrg
      have g1 : ¬ n < 2 := by omega
      have g2 : ¬ 20 < n := by omega
      have hT2 : ∀ i, σ2.1 2 i = b8_ (t i) := fun i => by rw [(a5.1.1 2 (by simp)).1]; exact t2' i
      have e12 : σ2.2.2 0 12 = some b := by rw [a5.2.2.2 0 12 (by omega)]; exact h12
      have e11 : σ2.1 b 11 = nI (B 0 0) := a2.2.1.1.1
      obtain ⟨σ3, c1, c2, c3⟩ := c_askFewest (σ := σ2) (N := n / 2) (n := B 0 0) hT2 ht (by omega) h16 (nI (la_ B (ru_ B P a).1 (B 0 0)))
      have m41 := m_ask41 mx mT ht hrg.2 ml (n / 2) 0 (by omega) (fun j hj => absurd hj (by omega))
      have lc := c_lacking a2 a4.2.1
      have frm : ∀ σ' : St_, fr_ [133, 136] σ2 σ' → NF2_ [2] 133 σ2 σ' → (TA_ σ' (sI_ μ2 219 2 (nI 0)) 0 t ∧ (GF_ [0, 1, 80, 81, 82, 83, 84, 133, 136] σ σ' ∧ NF2_ [18] 0 σ σ' ∧ NF2_ [2] 1 σ σ' ∧ NF2_ [4, 5, 6, 7, 8] 80 σ σ' ∧ NF2_ [2] 133 σ σ' ∧ ∀ o i, ¬ (o = 80 ∧ i = 9) → σ'.2.2 o i = σ.2.2 o i) ∧ RU_ σ' b B P a) := fun σ' f1 f2 => by
        refine ⟨⟨⟨by omega, ht⟩, ⟨by rw [f1.1 1 (by decide), (a5.1.1 1 (by simp)).1]; exact s2, fun i => by rw [f1.1 2 (by decide)]; exact hT2 i⟩, m2, mT⟩, ⟨GF_tr (GF_sI (by simp)) (GF_tr (GF_mono a5.1 (by simp)) (GF_fr f1 (by simp))), fun f hf => ?_, fun f hf => by rw [f1.1 1 (by decide), (a5.1.1 1 (by simp)).1]; exact sc f hf, fun f hf => by rw [f1.1 80 (by decide), a5.2.2.1 f hf, sI_row _ _ _ _ (by decide)], fun f hf => by rw [f2 f hf, (a5.1.1 133 (by simp)).1, sI_row _ _ _ _ (by decide)], fun o i hoi => by rw [f1.2]; exact a5.2.2.2 o i hoi⟩, .inr ⟨by rw [f1.1 0 (by decide)]; exact a3, by rw [f1.2]; exact a4.1, CK_cg a4.2.1 (f1.1 81 (by decide)) (f1.1 82 (by decide)) (f1.1 83 (by decide)) (f1.1 84 (by decide)), by rw [f1.1 80 (by decide)]; exact a4.2.2.1, by rw [f1.1 80 (by decide)]; exact a4.2.2.2⟩⟩
        rw [f1.1 0 (by decide)]
        by_cases e : f = 19
        · rw [e, a6, sI_row _ _ _ _ (by decide)]
        · rw [a5.2.1 f (fun z => hf (by simp at z ⊢; omega)), sI_row _ _ _ _ (by decide)]
      have keep : ∀ σ' : St_, fr_ [136] σ2 σ' → RQ_ σ μ1 → σ'.1 133 2 = (sI_ μ2 219 2 (nI 0)).1 219 56 := fun σ' f1 z => by
        unfold RQ_ at z
        rw [f1.1 133 (by decide), (a5.1.1 133 (by simp)).1, sI_row _ _ _ _ (by decide), sI_at, if_neg (by omega), b6.2 56 (by simp)]
        exact z
      by_cases hok : ∀ j, j < n / 2 → aq_ t j < 2 ^ B 0 0
      · have c2' := c2 ⟨hrg.1, hrg.2, hok⟩
        have m41' := m41.1 hok
        cases hak : ak_ (nI (la_ B (ru_ B P a).1 (B 0 0))) (aq_ t) (n / 2) (2 ^ (n / 2)) with
        | none =>
          rw [hak] at c2' m41'
          have c2'' : f_X1_askFewest KC [.ref 133, .ref 1, .int (nI (n / 2)), .int (nI (B 0 0)), .int (nI (la_ B (ru_ B P a).1 (B 0 0)))] σ2 = some (some (.int nM_), σ3) := c2'
          have m41'' : Ev_ (P_X12_ask KC) 41 [some (.ref 219), some (.int (nI (n / 2))), some (.int (nI 0)), none, none, none, none] [] (sI_ μ2 219 2 (nI 0)) (some (.int nM_), sI_ μ2 219 2 (nI 0)) := m41'
          obtain ⟨r1, r2, r3⟩ := frm σ3 (fr_mono c1 (by simp)) (fun f _ => by rw [c1.1 133 (by decide)])
          refine ⟨nM_, σ3, sI_ μ2 219 2 (nI 0), z_X11_ask (e_X11_ask_0 ?_), z_X12_ask (e_X12_ask_0 ?_), r1, r2, ⟨mf, mg⟩, r3, keep σ3 c1⟩
          · simp (disch := first | assumption | omega) only [t1, g1, l20, g2, hd1, hd2, hev, a1, e12, hB, lc, e11, c2'', Option.some.injEq, Prod.mk.injEq, Value.int.injEq, exists_and_left, exists_eq_left', and_assoc, true_and, and_true, true_implies, false_implies, not_true_eq_false, not_false_eq_true, li_0, li_1, li_2, li_3, li_4, li_5, li_8, li_9, li_10, li_16, li_20, li_80, li_100, li_130, li_144, li_390, li_400, li_M, li_H, li_of, nI_add, pk_mul, cl_, vp_iff, nI_leI, nI_ltI, nI_eq, Nat.add_zero, Nat.zero_add, Nat.reduceEqDiff, Nat.reduceAdd, eq_self, reduceIte, Bool.false_eq_true, li_neg]
          · simp (disch := first | assumption | omega) only [b1, tk, hd1, hd2, hev, i1, Option.some.injEq, Prod.mk.injEq, Value.int.injEq, exists_and_left, exists_eq_left', and_assoc, true_and, and_true, true_implies, false_implies, not_true_eq_false, not_false_eq_true, li_0, li_1, li_2, li_3, li_4, li_5, li_8, li_9, li_10, li_16, li_20, li_80, li_100, li_130, li_144, li_390, li_400, li_M, li_H, li_of, nI_add, pk_mul, cl_, vp_iff, nI_leI, nI_ltI, nI_eq, Nat.add_zero, Nat.zero_add, Nat.reduceEqDiff, Nat.reduceAdd, eq_self, reduceIte, Bool.false_eq_true, li_neg]
            all_goals ((repeat' apply And.intro) <;> first | omega | rfl | assumption | exact m41'')
        | some x =>
          obtain ⟨v, q⟩ := x
          rw [hak] at c2' m41'
          have c2'' : f_X1_askFewest KC [.ref 133, .ref 1, .int (nI (n / 2)), .int (nI (B 0 0)), .int (nI (la_ B (ru_ B P a).1 (B 0 0)))] σ2 = some (some (.int (nI v)), sI_ σ3 133 2 (nI q)) := c2'
          have m41'' : Ev_ (P_X12_ask KC) 41 [some (.ref 219), some (.int (nI (n / 2))), some (.int (nI 0)), none, none, none, none] [] (sI_ μ2 219 2 (nI 0)) (some (.int (nI v)), sI_ (sI_ μ2 219 2 (nI 0)) 219 56 (nI q)) := m41'
          obtain ⟨r1, r2, r3⟩ := frm (sI_ σ3 133 2 (nI q)) (fr_tr (fr_mono c1 (by simp)) (fr_sI (by simp))) (fun f hf => by rw [sI_at, if_neg (fun z => hf (by rw [z.2]; simp)), c1.1 133 (by decide)])
          refine ⟨nI v, sI_ σ3 133 2 (nI q), sI_ (sI_ μ2 219 2 (nI 0)) 219 56 (nI q), z_X11_ask (e_X11_ask_0 ?_), z_X12_ask (e_X12_ask_0 ?_), ⟨r1.1, r1.2.1, by rw [sI_at, if_neg (by omega)]; exact m2, fun i => by rw [sI_row _ _ _ _ (by decide)]; exact mT i⟩, r2, ⟨fr_tr mf (fr_sI (by simp)), fun f hf => by rw [sI_at, if_neg (fun z => hf (by rw [z.2]; simp))]; exact mg f hf⟩, r3, fun _ => ?_⟩
          · simp (disch := first | assumption | omega) only [t1, g1, l20, g2, hd1, hd2, hev, a1, e12, hB, lc, e11, c2'', Option.some.injEq, Prod.mk.injEq, Value.int.injEq, exists_and_left, exists_eq_left', and_assoc, true_and, and_true, true_implies, false_implies, not_true_eq_false, not_false_eq_true, li_0, li_1, li_2, li_3, li_4, li_5, li_8, li_9, li_10, li_16, li_20, li_80, li_100, li_130, li_144, li_390, li_400, li_M, li_H, li_of, nI_add, pk_mul, cl_, vp_iff, nI_leI, nI_ltI, nI_eq, Nat.add_zero, Nat.zero_add, Nat.reduceEqDiff, Nat.reduceAdd, eq_self, reduceIte, Bool.false_eq_true, li_neg]
          · simp (disch := first | assumption | omega) only [b1, tk, hd1, hd2, hev, i1, Option.some.injEq, Prod.mk.injEq, Value.int.injEq, exists_and_left, exists_eq_left', and_assoc, true_and, and_true, true_implies, false_implies, not_true_eq_false, not_false_eq_true, li_0, li_1, li_2, li_3, li_4, li_5, li_8, li_9, li_10, li_16, li_20, li_80, li_100, li_130, li_144, li_390, li_400, li_M, li_H, li_of, nI_add, pk_mul, cl_, vp_iff, nI_leI, nI_ltI, nI_eq, Nat.add_zero, Nat.zero_add, Nat.reduceEqDiff, Nat.reduceAdd, eq_self, reduceIte, Bool.false_eq_true, li_neg]
            all_goals ((repeat' apply And.intro) <;> first | omega | rfl | assumption | exact m41'')
          · unfold RQ_
            rw [sI_at, if_pos ⟨rfl, rfl⟩, sI_at, if_pos ⟨rfl, rfl⟩]
      · have c3' := c3 (fun z => hok z.2.2)
        have m41' := m41.2 hok
        obtain ⟨r1, r2, r3⟩ := frm σ3 (fr_mono c1 (by simp)) (fun f _ => by rw [c1.1 133 (by decide)])
        refine ⟨(-2), σ3, sI_ μ2 219 2 (nI 0), z_X11_ask (e_X11_ask_0 ?_), z_X12_ask (e_X12_ask_0 ?_), r1, r2, ⟨mf, mg⟩, r3, keep σ3 c1⟩
        · simp (disch := first | assumption | omega) only [t1, g1, l20, g2, hd1, hd2, hev, a1, e12, hB, lc, e11, c3', Option.some.injEq, Prod.mk.injEq, Value.int.injEq, exists_and_left, exists_eq_left', and_assoc, true_and, and_true, true_implies, false_implies, not_true_eq_false, not_false_eq_true, li_0, li_1, li_2, li_3, li_4, li_5, li_8, li_9, li_10, li_16, li_20, li_80, li_100, li_130, li_144, li_390, li_400, li_M, li_H, li_of, nI_add, pk_mul, cl_, vp_iff, nI_leI, nI_ltI, nI_eq, Nat.add_zero, Nat.zero_add, Nat.reduceEqDiff, Nat.reduceAdd, eq_self, reduceIte, Bool.false_eq_true, li_neg]
        · simp (disch := first | assumption | omega) only [b1, tk, hd1, hd2, hev, i1, Option.some.injEq, Prod.mk.injEq, Value.int.injEq, exists_and_left, exists_eq_left', and_assoc, true_and, and_true, true_implies, false_implies, not_true_eq_false, not_false_eq_true, li_0, li_1, li_2, li_3, li_4, li_5, li_8, li_9, li_10, li_16, li_20, li_80, li_100, li_130, li_144, li_390, li_400, li_M, li_H, li_of, nI_add, pk_mul, cl_, vp_iff, nI_leI, nI_ltI, nI_eq, Nat.add_zero, Nat.zero_add, Nat.reduceEqDiff, Nat.reduceAdd, eq_self, reduceIte, Bool.false_eq_true, li_neg]
          all_goals ((repeat' apply And.intro) <;> first | omega | rfl | assumption | exact m41')
    · have hr2 : nI (n / 2) < nI 1 ∨ nI 10 < nI (n / 2) := by
        by_cases h : n / 2 < 1
        · exact .inl ((nI_ltI (by omega) (by omega)).mpr h)
        · exact .inr ((nI_ltI (by omega) (by omega)).mpr (by omega))
      have i1 := m_isInNo (μ := sI_ μ2 219 2 (nI 0)) hr2
      refine no (z_X11_ask (e_X11_ask_0 ?_)) (z_X12_ask (e_X12_ask_0 ?_))
      · by_cases g1 : n < 2
        · simp (disch := first | assumption | omega) only [t1, g1, Option.some.injEq, Prod.mk.injEq, Value.int.injEq, exists_and_left, exists_eq_left', and_assoc, true_and, and_true, true_implies, false_implies, not_true_eq_false, not_false_eq_true, li_0, li_1, li_2, li_3, li_4, li_5, li_8, li_9, li_10, li_16, li_20, li_80, li_100, li_130, li_144, li_390, li_400, li_M, li_H, li_of, nI_add, pk_mul, cl_, vp_iff, nI_leI, nI_ltI, nI_eq, Nat.add_zero, Nat.zero_add, Nat.reduceEqDiff, Nat.reduceAdd, eq_self, reduceIte, Bool.false_eq_true, li_neg]
        · have g2 : 20 < n := by omega
          simp (disch := first | assumption | omega) only [t1, g1, l20, g2, Option.some.injEq, Prod.mk.injEq, Value.int.injEq, exists_and_left, exists_eq_left', and_assoc, true_and, and_true, true_implies, false_implies, not_true_eq_false, not_false_eq_true, li_0, li_1, li_2, li_3, li_4, li_5, li_8, li_9, li_10, li_16, li_20, li_80, li_100, li_130, li_144, li_390, li_400, li_M, li_H, li_of, nI_add, pk_mul, cl_, vp_iff, nI_leI, nI_ltI, nI_eq, Nat.add_zero, Nat.zero_add, Nat.reduceEqDiff, Nat.reduceAdd, eq_self, reduceIte, Bool.false_eq_true, li_neg]
      · simp (disch := first | assumption | omega) only [b1, tk, hd1, hd2, hev, i1, Option.some.injEq, Prod.mk.injEq, Value.int.injEq, exists_and_left, exists_eq_left', and_assoc, true_and, and_true, true_implies, false_implies, not_true_eq_false, not_false_eq_true, li_0, li_1, li_2, li_3, li_4, li_5, li_8, li_9, li_10, li_16, li_20, li_80, li_100, li_130, li_144, li_390, li_400, li_M, li_H, li_of, nI_add, pk_mul, cl_, vp_iff, nI_leI, nI_ltI, nI_eq, Nat.add_zero, Nat.zero_add, Nat.reduceEqDiff, Nat.reduceAdd, eq_self, reduceIte, Bool.false_eq_true, li_neg]
  · refine no (z_X11_ask (e_X11_ask_0 ?_)) (z_X12_ask (e_X12_ask_0 ?_))
    · by_cases g1 : n < 2
      · simp (disch := first | assumption | omega) only [t1, g1, Option.some.injEq, Prod.mk.injEq, Value.int.injEq, exists_and_left, exists_eq_left', and_assoc, true_and, and_true, true_implies, false_implies, not_true_eq_false, not_false_eq_true, li_0, li_1, li_2, li_3, li_4, li_5, li_8, li_9, li_10, li_16, li_20, li_80, li_100, li_130, li_144, li_390, li_400, li_M, li_H, li_of, nI_add, pk_mul, cl_, vp_iff, nI_leI, nI_ltI, nI_eq, Nat.add_zero, Nat.zero_add, Nat.reduceEqDiff, Nat.reduceAdd, eq_self, reduceIte, Bool.false_eq_true, li_neg]
      · by_cases g2 : 20 < n
        · simp (disch := first | assumption | omega) only [t1, g1, l20, g2, Option.some.injEq, Prod.mk.injEq, Value.int.injEq, exists_and_left, exists_eq_left', and_assoc, true_and, and_true, true_implies, false_implies, not_true_eq_false, not_false_eq_true, li_0, li_1, li_2, li_3, li_4, li_5, li_8, li_9, li_10, li_16, li_20, li_80, li_100, li_130, li_144, li_390, li_400, li_M, li_H, li_of, nI_add, pk_mul, cl_, vp_iff, nI_leI, nI_ltI, nI_eq, Nat.add_zero, Nat.zero_add, Nat.reduceEqDiff, Nat.reduceAdd, eq_self, reduceIte, Bool.false_eq_true, li_neg]
        · simp (disch := first | assumption | omega) only [t1, g1, l20, g2, hd1, hd2, hev, Option.some.injEq, Prod.mk.injEq, Value.int.injEq, exists_and_left, exists_eq_left', and_assoc, true_and, and_true, true_implies, false_implies, not_true_eq_false, not_false_eq_true, li_0, li_1, li_2, li_3, li_4, li_5, li_8, li_9, li_10, li_16, li_20, li_80, li_100, li_130, li_144, li_390, li_400, li_M, li_H, li_of, nI_add, pk_mul, cl_, vp_iff, nI_leI, nI_ltI, nI_eq, Nat.add_zero, Nat.zero_add, Nat.reduceEqDiff, Nat.reduceAdd, eq_self, reduceIte, Bool.false_eq_true, li_neg]
    · simp (disch := first | assumption | omega) only [b1, tk, hd1, hd2, hev, Option.some.injEq, Prod.mk.injEq, Value.int.injEq, exists_and_left, exists_eq_left', and_assoc, true_and, and_true, true_implies, false_implies, not_true_eq_false, not_false_eq_true, li_0, li_1, li_2, li_3, li_4, li_5, li_8, li_9, li_10, li_16, li_20, li_80, li_100, li_130, li_144, li_390, li_400, li_M, li_H, li_of, nI_add, pk_mul, cl_, vp_iff, nI_leI, nI_ltI, nI_eq, Nat.add_zero, Nat.zero_add, Nat.reduceEqDiff, Nat.reduceAdd, eq_self, reduceIte, Bool.false_eq_true, li_neg]
end CJ
