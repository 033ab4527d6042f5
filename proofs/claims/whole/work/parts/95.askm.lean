/-! ASK: the reference -/
section AQ3
variable {μ : St_} {B : Nat → Nat → Nat} {t : Nat → Nat}
theorem m_ask110 {lk : Int32} {N s : Nat} (hT : ∀ i, μ.1 220 i = nI (t i)) (ht : ∀ i, t i < 256) (hN : N ≤ 10) (hs : s < 1024) {out : Out_} (t96 : Ev_ (P_X12_ask KC) 96 [some (.ref 219), some (.int (nI N)), some (.int lk), some (.int (akS_ (ak_ lk (aq_ t) N (s + 1)))), some (.int (nI (s + 1))), none, none] [] μ out) : ∀ n i, i + n = N → Ev_ (P_X12_ask KC) 110 [some (.ref 219), some (.int (nI N)), some (.int lk), some (.int (akS_ (ak_ lk (aq_ t) N s))), some (.int (nI s)), some (.int (nI (un_ (aq_ t) s i))), some (.int (nI i))] [] μ out := by
  have hq : ∀ i, aq_ t i < 2 ^ 16 := fun i => by
    have := ht (2 * i)
    have := ht (2 * i + 1)
    unfold aq_
    omega
  intro n
  induction n with
  | zero =>
    intro i hi
    obtain rfl : i = N := by omega
    have hpc := pc_le 10 s
    refine e_X12_ask_110 ?_
    by_cases c1 : lk &&& (nI (un_ (aq_ t) s i) ^^^ nM_) = nI 0
    · cases e : ak_ lk (aq_ t) i s with
      | none =>
        have eS : akS_ none = nM_ := rfl
        have a := (ak_next (lk := lk) (q := aq_ t) (N := i) (s := s)).1 c1 (by rw [e]; show pc_ s 10 < 11; omega)
        rw [a.2] at t96
        rw [eS]
        simp (disch := first | assumption | omega) only [Nat.le_refl, c1, Option.some.injEq, Prod.mk.injEq, Value.int.injEq, exists_and_left, exists_eq_left', and_assoc, true_and, and_true, true_implies, false_implies, not_true_eq_false, not_false_eq_true, li_0, li_1, li_2, li_3, li_4, li_5, li_8, li_9, li_10, li_16, li_20, li_80, li_100, li_130, li_144, li_390, li_400, li_M, li_H, li_of, nI_add, pk_mul, cl_, vp_iff, nI_leI, nI_ltI, nI_eq, Nat.add_zero, Nat.zero_add, Nat.reduceEqDiff, Nat.reduceAdd, eq_self, reduceIte, Bool.false_eq_true, li_neg]
        exact t96
      | some p =>
        obtain ⟨v, p⟩ := p
        have hb := ak_lt _ v p e
        have hp := pc_le 10 p
        have eS : akS_ (some (v, p)) = nI p := rfl
        have hn : ¬ nI p = nM_ := nI_m1 (by omega)
        have b1 : f_X12_bits KC [.int (nI s)] μ = _ := m_bits hs
        have b2 : f_X12_bits KC [.int (nI p)] μ = _ := m_bits (show p < 1024 by omega)
        by_cases c2 : pc_ s 10 < pc_ p 10
        · have a := (ak_next (lk := lk) (q := aq_ t) (N := i) (s := s)).1 c1 (by rw [e]; show pc_ s 10 < v; omega)
          rw [a.2] at t96
          rw [eS]
          simp (disch := first | assumption | omega) only [Nat.le_refl, c1, hn, b1, b2, c2, Option.some.injEq, Prod.mk.injEq, Value.int.injEq, exists_and_left, exists_eq_left', and_assoc, true_and, and_true, true_implies, false_implies, not_true_eq_false, not_false_eq_true, li_0, li_1, li_2, li_3, li_4, li_5, li_8, li_9, li_10, li_16, li_20, li_80, li_100, li_130, li_144, li_390, li_400, li_M, li_H, li_of, nI_add, pk_mul, cl_, vp_iff, nI_leI, nI_ltI, nI_eq, Nat.add_zero, Nat.zero_add, Nat.reduceEqDiff, Nat.reduceAdd, eq_self, reduceIte, Bool.false_eq_true, li_neg]
          exact t96
        · have a := (ak_next (lk := lk) (q := aq_ t) (N := i) (s := s)).2 (fun z => by
            have z2 := z.2
            rw [e] at z2
            have z3 : pc_ s 10 < v := z2
            omega)
          rw [a, e, eS] at t96
          rw [eS]
          simp (disch := first | assumption | omega) only [Nat.le_refl, c1, hn, b1, b2, c2, Option.some.injEq, Prod.mk.injEq, Value.int.injEq, exists_and_left, exists_eq_left', and_assoc, true_and, and_true, true_implies, false_implies, not_true_eq_false, not_false_eq_true, li_0, li_1, li_2, li_3, li_4, li_5, li_8, li_9, li_10, li_16, li_20, li_80, li_100, li_130, li_144, li_390, li_400, li_M, li_H, li_of, nI_add, pk_mul, cl_, vp_iff, nI_leI, nI_ltI, nI_eq, Nat.add_zero, Nat.zero_add, Nat.reduceEqDiff, Nat.reduceAdd, eq_self, reduceIte, Bool.false_eq_true, li_neg]
          exact t96
    · have a := (ak_next (lk := lk) (q := aq_ t) (N := i) (s := s)).2 (fun z => c1 z.1)
      rw [a] at t96
      simp (disch := first | assumption | omega) only [Nat.le_refl, c1, Option.some.injEq, Prod.mk.injEq, Value.int.injEq, exists_and_left, exists_eq_left', and_assoc, true_and, and_true, true_implies, false_implies, not_true_eq_false, not_false_eq_true, li_0, li_1, li_2, li_3, li_4, li_5, li_8, li_9, li_10, li_16, li_20, li_80, li_100, li_130, li_144, li_390, li_400, li_M, li_H, li_of, nI_add, pk_mul, cl_, vp_iff, nI_leI, nI_ltI, nI_eq, Nat.add_zero, Nat.zero_add, Nat.reduceEqDiff, Nat.reduceAdd, eq_self, reduceIte, Bool.false_eq_true, li_neg]
      exact t96
  | succ n ih =>
    intro i hi
    have hi1 : ¬ N ≤ i := by omega
    have ih1 := ih (i + 1) (by omega)
    have ehb := hb_n (x := s) (i := i) (by omega) (by omega)
    have t1 := ht (2 * i)
    have t2 := ht (2 * i + 1)
    have l256 : (256 : Int32) = nI 256 := rfl
    have eq : 256 * t (2 * i) + t (2 * i + 1) = aq_ t i := rfl
    rw [un_] at ih1
    refine e_X12_ask_110 ?_
    by_cases e : s.testBit i = true
    · rw [if_pos e] at ih1
      simp (disch := first | assumption | omega) only [hi1, m_hasK, ehb, e, if_true, if_pos, hT, l256, eq, fa_or, Option.some.injEq, Prod.mk.injEq, Value.int.injEq, exists_and_left, exists_eq_left', and_assoc, true_and, and_true, true_implies, false_implies, not_true_eq_false, not_false_eq_true, li_0, li_1, li_2, li_3, li_4, li_5, li_8, li_9, li_10, li_16, li_20, li_80, li_100, li_130, li_144, li_390, li_400, li_M, li_H, li_of, nI_add, pk_mul, cl_, vp_iff, nI_leI, nI_ltI, nI_eq, Nat.add_zero, Nat.zero_add, Nat.reduceEqDiff, Nat.reduceAdd, eq_self, reduceIte, Bool.false_eq_true, li_neg]
      (repeat' apply And.intro) <;> first | omega | rfl | assumption | exact ih1
    · rw [if_neg e] at ih1
      simp (disch := first | assumption | omega) only [hi1, m_hasK, ehb, e, if_false, if_neg, Option.some.injEq, Prod.mk.injEq, Value.int.injEq, exists_and_left, exists_eq_left', and_assoc, true_and, and_true, true_implies, false_implies, not_true_eq_false, not_false_eq_true, li_0, li_1, li_2, li_3, li_4, li_5, li_8, li_9, li_10, li_16, li_20, li_80, li_100, li_130, li_144, li_390, li_400, li_M, li_H, li_of, nI_add, pk_mul, cl_, vp_iff, nI_leI, nI_ltI, nI_eq, Nat.add_zero, Nat.zero_add, Nat.reduceEqDiff, Nat.reduceAdd, eq_self, reduceIte, Bool.false_eq_true, li_neg]
      exact ih1
theorem m_ask96 {lk : Int32} {N : Nat} (hT : ∀ i, μ.1 220 i = nI (t i)) (ht : ∀ i, t i < 256) (hN : N ≤ 10) : ∀ n s, s + n = 2 ^ N → Ev_ (P_X12_ask KC) 96 [some (.ref 219), some (.int (nI N)), some (.int lk), some (.int (akS_ (ak_ lk (aq_ t) N s))), some (.int (nI s)), none, none] [] μ (some (.int (match ak_ lk (aq_ t) N (2 ^ N) with | none => nM_ | some (v, _) => nI v)), match ak_ lk (aq_ t) N (2 ^ N) with | none => μ | some (_, p) => sI_ μ 219 56 (nI p)) := by
  have hp : 2 ^ N ≤ 2 ^ 10 := Nat.pow_le_pow_right (by omega) hN
  have h31 : N < 31 := by omega
  intro n
  induction n with
  | zero =>
    intro s hs
    obtain rfl : s = 2 ^ N := by omega
    refine e_X12_ask_96 ?_
    cases e : ak_ lk (aq_ t) N (2 ^ N) with
    | none =>
      have eS : akS_ none = nM_ := rfl
      rw [eS]
      simp (disch := first | assumption | omega) only [sh_1, Nat.le_refl, Option.some.injEq, Prod.mk.injEq, Value.int.injEq, exists_and_left, exists_eq_left', and_assoc, true_and, and_true, true_implies, false_implies, not_true_eq_false, not_false_eq_true, li_0, li_1, li_2, li_3, li_4, li_5, li_8, li_9, li_10, li_16, li_20, li_80, li_100, li_130, li_144, li_390, li_400, li_M, li_H, li_of, nI_add, pk_mul, cl_, vp_iff, nI_leI, nI_ltI, nI_eq, Nat.add_zero, Nat.zero_add, Nat.reduceEqDiff, Nat.reduceAdd, eq_self, reduceIte, Bool.false_eq_true, li_neg]
    | some p =>
      obtain ⟨v, p⟩ := p
      have hb := ak_lt _ v p e
      have eS : akS_ (some (v, p)) = nI p := rfl
      have hn : ¬ nI p = nM_ := nI_m1 (by omega)
      have b2 : ∀ μ' : St_, f_X12_bits KC [.int (nI p)] μ' = some (some (.int (nI v)), μ') := fun μ' => by
        rw [hb.1]
        exact m_bits (show p < 1024 by omega)
      rw [eS]
      simp (disch := first | assumption | omega) only [sh_1, Nat.le_refl, hn, b2, Option.some.injEq, Prod.mk.injEq, Value.int.injEq, exists_and_left, exists_eq_left', and_assoc, true_and, and_true, true_implies, false_implies, not_true_eq_false, not_false_eq_true, li_0, li_1, li_2, li_3, li_4, li_5, li_8, li_9, li_10, li_16, li_20, li_80, li_100, li_130, li_144, li_390, li_400, li_M, li_H, li_of, nI_add, pk_mul, cl_, vp_iff, nI_leI, nI_ltI, nI_eq, Nat.add_zero, Nat.zero_add, Nat.reduceEqDiff, Nat.reduceAdd, eq_self, reduceIte, Bool.false_eq_true, li_neg]
  | succ n ih =>
    intro s hs
    have hs1 : ¬ 2 ^ N ≤ s := by omega
    have t110 := m_ask110 hT ht hN (show s < 1024 by omega) (ih (s + 1) (by omega)) N 0 (by omega)
    have t110' : Ev_ (P_X12_ask KC) 110 [some (.ref 219), some (.int (nI N)), some (.int lk), some (.int (akS_ (ak_ lk (aq_ t) N s))), some (.int (nI s)), some (.int (nI 0)), some (.int (nI 0))] [] μ (some (.int (match ak_ lk (aq_ t) N (2 ^ N) with | none => nM_ | some (v, _) => nI v)), match ak_ lk (aq_ t) N (2 ^ N) with | none => μ | some (_, p) => sI_ μ 219 56 (nI p)) := t110
    generalize (some (Value.int (match ak_ lk (aq_ t) N (2 ^ N) with | none => nM_ | some (v, _) => nI v)), match ak_ lk (aq_ t) N (2 ^ N) with | none => μ | some (_, p) => sI_ μ 219 56 (nI p)) = out at t110' ⊢
    refine e_X12_ask_96 ?_
    simp (disch := first | assumption | omega) only [sh_1, hs1, Option.some.injEq, Prod.mk.injEq, Value.int.injEq, exists_and_left, exists_eq_left', and_assoc, true_and, and_true, true_implies, false_implies, not_true_eq_false, not_false_eq_true, li_0, li_1, li_2, li_3, li_4, li_5, li_8, li_9, li_10, li_16, li_20, li_80, li_100, li_130, li_144, li_390, li_400, li_M, li_H, li_of, nI_add, pk_mul, cl_, vp_iff, nI_leI, nI_ltI, nI_eq, Nat.add_zero, Nat.zero_add, Nat.reduceEqDiff, Nat.reduceAdd, eq_self, reduceIte, Bool.false_eq_true, li_neg]
    exact t110'
theorem m_ask41 (hx : RX_ μ B) {lk : Int32} {N : Nat} (hT : ∀ i, μ.1 220 i = nI (t i)) (ht : ∀ i, t i < 256) (hN : N ≤ 10) (hl : f_X12_lacking KC [.ref 219] μ = some (some (.int lk), μ)) : ∀ n i, i + n = N → (∀ j, j < i → aq_ t j < 2 ^ B 0 0) → ((∀ j, j < N → aq_ t j < 2 ^ B 0 0) → Ev_ (P_X12_ask KC) 41 [some (.ref 219), some (.int (nI N)), some (.int (nI i)), none, none, none, none] [] μ (some (.int (match ak_ lk (aq_ t) N (2 ^ N) with | none => nM_ | some (v, _) => nI v)), match ak_ lk (aq_ t) N (2 ^ N) with | none => μ | some (_, p) => sI_ μ 219 56 (nI p))) ∧ (¬ (∀ j, j < N → aq_ t j < 2 ^ B 0 0) → Ev_ (P_X12_ask KC) 41 [some (.ref 219), some (.int (nI N)), some (.int (nI i)), none, none, none, none] [] μ (some (.int (-2)), μ)) := by
  have h16 := hx.2.1.1
  intro n
  induction n with
  | zero =>
    intro i hi h
    obtain rfl : i = N := by omega
    refine ⟨fun _ => ?_, fun z => absurd h z⟩
    have t96 := m_ask96 (lk := lk) hT ht hN (2 ^ i) 0 (by omega)
    have t96' : Ev_ (P_X12_ask KC) 96 [some (.ref 219), some (.int (nI i)), some (.int lk), some (.int nM_), some (.int (nI 0)), none, none] [] μ (some (.int (match ak_ lk (aq_ t) i (2 ^ i) with | none => nM_ | some (v, _) => nI v)), match ak_ lk (aq_ t) i (2 ^ i) with | none => μ | some (_, p) => sI_ μ 219 56 (nI p)) := t96
    generalize (some (Value.int (match ak_ lk (aq_ t) i (2 ^ i) with | none => nM_ | some (v, _) => nI v)), match ak_ lk (aq_ t) i (2 ^ i) with | none => μ | some (_, p) => sI_ μ 219 56 (nI p)) = out at t96' ⊢
    refine e_X12_ask_41 ?_
    simp (disch := first | assumption | omega) only [Nat.le_refl, hl, Option.some.injEq, Prod.mk.injEq, Value.int.injEq, exists_and_left, exists_eq_left', and_assoc, true_and, and_true, true_implies, false_implies, not_true_eq_false, not_false_eq_true, li_0, li_1, li_2, li_3, li_4, li_5, li_8, li_9, li_10, li_16, li_20, li_80, li_100, li_130, li_144, li_390, li_400, li_M, li_H, li_of, nI_add, pk_mul, cl_, vp_iff, nI_leI, nI_ltI, nI_eq, Nat.add_zero, Nat.zero_add, Nat.reduceEqDiff, Nat.reduceAdd, eq_self, reduceIte, Bool.false_eq_true, li_neg]
    exact t96'
  | succ n ih =>
    intro i hi h
    have hi1 : ¬ N ≤ i := by omega
    have hi2 : i < N := by omega
    have t1 := ht (2 * i)
    have t2 := ht (2 * i + 1)
    have l256 : (256 : Int32) = nI 256 := rfl
    have eq : 256 * t (2 * i) + t (2 * i + 1) = aq_ t i := rfl
    have hq : aq_ t i < 2 ^ 16 := by unfold aq_; omega
    have s3 := sr_n (x := aq_ t i) (i := B 0 0) (by omega) (by omega)
    have hd := Nat.div_le_self (aq_ t i) (2 ^ B 0 0)
    by_cases e : aq_ t i < 2 ^ B 0 0
    · have e0 : aq_ t i / 2 ^ B 0 0 = 0 := Nat.div_eq_of_lt e
      obtain ⟨r1, r2⟩ := ih (i + 1) (by omega) (fun j hj => by
        by_cases ej : j = i
        · rw [ej]
          exact e
        · exact h j (by omega))
      refine ⟨fun z => ?_, fun z => ?_⟩
      · have r := r1 z
        generalize (some (Value.int (match ak_ lk (aq_ t) N (2 ^ N) with | none => nM_ | some (v, _) => nI v)), match ak_ lk (aq_ t) N (2 ^ N) with | none => μ | some (_, p) => sI_ μ 219 56 (nI p)) = out at r ⊢
        refine e_X12_ask_41 ?_
        simp (disch := first | assumption | omega) only [hi1, hT, l256, eq, m_chaps hx, s3, e0, Option.some.injEq, Prod.mk.injEq, Value.int.injEq, exists_and_left, exists_eq_left', and_assoc, true_and, and_true, true_implies, false_implies, not_true_eq_false, not_false_eq_true, li_0, li_1, li_2, li_3, li_4, li_5, li_8, li_9, li_10, li_16, li_20, li_80, li_100, li_130, li_144, li_390, li_400, li_M, li_H, li_of, nI_add, pk_mul, cl_, vp_iff, nI_leI, nI_ltI, nI_eq, Nat.add_zero, Nat.zero_add, Nat.reduceEqDiff, Nat.reduceAdd, eq_self, reduceIte, Bool.false_eq_true, li_neg]
        (repeat' apply And.intro) <;> first | omega | rfl | assumption | exact r
      · have r := r2 z
        generalize (some (Value.int (-2)), μ) = out at r ⊢
        refine e_X12_ask_41 ?_
        simp (disch := first | assumption | omega) only [hi1, hT, l256, eq, m_chaps hx, s3, e0, Option.some.injEq, Prod.mk.injEq, Value.int.injEq, exists_and_left, exists_eq_left', and_assoc, true_and, and_true, true_implies, false_implies, not_true_eq_false, not_false_eq_true, li_0, li_1, li_2, li_3, li_4, li_5, li_8, li_9, li_10, li_16, li_20, li_80, li_100, li_130, li_144, li_390, li_400, li_M, li_H, li_of, nI_add, pk_mul, cl_, vp_iff, nI_leI, nI_ltI, nI_eq, Nat.add_zero, Nat.zero_add, Nat.reduceEqDiff, Nat.reduceAdd, eq_self, reduceIte, Bool.false_eq_true, li_neg]
        (repeat' apply And.intro) <;> first | omega | rfl | assumption | exact r
    · have e0 : ¬ aq_ t i / 2 ^ B 0 0 = 0 := fun z => by
        have := (Nat.div_eq_zero_iff.1 z)
        have := Nat.two_pow_pos (B 0 0)
        omega
      refine ⟨fun z => absurd (z i hi2) e, fun _ => e_X12_ask_41 ?_⟩
      simp (disch := first | assumption | omega) only [hi1, hT, l256, eq, m_chaps hx, s3, e0, Option.some.injEq, Prod.mk.injEq, Value.int.injEq, exists_and_left, exists_eq_left', and_assoc, true_and, and_true, true_implies, false_implies, not_true_eq_false, not_false_eq_true, li_0, li_1, li_2, li_3, li_4, li_5, li_8, li_9, li_10, li_16, li_20, li_80, li_100, li_130, li_144, li_390, li_400, li_M, li_H, li_of, nI_add, pk_mul, cl_, vp_iff, nI_leI, nI_ltI, nI_eq, Nat.add_zero, Nat.zero_add, Nat.reduceEqDiff, Nat.reduceAdd, eq_self, reduceIte, Bool.false_eq_true, li_neg]
      (repeat' apply And.intro) <;> first | omega | rfl | assumption
end AQ3
