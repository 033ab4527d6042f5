/-! ASK: the search of the class; the reference -/
def akV_ (o : Option (Nat × Nat)) : Nat := match o with | none => 11 | some p => p.1
def akS_ (o : Option (Nat × Nat)) : Int32 := match o with | none => nM_ | some p => nI p.2
theorem un_0 (q : Nat → Nat) : ∀ n, un_ q 0 n = 0
  | 0 => rfl
  | n + 1 => by rw [un_, Nat.zero_testBit, if_neg Bool.false_ne_true, un_0 q n]
theorem akV_b {lk : Int32} {q : Nat → Nat} {N s : Nat} : akV_ (ak_ lk q N s) ≤ 11 := by
  cases h : ak_ lk q N s with
  | none => exact Nat.le_refl _
  | some p =>
    obtain ⟨v, p⟩ := p
    have := (ak_lt s v p h).1
    have := pc_le 10 p
    show v ≤ 11
    omega
theorem ak_next {lk : Int32} {q : Nat → Nat} {N s : Nat} : (lk &&& (nI (un_ q s N) ^^^ nM_) = nI 0 → pc_ s 10 < akV_ (ak_ lk q N s) → akV_ (ak_ lk q N (s + 1)) = pc_ s 10 ∧ akS_ (ak_ lk q N (s + 1)) = nI s) ∧ (¬ (lk &&& (nI (un_ q s N) ^^^ nM_) = nI 0 ∧ pc_ s 10 < akV_ (ak_ lk q N s)) → ak_ lk q N (s + 1) = ak_ lk q N s) := by
  constructor
  · intro h1 h2
    rw [ak_, if_pos h1]
    cases h : ak_ lk q N s with
    | none => exact ⟨rfl, rfl⟩
    | some p =>
      obtain ⟨v, p⟩ := p
      rw [h] at h2
      have h3 : pc_ s 10 < v := h2
      show akV_ (if pc_ s 10 < v then some (pc_ s 10, s) else some (v, p)) = _ ∧ akS_ (if pc_ s 10 < v then some (pc_ s 10, s) else some (v, p)) = _
      rw [if_pos h3]
      exact ⟨rfl, rfl⟩
  · intro h1
    rw [ak_]
    by_cases h2 : lk &&& (nI (un_ q s N) ^^^ nM_) = nI 0
    · rw [if_pos h2]
      cases h : ak_ lk q N s with
      | none =>
        rw [h] at h1
        exfalso
        refine h1 ⟨h2, ?_⟩
        have := pc_le 10 s
        show pc_ s 10 < 11
        omega
      | some p =>
        obtain ⟨v, p⟩ := p
        rw [h] at h1
        have h3 : ¬ pc_ s 10 < v := fun z => h1 ⟨h2, z⟩
        show (if pc_ s 10 < v then some (pc_ s 10, s) else some (v, p)) = _
        rw [if_neg h3]
    · rw [if_neg h2]
section AQ2
variable {σ μ : St_} {B : Nat → Nat → Nat} {t : Nat → Nat}
theorem ak_none {o : Option (Nat × Nat)} : (akS_ o = nM_) = (o = none) ∨ ∃ v p, o = some (v, p) ∧ 2 ^ 31 ≤ p := by
  cases o with
  | none => exact .inl (propext ⟨fun _ => rfl, fun _ => rfl⟩)
  | some p =>
    by_cases h : p.2 < 2 ^ 31
    · exact .inl (propext ⟨fun z => absurd z (nI_m1 h), fun z => by cases z⟩)
    · exact .inr ⟨p.1, p.2, rfl, by omega⟩
def AR_ (σ : St_) (q : Nat → Nat) (N s : Nat) : Prop := (∀ u, u < s ∨ u = 0 → σ.1 136 u = nI (un_ q u N)) ∧ ∀ i, i < N → σ.1 136 (2 ^ i) = nI (q i)
theorem c_ask30 {lk : Int32} {q : Nat → Nat} {N n : Nat} (hN : N ≤ 10) (hq : ∀ i, i < N → q i < 2 ^ 16) : ∀ m s (σ1 : St_), s + m = 2 ^ N → fr_ [136] σ σ1 → AR_ σ1 q N s → ∃ σ', Ev_ (P_X1_askFewest KC) 30 [some (.ref 133), some (.ref 1), some (.int (nI N)), some (.int (nI n)), some (.int lk), some (.int (nI (akV_ (ak_ lk q N s)))), some (.int (akS_ (ak_ lk q N s))), some (.int (nI s))] [] σ1 (some (.int (match ak_ lk q N (2 ^ N) with | none => nM_ | some (v, _) => nI v)), match ak_ lk q N (2 ^ N) with | none => σ' | some (_, p) => sI_ σ' 133 2 (nI p)) ∧ fr_ [136] σ σ' := by
  have hp : 2 ^ N ≤ 2 ^ 10 := Nat.pow_le_pow_right (by omega) hN
  have h31 : N < 31 := by omega
  intro m
  induction m with
  | zero =>
    intro s σ1 hs hf h
    obtain rfl : s = 2 ^ N := by omega
    refine ⟨σ1, e_X1_askFewest_30 ?_, hf⟩
    cases e : ak_ lk q N (2 ^ N) with
    | none =>
      have eS : akS_ none = nM_ := rfl
      rw [eS]
      simp (disch := first | assumption | omega) only [sh_1, Nat.le_refl, Option.some.injEq, Prod.mk.injEq, Value.int.injEq, exists_and_left, exists_eq_left', and_assoc, true_and, and_true, true_implies, false_implies, not_true_eq_false, not_false_eq_true, li_0, li_1, li_2, li_3, li_4, li_5, li_8, li_9, li_10, li_16, li_20, li_80, li_100, li_130, li_144, li_390, li_400, li_M, li_H, li_of, nI_add, pk_mul, cl_, vp_iff, nI_leI, nI_ltI, nI_eq, Nat.add_zero, Nat.zero_add, Nat.reduceEqDiff, Nat.reduceAdd, eq_self, reduceIte, Bool.false_eq_true, li_neg]
    | some p =>
      obtain ⟨v, p⟩ := p
      have hb := ak_lt _ v p e
      have eS : akS_ (some (v, p)) = nI p := rfl
      have eV : akV_ (some (v, p)) = v := rfl
      have hn : ¬ nI p = nM_ := nI_m1 (by omega)
      rw [eS, eV]
      simp (disch := first | assumption | omega) only [sh_1, Nat.le_refl, hn, Option.some.injEq, Prod.mk.injEq, Value.int.injEq, exists_and_left, exists_eq_left', and_assoc, true_and, and_true, true_implies, false_implies, not_true_eq_false, not_false_eq_true, li_0, li_1, li_2, li_3, li_4, li_5, li_8, li_9, li_10, li_16, li_20, li_80, li_100, li_130, li_144, li_390, li_400, li_M, li_H, li_of, nI_add, pk_mul, cl_, vp_iff, nI_leI, nI_ltI, nI_eq, Nat.add_zero, Nat.zero_add, Nat.reduceEqDiff, Nat.reduceAdd, eq_self, reduceIte, Bool.false_eq_true, li_neg]
  | succ m ih =>
    intro s σ1 hs hf h
    have hs1 : ¬ 2 ^ N ≤ s := by omega
    have hs2 : s < 1024 := by omega
    have hul := un_lt (q := q) (s := s) N hq
    have hpc := pc_le 10 s
    have hvb := akV_b (lk := lk) (q := q) (N := N) (s := s)
    have hbc : ∀ σ2 : St_, f_J6_bitCount_0f7a4 KC [.int (nI s)] σ2 = some (some (.int (nI (pc_ s 10))), σ2) := fun σ2 => c_bitCount hs2
    have t74 : ∀ σ2 : St_, fr_ [136] σ σ2 → AR_ σ2 q N (s + 1) → ∃ σ', Ev_ (P_X1_askFewest KC) 74 [some (.ref 133), some (.ref 1), some (.int (nI N)), some (.int (nI n)), some (.int lk), some (.int (nI (akV_ (ak_ lk q N s)))), some (.int (akS_ (ak_ lk q N s))), some (.int (nI s))] [] σ2 (some (.int (match ak_ lk q N (2 ^ N) with | none => nM_ | some (v, _) => nI v)), match ak_ lk q N (2 ^ N) with | none => σ' | some (_, p) => sI_ σ' 133 2 (nI p)) ∧ fr_ [136] σ σ' := by
      intro σ2 hf2 h2
      obtain ⟨σ', q1, q2⟩ := ih (s + 1) σ2 (by omega) hf2 h2
      refine ⟨σ', e_X1_askFewest_74 ?_, q2⟩
      have er := h2.1 s (.inl (Nat.lt_succ_self s))
      generalize (some (Value.int (match ak_ lk q N (2 ^ N) with | none => nM_ | some (v, _) => nI v)), match ak_ lk q N (2 ^ N) with | none => σ' | some (_, p) => sI_ σ' 133 2 (nI p)) = out at q1 ⊢
      by_cases c1 : lk &&& (nI (un_ q s N) ^^^ nM_) = nI 0
      · by_cases c2 : pc_ s 10 < akV_ (ak_ lk q N s)
        · have c2' : ¬ akV_ (ak_ lk q N s) ≤ pc_ s 10 := by omega
          obtain ⟨a1, a2⟩ := ak_next.1 c1 c2
          rw [a1, a2] at q1
          simp (disch := first | assumption | omega) only [er, c1, hbc, c2', Option.some.injEq, Prod.mk.injEq, Value.int.injEq, exists_and_left, exists_eq_left', and_assoc, true_and, and_true, true_implies, false_implies, not_true_eq_false, not_false_eq_true, li_0, li_1, li_2, li_3, li_4, li_5, li_8, li_9, li_10, li_16, li_20, li_80, li_100, li_130, li_144, li_390, li_400, li_M, li_H, li_of, nI_add, pk_mul, cl_, vp_iff, nI_leI, nI_ltI, nI_eq, Nat.add_zero, Nat.zero_add, Nat.reduceEqDiff, Nat.reduceAdd, eq_self, reduceIte, Bool.false_eq_true, li_neg]
          (repeat' apply And.intro) <;> first | omega | rfl | assumption | exact q1
        · have c2' : akV_ (ak_ lk q N s) ≤ pc_ s 10 := by omega
          rw [ak_next.2 (fun z => c2 z.2)] at q1
          simp (disch := first | assumption | omega) only [er, c1, hbc, c2', Option.some.injEq, Prod.mk.injEq, Value.int.injEq, exists_and_left, exists_eq_left', and_assoc, true_and, and_true, true_implies, false_implies, not_true_eq_false, not_false_eq_true, li_0, li_1, li_2, li_3, li_4, li_5, li_8, li_9, li_10, li_16, li_20, li_80, li_100, li_130, li_144, li_390, li_400, li_M, li_H, li_of, nI_add, pk_mul, cl_, vp_iff, nI_leI, nI_ltI, nI_eq, Nat.add_zero, Nat.zero_add, Nat.reduceEqDiff, Nat.reduceAdd, eq_self, reduceIte, Bool.false_eq_true, li_neg]
          (repeat' apply And.intro) <;> first | omega | rfl | assumption | exact q1
      · rw [ak_next.2 (fun z => c1 z.1)] at q1
        simp (disch := first | assumption | omega) only [er, c1, Option.some.injEq, Prod.mk.injEq, Value.int.injEq, exists_and_left, exists_eq_left', and_assoc, true_and, and_true, true_implies, false_implies, not_true_eq_false, not_false_eq_true, li_0, li_1, li_2, li_3, li_4, li_5, li_8, li_9, li_10, li_16, li_20, li_80, li_100, li_130, li_144, li_390, li_400, li_M, li_H, li_of, nI_add, pk_mul, cl_, vp_iff, nI_leI, nI_ltI, nI_eq, Nat.add_zero, Nat.zero_add, Nat.reduceEqDiff, Nat.reduceAdd, eq_self, reduceIte, Bool.false_eq_true, li_neg]
        (repeat' apply And.intro) <;> first | omega | rfl | assumption | exact q1
    by_cases e : s = 0
    · subst e
      have h0 : AR_ σ1 q N (0 + 1) := ⟨fun u hu => h.1 u (.inr (by omega)), h.2⟩
      obtain ⟨σ', q1, q2⟩ := t74 σ1 hf h0
      refine ⟨σ', e_X1_askFewest_30 ?_, q2⟩
      generalize (some (Value.int (match ak_ lk q N (2 ^ N) with | none => nM_ | some (v, _) => nI v)), match ak_ lk q N (2 ^ N) with | none => σ' | some (_, p) => sI_ σ' 133 2 (nI p)) = out at q1 ⊢
      simp (disch := first | assumption | omega) only [sh_1, hs1, Option.some.injEq, Prod.mk.injEq, Value.int.injEq, exists_and_left, exists_eq_left', and_assoc, true_and, and_true, true_implies, false_implies, not_true_eq_false, not_false_eq_true, li_0, li_1, li_2, li_3, li_4, li_5, li_8, li_9, li_10, li_16, li_20, li_80, li_100, li_130, li_144, li_390, li_400, li_M, li_H, li_of, nI_add, pk_mul, cl_, vp_iff, nI_leI, nI_ltI, nI_eq, Nat.add_zero, Nat.zero_add, Nat.reduceEqDiff, Nat.reduceAdd, eq_self, reduceIte, Bool.false_eq_true, li_neg]
      exact q1
    · obtain ⟨l1, l2, l3, l4, l5⟩ := lc_eq ⟨s, hs2⟩ e
      obtain ⟨j, hj⟩ := lc_two ⟨s, hs2⟩ e
      have l1' : nI s &&& (nI s - nI 1) = nI (lc_ s) := l1
      have l2' : nI s &&& -nI s = nI (s - lc_ s) := l2
      have l3' : lc_ s ||| (s - lc_ s) = s := l3
      have l4' : lc_ s < s := l4
      have hj' : s - lc_ s = 2 ^ j.val := hj
      have hjN : j.val < N := by
        refine (Nat.pow_lt_pow_iff_right (show 1 < 2 by decide)).1 ?_
        omega
      have r1 := h.1 (lc_ s) (.inl l4')
      have r2 : σ1.1 136 (s - lc_ s) = nI (un_ q (s - lc_ s) N) := by
        rw [hj', un_two hjN]
        exact h.2 j.val hjN
      have hor : un_ q (lc_ s) N ||| un_ q (s - lc_ s) N = un_ q s N := by rw [← un_or, l3']
      obtain ⟨σ', q1, q2⟩ := t74 (sI_ σ1 136 s (nI (un_ q s N))) (fr_tr hf (fr_sI (by simp))) ⟨fun u hu => by
        rw [sI_at]
        by_cases eu : u = s
        · rw [if_pos ⟨rfl, eu⟩, eu]
        · rw [if_neg (fun z => eu z.2)]
          exact h.1 u (by omega), fun i hi => by
        rw [sI_at]
        by_cases eu : 2 ^ i = s
        · rw [if_pos ⟨rfl, eu⟩, ← eu, un_two hi]
        · rw [if_neg (fun z => eu z.2)]
          exact h.2 i hi⟩
      refine ⟨σ', e_X1_askFewest_30 ?_, q2⟩
      have hlc : lc_ s < 1024 := by omega
      have hlc2 : s - lc_ s < 1024 := by omega
      generalize (some (Value.int (match ak_ lk q N (2 ^ N) with | none => nM_ | some (v, _) => nI v)), match ak_ lk q N (2 ^ N) with | none => σ' | some (_, p) => sI_ σ' 133 2 (nI p)) = out at q1 ⊢
      simp (disch := first | assumption | omega) only [sh_1, hs1, e, l1', l2', r1, r2, fa_or, hor, Option.some.injEq, Prod.mk.injEq, Value.int.injEq, exists_and_left, exists_eq_left', and_assoc, true_and, and_true, true_implies, false_implies, not_true_eq_false, not_false_eq_true, li_0, li_1, li_2, li_3, li_4, li_5, li_8, li_9, li_10, li_16, li_20, li_80, li_100, li_130, li_144, li_390, li_400, li_M, li_H, li_of, nI_add, pk_mul, cl_, vp_iff, nI_leI, nI_ltI, nI_eq, Nat.add_zero, Nat.zero_add, Nat.reduceEqDiff, Nat.reduceAdd, eq_self, reduceIte, Bool.false_eq_true, li_neg]
      (repeat' apply And.intro) <;> first | omega | rfl | assumption | exact q1
theorem c_askFewest (hT : ∀ i, σ.1 2 i = b8_ (t i)) (ht : ∀ i, t i < 256) {N n : Nat} (hN : N ≤ 520) (hn : n ≤ 16) (lk : Int32) : ∃ σ', fr_ [136] σ σ' ∧ ((1 ≤ N ∧ N ≤ 10 ∧ ∀ i, i < N → aq_ t i < 2 ^ n) → f_X1_askFewest KC [.ref 133, .ref 1, .int (nI N), .int (nI n), .int lk] σ = some (some (.int (match ak_ lk (aq_ t) N (2 ^ N) with | none => nM_ | some (v, _) => nI v)), match ak_ lk (aq_ t) N (2 ^ N) with | none => σ' | some (_, p) => sI_ σ' 133 2 (nI p))) ∧ (¬ (1 ≤ N ∧ N ≤ 10 ∧ ∀ i, i < N → aq_ t i < 2 ^ n) → f_X1_askFewest KC [.ref 133, .ref 1, .int (nI N), .int (nI n), .int lk] σ = some (some (.int (-2)), σ')) := by
  obtain ⟨σ1, p1, p2, p3⟩ := c_readQuestions hT ht hN hn
  by_cases ok : 1 ≤ N ∧ N ≤ 10 ∧ ∀ i, i < N → aq_ t i < 2 ^ n
  · rw [if_pos ok] at p1
    have p3' := p3 ok
    have hq : ∀ i, i < N → aq_ t i < 2 ^ 16 := fun i hi => by
      have := ht (2 * i)
      have := ht (2 * i + 1)
      unfold aq_
      omega
    obtain ⟨σ', q1, q2⟩ := c_ask30 (σ := σ) (n := n) (lk := lk) ok.2.1 hq (2 ^ N) 0 (sI_ σ1 136 0 (nI 0)) (by omega) (fr_tr p2 (fr_sI (by simp))) ⟨fun u hu => by
      obtain rfl : u = 0 := by omega
      rw [sI_at, if_pos ⟨rfl, rfl⟩, un_0], fun i hi => by
      have := Nat.two_pow_pos i
      rw [sI_at, if_neg (fun z => by omega)]
      exact p3' i hi⟩
    refine ⟨σ', q2, fun _ => ?_, fun z => absurd ok z⟩
    generalize (some (Value.int (match ak_ lk (aq_ t) N (2 ^ N) with | none => nM_ | some (v, _) => nI v)), match ak_ lk (aq_ t) N (2 ^ N) with | none => σ' | some (_, p) => sI_ σ' 133 2 (nI p)) = out at q1 ⊢
    have l11 : (11 : Int32) = nI 11 := rfl
    have q1' : Ev_ (P_X1_askFewest KC) 30 [some (.ref 133), some (.ref 1), some (.int (nI N)), some (.int (nI n)), some (.int lk), some (.int (nI 11)), some (.int nM_), some (.int (nI 0))] [] (sI_ σ1 136 0 (nI 0)) out := q1
    refine z_X1_askFewest (e_X1_askFewest_0 ?_)
    have h10 : ¬ nI 1 = nI 0 := by decide
    simp only [p1]
    refine ⟨_, _, rfl, ?_⟩
    simp (disch := first | assumption | omega) only [l11, Option.some.injEq, Prod.mk.injEq, Value.int.injEq, exists_and_left, exists_eq_left', and_assoc, true_and, and_true, true_implies, false_implies, not_true_eq_false, not_false_eq_true, li_0, li_1, li_2, li_3, li_4, li_5, li_8, li_9, li_10, li_16, li_20, li_80, li_100, li_130, li_144, li_390, li_400, li_M, li_H, li_of, nI_add, pk_mul, cl_, vp_iff, nI_leI, nI_ltI, nI_eq, Nat.add_zero, Nat.zero_add, Nat.reduceEqDiff, Nat.reduceAdd, eq_self, reduceIte, Bool.false_eq_true, li_neg]
    (repeat' apply And.intro) <;> first | omega | rfl | assumption | exact q1'
  · rw [if_neg ok] at p1
    refine ⟨σ1, p2, fun z => absurd z ok, fun _ => z_X1_askFewest (e_X1_askFewest_0 ?_)⟩
    simp (disch := first | assumption | omega) only [p1, Option.some.injEq, Prod.mk.injEq, Value.int.injEq, exists_and_left, exists_eq_left', and_assoc, true_and, and_true, true_implies, false_implies, not_true_eq_false, not_false_eq_true, li_0, li_1, li_2, li_3, li_4, li_5, li_8, li_9, li_10, li_16, li_20, li_80, li_100, li_130, li_144, li_390, li_400, li_M, li_H, li_of, nI_add, pk_mul, cl_, vp_iff, nI_leI, nI_ltI, nI_eq, Nat.add_zero, Nat.zero_add, Nat.reduceEqDiff, Nat.reduceAdd, eq_self, reduceIte, Bool.false_eq_true, li_neg]
end AQ2
