/-! the class's RUN -/
section CN
variable {σ : St_} {m b p : Nat} {B P : Nat → Nat → Nat} {a : Nat} {k : K_}
theorem CK_cg {σ σ' : St_} (h : CK_ σ m B k) (h1 : σ'.1 (m + 1) = σ.1 (m + 1)) (h2 : σ'.1 (m + 2) = σ.1 (m + 2)) (h3 : σ'.1 (m + 3) = σ.1 (m + 3)) (h4 : σ'.1 (m + 4) = σ.1 (m + 4)) : CK_ σ' m B k := by
  unfold CK_
  rw [h1, h2, h3, h4]
  exact h
theorem CK_m (h : CK_ σ m B k) (i : Nat) (x : Int32) : CK_ (sI_ σ m i x) m B k := CK_cg h (sI_row _ _ _ _ (by omega)) (sI_row _ _ _ _ (by omega)) (sI_row _ _ _ _ (by omega)) (sI_row _ _ _ _ (by omega))
theorem CB_row {σ σ' : St_} (hb : isB b) (h : CB_ σ b B) (h1 : ∀ o, b ≤ o → o ≤ b + 27 → σ'.1 o = σ.1 o) (hO : BO_ B) : CB_ σ' b B := CB_cg h (fun o i hr => by
  have := hO.1.1
  rw [h1 o (by unfold rC_ at hr; omega) (by unfold rC_ at hr; omega)])
theorem CX_m (h : CX_ σ m b B) (i : Nat) (x : Int32) : CX_ (sI_ σ m i x) m b B := by
  have hn := mb_no h.1.1 h.1.2.1
  exact ⟨h.1, CB_row h.1.2.1 h.2.1 (fun o h1 h2 => sI_row _ _ _ _ (by omega)) h.2.2, h.2.2⟩
theorem c_begin (hm : isM m) (hB : isB b) (hC : CB_ σ b B) (hO : BO_ B) : ∃ σ', f_X5_begin KC [.ref m, .ref b] σ = some (none, σ') ∧ CX_ σ' m b B ∧ CK_ σ' m B (k0_ B) ∧ σ'.1 m 4 = nM_ ∧ σ'.1 m 5 = nI 0 ∧ NF2_ [4, 5] m σ σ' ∧ GF_ [m, m + 1, m + 2, m + 3, m + 4] σ σ' ∧ (∀ o i, ¬ (o = m ∧ i = 9) → σ'.2.2 o i = σ.2.2 o i) := by
  have h3 := BO_c hO
  have hn := mb_no hm hB
  have l1 : ∀ n i σ1, i + n = 144 → CX_ σ1 m b B → (∀ r, r < B 0 1 → σ1.1 (m + 1) r = nI (B 7 r) ∧ σ1.1 (m + 2) r = nI 0 ∧ σ1.1 (m + 3) r = nI 0) → (∀ j, j < i → σ1.1 (m + 4) j = nI 0) → ∃ σ', Ev_ (P_X5_begin KC) 55 [some (.ref m), some (.ref b), some (.int (nI i))] [] σ1 (none, σ') ∧ CX_ σ' m b B ∧ CK_ σ' m B (k0_ B) ∧ σ'.1 m 4 = nM_ ∧ σ'.1 m 5 = nI 0 ∧ NF2_ [4, 5] m σ1 σ' ∧ fr_ [m, m + 1, m + 2, m + 3, m + 4] σ1 σ' := by
    intro n
    induction n with
    | zero =>
      intro i σ1 hi hx g1 g2
      obtain rfl : i = 144 := by omega
      refine ⟨_, e_X5_begin_55 hm hB ?_, CX_m (CX_m hx 4 nM_) 5 (nI 0), CK_m (CK_m (k := k0_ B) ⟨g1, g2⟩ 4 nM_) 5 (nI 0), by simp [sI_at], by simp [sI_at], fun f hf => ?_, fr_tr (fr_sI (by simp)) (fr_sI (by simp))⟩
      · simp (disch := first | assumption | omega) only [Nat.le_refl, Option.some.injEq, Prod.mk.injEq, Value.int.injEq, exists_and_left, exists_eq_left', and_assoc, true_and, and_true, true_implies, false_implies, not_true_eq_false, not_false_eq_true, li_0, li_1, li_2, li_3, li_4, li_5, li_8, li_9, li_10, li_16, li_20, li_80, li_100, li_130, li_144, li_390, li_400, li_M, li_H, li_of, nI_add, pk_mul, cl_, vp_iff, nI_leI, nI_ltI, nI_eq, Nat.add_zero, Nat.zero_add, Nat.reduceEqDiff, Nat.reduceAdd, eq_self, reduceIte, Bool.false_eq_true, li_neg]
      · simp only [List.mem_cons, List.not_mem_nil, or_false, not_or] at hf
        simp [sI_at, hf.1, hf.2]
    | succ n ih =>
      intro i σ1 hi hx g1 g2
      have hi2 : ¬ 144 ≤ i := by omega
      obtain ⟨σ', q1, q2, q3, q4, q5, q6, q7⟩ := ih (i + 1) (sI_ σ1 (m + 4) i (nI 0)) (by omega) (CX_sI hx (by omega)) (by
        intro r hr
        simp only [sI_at, show ¬ m + 1 = m + 4 by omega, show ¬ m + 2 = m + 4 by omega, show ¬ m + 3 = m + 4 by omega, false_and, if_false]
        exact g1 r hr) (by
        intro j hj
        rw [sI_at]
        by_cases e : j = i
        · rw [if_pos ⟨rfl, e⟩]
        · rw [if_neg (fun z => e z.2)]
          exact g2 j (by omega))
      refine ⟨σ', e_X5_begin_55 hm hB ?_, q2, q3, q4, q5, fun f hf => ?_, fr_tr (fr_sI (by simp)) q7⟩
      · simp (disch := first | assumption | omega) only [hi2, Option.some.injEq, Prod.mk.injEq, Value.int.injEq, exists_and_left, exists_eq_left', and_assoc, true_and, and_true, true_implies, false_implies, not_true_eq_false, not_false_eq_true, li_0, li_1, li_2, li_3, li_4, li_5, li_8, li_9, li_10, li_16, li_20, li_80, li_100, li_130, li_144, li_390, li_400, li_M, li_H, li_of, nI_add, pk_mul, cl_, vp_iff, nI_leI, nI_ltI, nI_eq, Nat.add_zero, Nat.zero_add, Nat.reduceEqDiff, Nat.reduceAdd, eq_self, reduceIte, Bool.false_eq_true, li_neg]
        (repeat' apply And.intro) <;> first | omega | rfl | assumption | exact q1
      · rw [q6 f hf, sI_row _ _ _ _ (by omega)]
  have l2 : ∀ n i σ1, i + n = B 0 1 → CX_ σ1 m b B → (∀ r, r < i → σ1.1 (m + 1) r = nI (B 7 r) ∧ σ1.1 (m + 2) r = nI 0 ∧ σ1.1 (m + 3) r = nI 0) → ∃ σ', Ev_ (P_X5_begin KC) 7 [some (.ref m), some (.ref b), some (.int (nI i))] [] σ1 (none, σ') ∧ CX_ σ' m b B ∧ CK_ σ' m B (k0_ B) ∧ σ'.1 m 4 = nM_ ∧ σ'.1 m 5 = nI 0 ∧ NF2_ [4, 5] m σ1 σ' ∧ fr_ [m, m + 1, m + 2, m + 3, m + 4] σ1 σ' := by
    intro n
    induction n with
    | zero =>
      intro i σ1 hi hx g1
      obtain rfl : i = B 0 1 := by omega
      obtain ⟨σ', q1, q2⟩ := l1 144 0 σ1 (by omega) hx g1 (fun j hj => absurd hj (by omega))
      refine ⟨σ', e_X5_begin_7 hm hB ?_, q2⟩
      simp (disch := first | assumption | omega) only [hx.1.2.2, hB, hx.2.1.1.2.1, Nat.le_refl, Option.some.injEq, Prod.mk.injEq, Value.int.injEq, exists_and_left, exists_eq_left', and_assoc, true_and, and_true, true_implies, false_implies, not_true_eq_false, not_false_eq_true, li_0, li_1, li_2, li_3, li_4, li_5, li_8, li_9, li_10, li_16, li_20, li_80, li_100, li_130, li_144, li_390, li_400, li_M, li_H, li_of, nI_add, pk_mul, cl_, vp_iff, nI_leI, nI_ltI, nI_eq, Nat.add_zero, Nat.zero_add, Nat.reduceEqDiff, Nat.reduceAdd, eq_self, reduceIte, Bool.false_eq_true, li_neg]
      exact q1
    | succ n ih =>
      intro i σ1 hi hx g1
      have hi2 : ¬ B 0 1 ≤ i := by omega
      have hi3 : i < B 0 1 := by omega
      obtain ⟨σ', q1, q2, q3, q4, q5, q6, q7⟩ := ih (i + 1) (sI_ (sI_ (sI_ σ1 (m + 1) i (nI (B 7 i))) (m + 2) i (nI 0)) (m + 3) i (nI 0)) (by omega) (CX_sI (CX_sI (CX_sI hx (by omega)) (by omega)) (by omega)) (by
        intro r hr
        by_cases e : r = i
        · subst e
          simp [sI_at]
        · have := g1 r (by omega)
          simp [sI_at, e, this])
      refine ⟨σ', e_X5_begin_7 hm hB ?_, q2, q3, q4, q5, fun f hf => ?_, fr_tr (fr_sI (by simp)) (fr_tr (fr_sI (by simp)) (fr_tr (fr_sI (by simp)) q7))⟩
      · simp (disch := first | assumption | omega) only [hx.1.2.2, hB, hx.2.1.1.2.1, hi2, (hx.2.1.2.2 i hi3).2.2.2.2.1, Option.some.injEq, Prod.mk.injEq, Value.int.injEq, exists_and_left, exists_eq_left', and_assoc, true_and, and_true, true_implies, false_implies, not_true_eq_false, not_false_eq_true, li_0, li_1, li_2, li_3, li_4, li_5, li_8, li_9, li_10, li_16, li_20, li_80, li_100, li_130, li_144, li_390, li_400, li_M, li_H, li_of, nI_add, pk_mul, cl_, vp_iff, nI_leI, nI_ltI, nI_eq, Nat.add_zero, Nat.zero_add, Nat.reduceEqDiff, Nat.reduceAdd, eq_self, reduceIte, Bool.false_eq_true, li_neg]
        (repeat' apply And.intro) <;> first | omega | rfl | assumption | exact q1
      · rw [q6 f hf, sI_row _ _ _ _ (by omega), sI_row _ _ _ _ (by omega), sI_row _ _ _ _ (by omega)]
  have hx0 : CX_ (sR_ σ m 9 (some b)) m b B := ⟨⟨hm, hB, by rw [sR_at, if_pos ⟨rfl, rfl⟩]⟩, hC, hO⟩
  obtain ⟨σ', q1, q2, q3, q4, q5, q6, q7⟩ := l2 (B 0 1) 0 (sR_ σ m 9 (some b)) (by omega) hx0 (fun r hr => absurd hr (by omega))
  refine ⟨σ', z_X5_begin (e_X5_begin_0 hm hB q1), q2, q3, q4, q5, fun f hf => q6 f hf, GF_tr (GF_sR (by simp)) (GF_fr q7 (fun o ho => ho)), fun o i hoi => ?_⟩
  rw [q7.2, sR_at, if_neg hoi]
theorem PC_cg {σ σ' : St_} (h : PC_ σ p P a) (h1 : ∀ o, p ≤ o → o ≤ p + 4 → σ'.1 o = σ.1 o) : PC_ σ' p P a := by
  unfold PC_
  rw [h1 p (by omega) (by omega), h1 (p + 1) (by omega) (by omega), h1 (p + 2) (by omega) (by omega), h1 (p + 3) (by omega) (by omega), h1 (p + 4) (by omega) (by omega)]
  exact h
theorem mp_no {m p : Nat} (hm : isM m) (hp : isP p) : (80 ≤ m ∧ m ≤ 93) ∧ (p + 4 < m ∨ m + 5 < p) := by
  unfold isM at hm
  unfold isP at hp
  omega
theorem c_follow (h : CX_ σ m b B) (hP : isP p) (hp : PC_ σ p P a) (ho : PO_ B P a) (hk : CK_ σ m B k) (h4 : σ.1 m 4 = nM_) (h5 : σ.1 m 5 = nI 0) : ∀ n i, i + n = a → ∃ σ', Ev_ (P_X5_follow KC) 2 [some (.ref m), some (.ref p), some (.int (nI i))] [] σ (none, σ') ∧ CK_ σ' m B (fo_ B P n i k).1 ∧ σ'.1 m 4 = (fo_ B P n i k).2.1 ∧ σ'.1 m 5 = (fo_ B P n i k).2.2 ∧ fr_ [m, m + 1, m + 2, m + 3, m + 4] σ σ' ∧ NF2_ [4, 5] m σ σ' := by
  intro n
  have ha := ho.1
  have hn := mp_no h.1.1 hP
  induction n generalizing σ k with
  | zero =>
    intro i hi
    obtain rfl : i = a := by omega
    refine ⟨σ, e_X5_follow_2 h.1.1 hP ?_, hk, h4, h5, fr_rf _ _, fun _ _ => rfl⟩
    simp (disch := first | assumption | omega) only [hp.1, Nat.le_refl, Option.some.injEq, Prod.mk.injEq, Value.int.injEq, exists_and_left, exists_eq_left', and_assoc, true_and, and_true, true_implies, false_implies, not_true_eq_false, not_false_eq_true, li_0, li_1, li_2, li_3, li_4, li_5, li_8, li_9, li_10, li_16, li_20, li_80, li_100, li_130, li_144, li_390, li_400, li_M, li_H, li_of, nI_add, pk_mul, cl_, vp_iff, nI_leI, nI_ltI, nI_eq, Nat.add_zero, Nat.zero_add, Nat.reduceEqDiff, Nat.reduceAdd, eq_self, reduceIte, Bool.false_eq_true, li_neg]
  | succ n ih =>
    intro i hi
    have hi2 : ¬ a ≤ i := by omega
    have hi3 : i < a := by omega
    have hi4 : ¬ 100 ≤ i := by omega
    obtain ⟨p1, p2, p3, p4⟩ := hp.2 i hi3
    obtain ⟨o1, o2, o3, o4⟩ := ho.2 i hi3
    have o5 := PO_16 ho h.2.2 hi3
    have hw := c_wrongOf h hk o1 o2 o3 o4
    have hwl := wr_lt B k (P i 0) (P i 1) (P i 2) (P i 3)
    have ep : ∀ x j, j ≤ 4 → (sI_ σ m 5 x).1 (p + j) = σ.1 (p + j) := fun x j hj => sI_row _ _ _ _ (by omega)
    have ep1 := fun x => ep x 1 (by omega)
    have ep2 := fun x => ep x 2 (by omega)
    have ep3 := fun x => ep x 3 (by omega)
    have ep4 := fun x => ep x 4 (by omega)
    have e5 : ∀ x, (sI_ σ m 5 x).1 m 5 = x := fun x => by rw [sI_at, if_pos ⟨rfl, rfl⟩]
    by_cases hw0 : wr_ B k (P i 0) (P i 1) (P i 2) (P i 3) = 0
    · have hx1 := CX_m h 5 (nI 0)
      obtain ⟨σ2, g1, g2, g3⟩ := c_perform hx1 (CK_m hk 5 (nI 0)) o1 o2 o3 o5
      have e2 : σ2.1 m = (sI_ σ m 5 (nI 0)).1 m := g3.1 m (by simp)
      obtain ⟨σ', q1, q2, q3, q4, q5, q6⟩ := ih (CX_CF hx1 g3) (PC_cg hp (fun o h1 h2 => (g3.1 o (by simp; omega)).trans (sI_row _ _ _ _ (by omega)))) g2 (by rw [e2, sI_at, if_neg (by omega)]; exact h4) (by rw [e2, e5]) (i + 1) (by omega)
      refine ⟨σ', e_X5_follow_2 h.1.1 hP ?_, by rw [fo_, if_pos hw0]; exact q2, by rw [fo_, if_pos hw0]; exact q3, by rw [fo_, if_pos hw0]; exact q4, fr_tr (fr_sI (by simp)) (fr_tr (fr_mono g3 (fun o ho => by simp at ho; simp [ho])) q5), fun f hf => ?_⟩
      · simp (disch := first | assumption | omega) only [hp.1, hi2, hi4, p1, p2, p3, p4, hw, e5, ep1, ep2, ep3, ep4, hw0, g1, Option.some.injEq, Prod.mk.injEq, Value.int.injEq, exists_and_left, exists_eq_left', and_assoc, true_and, and_true, true_implies, false_implies, not_true_eq_false, not_false_eq_true, li_0, li_1, li_2, li_3, li_4, li_5, li_8, li_9, li_10, li_16, li_20, li_80, li_100, li_130, li_144, li_390, li_400, li_M, li_H, li_of, nI_add, pk_mul, cl_, vp_iff, nI_leI, nI_ltI, nI_eq, Nat.add_zero, Nat.zero_add, Nat.reduceEqDiff, Nat.reduceAdd, eq_self, reduceIte, Bool.false_eq_true, li_neg]
        (repeat' apply And.intro) <;> first | omega | rfl | assumption | exact q1
      · rw [q6 f hf, e2, sI_at, if_neg (fun z => hf (by rw [z.2]; simp))]
    · refine ⟨_, e_X5_follow_2 h.1.1 hP ?_, by rw [fo_, if_neg hw0]; exact CK_m (CK_m hk 5 (nI (wr_ B k (P i 0) (P i 1) (P i 2) (P i 3)))) 4 (nI i), by rw [fo_, if_neg hw0]; simp [sI_at], by rw [fo_, if_neg hw0]; simp [sI_at], fr_tr (fr_sI (by simp)) (fr_sI (by simp)), fun f hf => ?_⟩
      · simp (disch := first | assumption | omega) only [hp.1, hi2, hi4, p1, p2, p3, p4, hw, e5, ep1, ep2, ep3, ep4, hw0, Option.some.injEq, Prod.mk.injEq, Value.int.injEq, exists_and_left, exists_eq_left', and_assoc, true_and, and_true, true_implies, false_implies, not_true_eq_false, not_false_eq_true, li_0, li_1, li_2, li_3, li_4, li_5, li_8, li_9, li_10, li_16, li_20, li_80, li_100, li_130, li_144, li_390, li_400, li_M, li_H, li_of, nI_add, pk_mul, cl_, vp_iff, nI_leI, nI_ltI, nI_eq, Nat.add_zero, Nat.zero_add, Nat.reduceEqDiff, Nat.reduceAdd, eq_self, reduceIte, Bool.false_eq_true, li_neg]
        (repeat' apply And.intro) <;> first | omega | rfl | assumption
      · rw [sI_at, if_neg (fun z => hf (by rw [z.2]; simp)), sI_at, if_neg (fun z => hf (by rw [z.2]; simp))]
end CN
