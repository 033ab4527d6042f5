/-! make, the class: what comes of a kind -/
noncomputable def Z0_ (B : Nat → Nat → Nat) : T_ := (k0_ B, fun _ _ => 0, 0)
def MT_ (B : Nat → Nat → Nat) (w k : Nat) (T : T_) : Prop := (w = 0 → T = rw_ B (B 0 1 + B 0 0) 0 0 (Z0_ B)) ∧ (w = 1 → ∃ q, pq_ B k q (B 0 0) ∧ ec_ B k q ∧ T = lpa_ B q (Z0_ B) (B 0 0)) ∧ (w = 2 → T = (tw2_ B (rw_ B (B 0 1 + B 0 0) 0 0 (Z0_ B)) (min k (B 0 0))).2) ∧ (w = 3 → T = cha_ B k (rw_ B (B 0 1 + B 0 0) 0 0 (Z0_ B)) (B 0 0)) ∧ (w = 4 → T = rda_ B k (rw_ B (B 0 1 + B 0 0) 0 0 (Z0_ B)) (B 0 1))
theorem MT_one {B : Nat → Nat → Nat} {w k : Nat} {T T' : T_} (hw : w ≤ 4) (h : MT_ B w k T) (h' : MT_ B w k T') : T = T' := by
  have w5 : w = 0 ∨ w = 1 ∨ w = 2 ∨ w = 3 ∨ w = 4 := by omega
  obtain ⟨a0, a1, a2, a3, a4⟩ := h
  obtain ⟨b0, b1, b2, b3, b4⟩ := h'
  rcases w5 with e | e | e | e | e
  · rw [a0 e, b0 e]
  · obtain ⟨q, q1, q2, q3⟩ := a1 e
    obtain ⟨r, r1, r2, r3⟩ := b1 e
    rw [q3, r3]
    exact lpa_cg (pq_one q1 q2 r1 r2) _ _ (Nat.le_refl _)
  · rw [a2 e, b2 e]
  · rw [a3 e, b3 e]
  · rw [a4 e, b4 e]
section CR2
variable {σ μ μ1 : St_} {b p : Nat} {B : Nat → Nat → Nat}
theorem c_fill {w k : Nat} {x : Int32} (hx : w ≠ 0 → x = nI k) (hw : w ≤ 4) (hk : w ≠ 0 → 1 ≤ k ∧ k ≤ lim_ w) (h : CG_ σ b p B (Z0_ B)) (h91 : ∀ x, x < 16 → ∃ y, y < 16 ∧ σ.1 91 x = nI y) : ∃ σ' T, f_X4_fill KC [.ref 85, .int (nI w), .int x] σ = some (none, σ') ∧ MT_ B w k T ∧ CG_ σ' b p B T ∧ fr_ [p, p + 1, p + 2, p + 3, p + 4, 87, 88, 89, 90, 91] σ σ' ∧ (∀ x, x < 16 → ∃ y, y < 16 ∧ σ'.1 91 x = nI y) := by
  have w5 : w = 0 ∨ w = 1 ∨ w = 2 ∨ w = 3 ∨ w = 4 := by omega
  have hP := h.1.2.2.2
  have hpn : p + 4 < 91 ∨ 91 < p := by unfold isP at hP; omega
  have keep : ∀ σ' : St_, CFp_ p σ σ' → fr_ [p, p + 1, p + 2, p + 3, p + 4, 87, 88, 89, 90, 91] σ σ' ∧ (∀ x, x < 16 → ∃ y, y < 16 ∧ σ'.1 91 x = nI y) := fun σ' hf => ⟨fr_mono hf (fun o ho => by simp at ho ⊢; omega), fun x hx => by rw [hf.1 91 (by simp; omega)]; exact h91 x hx⟩
  rcases w5 with rfl | rfl | rfl | rfl | rfl
  · obtain ⟨σ1, r1, r2, r3⟩ := c_addRows h rfl
    have ht : (nI 0).toInt < 2 ∨ 4 < (nI 0).toInt := .inl (by decide)
    refine ⟨σ1, _, z_X4_fill (e_X4_fill_0 ?_), ⟨fun _ => rfl, fun z => absurd z (by decide), fun z => absurd z (by decide), fun z => absurd z (by decide), fun z => absurd z (by decide)⟩, r2, keep σ1 r3⟩
    simp (disch := first | assumption | omega) only [r1, ht, Option.some.injEq, Prod.mk.injEq, Value.int.injEq, exists_and_left, exists_eq_left', and_assoc, true_and, and_true, true_implies, false_implies, not_true_eq_false, not_false_eq_true, li_0, li_1, li_2, li_3, li_4, li_5, li_8, li_9, li_10, li_16, li_20, li_80, li_100, li_130, li_144, li_390, li_400, li_M, li_H, li_of, nI_add, pk_mul, cl_, vp_iff, nI_leI, nI_ltI, nI_eq, Nat.add_zero, Nat.zero_add, Nat.reduceEqDiff, Nat.reduceAdd, eq_self, reduceIte, Bool.false_eq_true, li_neg]
  · have hk1 := hk (by decide)
    have e := hx (by decide)
    subst e
    obtain ⟨σ1, q, r1, r2, r3, r4, r5, r6, r7⟩ := c_addParts (f := k) (by unfold lim_ at hk1; simp at hk1; omega) h h91
    refine ⟨σ1, _, z_X4_fill (e_X4_fill_0 ?_), ⟨fun z => absurd z (by decide), fun _ => ⟨q, r3, r4, rfl⟩, fun z => absurd z (by decide), fun z => absurd z (by decide), fun z => absurd z (by decide)⟩, r2, r7, fun x hx => ?_⟩
    · simp (disch := first | assumption | omega) only [r1, Option.some.injEq, Prod.mk.injEq, Value.int.injEq, exists_and_left, exists_eq_left', and_assoc, true_and, and_true, true_implies, false_implies, not_true_eq_false, not_false_eq_true, li_0, li_1, li_2, li_3, li_4, li_5, li_8, li_9, li_10, li_16, li_20, li_80, li_100, li_130, li_144, li_390, li_400, li_M, li_H, li_of, nI_add, pk_mul, cl_, vp_iff, nI_leI, nI_ltI, nI_eq, Nat.add_zero, Nat.zero_add, Nat.reduceEqDiff, Nat.reduceAdd, eq_self, reduceIte, Bool.false_eq_true, li_neg]
    · by_cases hc : x < B 0 0
      · exact ⟨q x, (r5 x hc).2, (r5 x hc).1⟩
      · rw [r6 x (by omega)]
        exact h91 x hx
  · have hk1 := hk (by decide)
    have e := hx (by decide)
    subst e
    obtain ⟨σ1, r1, r2, r3⟩ := c_addRows h rfl
    obtain ⟨σ2, s1, s2, s3⟩ := c_second (r := k) (by unfold lim_ at hk1; simp at hk1; omega) (min k (B 0 0)) 0 _ σ1 (by omega) r2
    have s1' : f_X4_addSecondReadings KC [.ref 85, .int (nI k)] σ1 = some (none, σ2) := z_X4_addSecondReadings (e_X4_addSecondReadings_0 s1)
    have ht : ¬ ((nI 2).toInt < 2 ∨ 4 < (nI 2).toInt) := by decide
    refine ⟨σ2, _, z_X4_fill (e_X4_fill_0 ?_), ⟨fun z => absurd z (by decide), fun z => absurd z (by decide), fun _ => rfl, fun z => absurd z (by decide), fun z => absurd z (by decide)⟩, s2, keep σ2 (fr_tr r3 s3)⟩
    simp (disch := first | assumption | omega) only [r1, ht, s1', Option.some.injEq, Prod.mk.injEq, Value.int.injEq, exists_and_left, exists_eq_left', and_assoc, true_and, and_true, true_implies, false_implies, not_true_eq_false, not_false_eq_true, li_0, li_1, li_2, li_3, li_4, li_5, li_8, li_9, li_10, li_16, li_20, li_80, li_100, li_130, li_144, li_390, li_400, li_M, li_H, li_of, nI_add, pk_mul, cl_, vp_iff, nI_leI, nI_ltI, nI_eq, Nat.add_zero, Nat.zero_add, Nat.reduceEqDiff, Nat.reduceAdd, eq_self, reduceIte, Bool.false_eq_true, li_neg]
  · have hk1 := hk (by decide)
    have e := hx (by decide)
    subst e
    obtain ⟨σ1, r1, r2, r3⟩ := c_addRows h rfl
    obtain ⟨σ2, s1, s2, s3⟩ := c_addChains (f := k) (by unfold lim_ at hk1; simp at hk1; omega) (B 0 0) 0 _ σ1 (by omega) r2
    have s1' : f_X4_addChains KC [.ref 85, .int (nI k)] σ1 = some (none, σ2) := z_X4_addChains (e_X4_addChains_0 s1)
    have ht : ¬ ((nI 3).toInt < 2 ∨ 4 < (nI 3).toInt) := by decide
    refine ⟨σ2, _, z_X4_fill (e_X4_fill_0 ?_), ⟨fun z => absurd z (by decide), fun z => absurd z (by decide), fun z => absurd z (by decide), fun _ => rfl, fun z => absurd z (by decide)⟩, s2, keep σ2 (fr_tr r3 s3)⟩
    simp (disch := first | assumption | omega) only [r1, ht, s1', Option.some.injEq, Prod.mk.injEq, Value.int.injEq, exists_and_left, exists_eq_left', and_assoc, true_and, and_true, true_implies, false_implies, not_true_eq_false, not_false_eq_true, li_0, li_1, li_2, li_3, li_4, li_5, li_8, li_9, li_10, li_16, li_20, li_80, li_100, li_130, li_144, li_390, li_400, li_M, li_H, li_of, nI_add, pk_mul, cl_, vp_iff, nI_leI, nI_ltI, nI_eq, Nat.add_zero, Nat.zero_add, Nat.reduceEqDiff, Nat.reduceAdd, eq_self, reduceIte, Bool.false_eq_true, li_neg]
  · have hk1 := hk (by decide)
    have e := hx (by decide)
    subst e
    obtain ⟨σ1, r1, r2, r3⟩ := c_addRows h rfl
    obtain ⟨σ2, s1, s2, s3⟩ := c_addRounds (f := k) (by unfold lim_ at hk1; simp at hk1; omega) (B 0 1) 0 _ σ1 (by omega) r2
    have s1' : f_X4_addRounds KC [.ref 85, .int (nI k)] σ1 = some (none, σ2) := z_X4_addRounds (e_X4_addRounds_0 s1)
    have ht : ¬ ((nI 4).toInt < 2 ∨ 4 < (nI 4).toInt) := by decide
    refine ⟨σ2, _, z_X4_fill (e_X4_fill_0 ?_), ⟨fun z => absurd z (by decide), fun z => absurd z (by decide), fun z => absurd z (by decide), fun z => absurd z (by decide), fun _ => rfl⟩, s2, keep σ2 (fr_tr r3 s3)⟩
    simp (disch := first | assumption | omega) only [r1, ht, s1', Option.some.injEq, Prod.mk.injEq, Value.int.injEq, exists_and_left, exists_eq_left', and_assoc, true_and, and_true, true_implies, false_implies, not_true_eq_false, not_false_eq_true, li_0, li_1, li_2, li_3, li_4, li_5, li_8, li_9, li_10, li_16, li_20, li_80, li_100, li_130, li_144, li_390, li_400, li_M, li_H, li_of, nI_add, pk_mul, cl_, vp_iff, nI_leI, nI_ltI, nI_eq, Nat.add_zero, Nat.zero_add, Nat.reduceEqDiff, Nat.reduceAdd, eq_self, reduceIte, Bool.false_eq_true, li_neg]
end CR2
