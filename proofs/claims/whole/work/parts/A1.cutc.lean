/-! the call CUT, on both sides -/
def LY_ (μ μ1 : St_) : Prop := f_X12_lay KC [.ref 219] (sI_ μ 219 0 (nI 0)) = some (none, μ1)
def RC_ (σ μ : St_) : Prop := ∃ N, N ≤ 9 ∧ σ.1 105 1 = nI N ∧ μ.1 219 44 = nI N ∧ ∀ i, i < N → σ.1 106 i = μ.1 238 i
section CC
variable {σ μ μ1 : St_} {b : Nat} {B : Nat → Nat → Nat}
theorem m_cutIn (hl : LY_ μ μ1) (hx : RX_ μ1 B) {k P : Nat} (hk : 1 ≤ k ∧ k ≤ 9) (hP : 1 ≤ P ∧ P ≤ 999) : ∃ μ', f_X12_cut KC [.ref 219, .int (nI k), .int (nI P)] μ = some (some (.int (match cu_ B P k 0 with | none => nM_ | some (v, _) => nI v)), μ') ∧ fr_ [219, 237, 238, 239] μ1 μ' ∧ NF2_ [43, 44, 45] 219 μ1 μ' ∧ (match cu_ B P k 0 with | none => fr_ [219, 237, 239] μ1 μ' ∧ NF2_ [43, 45] 219 μ1 μ' | some (_, l) => μ'.1 219 44 = nI k ∧ ∀ j (hj : j < l.length), μ'.1 238 j = nI l[j]) := by
  have hl' : f_X12_lay KC [.ref 219] (sI_ μ 219 0 (nI 0)) = some (none, μ1) := hl
  have l999 : (999 : Int32) = nI 999 := rfl
  have hO := hx.2
  have h16 := hO.1.1
  have i1 := m_isInYes (μ := μ1) (b := 9) (by omega) hk
  have i2 := m_isInYes (μ := μ1) (b := 999) (by omega) hP
  have hx2 : RX_ (sI_ (sI_ μ1 219 43 nM_) 219 45 (nI P)) B := RX_sI (RX_sI hx (by decide)) (by decide)
  obtain ⟨r, rfl⟩ : ∃ r, k = r + 1 := ⟨k - 1, by omega⟩
  obtain ⟨μ2, q1, q2, q3, q4⟩ := m_tryEnds (k := r + 1) hO hk hP r 80 [] 0 none (sI_ (sI_ μ1 219 43 nM_) 219 45 (nI P)) (by show 0 + (r + 1) = r + 1; omega) (by omega) ⟨fun j hj => absurd hj (by simp), rfl, Nat.zero_le _⟩ ⟨⟨hx2, by rw [sI_at, if_pos ⟨rfl, rfl⟩]⟩, by
    show (sI_ (sI_ μ1 219 43 nM_) 219 45 (nI P)).1 219 43 = nM_
    rw [sI_at, if_neg (by omega), sI_at, if_pos ⟨rfl, rfl⟩]⟩ (fun j hj => absurd hj (by simp))
  have q1' : f_X12_tryEnds KC 80 [.ref 219, .int (nI 0), .int (nI (r + 1)), .int (nI 0)] (sI_ (sI_ μ1 219 43 nM_) 219 45 (nI P)) = some (none, μ2) := q1
  have f0 : fr_ [219, 237, 239] μ1 μ2 := fr_tr (fr_sI (by simp)) (fr_tr (fr_sI (by simp)) q4.1)
  have g0 : NF2_ [43, 45] 219 μ1 μ2 := fun f hf => by
    rw [q4.2 f (fun z => hf (by simp at z ⊢; omega)), sI_at, if_neg (fun z => hf (by rw [z.2]; simp)), sI_at, if_neg (fun z => hf (by rw [z.2]; simp))]
  cases hc : cu_ B P (r + 1) 0 with
  | none =>
    rw [hc] at q2
    have e43 : μ2.1 219 43 = nM_ := q2.2
    refine ⟨μ2, z_X12_cut (e_X12_cut_0 ?_), fr_mono f0 (by simp), fun f hf => g0 f (fun z => hf (by simp at z ⊢; omega)), f0, g0⟩
    simp (disch := first | assumption | omega) only [hl', l999, i1, i2, q1', e43, Option.some.injEq, Prod.mk.injEq, Value.int.injEq, exists_and_left, exists_eq_left', and_assoc, true_and, and_true, true_implies, false_implies, not_true_eq_false, not_false_eq_true, li_0, li_1, li_2, li_3, li_4, li_5, li_8, li_9, li_10, li_16, li_20, li_80, li_100, li_130, li_144, li_390, li_400, li_M, li_H, li_of, nI_add, pk_mul, cl_, vp_iff, nI_leI, nI_ltI, nI_eq, Nat.add_zero, Nat.zero_add, Nat.reduceEqDiff, Nat.reduceAdd, eq_self, reduceIte, Bool.false_eq_true, li_neg]
  | some x =>
    obtain ⟨v, l⟩ := x
    rw [hc] at q2
    obtain ⟨v1, v2, v3, v4⟩ := q2.2
    have e43 : μ2.1 219 43 = nI v := by
      have : μ2.1 219 43 = nI (0 + v) := v2
      rw [Nat.zero_add] at this
      exact this
    have hvb : v ≤ 160 := by
      have : 0 + v ≤ 160 := v1
      omega
    have hn : ¬ nI v = nM_ := nI_m1 (by omega)
    have hll : l.length = r + 1 := cu_len _ _ _ _ hc
    obtain ⟨μ3, p1, p2, p3⟩ := m_cut67 (N := r + 1) (x2 := nI P) (g := fun j => nI (pE_ l j)) (by omega) (r + 1) 0 (sI_ μ2 219 44 (nI (r + 1))) (by omega) (fun j hj => by rw [sI_row _ _ _ _ (by decide)]; exact v4 j hj) (fun j hj => absurd hj (by omega))
    have e43' : (sI_ μ2 219 44 (nI (r + 1))).1 219 43 = nI v := by rw [sI_at, if_neg (by omega)]; exact e43
    rw [e43'] at p1
    refine ⟨μ3, z_X12_cut (e_X12_cut_0 ?_), fr_tr (fr_mono f0 (by simp)) (fr_tr (fr_sI (by simp)) (fr_mono p3 (by simp))), fun f hf => by rw [p3.1 219 (by decide), sI_at, if_neg (fun z => hf (by rw [z.2]; simp)), g0 f (fun z => hf (by simp at z ⊢; omega))], by rw [p3.1 219 (by decide), sI_at, if_pos ⟨rfl, rfl⟩], fun j hj => ?_⟩
    · simp (disch := first | assumption | omega) only [hl', l999, i1, i2, q1', e43, hn, Option.some.injEq, Prod.mk.injEq, Value.int.injEq, exists_and_left, exists_eq_left', and_assoc, true_and, and_true, true_implies, false_implies, not_true_eq_false, not_false_eq_true, li_0, li_1, li_2, li_3, li_4, li_5, li_8, li_9, li_10, li_16, li_20, li_80, li_100, li_130, li_144, li_390, li_400, li_M, li_H, li_of, nI_add, pk_mul, cl_, vp_iff, nI_leI, nI_ltI, nI_eq, Nat.add_zero, Nat.zero_add, Nat.reduceEqDiff, Nat.reduceAdd, eq_self, reduceIte, Bool.false_eq_true, li_neg]
      (repeat' apply And.intro) <;> first | omega | rfl | assumption | exact p1
    · rw [p2 j (by omega)]
      show nI (pE_ l j) = nI l[j]
      unfold pE_
      rw [List.getD_eq_getElem?_getD, List.getElem?_eq_getElem hj]
      rfl
theorem cut_both (hB : isB b) (h12 : σ.2.2 0 12 = some b) (hC : CB_ σ b B) (hl : LY_ μ μ1) (hx : RX_ μ1 B) (x1 x2 : Int32) : ∃ v σ' μ', f_X11_cut KC [.ref 0, .int x1, .int x2] σ = some (some (.int v), σ') ∧ f_X12_cut KC [.ref 219, .int x1, .int x2] μ = some (some (.int v), μ') ∧ fr_ (105 :: 106 :: cutS_) σ σ' ∧ NF2_ [1] 105 σ σ' ∧ fr_ [219, 237, 238, 239] μ1 μ' ∧ NF2_ [43, 44, 45] 219 μ1 μ' ∧ (RC_ σ μ1 → RC_ σ' μ') := by
  have hl' : f_X12_lay KC [.ref 219] (sI_ μ 219 0 (nI 0)) = some (none, μ1) := hl
  have hO := hx.2
  have l999 : (999 : Int32) = nI 999 := rfl
  rcases in_or x1 (a := 1) (b := 9) (by omega) (by omega) with ⟨k, rfl, k1, k2⟩ | h1
  · have i1 := m_isInYes (μ := μ1) (b := 9) (by omega) (show 1 ≤ k ∧ k ≤ 9 from ⟨k1, k2⟩)
    have k1' : ¬ k < 1 := by omega
    have k2' : ¬ 9 < k := by omega
    rcases in_or x2 (a := 1) (b := 999) (by omega) (by omega) with ⟨P, rfl, p1, p2⟩ | h2
    · have p1' : ¬ P < 1 := by omega
      obtain ⟨σ', a1, a2⟩ := c_cut hB hO ⟨k1, k2⟩ ⟨p1, p2⟩ hC
      obtain ⟨μ', b1, b2, b3, b4⟩ := m_cutIn hl hx ⟨k1, k2⟩ ⟨p1, p2⟩
      refine ⟨_, σ', μ', z_X11_cut (e_X11_cut_0 ?_), b1, ?_, ?_, b2, b3, ?_⟩
      · simp (disch := first | assumption | omega) only [k1', k2', l999, p1', p2, h12, hB, a1, Option.some.injEq, Prod.mk.injEq, Value.int.injEq, exists_and_left, exists_eq_left', and_assoc, true_and, and_true, true_implies, false_implies, not_true_eq_false, not_false_eq_true, li_0, li_1, li_2, li_3, li_4, li_5, li_8, li_9, li_10, li_16, li_20, li_80, li_100, li_130, li_144, li_390, li_400, li_M, li_H, li_of, nI_add, pk_mul, cl_, vp_iff, nI_leI, nI_ltI, nI_eq, Nat.add_zero, Nat.zero_add, Nat.reduceEqDiff, Nat.reduceAdd, eq_self, reduceIte, Bool.false_eq_true, li_neg]
        cases cu_ B P k 0 <;> rfl
      · cases hc : cu_ B P k 0 with
        | none =>
          rw [hc] at a2
          exact fr_mono a2 (fun o ho => by simp [ho])
        | some x =>
          rw [hc] at a2
          exact a2.2.2.1
      · cases hc : cu_ B P k 0 with
        | none =>
          rw [hc] at a2
          exact fun f _ => by rw [a2.1 105 (by decide)]
        | some x =>
          rw [hc] at a2
          exact a2.2.2.2
      · cases hc : cu_ B P k 0 with
        | none =>
          rw [hc] at a2 b4
          rintro ⟨N, n1, n2, n3, n4⟩
          exact ⟨N, n1, by rw [a2.1 105 (by decide)]; exact n2, by rw [b4.2 44 (by simp)]; exact n3, fun i hi => by rw [a2.1 106 (by decide), b4.1.1 238 (by decide)]; exact n4 i hi⟩
        | some x =>
          obtain ⟨v, l⟩ := x
          rw [hc] at a2 b4
          have hll : l.length = k := cu_len _ _ _ _ hc
          exact fun _ => ⟨k, k2, a2.1, b4.1, fun i hi => by rw [a2.2.1 i (by omega), b4.2 i (by omega)]⟩
    · have i2 := m_isInNo (μ := μ1) h2
      refine ⟨(-2), σ, μ1, z_X11_cut (e_X11_cut_0 ?_), z_X12_cut (e_X12_cut_0 ?_), fr_rf _ _, fun _ _ => rfl, fr_rf _ _, fun _ _ => rfl, id⟩
      · by_cases h3 : x2 < nI 1
        · simp (disch := first | assumption | omega) only [k1', k2', h3, Option.some.injEq, Prod.mk.injEq, Value.int.injEq, exists_and_left, exists_eq_left', and_assoc, true_and, and_true, true_implies, false_implies, not_true_eq_false, not_false_eq_true, li_0, li_1, li_2, li_3, li_4, li_5, li_8, li_9, li_10, li_16, li_20, li_80, li_100, li_130, li_144, li_390, li_400, li_M, li_H, li_of, nI_add, pk_mul, cl_, vp_iff, nI_leI, nI_ltI, nI_eq, Nat.add_zero, Nat.zero_add, Nat.reduceEqDiff, Nat.reduceAdd, eq_self, reduceIte, Bool.false_eq_true, li_neg]
        · have h4 := Int32.not_le.mpr (h2.resolve_left h3)
          simp (disch := first | assumption | omega) only [k1', k2', h3, l999, h4, Option.some.injEq, Prod.mk.injEq, Value.int.injEq, exists_and_left, exists_eq_left', and_assoc, true_and, and_true, true_implies, false_implies, not_true_eq_false, not_false_eq_true, li_0, li_1, li_2, li_3, li_4, li_5, li_8, li_9, li_10, li_16, li_20, li_80, li_100, li_130, li_144, li_390, li_400, li_M, li_H, li_of, nI_add, pk_mul, cl_, vp_iff, nI_leI, nI_ltI, nI_eq, Nat.add_zero, Nat.zero_add, Nat.reduceEqDiff, Nat.reduceAdd, eq_self, reduceIte, Bool.false_eq_true, li_neg]
      · simp (disch := first | assumption | omega) only [hl', l999, i1, i2, Option.some.injEq, Prod.mk.injEq, Value.int.injEq, exists_and_left, exists_eq_left', and_assoc, true_and, and_true, true_implies, false_implies, not_true_eq_false, not_false_eq_true, li_0, li_1, li_2, li_3, li_4, li_5, li_8, li_9, li_10, li_16, li_20, li_80, li_100, li_130, li_144, li_390, li_400, li_M, li_H, li_of, nI_add, pk_mul, cl_, vp_iff, nI_leI, nI_ltI, nI_eq, Nat.add_zero, Nat.zero_add, Nat.reduceEqDiff, Nat.reduceAdd, eq_self, reduceIte, Bool.false_eq_true, li_neg]
  · have i1 := m_isInNo (μ := μ1) h1
    refine ⟨(-2), σ, μ1, z_X11_cut (e_X11_cut_0 ?_), z_X12_cut (e_X12_cut_0 ?_), fr_rf _ _, fun _ _ => rfl, fr_rf _ _, fun _ _ => rfl, id⟩
    · by_cases h3 : x1 < nI 1
      · simp (disch := first | assumption | omega) only [h3, Option.some.injEq, Prod.mk.injEq, Value.int.injEq, exists_and_left, exists_eq_left', and_assoc, true_and, and_true, true_implies, false_implies, not_true_eq_false, not_false_eq_true, li_0, li_1, li_2, li_3, li_4, li_5, li_8, li_9, li_10, li_16, li_20, li_80, li_100, li_130, li_144, li_390, li_400, li_M, li_H, li_of, nI_add, pk_mul, cl_, vp_iff, nI_leI, nI_ltI, nI_eq, Nat.add_zero, Nat.zero_add, Nat.reduceEqDiff, Nat.reduceAdd, eq_self, reduceIte, Bool.false_eq_true, li_neg]
      · have h4 := h1.resolve_left h3
        simp (disch := first | assumption | omega) only [h3, h4, Option.some.injEq, Prod.mk.injEq, Value.int.injEq, exists_and_left, exists_eq_left', and_assoc, true_and, and_true, true_implies, false_implies, not_true_eq_false, not_false_eq_true, li_0, li_1, li_2, li_3, li_4, li_5, li_8, li_9, li_10, li_16, li_20, li_80, li_100, li_130, li_144, li_390, li_400, li_M, li_H, li_of, nI_add, pk_mul, cl_, vp_iff, nI_leI, nI_ltI, nI_eq, Nat.add_zero, Nat.zero_add, Nat.reduceEqDiff, Nat.reduceAdd, eq_self, reduceIte, Bool.false_eq_true, li_neg]
    · simp (disch := first | assumption | omega) only [hl', l999, i1, Option.some.injEq, Prod.mk.injEq, Value.int.injEq, exists_and_left, exists_eq_left', and_assoc, true_and, and_true, true_implies, false_implies, not_true_eq_false, not_false_eq_true, li_0, li_1, li_2, li_3, li_4, li_5, li_8, li_9, li_10, li_16, li_20, li_80, li_100, li_130, li_144, li_390, li_400, li_M, li_H, li_of, nI_add, pk_mul, cl_, vp_iff, nI_leI, nI_ltI, nI_eq, Nat.add_zero, Nat.zero_add, Nat.reduceEqDiff, Nat.reduceAdd, eq_self, reduceIte, Bool.false_eq_true, li_neg]
end CC
