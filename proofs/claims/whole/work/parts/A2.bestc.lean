/-! the call BEST, on both sides -/
def RB_ (σ μ : St_) : Prop := ∃ N, N ≤ 6 ∧ σ.1 99 1 = nI N ∧ μ.1 219 40 = nI N ∧ ∀ i, i < N → σ.1 100 i = μ.1 236 i
theorem tl_in {P : Int32 × (Nat → Nat) → Prop} {f : Nat → Int32 × (Nat → Nat) → Int32 × (Nat → Nat)} : ∀ n s, P s → (∀ r s, r < n → P s → P (f r s)) → P (tl_ f n s)
  | 0, _, h, _ => h
  | n + 1, s, h, hf => by
    rw [tl_]
    exact hf n _ (by omega) (tl_in n s h (fun r s hr => hf r s (by omega)))
theorem tr_in {B : Nat → Nat → Nat} {m w : Nat} : ∀ n c v s, c + n = m → (∀ d, d < c → v d ≤ w) → (∀ d, d < m → s.2 d ≤ w) → ∀ d, d < m → (tr_ B m w n c v s).2 d ≤ w
  | 0, c, v, s, hc, hv, hs => by
    rw [tr_]
    split
    · exact fun d hd => hv d (by omega)
    · exact hs
  | n + 1, c, v, s, hc, hv, hs => by
    rw [tr_]
    refine tl_in (P := fun s => ∀ d, d < m → s.2 d ≤ w) _ s hs (fun r s1 hr h1 => tr_in n (c + 1) (ud_ v c r) s1 (by omega) (fun d hd => ?_) h1)
    unfold ud_
    split
    · omega
    · exact hv d (by omega)
section CB
variable {σ μ μ1 : St_} {b : Nat} {B : Nat → Nat → Nat}
theorem m_bestIn (hl : LY_ μ μ1) (hx : RX_ μ1 B) {m w : Nat} (hm : 1 ≤ m ∧ m ≤ 6) (hw : 1 ≤ w ∧ w ≤ 4) (hm2 : m ≤ B 0 0) (hw2 : w ≤ B 0 1) : ∃ μ', f_X12_best KC [.ref 219, .int (nI m), .int (nI w)] μ = some (some (.int (bs0_ B m w).1), μ') ∧ fr_ [219, 229, 230, 231, 232, 234, 235, 236] μ1 μ' ∧ NF2_ [37, 38, 39, 40] 219 μ1 μ' ∧ μ'.1 219 40 = nI m ∧ ∀ j, j < m → μ'.1 236 j = tv_ w ((bs0_ B m w).2 j) := by
  have hl' : f_X12_lay KC [.ref 219] (sI_ μ 219 0 (nI 0)) = some (none, μ1) := hl
  have l6 : (6 : Int32) = nI 6 := rfl
  have hO := hx.2
  have h16 := hO.1.1
  have h9 := hO.1.2.1
  have i1 := m_isInYes (μ := μ1) (b := 6) (by omega) hm
  have i2 := m_isInYes (μ := μ1) (b := 4) (by omega) hw
  have g1 : ¬ B 0 0 < m := by omega
  have hx2 : RX_ (sI_ (sI_ (sI_ μ1 219 38 (nI m)) 219 39 (nI w)) 219 37 nM_) B := RX_sI (RX_sI (RX_sI hx (by decide)) (by decide)) (by decide)
  obtain ⟨μ2, q1, q2, q3⟩ := m_tryReaders hw2 hw.2 hm2 hm.2 m 0 80 (fun _ => 0) (nM_, fun _ => 0) (sI_ (sI_ (sI_ μ1 219 38 (nI m)) 219 39 (nI w)) 219 37 nM_) (by omega) (by omega) (fun d hd => absurd hd (by omega)) ⟨hx2, ⟨by rw [sI_at, if_neg (by omega), sI_at, if_neg (by omega), sI_at, if_pos ⟨rfl, rfl⟩], by rw [sI_at, if_neg (by omega), sI_at, if_pos ⟨rfl, rfl⟩]⟩, ⟨by rw [sI_at, if_pos ⟨rfl, rfl⟩], .inl rfl⟩, fun d hd => absurd hd (by omega)⟩
  have q2' : RS_ μ2 B m w (fun _ => 0) 0 (bs0_ B m w) := q2
  have hf := bs0_found hO hw2 hm2
  have e37 := q2'.2.2.1.1
  have e235 := q2'.2.2.1.2.resolve_left hf
  have hin : ∀ d, d < m → (bs0_ B m w).2 d ≤ w := tr_in m 0 _ _ (by omega) (fun d hd => absurd hd (by omega)) (fun d hd => Nat.zero_le _)
  obtain ⟨μ3, p1, p2, p3⟩ := m_best73 hm.2 (show w ≤ 9 by omega) (g := (bs0_ B m w).2) hin m 0 (sI_ μ2 219 40 (nI m)) (by omega) (fun j hj => by rw [sI_row _ _ _ _ (by decide)]; exact e235 j hj) (fun j hj => absurd hj (by omega))
  rw [sI_at, if_neg (by omega), e37] at p1
  refine ⟨μ3, z_X12_best (e_X12_best_0 ?_), fr_tr (fr_sI (by simp)) (fr_tr (fr_sI (by simp)) (fr_tr (fr_sI (by simp)) (fr_tr (fr_mono q3.1 (by simp)) (fr_tr (fr_sI (by simp)) (fr_mono p3 (by simp)))))), fun f hf => by rw [p3.1 219 (by decide), sI_at, if_neg (fun z => hf (by rw [z.2]; simp)), q3.2 f (fun z => hf (by simp at z ⊢; omega)), sI_at, if_neg (fun z => hf (by rw [z.2]; simp)), sI_at, if_neg (fun z => hf (by rw [z.2]; simp)), sI_at, if_neg (fun z => hf (by rw [z.2]; simp))], by rw [p3.1 219 (by decide), sI_at, if_pos ⟨rfl, rfl⟩], p2⟩
  simp (disch := first | assumption | omega) only [hl', l6, i1, i2, m_chaps hx, m_readers hx, g1, hw2, q1, Option.some.injEq, Prod.mk.injEq, Value.int.injEq, exists_and_left, exists_eq_left', and_assoc, true_and, and_true, true_implies, false_implies, not_true_eq_false, not_false_eq_true, li_0, li_1, li_2, li_3, li_4, li_5, li_8, li_9, li_10, li_16, li_20, li_80, li_100, li_130, li_144, li_390, li_400, li_M, li_H, li_of, nI_add, pk_mul, cl_, vp_iff, nI_leI, nI_ltI, nI_eq, Nat.add_zero, Nat.zero_add, Nat.reduceEqDiff, Nat.reduceAdd, eq_self, reduceIte, Bool.false_eq_true, li_neg]
  (repeat' apply And.intro) <;> first | omega | rfl | assumption | exact p1
theorem best_both (hB : isB b) (h12 : σ.2.2 0 12 = some b) (hC : CB_ σ b B) (hl : LY_ μ μ1) (hx : RX_ μ1 B) (x1 x2 : Int32) : ∃ v σ' μ', f_X11_best KC [.ref 0, .int x1, .int x2] σ = some (some (.int v), σ') ∧ f_X12_best KC [.ref 219, .int x1, .int x2] μ = some (some (.int v), μ') ∧ GF_ [99, 100, 101, 102, 103, 104] σ σ' ∧ fr_ [219, 229, 230, 231, 232, 234, 235, 236] μ1 μ' ∧ NF2_ [37, 38, 39, 40] 219 μ1 μ' ∧ (RB_ σ μ1 → RB_ σ' μ') := by
  have hl' : f_X12_lay KC [.ref 219] (sI_ μ 219 0 (nI 0)) = some (none, μ1) := hl
  have l6 : (6 : Int32) = nI 6 := rfl
  have l4 : (4 : Int32) = nI 4 := rfl
  have hO := hx.2
  have h16 := hO.1.1
  have h9 := hO.1.2.1
  have no : f_X11_best KC [.ref 0, .int x1, .int x2] σ = some (some (.int nM_), σ) → f_X12_best KC [.ref 219, .int x1, .int x2] μ = some (some (.int nM_), μ1) → ∃ v σ' μ', f_X11_best KC [.ref 0, .int x1, .int x2] σ = some (some (.int v), σ') ∧ f_X12_best KC [.ref 219, .int x1, .int x2] μ = some (some (.int v), μ') ∧ GF_ [99, 100, 101, 102, 103, 104] σ σ' ∧ fr_ [219, 229, 230, 231, 232, 234, 235, 236] μ1 μ' ∧ NF2_ [37, 38, 39, 40] 219 μ1 μ' ∧ (RB_ σ μ1 → RB_ σ' μ') := fun a1 a2 => ⟨nM_, σ, μ1, a1, a2, GF_rf _ _, fr_rf _ _, fun _ _ => rfl, id⟩
  rcases in_or x1 (a := 1) (b := 6) (by omega) (by omega) with ⟨m, rfl, k1, k2⟩ | h1
  · have i1 := m_isInYes (μ := μ1) (b := 6) (by omega) (show 1 ≤ m ∧ m ≤ 6 from ⟨k1, k2⟩)
    have k1' : ¬ m < 1 := by omega
    have k2' : ¬ 6 < m := by omega
    rcases in_or x2 (a := 1) (b := 4) (by omega) (by omega) with ⟨w, rfl, p1, p2⟩ | h2
    · have p1' : ¬ w < 1 := by omega
      have p2' : ¬ 4 < w := by omega
      have i2 := m_isInYes (μ := μ1) (b := 4) (by omega) (show 1 ≤ w ∧ w ≤ 4 from ⟨p1, p2⟩)
      by_cases c1 : m ≤ B 0 0
      · have c1' : ¬ B 0 0 < m := by omega
        by_cases c2 : w ≤ B 0 1
        · obtain ⟨σ', a1, a2, a3, a4⟩ := c_search hB hC hO c1 k2 c2 p2
          obtain ⟨μ', b1, b2, b3, b4, b5⟩ := m_bestIn hl hx ⟨k1, k2⟩ ⟨p1, p2⟩ c1 c2
          refine ⟨_, σ', μ', z_X11_best (e_X11_best_0 ?_), b1, a4, b2, b3, fun _ => ⟨m, k2, a2, b4, fun i hi => by rw [a3 i hi, b5 i hi]⟩⟩
          simp (disch := first | assumption | omega) only [k1', l6, k2', h12, hB, hC.1.1, c1, p1', l4, p2', hC.1.2.1, c2, a1, Option.some.injEq, Prod.mk.injEq, Value.int.injEq, exists_and_left, exists_eq_left', and_assoc, true_and, and_true, true_implies, false_implies, not_true_eq_false, not_false_eq_true, li_0, li_1, li_2, li_3, li_4, li_5, li_8, li_9, li_10, li_16, li_20, li_80, li_100, li_130, li_144, li_390, li_400, li_M, li_H, li_of, nI_add, pk_mul, cl_, vp_iff, nI_leI, nI_ltI, nI_eq, Nat.add_zero, Nat.zero_add, Nat.reduceEqDiff, Nat.reduceAdd, eq_self, reduceIte, Bool.false_eq_true, li_neg]
        · refine no (z_X11_best (e_X11_best_0 ?_)) (z_X12_best (e_X12_best_0 ?_))
          · simp (disch := first | assumption | omega) only [k1', l6, k2', h12, hB, hC.1.1, c1, p1', l4, p2', hC.1.2.1, c2, Option.some.injEq, Prod.mk.injEq, Value.int.injEq, exists_and_left, exists_eq_left', and_assoc, true_and, and_true, true_implies, false_implies, not_true_eq_false, not_false_eq_true, li_0, li_1, li_2, li_3, li_4, li_5, li_8, li_9, li_10, li_16, li_20, li_80, li_100, li_130, li_144, li_390, li_400, li_M, li_H, li_of, nI_add, pk_mul, cl_, vp_iff, nI_leI, nI_ltI, nI_eq, Nat.add_zero, Nat.zero_add, Nat.reduceEqDiff, Nat.reduceAdd, eq_self, reduceIte, Bool.false_eq_true, li_neg]
          · simp (disch := first | assumption | omega) only [hl', l6, i1, i2, m_chaps hx, m_readers hx, c1', c2, Option.some.injEq, Prod.mk.injEq, Value.int.injEq, exists_and_left, exists_eq_left', and_assoc, true_and, and_true, true_implies, false_implies, not_true_eq_false, not_false_eq_true, li_0, li_1, li_2, li_3, li_4, li_5, li_8, li_9, li_10, li_16, li_20, li_80, li_100, li_130, li_144, li_390, li_400, li_M, li_H, li_of, nI_add, pk_mul, cl_, vp_iff, nI_leI, nI_ltI, nI_eq, Nat.add_zero, Nat.zero_add, Nat.reduceEqDiff, Nat.reduceAdd, eq_self, reduceIte, Bool.false_eq_true, li_neg]
      · have c1' : B 0 0 < m := by omega
        refine no (z_X11_best (e_X11_best_0 ?_)) (z_X12_best (e_X12_best_0 ?_))
        · simp (disch := first | assumption | omega) only [k1', l6, k2', h12, hB, hC.1.1, c1, Option.some.injEq, Prod.mk.injEq, Value.int.injEq, exists_and_left, exists_eq_left', and_assoc, true_and, and_true, true_implies, false_implies, not_true_eq_false, not_false_eq_true, li_0, li_1, li_2, li_3, li_4, li_5, li_8, li_9, li_10, li_16, li_20, li_80, li_100, li_130, li_144, li_390, li_400, li_M, li_H, li_of, nI_add, pk_mul, cl_, vp_iff, nI_leI, nI_ltI, nI_eq, Nat.add_zero, Nat.zero_add, Nat.reduceEqDiff, Nat.reduceAdd, eq_self, reduceIte, Bool.false_eq_true, li_neg]
        · simp (disch := first | assumption | omega) only [hl', l6, i1, i2, m_chaps hx, c1', Option.some.injEq, Prod.mk.injEq, Value.int.injEq, exists_and_left, exists_eq_left', and_assoc, true_and, and_true, true_implies, false_implies, not_true_eq_false, not_false_eq_true, li_0, li_1, li_2, li_3, li_4, li_5, li_8, li_9, li_10, li_16, li_20, li_80, li_100, li_130, li_144, li_390, li_400, li_M, li_H, li_of, nI_add, pk_mul, cl_, vp_iff, nI_leI, nI_ltI, nI_eq, Nat.add_zero, Nat.zero_add, Nat.reduceEqDiff, Nat.reduceAdd, eq_self, reduceIte, Bool.false_eq_true, li_neg]
    · have i2 := m_isInNo (μ := μ1) h2
      refine no (z_X11_best (e_X11_best_0 ?_)) (z_X12_best (e_X12_best_0 ?_))
      · by_cases c1 : m ≤ B 0 0
        · by_cases h3 : x2 < nI 1
          · simp (disch := first | assumption | omega) only [k1', l6, k2', h12, hB, hC.1.1, c1, h3, Option.some.injEq, Prod.mk.injEq, Value.int.injEq, exists_and_left, exists_eq_left', and_assoc, true_and, and_true, true_implies, false_implies, not_true_eq_false, not_false_eq_true, li_0, li_1, li_2, li_3, li_4, li_5, li_8, li_9, li_10, li_16, li_20, li_80, li_100, li_130, li_144, li_390, li_400, li_M, li_H, li_of, nI_add, pk_mul, cl_, vp_iff, nI_leI, nI_ltI, nI_eq, Nat.add_zero, Nat.zero_add, Nat.reduceEqDiff, Nat.reduceAdd, eq_self, reduceIte, Bool.false_eq_true, li_neg]
          · have h4 := h2.resolve_left h3
            simp (disch := first | assumption | omega) only [k1', l6, k2', h12, hB, hC.1.1, c1, h3, l4, h4, Option.some.injEq, Prod.mk.injEq, Value.int.injEq, exists_and_left, exists_eq_left', and_assoc, true_and, and_true, true_implies, false_implies, not_true_eq_false, not_false_eq_true, li_0, li_1, li_2, li_3, li_4, li_5, li_8, li_9, li_10, li_16, li_20, li_80, li_100, li_130, li_144, li_390, li_400, li_M, li_H, li_of, nI_add, pk_mul, cl_, vp_iff, nI_leI, nI_ltI, nI_eq, Nat.add_zero, Nat.zero_add, Nat.reduceEqDiff, Nat.reduceAdd, eq_self, reduceIte, Bool.false_eq_true, li_neg]
        · simp (disch := first | assumption | omega) only [k1', l6, k2', h12, hB, hC.1.1, c1, Option.some.injEq, Prod.mk.injEq, Value.int.injEq, exists_and_left, exists_eq_left', and_assoc, true_and, and_true, true_implies, false_implies, not_true_eq_false, not_false_eq_true, li_0, li_1, li_2, li_3, li_4, li_5, li_8, li_9, li_10, li_16, li_20, li_80, li_100, li_130, li_144, li_390, li_400, li_M, li_H, li_of, nI_add, pk_mul, cl_, vp_iff, nI_leI, nI_ltI, nI_eq, Nat.add_zero, Nat.zero_add, Nat.reduceEqDiff, Nat.reduceAdd, eq_self, reduceIte, Bool.false_eq_true, li_neg]
      · simp (disch := first | assumption | omega) only [hl', l6, i1, l4, i2, Option.some.injEq, Prod.mk.injEq, Value.int.injEq, exists_and_left, exists_eq_left', and_assoc, true_and, and_true, true_implies, false_implies, not_true_eq_false, not_false_eq_true, li_0, li_1, li_2, li_3, li_4, li_5, li_8, li_9, li_10, li_16, li_20, li_80, li_100, li_130, li_144, li_390, li_400, li_M, li_H, li_of, nI_add, pk_mul, cl_, vp_iff, nI_leI, nI_ltI, nI_eq, Nat.add_zero, Nat.zero_add, Nat.reduceEqDiff, Nat.reduceAdd, eq_self, reduceIte, Bool.false_eq_true, li_neg]
  · have i1 := m_isInNo (μ := μ1) h1
    refine no (z_X11_best (e_X11_best_0 ?_)) (z_X12_best (e_X12_best_0 ?_))
    · by_cases h3 : x1 < nI 1
      · simp (disch := first | assumption | omega) only [h3, Option.some.injEq, Prod.mk.injEq, Value.int.injEq, exists_and_left, exists_eq_left', and_assoc, true_and, and_true, true_implies, false_implies, not_true_eq_false, not_false_eq_true, li_0, li_1, li_2, li_3, li_4, li_5, li_8, li_9, li_10, li_16, li_20, li_80, li_100, li_130, li_144, li_390, li_400, li_M, li_H, li_of, nI_add, pk_mul, cl_, vp_iff, nI_leI, nI_ltI, nI_eq, Nat.add_zero, Nat.zero_add, Nat.reduceEqDiff, Nat.reduceAdd, eq_self, reduceIte, Bool.false_eq_true, li_neg]
      · have h4 := h1.resolve_left h3
        simp (disch := first | assumption | omega) only [h3, l6, h4, Option.some.injEq, Prod.mk.injEq, Value.int.injEq, exists_and_left, exists_eq_left', and_assoc, true_and, and_true, true_implies, false_implies, not_true_eq_false, not_false_eq_true, li_0, li_1, li_2, li_3, li_4, li_5, li_8, li_9, li_10, li_16, li_20, li_80, li_100, li_130, li_144, li_390, li_400, li_M, li_H, li_of, nI_add, pk_mul, cl_, vp_iff, nI_leI, nI_ltI, nI_eq, Nat.add_zero, Nat.zero_add, Nat.reduceEqDiff, Nat.reduceAdd, eq_self, reduceIte, Bool.false_eq_true, li_neg]
    · simp (disch := first | assumption | omega) only [hl', l6, i1, Option.some.injEq, Prod.mk.injEq, Value.int.injEq, exists_and_left, exists_eq_left', and_assoc, true_and, and_true, true_implies, false_implies, not_true_eq_false, not_false_eq_true, li_0, li_1, li_2, li_3, li_4, li_5, li_8, li_9, li_10, li_16, li_20, li_80, li_100, li_130, li_144, li_390, li_400, li_M, li_H, li_of, nI_add, pk_mul, cl_, vp_iff, nI_leI, nI_ltI, nI_eq, Nat.add_zero, Nat.zero_add, Nat.reduceEqDiff, Nat.reduceAdd, eq_self, reduceIte, Bool.false_eq_true, li_neg]
end CB
