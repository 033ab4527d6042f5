/-! a PLAN that is being made: what the READERS KNOW, the ACTS, how many -/
abbrev T_ : Type := K_ × (Nat → Nat → Nat) × Nat
def pu_ (P : Nat → Nat → Nat) (a r c f l : Nat) : Nat → Nat → Nat := fun i j => if i = a then (if j = 0 then r else if j = 1 then c else if j = 2 then f else l) else P i j
noncomputable def ta_ (B : Nat → Nat → Nat) (T : T_) (r c f l : Nat) : Bool × T_ := if T.2.2 = 100 ∨ ¬ wr_ B T.1 r c f l = 0 then (false, T) else (true, doK_ B T.1 r c f l, pu_ T.2.1 T.2.2 r c f l, T.2.2 + 1)
def TP_ (B : Nat → Nat → Nat) (T : T_) : Prop := PO_ B T.2.1 T.2.2
def AM_ (μ : St_) (P : Nat → Nat → Nat) (a : Nat) : Prop := μ.1 219 24 = nI a ∧ ∀ i, i < a → μ.1 228 (4 * i) = nI (P i 0) ∧ μ.1 228 (4 * i + 1) = nI (P i 1) ∧ μ.1 228 (4 * i + 2) = nI (P i 2) ∧ μ.1 228 (4 * i + 3) = nI (P i 3)
def CG_ (σ : St_) (b p : Nat) (B : Nat → Nat → Nat) (T : T_) : Prop := (CX_ σ 86 b B ∧ σ.2.2 85 2 = some b ∧ σ.2.2 85 3 = some p ∧ isP p) ∧ PC_ σ p T.2.1 T.2.2 ∧ CK_ σ 86 B T.1 ∧ TP_ B T
def RG_ (μ : St_) (B : Nat → Nat → Nat) (T : T_) : Prop := RX_ μ B ∧ AM_ μ T.2.1 T.2.2 ∧ MK_ μ B T.1 ∧ TP_ B T
def CFp_ (p : Nat) (σ σ' : St_) : Prop := fr_ [p, p + 1, p + 2, p + 3, p + 4, 87, 88, 89, 90] σ σ'
def RFp_ (μ μ' : St_) : Prop := fr_ [219, 228, 229, 230, 231, 232] μ μ' ∧ NF2_ [24] 219 μ μ'
section TR
variable {σ μ : St_} {b p : Nat} {B P : Nat → Nat → Nat} {T : T_} {a r c f l : Nat}
theorem isM86 : isM 86 := Or.inr (Or.inl rfl)
theorem CFp_tr {x y z : St_} (h : CFp_ p x y) (h2 : CFp_ p y z) : CFp_ p x z := fr_tr h h2
theorem CFp_rf : CFp_ p σ σ := fr_rf _ _
theorem RFp_tr {x y z : St_} (h : RFp_ x y) (h2 : RFp_ y z) : RFp_ x z := ⟨fr_tr h.1 h2.1, NF2_tr h.2 h2.2⟩
theorem RFp_rf : RFp_ μ μ := ⟨fr_rf _ _, fun _ _ => rfl⟩
theorem PO_pu (h : PO_ B P a) (ha : a < 100) (hr : r < B 0 1) (hc : c < B 0 0) (hf : f ≤ 4) (hl : l < 2 ^ B 0 1) : PO_ B (pu_ P a r c f l) (a + 1) := by
  refine ⟨by omega, fun i hi => ?_⟩
  by_cases e : i = a
  · subst e
    simp only [pu_, if_true]
    exact ⟨hr, hc, hf, hl⟩
  · have := h.2 i (by omega)
    simp only [pu_, e, if_false]
    exact this
theorem TP_ta (h : TP_ B T) (hr : r < B 0 1) (hc : c < B 0 0) (hf : f ≤ 4) (hl : l < 2 ^ B 0 1) : TP_ B (ta_ B T r c f l).2 := by
  unfold ta_
  split
  · exact h
  · rename_i hn
    have := h.1
    exact PO_pu h (by omega) hr hc hf hl
theorem c_isFull (hP : isP p) (h : σ.1 p 4 = nI a) (ha : a ≤ 100) : f_X6_isFull KC [.ref p] σ = some (some (.int (if a = 100 then nI 1 else nI 0)), σ) := by
  refine z_X6_isFull (e_X6_isFull_0 hP ?_)
  by_cases e : a = 100
  · simp (disch := first | assumption | omega) only [h, e, Nat.lt_irrefl, Option.some.injEq, Prod.mk.injEq, Value.int.injEq, exists_and_left, exists_eq_left', and_assoc, true_and, and_true, true_implies, false_implies, not_true_eq_false, not_false_eq_true, li_0, li_1, li_2, li_3, li_4, li_5, li_8, li_9, li_10, li_16, li_20, li_80, li_100, li_130, li_144, li_390, li_400, li_M, li_H, li_of, nI_add, pk_mul, cl_, vp_iff, nI_leI, nI_ltI, nI_eq, Nat.add_zero, Nat.zero_add, Nat.reduceEqDiff, Nat.reduceAdd, eq_self, reduceIte, Bool.false_eq_true, li_neg]
  · have e2 : a < 100 := by omega
    simp (disch := first | assumption | omega) only [h, e, e2, Option.some.injEq, Prod.mk.injEq, Value.int.injEq, exists_and_left, exists_eq_left', and_assoc, true_and, and_true, true_implies, false_implies, not_true_eq_false, not_false_eq_true, li_0, li_1, li_2, li_3, li_4, li_5, li_8, li_9, li_10, li_16, li_20, li_80, li_100, li_130, li_144, li_390, li_400, li_M, li_H, li_of, nI_add, pk_mul, cl_, vp_iff, nI_leI, nI_ltI, nI_eq, Nat.add_zero, Nat.zero_add, Nat.reduceEqDiff, Nat.reduceAdd, eq_self, reduceIte, Bool.false_eq_true, li_neg]
theorem c_add (hP : isP p) (h : PC_ σ p P a) (ha : a < 100) : ∃ σ', f_X6_add KC [.ref p, .int (nI r), .int (nI c), .int (nI f), .int (nI l)] σ = some (none, σ') ∧ PC_ σ' p (pu_ P a r c f l) (a + 1) ∧ fr_ [p, p + 1, p + 2, p + 3, p + 4] σ σ' := by
  have e1 : ∀ (s : St_) i x, (sI_ s (p + 1) i x).1 p = s.1 p := fun s i x => sI_row _ _ _ _ (by omega)
  have e2 : ∀ (s : St_) i x, (sI_ s (p + 2) i x).1 p = s.1 p := fun s i x => sI_row _ _ _ _ (by omega)
  have e3 : ∀ (s : St_) i x, (sI_ s (p + 3) i x).1 p = s.1 p := fun s i x => sI_row _ _ _ _ (by omega)
  have e4 : ∀ (s : St_) i x, (sI_ s (p + 4) i x).1 p = s.1 p := fun s i x => sI_row _ _ _ _ (by omega)
  have ne : ¬ a = 100 := by omega
  refine ⟨sI_ (sI_ (sI_ (sI_ (sI_ σ (p + 1) a (nI r)) (p + 2) a (nI c)) (p + 3) a (nI f)) (p + 4) a (nI l)) p 4 (nI (a + 1)), z_X6_add (e_X6_add_0 hP ?_), ⟨by simp [sI_at], fun i hi => ?_⟩, fr_tr (fr_sI (by simp)) (fr_tr (fr_sI (by simp)) (fr_tr (fr_sI (by simp)) (fr_tr (fr_sI (by simp)) (fr_sI (by simp)))))⟩
  · have hf := c_isFull hP h.1 (by omega)
    rw [if_neg ne] at hf
    simp (disch := first | assumption | omega) only [hf, h.1, e1, e2, e3, e4, Option.some.injEq, Prod.mk.injEq, Value.int.injEq, exists_and_left, exists_eq_left', and_assoc, true_and, and_true, true_implies, false_implies, not_true_eq_false, not_false_eq_true, li_0, li_1, li_2, li_3, li_4, li_5, li_8, li_9, li_10, li_16, li_20, li_80, li_100, li_130, li_144, li_390, li_400, li_M, li_H, li_of, nI_add, pk_mul, cl_, vp_iff, nI_leI, nI_ltI, nI_eq, Nat.add_zero, Nat.zero_add, Nat.reduceEqDiff, Nat.reduceAdd, eq_self, reduceIte, Bool.false_eq_true, li_neg]
    (repeat' apply And.intro) <;> first | omega | rfl | assumption
  · by_cases e : i = a
    · subst e
      simp [sI_at, pu_]
    · have := h.2 i (by omega)
      simp [sI_at, pu_, e, this]
theorem c_tryAct (h : CG_ σ b p B T) (hr : r < B 0 1) (hc : c < B 0 0) (hf : f ≤ 4) (hl : l < 2 ^ B 0 1) : ∃ σ', f_X4_tryAct KC [.ref 85, .int (nI r), .int (nI c), .int (nI f), .int (nI l)] σ = some (some (.int (if (ta_ B T r c f l).1 = true then nI 1 else nI 0)), σ') ∧ CG_ σ' b p B (ta_ B T r c f l).2 ∧ CFp_ p σ σ' := by
  have h' := h
  obtain ⟨⟨hx, h2, h3, hP⟩, hp, hk, ho⟩ := h
  have hT := TP_ta ho hr hc hf hl
  have pn := p_no hP
  have bn := b_no hx.1.2.1
  have hB := hx.1.2.1
  have h9 := BO_c hx.2.2
  have ha := ho.1
  have hfull := c_isFull hP hp.1 ha
  have hw := c_wrongOf hx hk hr hc hf hl
  have hwl := wr_lt B T.1 r c f l
  by_cases e1 : T.2.2 = 100
  · rw [if_pos e1] at hfull
    have e : ta_ B T r c f l = (false, T) := if_pos (Or.inl e1)
    rw [e]
    refine ⟨σ, z_X4_tryAct (e_X4_tryAct_0 ?_), h', CFp_rf⟩
    simp (disch := first | assumption | omega) only [h3, hP, hfull, Option.some.injEq, Prod.mk.injEq, Value.int.injEq, exists_and_left, exists_eq_left', and_assoc, true_and, and_true, true_implies, false_implies, not_true_eq_false, not_false_eq_true, li_0, li_1, li_2, li_3, li_4, li_5, li_8, li_9, li_10, li_16, li_20, li_80, li_100, li_130, li_144, li_390, li_400, li_M, li_H, li_of, nI_add, pk_mul, cl_, vp_iff, nI_leI, nI_ltI, nI_eq, Nat.add_zero, Nat.zero_add, Nat.reduceEqDiff, Nat.reduceAdd, eq_self, reduceIte, Bool.false_eq_true, li_neg]
  · rw [if_neg e1] at hfull
    by_cases e2 : wr_ B T.1 r c f l = 0
    · have e : ta_ B T r c f l = (true, doK_ B T.1 r c f l, pu_ T.2.1 T.2.2 r c f l, T.2.2 + 1) := if_neg (fun z => z.elim e1 (fun y => y e2))
      rw [e] at hT ⊢
      have hl16 : l < 2 ^ 16 := Nat.lt_of_lt_of_le hl (Nat.pow_le_pow_right (by decide) (by omega))
      obtain ⟨σ2, g1, g2, g3⟩ := c_perform hx hk hr hc hf hl16
      obtain ⟨σ3, q1, q2, q3⟩ := c_add (r := r) (c := c) (f := f) (l := l) hP (PC_cg hp (fun o o1 o2 => g3.1 o (by simp; omega))) (by omega)
      have hx2 := CX_CF hx g3
      have h3' : σ2.2.2 85 3 = some p := by rw [g3.2]; exact h3
      refine ⟨σ3, z_X4_tryAct (e_X4_tryAct_0 ?_), ⟨⟨⟨⟨isM86, hB, by rw [q3.2]; exact hx2.1.2.2⟩, CB_row hB hx2.2.1 (fun o o1 o2 => ?_) hx.2.2, hx.2.2⟩, by rw [q3.2, g3.2]; exact h2, by rw [q3.2]; exact h3', hP⟩, q2, CK_cg g2 (q3.1 _ (by simp; omega)) (q3.1 _ (by simp; omega)) (q3.1 _ (by simp; omega)) (q3.1 _ (by simp; omega)), hT⟩, fr_tr (fr_mono g3 (by simp)) (fr_mono q3 (fun o ho => by simp at ho; simp; omega))⟩
      · simp (disch := first | assumption | omega) only [h3, hP, hfull, hw, e2, g1, h3', q1, Option.some.injEq, Prod.mk.injEq, Value.int.injEq, exists_and_left, exists_eq_left', and_assoc, true_and, and_true, true_implies, false_implies, not_true_eq_false, not_false_eq_true, li_0, li_1, li_2, li_3, li_4, li_5, li_8, li_9, li_10, li_16, li_20, li_80, li_100, li_130, li_144, li_390, li_400, li_M, li_H, li_of, nI_add, pk_mul, cl_, vp_iff, nI_leI, nI_ltI, nI_eq, Nat.add_zero, Nat.zero_add, Nat.reduceEqDiff, Nat.reduceAdd, eq_self, reduceIte, Bool.false_eq_true, li_neg]
      · refine q3.1 o ?_
        have : o < p ∨ p + 4 < o := by
          unfold isP at hP
          have hB2 := hB
          unfold isB at hB2
          omega
        simp; omega
    · have e : ta_ B T r c f l = (false, T) := if_pos (Or.inr e2)
      rw [e]
      refine ⟨σ, z_X4_tryAct (e_X4_tryAct_0 ?_), h', CFp_rf⟩
      simp (disch := first | assumption | omega) only [h3, hP, hfull, hw, e2, Option.some.injEq, Prod.mk.injEq, Value.int.injEq, exists_and_left, exists_eq_left', and_assoc, true_and, and_true, true_implies, false_implies, not_true_eq_false, not_false_eq_true, li_0, li_1, li_2, li_3, li_4, li_5, li_8, li_9, li_10, li_16, li_20, li_80, li_100, li_130, li_144, li_390, li_400, li_M, li_H, li_of, nI_add, pk_mul, cl_, vp_iff, nI_leI, nI_ltI, nI_eq, Nat.add_zero, Nat.zero_add, Nat.reduceEqDiff, Nat.reduceAdd, eq_self, reduceIte, Bool.false_eq_true, li_neg]
theorem AM_cg {μ μ' : St_} (h : AM_ μ P a) (h1 : μ'.1 219 24 = μ.1 219 24) (h2 : μ'.1 228 = μ.1 228) : AM_ μ' P a := ⟨h1.trans h.1, fun i hi => by rw [h2]; exact h.2 i hi⟩
theorem m_addAct (h : AM_ μ P a) (ha : a < 100) : ∃ μ', f_X12_addAct KC [.ref 219, .int (nI r), .int (nI c), .int (nI f), .int (nI l)] μ = some (some (.int (nI 1)), μ') ∧ AM_ μ' (pu_ P a r c f l) (a + 1) ∧ fr_ [219, 228] μ μ' ∧ NF2_ [24] 219 μ μ' := by
  have e1 : ∀ (s : St_) i x, (sI_ s 228 i x).1 219 = s.1 219 := fun s i x => sI_row _ _ _ _ (by decide)
  have ne : ¬ a = 100 := by omega
  refine ⟨sI_ (sI_ (sI_ (sI_ (sI_ μ 228 (4 * a) (nI r)) 228 (4 * a + 1) (nI c)) 228 (4 * a + 2) (nI f)) 228 (4 * a + 3) (nI l)) 219 24 (nI (a + 1)), z_X12_addAct (e_X12_addAct_0 ?_), ⟨by simp [sI_at], fun i hi => ?_⟩, fr_tr (fr_sI (by simp)) (fr_tr (fr_sI (by simp)) (fr_tr (fr_sI (by simp)) (fr_tr (fr_sI (by simp)) (fr_sI (by simp))))), fun g hg => ?_⟩
  · simp (disch := first | assumption | omega) only [h.1, ne, e1, Option.some.injEq, Prod.mk.injEq, Value.int.injEq, exists_and_left, exists_eq_left', and_assoc, true_and, and_true, true_implies, false_implies, not_true_eq_false, not_false_eq_true, li_0, li_1, li_2, li_3, li_4, li_5, li_8, li_9, li_10, li_16, li_20, li_80, li_100, li_130, li_144, li_390, li_400, li_M, li_H, li_of, nI_add, pk_mul, cl_, vp_iff, nI_leI, nI_ltI, nI_eq, Nat.add_zero, Nat.zero_add, Nat.reduceEqDiff, Nat.reduceAdd, eq_self, reduceIte, Bool.false_eq_true, li_neg]
    (repeat' apply And.intro) <;> first | omega | rfl | assumption
  · by_cases e : i = a
    · subst e
      simp [sI_at, pu_]
    · have := h.2 i (by omega)
      simp only [sI_at, pu_, e, if_false, show ¬ (228 = 219) by decide, false_and, true_and, show ¬ 4 * i = 4 * a by omega, show ¬ 4 * i = 4 * a + 1 by omega, show ¬ 4 * i = 4 * a + 2 by omega, show ¬ 4 * i = 4 * a + 3 by omega, show ¬ 4 * i + 1 = 4 * a by omega, show ¬ 4 * i + 1 = 4 * a + 1 by omega, show ¬ 4 * i + 1 = 4 * a + 2 by omega, show ¬ 4 * i + 1 = 4 * a + 3 by omega, show ¬ 4 * i + 2 = 4 * a by omega, show ¬ 4 * i + 2 = 4 * a + 1 by omega, show ¬ 4 * i + 2 = 4 * a + 2 by omega, show ¬ 4 * i + 2 = 4 * a + 3 by omega, show ¬ 4 * i + 3 = 4 * a by omega, show ¬ 4 * i + 3 = 4 * a + 1 by omega, show ¬ 4 * i + 3 = 4 * a + 2 by omega, show ¬ 4 * i + 3 = 4 * a + 3 by omega]
      exact this
  · simp only [List.mem_cons, List.not_mem_nil, or_false] at hg
    simp [sI_at, hg]
theorem m_tries (h : RG_ μ B T) (hr : r < B 0 1) (hc : c < B 0 0) (hf : f ≤ 4) (hl : l < 2 ^ B 0 1) : ∃ μ', f_X12_tries KC [.ref 219, .int (nI r), .int (nI c), .int (nI f), .int (nI l)] μ = some (some (.int (if (ta_ B T r c f l).1 = true then nI 1 else nI 0)), μ') ∧ RG_ μ' B (ta_ B T r c f l).2 ∧ RFp_ μ μ' := by
  have h' := h
  obtain ⟨hx, hp, hk, ho⟩ := h
  have hT := TP_ta ho hr hc hf hl
  have h9 := BO_c hx.2
  have ha := ho.1
  have hl16 : l < 2 ^ 16 := Nat.lt_of_lt_of_le hl (Nat.pow_le_pow_right (by decide) (by omega))
  have hw := m_wrong hx hk hr hc hf hl16
  have hwl := wr_lt B T.1 r c f l
  by_cases e2 : wr_ B T.1 r c f l = 0
  · by_cases e1 : T.2.2 = 100
    · have e : ta_ B T r c f l = (false, T) := if_pos (Or.inl e1)
      rw [e]
      have hadd : f_X12_addAct KC [.ref 219, .int (nI r), .int (nI c), .int (nI f), .int (nI l)] μ = some (some (.int (nI 0)), μ) := by
        refine z_X12_addAct (e_X12_addAct_0 ?_)
        have := hp.1
        rw [e1] at this
        simp (disch := first | assumption | omega) only [this, Option.some.injEq, Prod.mk.injEq, Value.int.injEq, exists_and_left, exists_eq_left', and_assoc, true_and, and_true, true_implies, false_implies, not_true_eq_false, not_false_eq_true, li_0, li_1, li_2, li_3, li_4, li_5, li_8, li_9, li_10, li_16, li_20, li_80, li_100, li_130, li_144, li_390, li_400, li_M, li_H, li_of, nI_add, pk_mul, cl_, vp_iff, nI_leI, nI_ltI, nI_eq, Nat.add_zero, Nat.zero_add, Nat.reduceEqDiff, Nat.reduceAdd, eq_self, reduceIte, Bool.false_eq_true, li_neg]
      refine ⟨μ, z_X12_tries (e_X12_tries_0 ?_), h', RFp_rf⟩
      simp (disch := first | assumption | omega) only [hw, e2, hadd, Option.some.injEq, Prod.mk.injEq, Value.int.injEq, exists_and_left, exists_eq_left', and_assoc, true_and, and_true, true_implies, false_implies, not_true_eq_false, not_false_eq_true, li_0, li_1, li_2, li_3, li_4, li_5, li_8, li_9, li_10, li_16, li_20, li_80, li_100, li_130, li_144, li_390, li_400, li_M, li_H, li_of, nI_add, pk_mul, cl_, vp_iff, nI_leI, nI_ltI, nI_eq, Nat.add_zero, Nat.zero_add, Nat.reduceEqDiff, Nat.reduceAdd, eq_self, reduceIte, Bool.false_eq_true, li_neg]
    · have e : ta_ B T r c f l = (true, doK_ B T.1 r c f l, pu_ T.2.1 T.2.2 r c f l, T.2.2 + 1) := if_neg (fun z => z.elim e1 (fun y => y e2))
      rw [e] at hT ⊢
      obtain ⟨μ2, q1, q2, q3, q4⟩ := m_addAct (r := r) (c := c) (f := f) (l := l) hp (by omega)
      have hx2 := RX_fr hx q3 (by decide)
      obtain ⟨μ3, g1, g2, g3⟩ := m_does (μ := μ2) (l := l) hx2 (MK_cg hk (q3.1 230 (by decide)) (q3.1 231 (by decide)) (q3.1 232 (by decide)) (q3.1 229 (by decide))) hr hc hf hl16
      refine ⟨μ3, z_X12_tries (e_X12_tries_0 ?_), ⟨RX_KF hx2 g3, AM_cg q2 (by rw [g3.1 219 (by decide)]) (g3.1 228 (by decide)), g2, hT⟩, fr_tr (fr_mono q3 (by simp)) (fr_mono g3 (by simp)), NF2_tr q4 (fun g _ => by rw [g3.1 219 (by decide)])⟩
      simp (disch := first | assumption | omega) only [hw, e2, q1, g1, Option.some.injEq, Prod.mk.injEq, Value.int.injEq, exists_and_left, exists_eq_left', and_assoc, true_and, and_true, true_implies, false_implies, not_true_eq_false, not_false_eq_true, li_0, li_1, li_2, li_3, li_4, li_5, li_8, li_9, li_10, li_16, li_20, li_80, li_100, li_130, li_144, li_390, li_400, li_M, li_H, li_of, nI_add, pk_mul, cl_, vp_iff, nI_leI, nI_ltI, nI_eq, Nat.add_zero, Nat.zero_add, Nat.reduceEqDiff, Nat.reduceAdd, eq_self, reduceIte, Bool.false_eq_true, li_neg]
  · have e : ta_ B T r c f l = (false, T) := if_pos (Or.inr e2)
    rw [e]
    refine ⟨μ, z_X12_tries (e_X12_tries_0 ?_), h', RFp_rf⟩
    simp (disch := first | assumption | omega) only [hw, e2, Option.some.injEq, Prod.mk.injEq, Value.int.injEq, exists_and_left, exists_eq_left', and_assoc, true_and, and_true, true_implies, false_implies, not_true_eq_false, not_false_eq_true, li_0, li_1, li_2, li_3, li_4, li_5, li_8, li_9, li_10, li_16, li_20, li_80, li_100, li_130, li_144, li_390, li_400, li_M, li_H, li_of, nI_add, pk_mul, cl_, vp_iff, nI_leI, nI_ltI, nI_eq, Nat.add_zero, Nat.zero_add, Nat.reduceEqDiff, Nat.reduceAdd, eq_self, reduceIte, Bool.false_eq_true, li_neg]
end TR
/-! the reference's ILL: helpers -/
section IL4
variable {μ : St_} {B P : Nat → Nat → Nat} {k : K_} {s f a i h : Nat}
theorem m_helps (hx : RX_ μ B) (hp : PM_ μ P a) (ho : PO_ B P a) (hk : MK_ μ B k) (hh : h < B 0 1) (hs : s < B 0 1) : ∀ n i, i + n = a → ∀ x3 : Int32, ∃ μ', Ev_ (P_X12_helps KC) 3 [some (.ref 219), some (.int (nI h)), some (.int (nI s)), some (.int x3), some (.int (nI i)), none] [] μ (none, μ') ∧ MK_ μ' B (hel_ B h (sf_ P s n i) k) ∧ KF_ μ μ' := by
  intro n
  have h3 := BO_c hx.2
  have ha := ho.1
  induction n generalizing μ k with
  | zero =>
    intro i hi x3
    obtain rfl : i = a := by omega
    refine ⟨μ, e_X12_helps_3 ?_, hk, KF_rf⟩
    simp (disch := first | assumption | omega) only [hp.1, Nat.le_refl, Option.some.injEq, Prod.mk.injEq, Value.int.injEq, exists_and_left, exists_eq_left', and_assoc, true_and, and_true, true_implies, false_implies, not_true_eq_false, not_false_eq_true, li_0, li_1, li_2, li_3, li_4, li_5, li_8, li_9, li_10, li_16, li_20, li_80, li_100, li_130, li_144, li_390, li_400, li_M, li_H, li_of, nI_add, pk_mul, cl_, vp_iff, nI_leI, nI_ltI, nI_eq, Nat.add_zero, Nat.zero_add, Nat.reduceEqDiff, Nat.reduceAdd, eq_self, reduceIte, Bool.false_eq_true, li_neg]
    (repeat' apply And.intro) <;> first | omega | rfl | assumption
  | succ n ih =>
    intro i hi x3
    have hi2 : ¬ a ≤ i := by omega
    have hi3 : i < a := by omega
    obtain ⟨p1, p2, p3, p4⟩ := hp.2 i hi3
    obtain ⟨o1, o2, o3, o4⟩ := ho.2 i hi3
    by_cases hA : P i 0 = s
    · by_cases hF : P i 2 = 0
      · have e : sf_ P s (n + 1) i = P i 1 :: sf_ P s n (i + 1) := by rw [sf_, if_pos ⟨hA, hF⟩]; rfl
        have hF2 : ¬ 0 < P i 2 := by omega
        rw [e, hel_]
        by_cases hb : hb_ (k.2.1 h) (P i 1)
        · obtain ⟨μ', q1, q2, q3⟩ := ih hx hp hk (i + 1) (by omega) x3
          refine ⟨μ', e_X12_helps_3 ?_, by rw [if_pos hb]; exact q2, q3⟩
          simp (disch := first | assumption | omega) only [hp.1, hi2, p1, hA, p3, hF2, MK_r hk hh, p2, m_hasK, hb, Option.some.injEq, Prod.mk.injEq, Value.int.injEq, exists_and_left, exists_eq_left', and_assoc, true_and, and_true, true_implies, false_implies, not_true_eq_false, not_false_eq_true, li_0, li_1, li_2, li_3, li_4, li_5, li_8, li_9, li_10, li_16, li_20, li_80, li_100, li_130, li_144, li_390, li_400, li_M, li_H, li_of, nI_add, pk_mul, cl_, vp_iff, nI_leI, nI_ltI, nI_eq, Nat.add_zero, Nat.zero_add, Nat.reduceEqDiff, Nat.reduceAdd, eq_self, reduceIte, Bool.false_eq_true, li_neg]
          (repeat' apply And.intro) <;> first | omega | rfl | assumption | exact q1
        · by_cases ht : k.1 h < nI (tR_ B h (P i 1))
          · have ht2 := Int32.not_le.mpr ht
            refine ⟨μ, e_X12_helps_3 ?_, by rw [if_neg hb, if_pos ht]; exact hk, KF_rf⟩
            simp (disch := first | assumption | omega) only [hp.1, hi2, p1, hA, p3, hF2, MK_r hk hh, p2, m_hasK, hb, m_ttr hx hh o2, MK_l hk hh, ht2, Option.some.injEq, Prod.mk.injEq, Value.int.injEq, exists_and_left, exists_eq_left', and_assoc, true_and, and_true, true_implies, false_implies, not_true_eq_false, not_false_eq_true, li_0, li_1, li_2, li_3, li_4, li_5, li_8, li_9, li_10, li_16, li_20, li_80, li_100, li_130, li_144, li_390, li_400, li_M, li_H, li_of, nI_add, pk_mul, cl_, vp_iff, nI_leI, nI_ltI, nI_eq, Nat.add_zero, Nat.zero_add, Nat.reduceEqDiff, Nat.reduceAdd, eq_self, reduceIte, Bool.false_eq_true, li_neg]
            (repeat' apply And.intro) <;> first | omega | rfl | assumption
          · have ht2 := Int32.not_lt.mp ht
            obtain ⟨μ2, g1, g2, g3⟩ := m_reads hx hk hh o2
            obtain ⟨μ', q1, q2, q3⟩ := ih (RX_KF hx g3) (PM_cg hp (g3.1 221 (by decide))) g2 (i + 1) (by omega) x3
            refine ⟨μ', e_X12_helps_3 ?_, by rw [if_neg hb, if_neg ht]; exact q2, KF_tr g3 q3⟩
            simp (disch := first | assumption | omega) only [hp.1, hi2, p1, hA, p3, hF2, MK_r hk hh, p2, m_hasK, hb, m_ttr hx hh o2, MK_l hk hh, ht2, g1, Option.some.injEq, Prod.mk.injEq, Value.int.injEq, exists_and_left, exists_eq_left', and_assoc, true_and, and_true, true_implies, false_implies, not_true_eq_false, not_false_eq_true, li_0, li_1, li_2, li_3, li_4, li_5, li_8, li_9, li_10, li_16, li_20, li_80, li_100, li_130, li_144, li_390, li_400, li_M, li_H, li_of, nI_add, pk_mul, cl_, vp_iff, nI_leI, nI_ltI, nI_eq, Nat.add_zero, Nat.zero_add, Nat.reduceEqDiff, Nat.reduceAdd, eq_self, reduceIte, Bool.false_eq_true, li_neg]
            (repeat' apply And.intro) <;> first | omega | rfl | assumption | exact q1
      · have e : sf_ P s (n + 1) i = sf_ P s n (i + 1) := by rw [sf_, if_neg (fun z => hF z.2)]; rfl
        have hF2 : 0 < P i 2 := by omega
        rw [e]
        obtain ⟨μ', q1, q2, q3⟩ := ih hx hp hk (i + 1) (by omega) x3
        refine ⟨μ', e_X12_helps_3 ?_, q2, q3⟩
        simp (disch := first | assumption | omega) only [hp.1, hi2, p1, hA, p3, hF2, Option.some.injEq, Prod.mk.injEq, Value.int.injEq, exists_and_left, exists_eq_left', and_assoc, true_and, and_true, true_implies, false_implies, not_true_eq_false, not_false_eq_true, li_0, li_1, li_2, li_3, li_4, li_5, li_8, li_9, li_10, li_16, li_20, li_80, li_100, li_130, li_144, li_390, li_400, li_M, li_H, li_of, nI_add, pk_mul, cl_, vp_iff, nI_leI, nI_ltI, nI_eq, Nat.add_zero, Nat.zero_add, Nat.reduceEqDiff, Nat.reduceAdd, eq_self, reduceIte, Bool.false_eq_true, li_neg]
        (repeat' apply And.intro) <;> first | omega | rfl | assumption | exact q1
    · have e : sf_ P s (n + 1) i = sf_ P s n (i + 1) := by rw [sf_, if_neg (fun z => hA z.1)]; rfl
      rw [e]
      obtain ⟨μ', q1, q2, q3⟩ := ih hx hp hk (i + 1) (by omega) x3
      refine ⟨μ', e_X12_helps_3 ?_, q2, q3⟩
      simp (disch := first | assumption | omega) only [hp.1, hi2, p1, hA, Option.some.injEq, Prod.mk.injEq, Value.int.injEq, exists_and_left, exists_eq_left', and_assoc, true_and, and_true, true_implies, false_implies, not_true_eq_false, not_false_eq_true, li_0, li_1, li_2, li_3, li_4, li_5, li_8, li_9, li_10, li_16, li_20, li_80, li_100, li_130, li_144, li_390, li_400, li_M, li_H, li_of, nI_add, pk_mul, cl_, vp_iff, nI_leI, nI_ltI, nI_eq, Nat.add_zero, Nat.zero_add, Nat.reduceEqDiff, Nat.reduceAdd, eq_self, reduceIte, Bool.false_eq_true, li_neg]
      (repeat' apply And.intro) <;> first | omega | rfl | assumption | exact q1
theorem m_ill84 (ho : PO_ B P a) (hs : s < B 0 1) (hf : f ≤ a) (w : Nat) (hw : w = 2 ∨ w = 3) : ∀ n h μ1, h + n = B 0 1 → RX_ μ1 B → PM_ μ1 P a → ∃ μ', Ev_ (P_X12_ill KC) 84 [some (.ref 219), some (.int (nI s)), some (.int (nI f)), some (.int (nI w)), some (.int (hs_ B P s f a h).1), some (.int (hs_ B P s f a h).2), some (.int (nI h)), none] [] μ1 (some (.int (if w = 2 then (hs_ B P s f a (B 0 1)).1 else (hs_ B P s f a (B 0 1)).2)), μ') ∧ fr_ [219, 229, 230, 231, 232] μ1 μ' ∧ NF2_ [57] 219 μ1 μ' := by
  intro n
  induction n with
  | zero =>
    intro h μ1 hh hx hp
    obtain rfl : h = B 0 1 := by omega
    have h3 := BO_c hx.2
    refine ⟨μ1, e_X12_ill_84 ?_, fr_rf _ _, fun _ _ => rfl⟩
    rcases hw with rfl | rfl
    · simp (disch := first | assumption | omega) only [m_readers hx, Nat.le_refl, Option.some.injEq, Prod.mk.injEq, Value.int.injEq, exists_and_left, exists_eq_left', and_assoc, true_and, and_true, true_implies, false_implies, not_true_eq_false, not_false_eq_true, li_0, li_1, li_2, li_3, li_4, li_5, li_8, li_9, li_10, li_16, li_20, li_80, li_100, li_130, li_144, li_390, li_400, li_M, li_H, li_of, nI_add, pk_mul, cl_, vp_iff, nI_leI, nI_ltI, nI_eq, Nat.add_zero, Nat.zero_add, Nat.reduceEqDiff, Nat.reduceAdd, eq_self, reduceIte, Bool.false_eq_true, li_neg]
    · simp (disch := first | assumption | omega) only [m_readers hx, Nat.le_refl, Option.some.injEq, Prod.mk.injEq, Value.int.injEq, exists_and_left, exists_eq_left', and_assoc, true_and, and_true, true_implies, false_implies, not_true_eq_false, not_false_eq_true, li_0, li_1, li_2, li_3, li_4, li_5, li_8, li_9, li_10, li_16, li_20, li_80, li_100, li_130, li_144, li_390, li_400, li_M, li_H, li_of, nI_add, pk_mul, cl_, vp_iff, nI_leI, nI_ltI, nI_eq, Nat.add_zero, Nat.zero_add, Nat.reduceEqDiff, Nat.reduceAdd, eq_self, reduceIte, Bool.false_eq_true, li_neg]
  | succ n ih =>
    intro h μ1 hh hx hp
    have h3 := BO_c hx.2
    have h1 : ¬ B 0 1 ≤ h := by omega
    have h2 : h < B 0 1 := by omega
    have ha := ho.1
    by_cases hhs : h = s
    · have e : hs_ B P s f a (h + 1) = hs_ B P s f a h := by rw [hs_, if_pos hhs]
      obtain ⟨μ', q1, q2⟩ := ih (h + 1) μ1 (by omega) hx hp
      rw [e] at q1
      refine ⟨μ', e_X12_ill_84 ?_, q2⟩
      have h1' : ¬ B 0 1 ≤ s := by rw [← hhs]; exact h1
      rw [hhs] at q1 ⊢
      simp (disch := first | assumption | omega) only [m_readers hx, h1', Option.some.injEq, Prod.mk.injEq, Value.int.injEq, exists_and_left, exists_eq_left', and_assoc, true_and, and_true, true_implies, false_implies, not_true_eq_false, not_false_eq_true, li_0, li_1, li_2, li_3, li_4, li_5, li_8, li_9, li_10, li_16, li_20, li_80, li_100, li_130, li_144, li_390, li_400, li_M, li_H, li_of, nI_add, pk_mul, cl_, vp_iff, nI_leI, nI_ltI, nI_eq, Nat.add_zero, Nat.zero_add, Nat.reduceEqDiff, Nat.reduceAdd, eq_self, reduceIte, Bool.false_eq_true, li_neg]
      exact q1
    · obtain ⟨μ2, g1, g2, -, g4, g5⟩ := m_illNight hx hp ho hs hf
      have hx2 : RX_ μ2 B := RX_fr hx g4 (by decide)
      have hp2 : PM_ μ2 P a := PM_cg hp (g4.1 221 (by decide))
      obtain ⟨μ3, k1, k2, k3⟩ := m_helps (k := (iN_ B P s f a).1) hx2 hp2 ho g2 h2 hs (a - f) f (by omega) (nI f)
      rw [← ms_all hf] at k2
      have hx3 := RX_KF hx2 k3
      have hsum := m_sum hx3 k2 (m := B 0 1) (by omega)
      rw [show smK_ B (hel_ B h (ms_ P s f a) (iN_ B P s f a).1) (B 0 1) = hv_ B P s f a h from rfl] at hsum
      have hh1 : f_X12_helps KC [.ref 219, .int (nI h), .int (nI s), .int (nI f)] μ2 = some (none, μ3) := z_X12_helps (e_X12_helps_0 k1)
      obtain ⟨μ', q1, q2, q3⟩ := ih (h + 1) μ3 (by omega) hx3 (PM_cg hp2 (k3.1 221 (by decide)))
      have fr1 : fr_ [219, 229, 230, 231, 232] μ1 μ' := fr_tr g4 (fr_tr (fr_mono k3 (by simp)) q2)
      have nf1 : NF2_ [57] 219 μ1 μ' := NF2_tr g5 (fun g hg => by rw [q3 g hg, k3.1 219 (by decide)])
      by_cases hg : (hs_ B P s f a h).2 < hv_ B P s f a h
      · have e : hs_ B P s f a (h + 1) = (nI h, hv_ B P s f a h) := by rw [hs_, if_neg hhs, if_pos hg]
        rw [e] at q1
        refine ⟨μ', e_X12_ill_84 ?_, fr1, nf1⟩
        simp (disch := first | assumption | omega) only [m_readers hx, h1, hhs, g1, hh1, m_readers hx3, hsum, hg, Option.some.injEq, Prod.mk.injEq, Value.int.injEq, exists_and_left, exists_eq_left', and_assoc, true_and, and_true, true_implies, false_implies, not_true_eq_false, not_false_eq_true, li_0, li_1, li_2, li_3, li_4, li_5, li_8, li_9, li_10, li_16, li_20, li_80, li_100, li_130, li_144, li_390, li_400, li_M, li_H, li_of, nI_add, pk_mul, cl_, vp_iff, nI_leI, nI_ltI, nI_eq, Nat.add_zero, Nat.zero_add, Nat.reduceEqDiff, Nat.reduceAdd, eq_self, reduceIte, Bool.false_eq_true, li_neg]
        exact q1
      · have e : hs_ B P s f a (h + 1) = hs_ B P s f a h := by rw [hs_, if_neg hhs, if_neg hg]
        rw [e] at q1
        refine ⟨μ', e_X12_ill_84 ?_, fr1, nf1⟩
        simp (disch := first | assumption | omega) only [m_readers hx, h1, hhs, g1, hh1, m_readers hx3, hsum, hg, Option.some.injEq, Prod.mk.injEq, Value.int.injEq, exists_and_left, exists_eq_left', and_assoc, true_and, and_true, true_implies, false_implies, not_true_eq_false, not_false_eq_true, li_0, li_1, li_2, li_3, li_4, li_5, li_8, li_9, li_10, li_16, li_20, li_80, li_100, li_130, li_144, li_390, li_400, li_M, li_H, li_of, nI_add, pk_mul, cl_, vp_iff, nI_leI, nI_ltI, nI_eq, Nat.add_zero, Nat.zero_add, Nat.reduceEqDiff, Nat.reduceAdd, eq_self, reduceIte, Bool.false_eq_true, li_neg]
        exact q1
end IL4
