/-! the calls that look at the RUN -/
def NOW_ (σ μ : St_) (b p : Nat) (B P : Nat → Nat → Nat) (a : Nat) : Prop := (isB b ∧ isP p ∧ σ.2.2 0 12 = some b ∧ σ.2.2 0 14 = some p) ∧ (CB_ σ b B ∧ PC_ σ p P a ∧ RU_ σ b B P a) ∧ RX_ μ B ∧ PM_ μ P a ∧ PO_ B P a
/-- what such a call changes -/
def RCF_ (σ σ' : St_) : Prop := GF_ [0, 80, 81, 82, 83, 84] σ σ' ∧ NF2_ [18, 19] 0 σ σ' ∧ NF2_ [4, 5, 6, 7, 8] 80 σ σ' ∧ ∀ o i, ¬ (o = 80 ∧ i = 9) → σ'.2.2 o i = σ.2.2 o i
def RMF_ (μ μ' : St_) : Prop := fr_ [219, 229, 230, 231, 232] μ μ' ∧ NF2_ [29, 30, 31] 219 μ μ'
theorem neg_t {x : Int32} (h : x < nI 0) : x.toInt < 0 := by
  have := Int32.lt_iff_toInt_lt.mp h
  rw [nI_toInt (by omega)] at this
  exact this
theorem big_t {x : Int32} {n : Nat} (hn : n < 2 ^ 31) (h : nI n < x) : (n : Int) < x.toInt := by
  have := Int32.lt_iff_toInt_lt.mp h
  rw [nI_toInt hn] at this
  exact this
section CH
variable {σ μ μ1 : St_} {b p a : Nat} {B P : Nat → Nat → Nat}
theorem now_run (h : NOW_ σ μ1 b p B P a) (hl : LY_ μ μ1) : ∃ σ' μ', f_X11_runOnce KC [.ref 0] σ = some (none, σ') ∧ CX_ σ' 80 b B ∧ σ'.1 0 18 = nI 1 ∧ RK_ σ' b B P a ∧ RCF_ σ σ' ∧ σ'.1 0 19 = σ.1 0 19 ∧ f_X12_night KC [.ref 219] (sI_ μ 219 0 (nI 0)) = some (none, μ') ∧ MK_ μ' B (ru_ B P a).1 ∧ μ'.1 219 29 = (ru_ B P a).2.1 ∧ μ'.1 219 30 = (ru_ B P a).2.2 ∧ RX_ μ' B ∧ RMF_ μ1 μ' ∧ μ'.1 219 31 = μ1.1 219 31 := by
  obtain ⟨⟨hB, hP, h12, h14⟩, ⟨hC, hp, hr⟩, hx, hpm, ho⟩ := h
  obtain ⟨σ', a1, a2, a3, a4, a5, a6, a7, a8⟩ := c_runOnce hB hP h12 h14 hC hx.2 hp ho hr
  obtain ⟨μ', b1, b2, b3, b4, b5, b6⟩ := m_nightL hl hx hpm ho
  exact ⟨σ', μ', a1, a2, a3, a4, ⟨a5, fun f hf => a6 f (fun z => hf (by simp at z ⊢; omega)), fun f hf => a7 f (fun z => hf (by simp at z ⊢; omega)), a8⟩, a6 19 (by simp), b1, b2, b3, b4, RX_fr hx b5 (by decide), ⟨b5, fun f hf => b6 f (fun z => hf (by simp at z ⊢; omega))⟩, b6 31 (by simp)⟩
theorem RCF_rf : RCF_ σ σ := ⟨GF_rf _ _, fun _ _ => rfl, fun _ _ => rfl, fun _ _ _ => rfl⟩
theorem run_both (h : NOW_ σ μ1 b p B P a) (hl : LY_ μ μ1) : ∃ v σ' μ', f_X11_run KC [.ref 0] σ = some (some (.int v), σ') ∧ f_X12_run KC [.ref 219] μ = some (some (.int v), μ') ∧ RCF_ σ σ' ∧ RMF_ μ1 μ' ∧ σ'.1 0 18 = nI 1 ∧ RK_ σ' b B P a ∧ σ'.1 0 19 = μ'.1 219 31 := by
  obtain ⟨σ', μ', a1, a2, a3, a4, a5, a6, b1, b2, b3, b4, b5, b6, b7⟩ := now_run h hl
  refine ⟨(ru_ B P a).2.1, sI_ σ' 0 19 (ru_ B P a).2.2, sI_ μ' 219 31 (ru_ B P a).2.2, z_X11_run (e_X11_run_0 ?_), z_X12_run (e_X12_run_0 ?_), ⟨GF_tr a5.1 (GF_sI (by simp)), fun f hf => ?_, fun f hf => ?_, fun o i hoi => ?_⟩, ⟨fr_tr b6.1 (fr_sI (by simp)), fun f hf => ?_⟩, ?_, ⟨?_, CK_cg a4.2.1 (sI_row _ _ _ _ (by decide)) (sI_row _ _ _ _ (by decide)) (sI_row _ _ _ _ (by decide)) (sI_row _ _ _ _ (by decide)), ?_, ?_⟩, ?_⟩
  · have e4 : (sI_ σ' 0 19 (ru_ B P a).2.2).1 80 4 = (ru_ B P a).2.1 := by rw [sI_row _ _ _ _ (by decide)]; exact a4.2.2.1
    simp (disch := first | assumption | omega) only [a1, a4.2.2.2, e4, Option.some.injEq, Prod.mk.injEq, Value.int.injEq, exists_and_left, exists_eq_left', and_assoc, true_and, and_true, true_implies, false_implies, not_true_eq_false, not_false_eq_true, li_0, li_1, li_2, li_3, li_4, li_5, li_8, li_9, li_10, li_16, li_20, li_80, li_100, li_130, li_144, li_390, li_400, li_M, li_H, li_of, nI_add, pk_mul, cl_, vp_iff, nI_leI, nI_ltI, nI_eq, Nat.add_zero, Nat.zero_add, Nat.reduceEqDiff, Nat.reduceAdd, eq_self, reduceIte, Bool.false_eq_true, li_neg]
  · have e4 : (sI_ μ' 219 31 (ru_ B P a).2.2).1 219 29 = (ru_ B P a).2.1 := by rw [sI_at, if_neg (by omega)]; exact b3
    simp (disch := first | assumption | omega) only [b1, b4, e4, Option.some.injEq, Prod.mk.injEq, Value.int.injEq, exists_and_left, exists_eq_left', and_assoc, true_and, and_true, true_implies, false_implies, not_true_eq_false, not_false_eq_true, li_0, li_1, li_2, li_3, li_4, li_5, li_8, li_9, li_10, li_16, li_20, li_80, li_100, li_130, li_144, li_390, li_400, li_M, li_H, li_of, nI_add, pk_mul, cl_, vp_iff, nI_leI, nI_ltI, nI_eq, Nat.add_zero, Nat.zero_add, Nat.reduceEqDiff, Nat.reduceAdd, eq_self, reduceIte, Bool.false_eq_true, li_neg]
  · rw [sI_at, if_neg (fun z => hf (by rw [z.2]; simp))]
    exact a5.2.1 f hf
  · rw [sI_row _ _ _ _ (by decide)]
    exact a5.2.2.1 f hf
  · rw [sI_2]
    exact a5.2.2.2 o i hoi
  · rw [sI_at, if_neg (fun z => hf (by rw [z.2]; simp))]
    exact b6.2 f hf
  · rw [sI_at, if_neg (by omega)]
    exact a3
  · rw [sI_2]
    exact a4.1
  · rw [sI_row _ _ _ _ (by decide)]
    exact a4.2.2.1
  · rw [sI_row _ _ _ _ (by decide)]
    exact a4.2.2.2
  · rw [sI_at, if_pos ⟨rfl, rfl⟩, sI_at, if_pos ⟨rfl, rfl⟩]
/-- the end of such a call: the RUN is there, or was not needed -/
def REd_ (σ σ' μ1 μ' : St_) (b : Nat) (B P : Nat → Nat → Nat) (a : Nat) : Prop := RCF_ σ σ' ∧ RMF_ μ1 μ' ∧ RU_ σ' b B P a ∧ σ'.1 0 19 = σ.1 0 19 ∧ μ'.1 219 31 = μ1.1 219 31
theorem known_both (h : NOW_ σ μ1 b p B P a) (hl : LY_ μ μ1) (x1 x2 : Int32) : ∃ v σ' μ', f_X11_known KC [.ref 0, .int x1, .int x2] σ = some (some (.int v), σ') ∧ f_X12_known KC [.ref 219, .int x1, .int x2] μ = some (some (.int v), μ') ∧ REd_ σ σ' μ1 μ' b B P a := by
  have h0 := h
  obtain ⟨⟨hB, hP, h12, h14⟩, ⟨hC, hp, hr⟩, hx, hpm, ho⟩ := h
  have hO := hx.2
  have hb := BO_c hO
  obtain ⟨σ', μ', a1, a2, a3, a4, a5, a6, b1, b2, b3, b4, b5, b6, b7⟩ := now_run h0 hl
  rcases id_or x1 (n := B 0 1) (by omega) with ⟨r, rfl, hr1⟩ | h1
  · rcases id_or x2 (n := B 0 0) (by omega) with ⟨c, rfl, hc1⟩ | h2
    · have e1 := a4.2.1.2 (16 * r + c) (by omega)
      have e2 := b2.2 (16 * r + c) (by omega)
      refine ⟨(ru_ B P a).1.2.2.2 (16 * r + c), σ', μ', z_X11_known (e_X11_known_0 ?_), z_X12_known (e_X12_known_0 ?_), a5, b6, .inr ⟨a3, a4⟩, a6, b7⟩
      · simp (disch := first | assumption | omega) only [h12, hB, c_hasReaderYes hB hC hO hr1, c_hasChapYes hB hC hO hc1, a1, mul16, e1, Option.some.injEq, Prod.mk.injEq, Value.int.injEq, exists_and_left, exists_eq_left', and_assoc, true_and, and_true, true_implies, false_implies, not_true_eq_false, not_false_eq_true, li_0, li_1, li_2, li_3, li_4, li_5, li_8, li_9, li_10, li_16, li_20, li_80, li_100, li_130, li_144, li_390, li_400, li_M, li_H, li_of, nI_add, pk_mul, cl_, vp_iff, nI_leI, nI_ltI, nI_eq, Nat.add_zero, Nat.zero_add, Nat.reduceEqDiff, Nat.reduceAdd, eq_self, reduceIte, Bool.false_eq_true, li_neg]
        (repeat' apply And.intro) <;> first | omega | rfl | assumption
      · simp (disch := first | assumption | omega) only [b1, m_isReaderYes b5 hr1, m_isChapYes b5 hc1, e2, Option.some.injEq, Prod.mk.injEq, Value.int.injEq, exists_and_left, exists_eq_left', and_assoc, true_and, and_true, true_implies, false_implies, not_true_eq_false, not_false_eq_true, li_0, li_1, li_2, li_3, li_4, li_5, li_8, li_9, li_10, li_16, li_20, li_80, li_100, li_130, li_144, li_390, li_400, li_M, li_H, li_of, nI_add, pk_mul, cl_, vp_iff, nI_leI, nI_ltI, nI_eq, Nat.add_zero, Nat.zero_add, Nat.reduceEqDiff, Nat.reduceAdd, eq_self, reduceIte, Bool.false_eq_true, li_neg]
        (repeat' apply And.intro) <;> first | omega | rfl | assumption
    · refine ⟨nM_, σ, μ', z_X11_known (e_X11_known_0 ?_), z_X12_known (e_X12_known_0 ?_), RCF_rf, b6, hr, rfl, b7⟩
      · simp (disch := first | assumption | omega) only [h12, hB, c_hasReaderYes hB hC hO hr1, c_hasChapNo hB hC h2, Option.some.injEq, Prod.mk.injEq, Value.int.injEq, exists_and_left, exists_eq_left', and_assoc, true_and, and_true, true_implies, false_implies, not_true_eq_false, not_false_eq_true, li_0, li_1, li_2, li_3, li_4, li_5, li_8, li_9, li_10, li_16, li_20, li_80, li_100, li_130, li_144, li_390, li_400, li_M, li_H, li_of, nI_add, pk_mul, cl_, vp_iff, nI_leI, nI_ltI, nI_eq, Nat.add_zero, Nat.zero_add, Nat.reduceEqDiff, Nat.reduceAdd, eq_self, reduceIte, Bool.false_eq_true, li_neg]
      · simp (disch := first | assumption | omega) only [b1, m_isReaderYes b5 hr1, m_isChapNo b5 h2, Option.some.injEq, Prod.mk.injEq, Value.int.injEq, exists_and_left, exists_eq_left', and_assoc, true_and, and_true, true_implies, false_implies, not_true_eq_false, not_false_eq_true, li_0, li_1, li_2, li_3, li_4, li_5, li_8, li_9, li_10, li_16, li_20, li_80, li_100, li_130, li_144, li_390, li_400, li_M, li_H, li_of, nI_add, pk_mul, cl_, vp_iff, nI_leI, nI_ltI, nI_eq, Nat.add_zero, Nat.zero_add, Nat.reduceEqDiff, Nat.reduceAdd, eq_self, reduceIte, Bool.false_eq_true, li_neg]
  · refine ⟨nM_, σ, μ', z_X11_known (e_X11_known_0 ?_), z_X12_known (e_X12_known_0 ?_), RCF_rf, b6, hr, rfl, b7⟩
    · simp (disch := first | assumption | omega) only [h12, hB, c_hasReaderNo hB hC h1, Option.some.injEq, Prod.mk.injEq, Value.int.injEq, exists_and_left, exists_eq_left', and_assoc, true_and, and_true, true_implies, false_implies, not_true_eq_false, not_false_eq_true, li_0, li_1, li_2, li_3, li_4, li_5, li_8, li_9, li_10, li_16, li_20, li_80, li_100, li_130, li_144, li_390, li_400, li_M, li_H, li_of, nI_add, pk_mul, cl_, vp_iff, nI_leI, nI_ltI, nI_eq, Nat.add_zero, Nat.zero_add, Nat.reduceEqDiff, Nat.reduceAdd, eq_self, reduceIte, Bool.false_eq_true, li_neg]
    · simp (disch := first | assumption | omega) only [b1, m_isReaderNo b5 h1, Option.some.injEq, Prod.mk.injEq, Value.int.injEq, exists_and_left, exists_eq_left', and_assoc, true_and, and_true, true_implies, false_implies, not_true_eq_false, not_false_eq_true, li_0, li_1, li_2, li_3, li_4, li_5, li_8, li_9, li_10, li_16, li_20, li_80, li_100, li_130, li_144, li_390, li_400, li_M, li_H, li_of, nI_add, pk_mul, cl_, vp_iff, nI_leI, nI_ltI, nI_eq, Nat.add_zero, Nat.zero_add, Nat.reduceEqDiff, Nat.reduceAdd, eq_self, reduceIte, Bool.false_eq_true, li_neg]
end CH
