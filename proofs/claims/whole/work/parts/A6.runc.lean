/-! the RUN, on both sides -/
section CG
variable {σ μ μ1 : St_} {b p a : Nat} {B P : Nat → Nat → Nat}
theorem m_nightL (hl : LY_ μ μ1) (h : RX_ μ1 B) (hp : PM_ μ1 P a) (ho : PO_ B P a) : ∃ μ', f_X12_night KC [.ref 219] (sI_ μ 219 0 (nI 0)) = some (none, μ') ∧ MK_ μ' B (ru_ B P a).1 ∧ μ'.1 219 29 = (ru_ B P a).2.1 ∧ μ'.1 219 30 = (ru_ B P a).2.2 ∧ fr_ [219, 229, 230, 231, 232] μ1 μ' ∧ NF2_ [29, 30] 219 μ1 μ' := by
  have hl' : f_X12_lay KC [.ref 219] (sI_ μ 219 0 (nI 0)) = some (none, μ1) := hl
  obtain ⟨μ2, g1, g2, g3⟩ := m_dawn h
  have e1 : μ2.1 219 = μ1.1 219 := g3.1 219 (by decide)
  have hx2 : RX_ (sI_ (sI_ μ2 219 29 nM_) 219 30 (nI 0)) B := RX_sI (RX_sI (RX_KF h g3) (by decide)) (by decide)
  obtain ⟨μ', q1, q2, q3, q4, q5, q6⟩ := m_follow hx2 (PM_cg hp ((sI_row _ _ _ _ (by decide)).trans ((sI_row _ _ _ _ (by decide)).trans (g3.1 221 (by decide))))) ho (MK_cg g2 ((sI_row _ _ _ _ (by decide)).trans (sI_row _ _ _ _ (by decide))) ((sI_row _ _ _ _ (by decide)).trans (sI_row _ _ _ _ (by decide))) ((sI_row _ _ _ _ (by decide)).trans (sI_row _ _ _ _ (by decide))) ((sI_row _ _ _ _ (by decide)).trans (sI_row _ _ _ _ (by decide)))) (by simp [sI_at]) (by simp [sI_at]) a 0 (by omega)
  refine ⟨μ', z_X12_night (e_X12_night_0 ?_), q2, q3, q4, fr_tr (fr_mono g3 (by simp)) (fr_tr (fr_sI (by simp)) (fr_tr (fr_sI (by simp)) q5)), fun f hf => ?_⟩
  · simp (disch := first | assumption | omega) only [hl', g1, Option.some.injEq, Prod.mk.injEq, Value.int.injEq, exists_and_left, exists_eq_left', and_assoc, true_and, and_true, true_implies, false_implies, not_true_eq_false, not_false_eq_true, li_0, li_1, li_2, li_3, li_4, li_5, li_8, li_9, li_10, li_16, li_20, li_80, li_100, li_130, li_144, li_390, li_400, li_M, li_H, li_of, nI_add, pk_mul, cl_, vp_iff, nI_leI, nI_ltI, nI_eq, Nat.add_zero, Nat.zero_add, Nat.reduceEqDiff, Nat.reduceAdd, eq_self, reduceIte, Bool.false_eq_true, li_neg]
    exact q1
  · rw [q6 f hf, sI_at, if_neg (fun z => hf (by rw [z.2]; simp)), sI_at, if_neg (fun z => hf (by rw [z.2]; simp)), e1]
/-- what the class keeps of the RUN -/
def RK_ (σ : St_) (b : Nat) (B P : Nat → Nat → Nat) (a : Nat) : Prop := σ.2.2 80 9 = some b ∧ CK_ σ 80 B (ru_ B P a).1 ∧ σ.1 80 4 = (ru_ B P a).2.1 ∧ σ.1 80 5 = (ru_ B P a).2.2
def RU_ (σ : St_) (b : Nat) (B P : Nat → Nat → Nat) (a : Nat) : Prop := σ.1 0 18 = nI 0 ∨ (σ.1 0 18 = nI 1 ∧ RK_ σ b B P a)
theorem c_runOnce (hB : isB b) (hP : isP p) (h12 : σ.2.2 0 12 = some b) (h14 : σ.2.2 0 14 = some p) (hC : CB_ σ b B) (hO : BO_ B) (hp : PC_ σ p P a) (ho : PO_ B P a) (hr : RU_ σ b B P a) : ∃ σ', f_X11_runOnce KC [.ref 0] σ = some (none, σ') ∧ CX_ σ' 80 b B ∧ σ'.1 0 18 = nI 1 ∧ RK_ σ' b B P a ∧ GF_ [0, 80, 81, 82, 83, 84] σ σ' ∧ NF2_ [18] 0 σ σ' ∧ NF2_ [4, 5] 80 σ σ' ∧ ∀ o i, ¬ (o = 80 ∧ i = 9) → σ'.2.2 o i = σ.2.2 o i := by
  have bn := b_no hB
  have pn := p_no hP
  have hm : isM 80 := by unfold isM; omega
  rcases hr with h0 | ⟨h1, hk⟩
  · obtain ⟨σ1, a1, a2, a3, a4, a5, a6, a7, a8⟩ := c_begin hm hB hC hO
    have e14 : σ1.2.2 0 14 = some p := by rw [a8 0 14 (by omega)]; exact h14
    have hp1 : PC_ σ1 p P a := PC_cg hp (fun o h1 h2 => (a7.1 o (by simp; omega)).1)
    obtain ⟨σ2, q1, q2, q3, q4, q5, q6⟩ := c_follow a2 hP hp1 ho a3 a4 a5 a 0 (by omega)
    have hf : f_X5_follow KC [.ref 80, .ref p] σ1 = some (none, σ2) := z_X5_follow (e_X5_follow_0 hm hP q1)
    have g5 : GF_ [80, 81, 82, 83, 84] σ σ2 := GF_tr (GF_mono a7 (by simp)) (GF_fr q5 (by simp))
    have e9 : σ2.2.2 80 9 = some b := by rw [q5.2]; exact a2.1.2.2
    refine ⟨sI_ σ2 0 18 (nI 1), z_X11_runOnce (e_X11_runOnce_0 ?_), ⟨⟨hm, hB, by rw [sI_2]; exact e9⟩, CB_row hB hC (fun o h5 h6 => by
        unfold isB at hB
        rw [sI_row _ _ _ _ (by omega), (g5.1 o (by simp; omega)).1]) hO, hO⟩, by rw [sI_at, if_pos ⟨rfl, rfl⟩], ⟨by rw [sI_2]; exact e9, CK_cg q2 (sI_row _ _ _ _ (by decide)) (sI_row _ _ _ _ (by decide)) (sI_row _ _ _ _ (by decide)) (sI_row _ _ _ _ (by decide)), by rw [sI_row _ _ _ _ (by decide)]; exact q3, by rw [sI_row _ _ _ _ (by decide)]; exact q4⟩, GF_tr (GF_mono g5 (by simp)) (GF_sI (by simp)), fun f hf => by rw [sI_at, if_neg (fun z => hf (by rw [z.2]; simp)), (g5.1 0 (by simp)).1], fun f hf => by rw [sI_row _ _ _ _ (by decide), q6 f hf, a6 f hf], fun o i hoi => by rw [sI_2, q5.2]; exact a8 o i hoi⟩
    simp (disch := first | assumption | omega) only [h0, h12, hB, a1, e14, hP, hf, Option.some.injEq, Prod.mk.injEq, Value.int.injEq, exists_and_left, exists_eq_left', and_assoc, true_and, and_true, true_implies, false_implies, not_true_eq_false, not_false_eq_true, li_0, li_1, li_2, li_3, li_4, li_5, li_8, li_9, li_10, li_16, li_20, li_80, li_100, li_130, li_144, li_390, li_400, li_M, li_H, li_of, nI_add, pk_mul, cl_, vp_iff, nI_leI, nI_ltI, nI_eq, Nat.add_zero, Nat.zero_add, Nat.reduceEqDiff, Nat.reduceAdd, eq_self, reduceIte, Bool.false_eq_true, li_neg]
  · have h1' : ¬ σ.1 0 18 = nI 0 := by rw [h1]; decide
    refine ⟨σ, z_X11_runOnce (e_X11_runOnce_0 ?_), ⟨⟨hm, hB, hk.1⟩, hC, hO⟩, h1, hk, GF_rf _ _, fun _ _ => rfl, fun _ _ => rfl, fun _ _ _ => rfl⟩
    simp (disch := first | assumption | omega) only [h1', Option.some.injEq, Prod.mk.injEq, Value.int.injEq, exists_and_left, exists_eq_left', and_assoc, true_and, and_true, true_implies, false_implies, not_true_eq_false, not_false_eq_true, li_0, li_1, li_2, li_3, li_4, li_5, li_8, li_9, li_10, li_16, li_20, li_80, li_100, li_130, li_144, li_390, li_400, li_M, li_H, li_of, nI_add, pk_mul, cl_, vp_iff, nI_leI, nI_ltI, nI_eq, Nat.add_zero, Nat.zero_add, Nat.reduceEqDiff, Nat.reduceAdd, eq_self, reduceIte, Bool.false_eq_true, li_neg]
end CG
