/-! the calls CHAIN, NET, on both sides -/
def RH_ (σ μ : St_) : Prop := ∃ N, N ≤ 7 ∧ σ.1 129 1 = nI N ∧ μ.1 219 53 = nI N ∧ ∀ i, i < N → σ.1 130 i = μ.1 241 i
/-- the tape, on both sides -/
def TA_ (σ μ : St_) (n : Nat) (t : Nat → Nat) : Prop := (n ≤ 1040 ∧ ∀ i, t i < 256) ∧ (σ.1 1 2 = nI n ∧ ∀ i, σ.1 2 i = b8_ (t i)) ∧ μ.1 219 2 = nI n ∧ ∀ i, μ.1 220 i = nI (t i)
section CE
variable {σ μ μ1 : St_} {b n : Nat} {B : Nat → Nat → Nat} {t : Nat → Nat}
theorem chain_both (hB : isB b) (h12 : σ.2.2 0 12 = some b) (hC : CB_ σ b B) (hl : LY_ μ μ1) (hx : RX_ μ1 B) (hT : TA_ σ μ1 n t) : ∃ v σ' μ', f_X11_chain KC [.ref 0] σ = some (some (.int v), σ') ∧ f_X12_chain KC [.ref 219] μ = some (some (.int v), μ') ∧ TA_ σ' μ' 0 t ∧ GF_ [1, 129, 130, 131, 132] σ σ' ∧ NF2_ [2] 1 σ σ' ∧ fr_ [219, 240, 241, 242, 243] μ1 μ' ∧ NF2_ [2, 52, 53, 54] 219 μ1 μ' ∧ (RH_ σ μ1 → RH_ σ' μ') := by
  have hl' : f_X12_lay KC [.ref 219] (sI_ μ 219 0 (nI 0)) = some (none, μ1) := hl
  have l7 : (7 : Int32) = nI 7 := rfl
  have bn := b_no hB
  have hO := hx.2
  have h9 := hO.1.2.1
  obtain ⟨⟨hn, ht⟩, ⟨t1, t2⟩, t3, t4⟩ := hT
  have hb1 : b ≠ 1 := by unfold isB at hB; omega
  have hC1 : CB_ (sI_ σ 1 2 (nI 0)) b B := CB_row hB hC (fun o h5 h6 => sI_row _ _ _ _ (by unfold isB at hB; omega)) hO
  have t2' : ∀ i, (sI_ σ 1 2 (nI 0)).1 2 i = b8_ (t i) := fun i => by rw [sI_row _ _ _ _ (by decide)]; exact t2 i
  have hun := c_areUnlike (bd := B 0 1) (m := 7) t2' ht hn (by omega) (by omega)
  have h12' : (sI_ σ 1 2 (nI 0)).2.2 0 12 = some b := h12
  have tk : f_X12_take KC [.ref 219] μ1 = some (some (.int (nI n)), sI_ μ1 219 2 (nI 0)) := z_X12_take (e_X12_take_0 (by rw [t3]; rfl))
  have e54 : (sI_ (sI_ μ1 219 2 (nI 0)) 219 54 (nI n)).1 219 54 = nI n := by rw [sI_at, if_pos ⟨rfl, rfl⟩]
  have hx2 : RX_ (sI_ (sI_ μ1 219 2 (nI 0)) 219 54 (nI n)) B := RX_sI (RX_sI hx (by decide)) (by decide)
  have f2 : fr_ [219] μ1 (sI_ (sI_ μ1 219 2 (nI 0)) 219 54 (nI n)) := fr_tr (fr_sI (by simp)) (fr_sI (by simp))
  have g2 : NF2_ [2, 54] 219 μ1 (sI_ (sI_ μ1 219 2 (nI 0)) 219 54 (nI n)) := fun f hf => by rw [sI_at, if_neg (fun z => hf (by rw [z.2]; simp)), sI_at, if_neg (fun z => hf (by rw [z.2]; simp))]
  have e2 : (sI_ (sI_ μ1 219 2 (nI 0)) 219 54 (nI n)).1 219 2 = nI 0 := by rw [sI_at, if_neg (by omega), sI_at, if_pos ⟨rfl, rfl⟩]
  have no : ∀ μ', fr_ [243] (sI_ (sI_ μ1 219 2 (nI 0)) 219 54 (nI n)) μ' → f_X11_chain KC [.ref 0] σ = some (some (.int nM_), sI_ σ 1 2 (nI 0)) → f_X12_chain KC [.ref 219] μ = some (some (.int nM_), μ') → ∃ v σ' μ', f_X11_chain KC [.ref 0] σ = some (some (.int v), σ') ∧ f_X12_chain KC [.ref 219] μ = some (some (.int v), μ') ∧ TA_ σ' μ' 0 t ∧ GF_ [1, 129, 130, 131, 132] σ σ' ∧ NF2_ [2] 1 σ σ' ∧ fr_ [219, 240, 241, 242, 243] μ1 μ' ∧ NF2_ [2, 52, 53, 54] 219 μ1 μ' ∧ (RH_ σ μ1 → RH_ σ' μ') := fun μ' hf a1 a2 => ⟨nM_, sI_ σ 1 2 (nI 0), μ', a1, a2, ⟨⟨by omega, ht⟩, ⟨by rw [sI_at, if_pos ⟨rfl, rfl⟩], t2'⟩, by rw [hf.1 219 (by decide)]; exact e2, fun i => by rw [hf.1 220 (by decide), f2.1 220 (by decide)]; exact t4 i⟩, GF_sI (by simp), fun f hf => by rw [sI_at, if_neg (fun z => hf (by rw [z.2]; simp))], fr_tr (fr_mono f2 (by simp)) (fr_mono hf (by simp)), fun f hf2 => by rw [hf.1 219 (by decide), g2 f (fun z => hf2 (by simp at z ⊢; omega))], fun ⟨N, n1, n2, n3, n4⟩ => ⟨N, n1, by rw [sI_row _ _ _ _ (by decide)]; exact n2, by rw [hf.1 219 (by decide), g2 53 (by simp)]; exact n3, fun i hi => by rw [sI_row _ _ _ _ (by decide), hf.1 241 (by decide), f2.1 241 (by decide)]; exact n4 i hi⟩⟩
  by_cases hr : 2 ≤ n ∧ n ≤ 7
  · have i1 := m_isInYes (μ := sI_ (sI_ μ1 219 2 (nI 0)) 219 54 (nI n)) (b := 7) (by omega) hr
    rcases m_chain36 hO ht hr n 0 0 (sI_ (sI_ μ1 219 2 (nI 0)) 219 54 (nI n)) (by omega) rfl hx2 e54 (fun j => by rw [f2.1 220 (by decide)]; exact t4 j) (fun j hj => absurd hj (by omega)) with ⟨u1, μ', u2, u3⟩ | ⟨u1, μ', u2, u3, u4, u5, u6⟩
    · rw [if_neg (fun z => z.2.2 u1)] at hun
      refine no μ' u3 (z_X11_chain (e_X11_chain_0 ?_)) (z_X12_chain (e_X12_chain_0 ?_))
      · simp (disch := first | assumption | omega) only [h12', hB, t1, l7, hC1.1.2.1, hun, Option.some.injEq, Prod.mk.injEq, Value.int.injEq, exists_and_left, exists_eq_left', and_assoc, true_and, and_true, true_implies, false_implies, not_true_eq_false, not_false_eq_true, li_0, li_1, li_2, li_3, li_4, li_5, li_8, li_9, li_10, li_16, li_20, li_80, li_100, li_130, li_144, li_390, li_400, li_M, li_H, li_of, nI_add, pk_mul, cl_, vp_iff, nI_leI, nI_ltI, nI_eq, Nat.add_zero, Nat.zero_add, Nat.reduceEqDiff, Nat.reduceAdd, eq_self, reduceIte, Bool.false_eq_true, li_neg]
      · simp (disch := first | assumption | omega) only [hl', tk, e54, l7, i1, Option.some.injEq, Prod.mk.injEq, Value.int.injEq, exists_and_left, exists_eq_left', and_assoc, true_and, and_true, true_implies, false_implies, not_true_eq_false, not_false_eq_true, li_0, li_1, li_2, li_3, li_4, li_5, li_8, li_9, li_10, li_16, li_20, li_80, li_100, li_130, li_144, li_390, li_400, li_M, li_H, li_of, nI_add, pk_mul, cl_, vp_iff, nI_leI, nI_ltI, nI_eq, Nat.add_zero, Nat.zero_add, Nat.reduceEqDiff, Nat.reduceAdd, eq_self, reduceIte, Bool.false_eq_true, li_neg]
        (repeat' apply And.intro) <;> first | omega | rfl | assumption | exact u2
    · rw [if_pos ⟨hr.1, hr.2, u1⟩] at hun
      have hAO : AO_ B n t := ⟨hr.1, hr.2, by
        cases hus : us_ t (B 0 1) n with
        | none => exact absurd hus u1
        | some m => exact (us_lt (by omega) n m hus).2⟩
      obtain ⟨σ', s1, s2, s3, s4⟩ := c_chainSearch hB hC1 hO t2' ht hAO
      refine ⟨(cn_ B n t).1, σ', μ', z_X11_chain (e_X11_chain_0 ?_), z_X12_chain (e_X12_chain_0 ?_), ⟨⟨by omega, ht⟩, ⟨by rw [(s4.1 1 (by decide)).1, sI_at, if_pos ⟨rfl, rfl⟩], fun i => by rw [(s4.1 2 (by decide)).1]; exact t2' i⟩, by rw [u6 2 (by simp)]; exact e2, fun i => by rw [u5.1 220 (by decide), f2.1 220 (by decide)]; exact t4 i⟩, GF_tr (GF_sI (by simp)) (GF_mono s4 (by simp)), fun f hf => by rw [(s4.1 1 (by decide)).1, sI_at, if_neg (fun z => hf (by rw [z.2]; simp))], fr_tr (fr_mono f2 (by simp)) u5, fun f hf => by rw [u6 f (fun z => hf (by simp at z ⊢; omega)), g2 f (fun z => hf (by simp at z ⊢; omega))], fun _ => ⟨n, hr.2, s2, u3, fun i hi => by rw [s3 i hi, u4 i hi]⟩⟩
      · simp (disch := first | assumption | omega) only [h12', hB, t1, l7, hC1.1.2.1, hun, s1, Option.some.injEq, Prod.mk.injEq, Value.int.injEq, exists_and_left, exists_eq_left', and_assoc, true_and, and_true, true_implies, false_implies, not_true_eq_false, not_false_eq_true, li_0, li_1, li_2, li_3, li_4, li_5, li_8, li_9, li_10, li_16, li_20, li_80, li_100, li_130, li_144, li_390, li_400, li_M, li_H, li_of, nI_add, pk_mul, cl_, vp_iff, nI_leI, nI_ltI, nI_eq, Nat.add_zero, Nat.zero_add, Nat.reduceEqDiff, Nat.reduceAdd, eq_self, reduceIte, Bool.false_eq_true, li_neg]
      · simp (disch := first | assumption | omega) only [hl', tk, e54, l7, i1, Option.some.injEq, Prod.mk.injEq, Value.int.injEq, exists_and_left, exists_eq_left', and_assoc, true_and, and_true, true_implies, false_implies, not_true_eq_false, not_false_eq_true, li_0, li_1, li_2, li_3, li_4, li_5, li_8, li_9, li_10, li_16, li_20, li_80, li_100, li_130, li_144, li_390, li_400, li_M, li_H, li_of, nI_add, pk_mul, cl_, vp_iff, nI_leI, nI_ltI, nI_eq, Nat.add_zero, Nat.zero_add, Nat.reduceEqDiff, Nat.reduceAdd, eq_self, reduceIte, Bool.false_eq_true, li_neg]
        (repeat' apply And.intro) <;> first | omega | rfl | assumption | exact u2
  · rw [if_neg (fun z => hr ⟨z.1, z.2.1⟩)] at hun
    have hr2 : nI n < nI 2 ∨ nI 7 < nI n := by
      by_cases h : n < 2
      · exact .inl ((nI_ltI (by omega) (by omega)).mpr h)
      · exact .inr ((nI_ltI (by omega) (by omega)).mpr (by omega))
    have i1 := m_isInNo (μ := sI_ (sI_ μ1 219 2 (nI 0)) 219 54 (nI n)) hr2
    refine no (sI_ (sI_ μ1 219 2 (nI 0)) 219 54 (nI n)) (fr_rf _ _) (z_X11_chain (e_X11_chain_0 ?_)) (z_X12_chain (e_X12_chain_0 ?_))
    · simp (disch := first | assumption | omega) only [h12', hB, t1, l7, hC1.1.2.1, hun, Option.some.injEq, Prod.mk.injEq, Value.int.injEq, exists_and_left, exists_eq_left', and_assoc, true_and, and_true, true_implies, false_implies, not_true_eq_false, not_false_eq_true, li_0, li_1, li_2, li_3, li_4, li_5, li_8, li_9, li_10, li_16, li_20, li_80, li_100, li_130, li_144, li_390, li_400, li_M, li_H, li_of, nI_add, pk_mul, cl_, vp_iff, nI_leI, nI_ltI, nI_eq, Nat.add_zero, Nat.zero_add, Nat.reduceEqDiff, Nat.reduceAdd, eq_self, reduceIte, Bool.false_eq_true, li_neg]
    · simp (disch := first | assumption | omega) only [hl', tk, e54, l7, i1, Option.some.injEq, Prod.mk.injEq, Value.int.injEq, exists_and_left, exists_eq_left', and_assoc, true_and, and_true, true_implies, false_implies, not_true_eq_false, not_false_eq_true, li_0, li_1, li_2, li_3, li_4, li_5, li_8, li_9, li_10, li_16, li_20, li_80, li_100, li_130, li_144, li_390, li_400, li_M, li_H, li_of, nI_add, pk_mul, cl_, vp_iff, nI_leI, nI_ltI, nI_eq, Nat.add_zero, Nat.zero_add, Nat.reduceEqDiff, Nat.reduceAdd, eq_self, reduceIte, Bool.false_eq_true, li_neg]
end CE
