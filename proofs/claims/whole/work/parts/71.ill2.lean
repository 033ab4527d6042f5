theorem b_no {b : Nat} (hb : isB b) : b + 27 < 60 ∨ 142 < b := by
  unfold isB at hb
  omega
section IL3
variable {σ μ : St_} {b p : Nat} {B P : Nat → Nat → Nat} {k : K_} {s f a i h : Nat}
theorem wr_0 (B : Nat → Nat → Nat) (k : K_) (h c : Nat) : wr_ B k h c 0 0 = if k.1 h < nI (tR_ B h c) then 1 else 0 := by
  unfold wr_
  rw [if_pos rfl]
theorem do_0 (B : Nat → Nat → Nat) (k : K_) (h c : Nat) : doK_ B k h c 0 0 = rdK_ B k h c := by
  unfold doK_
  rw [if_pos rfl]
/-- what the class's list of missed CHAPS holds -/
def ML_ (σ : St_) (M : List Nat) : Prop := σ.1 92 2 = nI M.length ∧ ∀ j (hj : j < M.length), σ.1 98 j = nI M[j]
theorem ML_cg {σ σ' : St_} {M : List Nat} (hm : ML_ σ M) (h1 : σ'.1 92 2 = σ.1 92 2) (h2 : σ'.1 98 = σ.1 98) : ML_ σ' M := ⟨h1.trans hm.1, fun j hj => by rw [h2]; exact hm.2 j hj⟩
theorem c_readMissed {M : List Nat} (hx : CX_ σ 93 b B) (hM : ML_ σ M) (hl : M.length ≤ 100) (hm : ∀ c, c ∈ M → c < B 0 0) (hk : CK_ σ 93 B k) (hh : h < B 0 1) : ∃ σ', f_X3_readMissed KC [.ref 92, .int (nI h)] σ = some (none, σ') ∧ CK_ σ' 93 B (hel_ B h M k) ∧ CF_ 93 σ σ' := by
  have h3 := BO_c hx.2.2
  have loop : ∀ (t : List Nat) (j : Nat) (k1 : K_) (σ1 : St_), t = M.drop j → j ≤ M.length → CX_ σ1 93 b B → ML_ σ1 M → CK_ σ1 93 B k1 → ∃ σ', Ev_ (P_X3_readMissed KC) 2 [some (.ref 92), some (.int (nI h)), some (.int (nI j)), none] [] σ1 (none, σ') ∧ CK_ σ' 93 B (hel_ B h t k1) ∧ CF_ 93 σ1 σ' := by
    intro t
    induction t with
    | nil =>
      intro j k1 σ1 ht hj hx1 hM1 hk1
      have hj2 : M.length ≤ j := by
        have := congrArg List.length ht
        simp at this
        omega
      refine ⟨σ1, e_X3_readMissed_2 ?_, hk1, CF_rf⟩
      simp (disch := first | assumption | omega) only [hM1.1, hj2, Option.some.injEq, Prod.mk.injEq, Value.int.injEq, exists_and_left, exists_eq_left', and_assoc, true_and, and_true, true_implies, false_implies, not_true_eq_false, not_false_eq_true, li_0, li_1, li_2, li_3, li_4, li_5, li_8, li_9, li_10, li_16, li_20, li_80, li_100, li_130, li_144, li_390, li_400, li_M, li_H, li_of, nI_add, pk_mul, cl_, vp_iff, nI_leI, nI_ltI, nI_eq, Nat.add_zero, Nat.zero_add, Nat.reduceEqDiff, Nat.reduceAdd, eq_self, reduceIte, Bool.false_eq_true, li_neg]
    | cons c t ih =>
      intro j k1 σ1 ht hj hx1 hM1 hk1
      have hj1 : j < M.length := by
        have := congrArg List.length ht
        simp at this
        omega
      have hc : M[j] = c ∧ t = M.drop (j + 1) := by
        rw [List.drop_eq_getElem_cons hj1] at ht
        injection ht with q1 q2
        exact ⟨q1.symm, q2⟩
      have hcB : c < B 0 0 := hm c (by rw [← hc.1]; exact List.getElem_mem hj1)
      have hj2 : ¬ M.length ≤ j := by omega
      have e98 : σ1.1 98 j = nI c := by rw [hM1.2 j hj1, hc.1]
      have e95 : σ1.1 95 h = k1.2.1 h := CK_r (m := 93) hk1 hh
      by_cases hb : hb_ (k1.2.1 h) c
      · obtain ⟨σ', q1, q2, q3⟩ := ih (j + 1) k1 σ1 hc.2 (by omega) hx1 hM1 hk1
        refine ⟨σ', e_X3_readMissed_2 ?_, by rw [hel_, if_pos hb]; exact q2, q3⟩
        simp (disch := first | assumption | omega) only [hM1.1, hj2, e98, e95, hb_0, hb, Option.some.injEq, Prod.mk.injEq, Value.int.injEq, exists_and_left, exists_eq_left', and_assoc, true_and, and_true, true_implies, false_implies, not_true_eq_false, not_false_eq_true, li_0, li_1, li_2, li_3, li_4, li_5, li_8, li_9, li_10, li_16, li_20, li_80, li_100, li_130, li_144, li_390, li_400, li_M, li_H, li_of, nI_add, pk_mul, cl_, vp_iff, nI_leI, nI_ltI, nI_eq, Nat.add_zero, Nat.zero_add, Nat.reduceEqDiff, Nat.reduceAdd, eq_self, reduceIte, Bool.false_eq_true, li_neg]
        (repeat' apply And.intro) <;> first | omega | rfl | assumption | exact q1
      · have hw := c_wrongOf (f := 0) (l := 0) hx1 hk1 hh hcB (by omega) (Nat.two_pow_pos _)
        rw [wr_0] at hw
        by_cases ht2 : k1.1 h < nI (tR_ B h c)
        · refine ⟨σ1, e_X3_readMissed_2 ?_, by rw [hel_, if_neg hb, if_pos ht2]; exact hk1, CF_rf⟩
          rw [if_pos ht2] at hw
          simp (disch := first | assumption | omega) only [hM1.1, hj2, e98, e95, hb_0, hb, hw, Option.some.injEq, Prod.mk.injEq, Value.int.injEq, exists_and_left, exists_eq_left', and_assoc, true_and, and_true, true_implies, false_implies, not_true_eq_false, not_false_eq_true, li_0, li_1, li_2, li_3, li_4, li_5, li_8, li_9, li_10, li_16, li_20, li_80, li_100, li_130, li_144, li_390, li_400, li_M, li_H, li_of, nI_add, pk_mul, cl_, vp_iff, nI_leI, nI_ltI, nI_eq, Nat.add_zero, Nat.zero_add, Nat.reduceEqDiff, Nat.reduceAdd, eq_self, reduceIte, Bool.false_eq_true, li_neg]
          (repeat' apply And.intro) <;> first | omega | rfl | assumption
        · obtain ⟨σ2, g1, g2, g3⟩ := c_perform (f := 0) (l := 0) hx1 hk1 hh hcB (by omega) (by decide)
          rw [do_0] at g2
          obtain ⟨σ', q1, q2, q3⟩ := ih (j + 1) _ σ2 hc.2 (by omega) (CX_CF hx1 g3) (ML_cg hM1 (by rw [g3.1 92 (by decide)]) (g3.1 98 (by decide))) g2
          refine ⟨σ', e_X3_readMissed_2 ?_, by rw [hel_, if_neg hb, if_neg ht2]; exact q2, CF_tr g3 q3⟩
          rw [if_neg ht2] at hw
          simp (disch := first | assumption | omega) only [hM1.1, hj2, e98, e95, hb_0, hb, hw, g1, Option.some.injEq, Prod.mk.injEq, Value.int.injEq, exists_and_left, exists_eq_left', and_assoc, true_and, and_true, true_implies, false_implies, not_true_eq_false, not_false_eq_true, li_0, li_1, li_2, li_3, li_4, li_5, li_8, li_9, li_10, li_16, li_20, li_80, li_100, li_130, li_144, li_390, li_400, li_M, li_H, li_of, nI_add, pk_mul, cl_, vp_iff, nI_leI, nI_ltI, nI_eq, Nat.add_zero, Nat.zero_add, Nat.reduceEqDiff, Nat.reduceAdd, eq_self, reduceIte, Bool.false_eq_true, li_neg]
          (repeat' apply And.intro) <;> first | omega | rfl | assumption | exact q1
  obtain ⟨σ', q1, q2, q3⟩ := loop M 0 k σ rfl (by omega) hx hM hk
  exact ⟨σ', z_X3_readMissed (e_X3_readMissed_0 q1), q2, q3⟩
theorem hv_eq (hO : BO_ B) (ho : PO_ B P a) (hh : h < B 0 1) : hv_ B P s f a h = (smK_ B (iN_ B P s f a).1 (B 0 1) - ia_ B (iN_ B P s f a).1 h) + ia_ B (hel_ B h (ms_ P s f a) (iN_ B P s f a).1) h := by
  have h3 := BO_c hO
  have hm : ∀ c, c ∈ ms_ P s f a → c < 16 := fun c hc => by
    have := ms_mem ho a (Nat.le_refl _) c hc
    omega
  unfold hv_
  rw [sm_row (r := h) h3.1 (fun q c hq hc => (hel_o hq _ _ hm).2.2 c hc), if_pos hh]
  generalize ia_ B (iN_ B P s f a).1 h = x
  generalize ia_ B (hel_ B h (ms_ P s f a) (iN_ B P s f a).1) h = y
  generalize smK_ B (iN_ B P s f a).1 (B 0 1) = z
  grind
/-- who HELPS, and the SUM then -/
theorem c_fall (hB : isB b) (hP : isP p) (hC : CB_ σ b B) (hO : BO_ B) (hp : PC_ σ p P a) (ho : PO_ B P a) (hs : s < B 0 1) (hff : f ≤ a) : ∃ σ', f_X3_fall KC [.ref 92, .ref b, .ref p, .int (nI s), .int (nI f)] σ = some (none, σ') ∧ σ'.1 92 3 = smK_ B (iN_ B P s f a).1 (B 0 1) ∧ σ'.1 92 4 = nI (iN_ B P s f a).2 ∧ σ'.1 92 5 = (hs_ B P s f a (B 0 1)).1 ∧ σ'.1 92 6 = (hs_ B P s f a (B 0 1)).2 ∧ GF_ [92, 93, 94, 95, 96, 97, 98] σ σ' := by
  have h3 := BO_c hO
  have ha := ho.1
  have pn := p_no hP
  have bn := b_no hB
  have hlen := ms_len (P := P) (s := s) (f := f) a
  have hmem := ms_mem (s := s) (f := f) ho a (Nat.le_refl _)
  -- the helpers
  have l151 : ∀ n h σ1 k1, h + n = B 0 1 → CX_ σ1 93 b B → CK_ σ1 93 B k1 → (∀ q, h ≤ q → RE_ q k1 (iN_ B P s f a).1) → ML_ σ1 (ms_ P s f a) → σ1.1 92 3 = smK_ B (iN_ B P s f a).1 (B 0 1) → σ1.1 92 4 = nI (iN_ B P s f a).2 → σ1.1 92 5 = (hs_ B P s f a h).1 → σ1.1 92 6 = (hs_ B P s f a h).2 → ∃ σ', Ev_ (P_X3_fall KC) 151 [some (.ref 92), some (.ref b), some (.ref p), some (.int (nI s)), some (.int (nI f)), some (.int (nI h)), none] [] σ1 (none, σ') ∧ σ'.1 92 3 = smK_ B (iN_ B P s f a).1 (B 0 1) ∧ σ'.1 92 4 = nI (iN_ B P s f a).2 ∧ σ'.1 92 5 = (hs_ B P s f a (B 0 1)).1 ∧ σ'.1 92 6 = (hs_ B P s f a (B 0 1)).2 ∧ fr_ [92, 93, 94, 95, 96, 97, 98] σ1 σ' := by
    intro n
    induction n with
    | zero =>
      intro h σ1 k1 hh hx hk hr hM e3 e4 e5 e6
      obtain rfl : h = B 0 1 := by omega
      refine ⟨σ1, e_X3_fall_151 hB hP ?_, e3, e4, e5, e6, fr_rf _ _⟩
      simp (disch := first | assumption | omega) only [hx.2.1.1.2.1, Nat.le_refl, Option.some.injEq, Prod.mk.injEq, Value.int.injEq, exists_and_left, exists_eq_left', and_assoc, true_and, and_true, true_implies, false_implies, not_true_eq_false, not_false_eq_true, li_0, li_1, li_2, li_3, li_4, li_5, li_8, li_9, li_10, li_16, li_20, li_80, li_100, li_130, li_144, li_390, li_400, li_M, li_H, li_of, nI_add, pk_mul, cl_, vp_iff, nI_leI, nI_ltI, nI_eq, Nat.add_zero, Nat.zero_add, Nat.reduceEqDiff, Nat.reduceAdd, eq_self, reduceIte, Bool.false_eq_true, li_neg]
    | succ n ih =>
      intro h σ1 k1 hh hx hk hr hM e3 e4 e5 e6
      have h1 : ¬ B 0 1 ≤ h := by omega
      have h2 : h < B 0 1 := by omega
      by_cases hhs : h = s
      · have e : hs_ B P s f a (h + 1) = hs_ B P s f a h := by rw [hs_, if_pos hhs]
        obtain ⟨σ', q1, q2⟩ := ih (h + 1) σ1 k1 (by omega) hx hk (fun q hq => hr q (by omega)) hM e3 e4 (by rw [e]; exact e5) (by rw [e]; exact e6)
        refine ⟨σ', e_X3_fall_151 hB hP ?_, q2⟩
        have h1' : ¬ B 0 1 ≤ s := by rw [← hhs]; exact h1
        simp (disch := first | assumption | omega) only [hx.2.1.1.2.1, hhs, h1', Option.some.injEq, Prod.mk.injEq, Value.int.injEq, exists_and_left, exists_eq_left', and_assoc, true_and, and_true, true_implies, false_implies, not_true_eq_false, not_false_eq_true, li_0, li_1, li_2, li_3, li_4, li_5, li_8, li_9, li_10, li_16, li_20, li_80, li_100, li_130, li_144, li_390, li_400, li_M, li_H, li_of, nI_add, pk_mul, cl_, vp_iff, nI_leI, nI_ltI, nI_eq, Nat.add_zero, Nat.zero_add, Nat.reduceEqDiff, Nat.reduceAdd, eq_self, reduceIte, Bool.false_eq_true, li_neg]
        rw [hhs] at q1
        exact q1
      · obtain ⟨σ2, g1, g2, g3⟩ := c_readMissed hx hM (by omega) hmem hk h2
        have hx2 := CX_CF hx g3
        have r1 := hr h (Nat.le_refl _)
        have hm16 : ∀ c, c ∈ ms_ P s f a → c < 16 := fun c hc => by
          have := hmem c hc
          omega
        have r2 := hel_RE (B := B) (h := h) (ms_ P s f a) _ _ hm16 r1
        have i1 : ia_ B k1 h = ia_ B (iN_ B P s f a).1 h := ia_cg h3.1 r1.2.2
        have i2 : ia_ B (hel_ B h (ms_ P s f a) k1) h = ia_ B (hel_ B h (ms_ P s f a) (iN_ B P s f a).1) h := ia_cg h3.1 r2.2.2
        have hv := hv_eq (s := s) (f := f) hO ho h2
        rw [← i1, ← i2] at hv
        have ha1 := c_inAll hx hk (show h < 9 by omega)
        have ha2 := c_inAll hx2 g2 (show h < 9 by omega)
        have f92 : σ2.1 92 = σ1.1 92 := g3.1 92 (by decide)
        have rest : ∀ q, h + 1 ≤ q → RE_ q (hel_ B h (ms_ P s f a) k1) (iN_ B P s f a).1 := fun q hq => RE_tr (hel_o (by omega) _ _ hm16) (hr q (by omega))
        have hM2 : ML_ σ2 (ms_ P s f a) := ML_cg hM (by rw [f92]) (g3.1 98 (by decide))
        by_cases hg : (hs_ B P s f a h).2 < hv_ B P s f a h
        · have e : hs_ B P s f a (h + 1) = (nI h, hv_ B P s f a h) := by rw [hs_, if_neg hhs, if_pos hg]
          have n92 : ∀ (i : Nat) (x : Int32), CX_ (sI_ (sI_ σ2 92 6 x) 92 5 (nI i)) 93 b B := fun i x => by
            refine ⟨hx2.1, CB_row hB hx2.2.1 (fun o o1 o2 => (sI_row _ _ _ _ (by omega)).trans (sI_row _ _ _ _ (by omega))) hO, hO⟩
          have hg2 := Int32.not_le.mpr hg
          rw [hv] at hg2
          obtain ⟨σ', q1, q2, q3, q4, q5, q6⟩ := ih (h + 1) (sI_ (sI_ σ2 92 6 (hv_ B P s f a h)) 92 5 (nI h)) _ (by omega) (n92 h _) (CK_cg g2 ((sI_row _ _ _ _ (by decide)).trans (sI_row _ _ _ _ (by decide))) ((sI_row _ _ _ _ (by decide)).trans (sI_row _ _ _ _ (by decide))) ((sI_row _ _ _ _ (by decide)).trans (sI_row _ _ _ _ (by decide))) ((sI_row _ _ _ _ (by decide)).trans (sI_row _ _ _ _ (by decide)))) rest (ML_cg hM2 (by simp [sI_at]) ((sI_row _ _ _ _ (by decide)).trans (sI_row _ _ _ _ (by decide)))) (by simp [sI_at, f92, e3]) (by simp [sI_at, f92, e4]) (by simp [sI_at, e]) (by simp [sI_at, e])
          have ho1 : f_X3_offerHelp KC [.ref 92, .int (nI h)] σ1 = some (none, sI_ (sI_ σ2 92 6 (hv_ B P s f a h)) 92 5 (nI h)) := by
            refine z_X3_offerHelp (e_X3_offerHelp_0 ?_)
            rw [hv]
            simp (disch := first | assumption | omega) only [ha1, g1, ha2, f92, e3, e6, hg2, Option.some.injEq, Prod.mk.injEq, Value.int.injEq, exists_and_left, exists_eq_left', and_assoc, true_and, and_true, true_implies, false_implies, not_true_eq_false, not_false_eq_true, li_0, li_1, li_2, li_3, li_4, li_5, li_8, li_9, li_10, li_16, li_20, li_80, li_100, li_130, li_144, li_390, li_400, li_M, li_H, li_of, nI_add, pk_mul, cl_, vp_iff, nI_leI, nI_ltI, nI_eq, Nat.add_zero, Nat.zero_add, Nat.reduceEqDiff, Nat.reduceAdd, eq_self, reduceIte, Bool.false_eq_true, li_neg]
          refine ⟨σ', e_X3_fall_151 hB hP ?_, q2, q3, q4, q5, fr_tr (fr_mono g3 (by simp)) (fr_tr (fr_sI (by simp)) (fr_tr (fr_sI (by simp)) q6))⟩
          simp (disch := first | assumption | omega) only [hx.2.1.1.2.1, h1, hhs, ho1, Option.some.injEq, Prod.mk.injEq, Value.int.injEq, exists_and_left, exists_eq_left', and_assoc, true_and, and_true, true_implies, false_implies, not_true_eq_false, not_false_eq_true, li_0, li_1, li_2, li_3, li_4, li_5, li_8, li_9, li_10, li_16, li_20, li_80, li_100, li_130, li_144, li_390, li_400, li_M, li_H, li_of, nI_add, pk_mul, cl_, vp_iff, nI_leI, nI_ltI, nI_eq, Nat.add_zero, Nat.zero_add, Nat.reduceEqDiff, Nat.reduceAdd, eq_self, reduceIte, Bool.false_eq_true, li_neg]
          exact q1
        · have e : hs_ B P s f a (h + 1) = hs_ B P s f a h := by rw [hs_, if_neg hhs, if_neg hg]
          have hg2 := Int32.not_lt.mp hg
          rw [hv] at hg2
          obtain ⟨σ', q1, q2, q3, q4, q5, q6⟩ := ih (h + 1) σ2 _ (by omega) hx2 g2 rest hM2 (by rw [f92]; exact e3) (by rw [f92]; exact e4) (by rw [f92, e]; exact e5) (by rw [f92, e]; exact e6)
          have ho1 : f_X3_offerHelp KC [.ref 92, .int (nI h)] σ1 = some (none, σ2) := by
            refine z_X3_offerHelp (e_X3_offerHelp_0 ?_)
            simp (disch := first | assumption | omega) only [ha1, g1, ha2, f92, e3, e6, hg2, Option.some.injEq, Prod.mk.injEq, Value.int.injEq, exists_and_left, exists_eq_left', and_assoc, true_and, and_true, true_implies, false_implies, not_true_eq_false, not_false_eq_true, li_0, li_1, li_2, li_3, li_4, li_5, li_8, li_9, li_10, li_16, li_20, li_80, li_100, li_130, li_144, li_390, li_400, li_M, li_H, li_of, nI_add, pk_mul, cl_, vp_iff, nI_leI, nI_ltI, nI_eq, Nat.add_zero, Nat.zero_add, Nat.reduceEqDiff, Nat.reduceAdd, eq_self, reduceIte, Bool.false_eq_true, li_neg]
          refine ⟨σ', e_X3_fall_151 hB hP ?_, q2, q3, q4, q5, fr_tr (fr_mono g3 (by simp)) q6⟩
          simp (disch := first | assumption | omega) only [hx.2.1.1.2.1, h1, hhs, ho1, Option.some.injEq, Prod.mk.injEq, Value.int.injEq, exists_and_left, exists_eq_left', and_assoc, true_and, and_true, true_implies, false_implies, not_true_eq_false, not_false_eq_true, li_0, li_1, li_2, li_3, li_4, li_5, li_8, li_9, li_10, li_16, li_20, li_80, li_100, li_130, li_144, li_390, li_400, li_M, li_H, li_of, nI_add, pk_mul, cl_, vp_iff, nI_leI, nI_ltI, nI_eq, Nat.add_zero, Nat.zero_add, Nat.reduceEqDiff, Nat.reduceAdd, eq_self, reduceIte, Bool.false_eq_true, li_neg]
          exact q1
  -- the ACTS
  have l21 : ∀ n i σ1, i + n = a → CX_ σ1 93 b B → PC_ σ1 p P a → CK_ σ1 93 B (iN_ B P s f i).1 → ML_ σ1 (ms_ P s f i) → σ1.1 92 4 = nI (iN_ B P s f i).2 → ∃ σ', Ev_ (P_X3_fall KC) 21 [some (.ref 92), some (.ref b), some (.ref p), some (.int (nI s)), some (.int (nI f)), some (.int (nI i)), none] [] σ1 (none, σ') ∧ σ'.1 92 3 = smK_ B (iN_ B P s f a).1 (B 0 1) ∧ σ'.1 92 4 = nI (iN_ B P s f a).2 ∧ σ'.1 92 5 = (hs_ B P s f a (B 0 1)).1 ∧ σ'.1 92 6 = (hs_ B P s f a (B 0 1)).2 ∧ fr_ [92, 93, 94, 95, 96, 97, 98] σ1 σ' := by
    intro n
    induction n with
    | zero =>
      intro i σ1 hi hx hp1 hk hM hd
      obtain rfl : i = a := by omega
      have hsum := c_sum hx hk
      obtain ⟨σ', q1, q2, q3, q4, q5, q6⟩ := l151 (B 0 1) 0 (sI_ (sI_ (sI_ σ1 92 3 (smK_ B (iN_ B P s f i).1 (B 0 1))) 92 5 nM_) 92 6 nM_) _ (by omega) ⟨hx.1, CB_row hB hx.2.1 (fun o o1 o2 => (sI_row _ _ _ _ (by omega)).trans ((sI_row _ _ _ _ (by omega)).trans (sI_row _ _ _ _ (by omega)))) hO, hO⟩ (CK_cg hk (by simp only [sI_row _ _ _ _ (show 93 + 1 ≠ 92 by decide)]) (by simp only [sI_row _ _ _ _ (show 93 + 2 ≠ 92 by decide)]) (by simp only [sI_row _ _ _ _ (show 93 + 3 ≠ 92 by decide)]) (by simp only [sI_row _ _ _ _ (show 93 + 4 ≠ 92 by decide)])) (fun q _ => RE_rf _ _) (ML_cg hM (by simp [sI_at]) (by simp only [sI_row _ _ _ _ (show 98 ≠ 92 by decide)])) (by simp [sI_at]) (by simp [sI_at, hd]) (by simp [sI_at, hs_]) (by simp [sI_at, hs_])
      refine ⟨σ', e_X3_fall_21 hB hP ?_, q2, q3, q4, q5, fr_tr (fr_sI (by simp)) (fr_tr (fr_sI (by simp)) (fr_tr (fr_sI (by simp)) q6))⟩
      simp (disch := first | assumption | omega) only [hp1.1, Nat.le_refl, hsum, Option.some.injEq, Prod.mk.injEq, Value.int.injEq, exists_and_left, exists_eq_left', and_assoc, true_and, and_true, true_implies, false_implies, not_true_eq_false, not_false_eq_true, li_0, li_1, li_2, li_3, li_4, li_5, li_8, li_9, li_10, li_16, li_20, li_80, li_100, li_130, li_144, li_390, li_400, li_M, li_H, li_of, nI_add, pk_mul, cl_, vp_iff, nI_leI, nI_ltI, nI_eq, Nat.add_zero, Nat.zero_add, Nat.reduceEqDiff, Nat.reduceAdd, eq_self, reduceIte, Bool.false_eq_true, li_neg]
      exact q1
    | succ n ih =>
      intro i σ1 hi hx hp1 hk hM hd
      have hi2 : ¬ a ≤ i := by omega
      have hi3 : i < a := by omega
      have hi4 : ¬ 100 ≤ i := by omega
      obtain ⟨p1, p2, p3, p4⟩ := hp1.2 i hi3
      obtain ⟨o1, o2, o3, o4⟩ := ho.2 i hi3
      have hml := ms_len (P := P) (s := s) (f := f) i
      have hdl : (iN_ B P s f i).2 < 2 ^ 20 := by
        have key : ∀ j, (iN_ B P s f j).2 ≤ j := by
          intro j
          induction j with
          | zero => exact Nat.le_refl _
          | succ j ihj =>
            rw [iN_]
            split
            · exact Nat.succ_le_succ ihj
            · exact Nat.le_succ_of_le ihj
        have := key i
        omega
      -- behind tryAct
      have fin : ∀ (σ2 : St_) (y : Int32), CX_ σ2 93 b B → PC_ σ2 p P a → CK_ σ2 93 B (iN_ B P s f i).1 → ML_ σ2 (ms_ P s f (i + 1)) → σ2.1 92 4 = nI (iN_ B P s f i).2 → (y = if f ≤ i then nI s else nM_) → ∃ σ3 σ', f_X3_tryAct KC [.ref 92, .ref p, .int (nI i), .int y] σ2 = some (some (.int (@ite _ (ig_ B P s f (iN_ B P s f i).1 i) (Classical.propDecidable _) (nI 0) (nI 1))), σ3) ∧ Ev_ (P_X3_fall KC) 21 [some (.ref 92), some (.ref b), some (.ref p), some (.int (nI s)), some (.int (nI f)), some (.int (nI (i + 1))), none] [] (@ite _ (ig_ B P s f (iN_ B P s f i).1 i) (Classical.propDecidable _) (sI_ σ3 92 4 (nI ((iN_ B P s f i).2 + 1))) σ3) (none, σ') ∧ σ3.1 92 4 = nI (iN_ B P s f i).2 ∧ σ'.1 92 3 = smK_ B (iN_ B P s f a).1 (B 0 1) ∧ σ'.1 92 4 = nI (iN_ B P s f a).2 ∧ σ'.1 92 5 = (hs_ B P s f a (B 0 1)).1 ∧ σ'.1 92 6 = (hs_ B P s f a (B 0 1)).2 ∧ fr_ [92, 93, 94, 95, 96, 97, 98] σ2 σ' := by
        intro σ2 y hx2 hp2 hk2 hM2 hd2 hy
        obtain ⟨σ3, g1, g2, g3⟩ := c_illAct (s := s) (f := f) hx2 hP hp2 ho hk2 hi3 hs y hy
        have f92 : σ3.1 92 = σ2.1 92 := g3.1 92 (by decide)
        have f98 : σ3.1 98 = σ2.1 98 := g3.1 98 (by decide)
        have hp3 : PC_ σ3 p P a := PC_cg hp2 (fun o h1 h2 => g3.1 o (by simp; omega))
        by_cases hg : ig_ B P s f (iN_ B P s f i).1 i
        · have e : iN_ B P s f (i + 1) = ((iN_ B P s f i).1, (iN_ B P s f i).2 + 1) := by rw [iN_, if_pos hg]
          rw [if_pos hg] at g2
          obtain ⟨σ', q1, q2, q3, q4, q5, q6⟩ := ih (i + 1) (sI_ σ3 92 4 (nI ((iN_ B P s f i).2 + 1))) (by omega) ⟨hx2.1.1 |> fun _ => ⟨isM93, hB, by rw [sI_2, g3.2]; exact hx2.1.2.2⟩, CB_row hB (CX_CF hx2 g3).2.1 (fun o o1 o2 => sI_row _ _ _ _ (by omega)) hO, hO⟩ (PC_cg hp3 (fun o h1 h2 => sI_row _ _ _ _ (by omega))) (by rw [e]; exact CK_cg g2 (sI_row _ _ _ _ (by decide)) (sI_row _ _ _ _ (by decide)) (sI_row _ _ _ _ (by decide)) (sI_row _ _ _ _ (by decide))) (ML_cg hM2 (by simp [sI_at, f92]) ((sI_row _ _ _ _ (by decide)).trans f98)) (by simp [sI_at, e])
          exact ⟨σ3, σ', g1, by rw [if_pos hg]; exact q1, by rw [f92]; exact hd2, q2, q3, q4, q5, fr_tr (fr_mono g3 (by simp)) (fr_tr (fr_sI (by simp)) q6)⟩
        · have e : iN_ B P s f (i + 1) = (doK_ B (iN_ B P s f i).1 (P i 0) (P i 1) (P i 2) (il_ P s f i), (iN_ B P s f i).2) := by rw [iN_, if_neg hg]
          rw [if_neg hg] at g2
          obtain ⟨σ', q1, q2, q3, q4, q5, q6⟩ := ih (i + 1) σ3 (by omega) (CX_CF hx2 g3) hp3 (by rw [e]; exact g2) (ML_cg hM2 (by rw [f92]) f98) (by rw [f92, e]; exact hd2)
          exact ⟨σ3, σ', g1, by rw [if_neg hg]; exact q1, by rw [f92]; exact hd2, q2, q3, q4, q5, fr_tr (fr_mono g3 (by simp)) q6⟩
      have t49 : ∀ y : Int32, (y = if f ≤ i then nI s else nM_) → ∃ σ', Ev_ (P_X3_fall KC) 49 [some (.ref 92), some (.ref b), some (.ref p), some (.int (nI s)), some (.int (nI f)), some (.int (nI i)), none] [.int y] σ1 (none, σ') ∧ σ'.1 92 3 = smK_ B (iN_ B P s f a).1 (B 0 1) ∧ σ'.1 92 4 = nI (iN_ B P s f a).2 ∧ σ'.1 92 5 = (hs_ B P s f a (B 0 1)).1 ∧ σ'.1 92 6 = (hs_ B P s f a (B 0 1)).2 ∧ fr_ [92, 93, 94, 95, 96, 97, 98] σ1 σ' := by
        intro y hy
        have hye : (nI (P i 0) = y) = (f ≤ i ∧ P i 0 = s) := by
          rw [hy]
          refine propext ?_
          split
          · rename_i h1
            rw [nI_eq (by omega) (by omega)]
            exact ⟨fun z => ⟨h1, z⟩, fun z => z.2⟩
          · rename_i h1
            exact ⟨fun z => absurd z (nI_m1 (by omega)), fun z => absurd z.1 h1⟩
        by_cases hA : f ≤ i ∧ P i 0 = s
        · have hyS : nI (P i 0) = y := by rw [hye]; exact hA
          by_cases hF : P i 2 = 0
          · -- a missed CHAP more
            have em : ms_ P s f (i + 1) = ms_ P s f i ++ [P i 1] := by rw [ms_, if_pos ⟨hA.1, hA.2, hF⟩]
            obtain ⟨σ3, σ', g1, g2, g3, q2, q3, q4, q5, q6⟩ := fin (sI_ (sI_ σ1 98 (ms_ P s f i).length (nI (P i 1))) 92 2 (nI ((ms_ P s f i).length + 1))) y ⟨hx.1, CB_row hB hx.2.1 (fun o o1 o2 => (sI_row _ _ _ _ (by omega)).trans (sI_row _ _ _ _ (by omega))) hO, hO⟩ (PC_cg hp1 (fun o h1 h2 => (sI_row _ _ _ _ (by omega)).trans (sI_row _ _ _ _ (by omega)))) (CK_cg hk ((sI_row _ _ _ _ (by decide)).trans (sI_row _ _ _ _ (by decide))) ((sI_row _ _ _ _ (by decide)).trans (sI_row _ _ _ _ (by decide))) ((sI_row _ _ _ _ (by decide)).trans (sI_row _ _ _ _ (by decide))) ((sI_row _ _ _ _ (by decide)).trans (sI_row _ _ _ _ (by decide)))) (by
              rw [em]
              refine ⟨by simp [sI_at], fun j hj => ?_⟩
              rw [sI_row _ _ _ _ (by decide), sI_at]
              by_cases e : j = (ms_ P s f i).length
              · subst e
                rw [if_pos ⟨rfl, rfl⟩]
                simp
              · have hj2 : j < (ms_ P s f i).length := by
                  rw [List.length_append] at hj
                  simp at hj
                  omega
                rw [if_neg (fun z => e z.2), hM.2 j hj2, List.getElem_append_left hj2]) (by simp [sI_at, hd]) hy
            have e98 : ∀ j x, (sI_ σ1 98 j x).1 92 = σ1.1 92 := fun j x => sI_row _ _ _ _ (by decide)
            refine ⟨σ', e_X3_fall_49 hB hP ?_, q2, q3, q4, q5, fr_tr (fr_sI (by simp)) (fr_tr (fr_sI (by simp)) q6)⟩
            by_cases hg : ig_ B P s f (iN_ B P s f i).1 i
            · rw [if_pos hg] at g1 g2
              simp (disch := first | assumption | omega) only [p1, hyS, p3, hF, hM.1, p2, e98, g1, g3, Option.some.injEq, Prod.mk.injEq, Value.int.injEq, exists_and_left, exists_eq_left', and_assoc, true_and, and_true, true_implies, false_implies, not_true_eq_false, not_false_eq_true, li_0, li_1, li_2, li_3, li_4, li_5, li_8, li_9, li_10, li_16, li_20, li_80, li_100, li_130, li_144, li_390, li_400, li_M, li_H, li_of, nI_add, pk_mul, cl_, vp_iff, nI_leI, nI_ltI, nI_eq, Nat.add_zero, Nat.zero_add, Nat.reduceEqDiff, Nat.reduceAdd, eq_self, reduceIte, Bool.false_eq_true, li_neg]
              (repeat' apply And.intro) <;> first | omega | rfl | assumption | exact g2
            · rw [if_neg hg] at g1 g2
              simp (disch := first | assumption | omega) only [p1, hyS, p3, hF, hM.1, p2, e98, g1, g3, Option.some.injEq, Prod.mk.injEq, Value.int.injEq, exists_and_left, exists_eq_left', and_assoc, true_and, and_true, true_implies, false_implies, not_true_eq_false, not_false_eq_true, li_0, li_1, li_2, li_3, li_4, li_5, li_8, li_9, li_10, li_16, li_20, li_80, li_100, li_130, li_144, li_390, li_400, li_M, li_H, li_of, nI_add, pk_mul, cl_, vp_iff, nI_leI, nI_ltI, nI_eq, Nat.add_zero, Nat.zero_add, Nat.reduceEqDiff, Nat.reduceAdd, eq_self, reduceIte, Bool.false_eq_true, li_neg]
              (repeat' apply And.intro) <;> first | omega | rfl | assumption | exact g2
          · have em : ms_ P s f (i + 1) = ms_ P s f i := by rw [ms_, if_neg (fun z => hF z.2.2), List.append_nil]
            obtain ⟨σ3, σ', g1, g2, g3, q2⟩ := fin σ1 y hx hp1 hk (by rw [em]; exact hM) hd hy
            refine ⟨σ', e_X3_fall_49 hB hP ?_, q2⟩
            by_cases hg : ig_ B P s f (iN_ B P s f i).1 i
            · rw [if_pos hg] at g1 g2
              simp (disch := first | assumption | omega) only [p1, hyS, p3, hF, g1, g3, Option.some.injEq, Prod.mk.injEq, Value.int.injEq, exists_and_left, exists_eq_left', and_assoc, true_and, and_true, true_implies, false_implies, not_true_eq_false, not_false_eq_true, li_0, li_1, li_2, li_3, li_4, li_5, li_8, li_9, li_10, li_16, li_20, li_80, li_100, li_130, li_144, li_390, li_400, li_M, li_H, li_of, nI_add, pk_mul, cl_, vp_iff, nI_leI, nI_ltI, nI_eq, Nat.add_zero, Nat.zero_add, Nat.reduceEqDiff, Nat.reduceAdd, eq_self, reduceIte, Bool.false_eq_true, li_neg]
              (repeat' apply And.intro) <;> first | omega | rfl | assumption | exact g2
            · rw [if_neg hg] at g1 g2
              simp (disch := first | assumption | omega) only [p1, hyS, p3, hF, g1, g3, Option.some.injEq, Prod.mk.injEq, Value.int.injEq, exists_and_left, exists_eq_left', and_assoc, true_and, and_true, true_implies, false_implies, not_true_eq_false, not_false_eq_true, li_0, li_1, li_2, li_3, li_4, li_5, li_8, li_9, li_10, li_16, li_20, li_80, li_100, li_130, li_144, li_390, li_400, li_M, li_H, li_of, nI_add, pk_mul, cl_, vp_iff, nI_leI, nI_ltI, nI_eq, Nat.add_zero, Nat.zero_add, Nat.reduceEqDiff, Nat.reduceAdd, eq_self, reduceIte, Bool.false_eq_true, li_neg]
              (repeat' apply And.intro) <;> first | omega | rfl | assumption | exact g2
        · have em : ms_ P s f (i + 1) = ms_ P s f i := by rw [ms_, if_neg (fun z => hA ⟨z.1, z.2.1⟩), List.append_nil]
          obtain ⟨σ3, σ', g1, g2, g3, q2⟩ := fin σ1 y hx hp1 hk (by rw [em]; exact hM) hd hy
          have hye2 : ¬ nI (P i 0) = y := by rw [hye]; exact hA
          refine ⟨σ', e_X3_fall_49 hB hP ?_, q2⟩
          by_cases hg : ig_ B P s f (iN_ B P s f i).1 i
          · rw [if_pos hg] at g1 g2
            simp (disch := first | assumption | omega) only [p1, hye2, g1, g3, Option.some.injEq, Prod.mk.injEq, Value.int.injEq, exists_and_left, exists_eq_left', and_assoc, true_and, and_true, true_implies, false_implies, not_true_eq_false, not_false_eq_true, li_0, li_1, li_2, li_3, li_4, li_5, li_8, li_9, li_10, li_16, li_20, li_80, li_100, li_130, li_144, li_390, li_400, li_M, li_H, li_of, nI_add, pk_mul, cl_, vp_iff, nI_leI, nI_ltI, nI_eq, Nat.add_zero, Nat.zero_add, Nat.reduceEqDiff, Nat.reduceAdd, eq_self, reduceIte, Bool.false_eq_true, li_neg]
            (repeat' apply And.intro) <;> first | omega | rfl | assumption | exact g2
          · rw [if_neg hg] at g1 g2
            simp (disch := first | assumption | omega) only [p1, hye2, g1, g3, Option.some.injEq, Prod.mk.injEq, Value.int.injEq, exists_and_left, exists_eq_left', and_assoc, true_and, and_true, true_implies, false_implies, not_true_eq_false, not_false_eq_true, li_0, li_1, li_2, li_3, li_4, li_5, li_8, li_9, li_10, li_16, li_20, li_80, li_100, li_130, li_144, li_390, li_400, li_M, li_H, li_of, nI_add, pk_mul, cl_, vp_iff, nI_leI, nI_ltI, nI_eq, Nat.add_zero, Nat.zero_add, Nat.reduceEqDiff, Nat.reduceAdd, eq_self, reduceIte, Bool.false_eq_true, li_neg]
            (repeat' apply And.intro) <;> first | omega | rfl | assumption | exact g2
      by_cases hfi : f ≤ i
      · have hfi2 : ¬ i < f := by omega
        obtain ⟨σ', q1, q2⟩ := t49 (nI s) (by rw [if_pos hfi])
        refine ⟨σ', e_X3_fall_21 hB hP ?_, q2⟩
        simp (disch := first | assumption | omega) only [hp1.1, hi2, hi4, hfi2, Option.some.injEq, Prod.mk.injEq, Value.int.injEq, exists_and_left, exists_eq_left', and_assoc, true_and, and_true, true_implies, false_implies, not_true_eq_false, not_false_eq_true, li_0, li_1, li_2, li_3, li_4, li_5, li_8, li_9, li_10, li_16, li_20, li_80, li_100, li_130, li_144, li_390, li_400, li_M, li_H, li_of, nI_add, pk_mul, cl_, vp_iff, nI_leI, nI_ltI, nI_eq, Nat.add_zero, Nat.zero_add, Nat.reduceEqDiff, Nat.reduceAdd, eq_self, reduceIte, Bool.false_eq_true, li_neg]
        exact q1
      · have hfi2 : i < f := by omega
        obtain ⟨σ', q1, q2⟩ := t49 nM_ (by rw [if_neg hfi])
        refine ⟨σ', e_X3_fall_21 hB hP ?_, q2⟩
        simp (disch := first | assumption | omega) only [hp1.1, hi2, hi4, hfi2, Option.some.injEq, Prod.mk.injEq, Value.int.injEq, exists_and_left, exists_eq_left', and_assoc, true_and, and_true, true_implies, false_implies, not_true_eq_false, not_false_eq_true, li_0, li_1, li_2, li_3, li_4, li_5, li_8, li_9, li_10, li_16, li_20, li_80, li_100, li_130, li_144, li_390, li_400, li_M, li_H, li_of, nI_add, pk_mul, cl_, vp_iff, nI_leI, nI_ltI, nI_eq, Nat.add_zero, Nat.zero_add, Nat.reduceEqDiff, Nat.reduceAdd, eq_self, reduceIte, Bool.false_eq_true, li_neg]
        exact q1
  obtain ⟨σ2, g1, g2, g3, g4, g5, g6, g7, g8⟩ := c_begin isM93 hB hC hO
  have hp2 : PC_ σ2 p P a := PC_cg hp (fun o h1 h2 => (g7.1 o (by simp; omega)).1)
  obtain ⟨σ', q1, q2, q3, q4, q5, q6⟩ := l21 a 0 (sI_ (sI_ σ2 92 2 (nI 0)) 92 4 (nI 0)) (by omega) ⟨g2.1, CB_row hB g2.2.1 (fun o o1 o2 => (sI_row _ _ _ _ (by omega)).trans (sI_row _ _ _ _ (by omega))) hO, hO⟩ (PC_cg hp2 (fun o h1 h2 => (sI_row _ _ _ _ (by omega)).trans (sI_row _ _ _ _ (by omega)))) (CK_cg g3 ((sI_row _ _ _ _ (by decide)).trans (sI_row _ _ _ _ (by decide))) ((sI_row _ _ _ _ (by decide)).trans (sI_row _ _ _ _ (by decide))) ((sI_row _ _ _ _ (by decide)).trans (sI_row _ _ _ _ (by decide))) ((sI_row _ _ _ _ (by decide)).trans (sI_row _ _ _ _ (by decide)))) ⟨by simp [sI_at, ms_], fun j hj => absurd hj (by simp [ms_])⟩ (by simp [sI_at, iN_])
  refine ⟨σ', z_X3_fall (e_X3_fall_0 hB hP ?_), q2, q3, q4, q5, GF_tr (GF_mono g7 (by simp)) (GF_tr (GF_sI (by simp)) (GF_tr (GF_sI (by simp)) (GF_fr q6 (fun o h => h))))⟩
  simp (disch := first | assumption | omega) only [g1, Option.some.injEq, Prod.mk.injEq, Value.int.injEq, exists_and_left, exists_eq_left', and_assoc, true_and, and_true, true_implies, false_implies, not_true_eq_false, not_false_eq_true, li_0, li_1, li_2, li_3, li_4, li_5, li_8, li_9, li_10, li_16, li_20, li_80, li_100, li_130, li_144, li_390, li_400, li_M, li_H, li_of, nI_add, pk_mul, cl_, vp_iff, nI_leI, nI_ltI, nI_eq, Nat.add_zero, Nat.zero_add, Nat.reduceEqDiff, Nat.reduceAdd, eq_self, reduceIte, Bool.false_eq_true, li_neg]
  exact q1
end IL3
