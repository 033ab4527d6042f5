/-! the class's READERS: the MINDS m, which look at the BOOK b -/
def CX_ (σ : St_) (m b : Nat) (B : Nat → Nat → Nat) : Prop := (isM m ∧ isB b ∧ σ.2.2 m 9 = some b) ∧ CB_ σ b B ∧ BO_ B
def CK_ (σ : St_) (m : Nat) (B : Nat → Nat → Nat) (k : K_) : Prop := AK_ (σ.1 (m + 1)) (σ.1 (m + 2)) (σ.1 (m + 3)) (σ.1 (m + 4)) (B 0 1) k
def CF_ (m : Nat) (σ σ' : St_) : Prop := fr_ [m + 1, m + 2, m + 3, m + 4] σ σ'
theorem mb_no {m b : Nat} (hm : isM m) (hb : isB b) : (80 ≤ m ∧ m ≤ 93) ∧ (b + 27 < m ∨ m + 5 < b) := by
  unfold isM at hm
  unfold isB at hb
  omega
section CR
variable {σ : St_} {m b : Nat} {B : Nat → Nat → Nat} {c r d : Nat} {k : K_}
theorem CF_sI {o i : Nat} {x : Int32} (h : o = m + 1 ∨ o = m + 2 ∨ o = m + 3 ∨ o = m + 4) : CF_ m σ (sI_ σ o i x) := fr_sI (by simp; omega)
theorem CF_rf : CF_ m σ σ := fr_rf _ _
theorem CF_tr {a b c : St_} (h : CF_ m a b) (h2 : CF_ m b c) : CF_ m a c := fr_tr h h2
theorem CX_CF {σ' : St_} (h : CX_ σ m b B) (hf : CF_ m σ σ') : CX_ σ' m b B := by
  have hn := mb_no h.1.1 h.1.2.1
  refine ⟨⟨h.1.1, h.1.2.1, by rw [hf.2]; exact h.1.2.2⟩, CB_cg h.2.1 (fun o i hr => ?_), h.2.2⟩
  have := h.2.2.1.1
  rw [hf.1 o (by unfold rC_ at hr; simp; omega)]
theorem CX_sI {o i : Nat} {x : Int32} (h : CX_ σ m b B) (ho : o = m + 1 ∨ o = m + 2 ∨ o = m + 3 ∨ o = m + 4) : CX_ (sI_ σ o i x) m b B := CX_CF h (CF_sI ho)
theorem CK_1 (h : CK_ σ m B k) (i : Nat) (x : Int32) : CK_ (sI_ σ (m + 1) i x) m B (ud_ k.1 i x, k.2) := by
  unfold CK_
  rw [sI_ud, sI_row _ _ _ _ (show m + 2 ≠ m + 1 by omega), sI_row _ _ _ _ (show m + 3 ≠ m + 1 by omega), sI_row _ _ _ _ (show m + 4 ≠ m + 1 by omega)]
  exact AK_ud1 h i x
theorem CK_2 (h : CK_ σ m B k) (i : Nat) (x : Int32) : CK_ (sI_ σ (m + 2) i x) m B (k.1, ud_ k.2.1 i x, k.2.2) := by
  unfold CK_
  rw [sI_ud, sI_row _ _ _ _ (show m + 1 ≠ m + 2 by omega), sI_row _ _ _ _ (show m + 3 ≠ m + 2 by omega), sI_row _ _ _ _ (show m + 4 ≠ m + 2 by omega)]
  exact AK_ud2 h i x
theorem CK_3 (h : CK_ σ m B k) (i : Nat) (x : Int32) : CK_ (sI_ σ (m + 3) i x) m B (k.1, k.2.1, ud_ k.2.2.1 i x, k.2.2.2) := by
  unfold CK_
  rw [sI_ud, sI_row _ _ _ _ (show m + 1 ≠ m + 3 by omega), sI_row _ _ _ _ (show m + 2 ≠ m + 3 by omega), sI_row _ _ _ _ (show m + 4 ≠ m + 3 by omega)]
  exact AK_ud3 h i x
theorem CK_4 (h : CK_ σ m B k) (i : Nat) (x : Int32) : CK_ (sI_ σ (m + 4) i x) m B (k.1, k.2.1, k.2.2.1, ud_ k.2.2.2 i x) := by
  unfold CK_
  rw [sI_ud, sI_row _ _ _ _ (show m + 1 ≠ m + 4 by omega), sI_row _ _ _ _ (show m + 2 ≠ m + 4 by omega), sI_row _ _ _ _ (show m + 3 ≠ m + 4 by omega)]
  exact AK_ud4 h i x
theorem CK_l (h : CK_ σ m B k) (hr : r < B 0 1) : σ.1 (m + 1) r = k.1 r := (h.1 r hr).1
theorem CK_r (h : CK_ σ m B k) (hr : r < B 0 1) : σ.1 (m + 2) r = k.2.1 r := (h.1 r hr).2.1
theorem CK_t (h : CK_ σ m B k) (hr : r < B 0 1) : σ.1 (m + 3) r = k.2.2.1 r := (h.1 r hr).2.2
theorem CK_p (h : CK_ σ m B k) (hr : r < 9) (hc : c < 16) : σ.1 (m + 4) (16 * r + c) = k.2.2.2 (16 * r + c) := h.2 _ (by omega)
theorem mul16 (r : Nat) : r * 16 = 16 * r := Nat.mul_comm _ _
theorem c_cutUp {a e : Nat} (ha : a < 2 ^ 20) (hb : e < 2 ^ 20) (h : 1 ≤ e) (σ : St_) : f_X0_cutUp KC [.int (nI a), .int (nI e)] σ = some (some (.int (nI ((a + e - 1) / e))), σ) := by
  refine z_X0_cutUp (e_X0_cutUp_0 ?_)
  rw [nI_add, show (1 : Int32) = nI 1 from rfl, pk_sub (by omega), pk_div (by omega) (by omega) (by omega)]
  exact ⟨fun _ => ⟨nI_ne0 (by omega) (by omega), rfl⟩, fun z => absurd (nI_le h (by omega)) z⟩
theorem c_readTime (hB : isB b) (h : CB_ σ b B) (hO : BO_ B) (hr : r < B 0 1) (hc : c < B 0 0) : f_X0_readTime KC [.ref b, .int (nI r), .int (nI c)] σ = some (some (.int (nI (tR_ B r c))), σ) := by
  have h1 := BO_cc hO hc
  have h2 := BO_rr hO hr
  have h3 := BO_c hO
  refine z_X0_readTime (e_X0_readTime_0 hB ?_)
  simp (disch := first | assumption | omega) only [(h.2.1 c hc).2.1, (h.2.2 r hr).2.1, c_cutUp, Option.some.injEq, Prod.mk.injEq, Value.int.injEq, exists_and_left, exists_eq_left', and_assoc, true_and, and_true, true_implies, false_implies, not_true_eq_false, not_false_eq_true, li_0, li_1, li_2, li_3, li_4, li_5, li_8, li_9, li_10, li_16, li_20, li_80, li_100, li_130, li_144, li_390, li_400, li_M, li_H, li_of, nI_add, pk_mul, cl_, vp_iff, nI_leI, nI_ltI, nI_eq, Nat.add_zero, Nat.zero_add, Nat.reduceEqDiff, Nat.reduceAdd, eq_self, reduceIte, Bool.false_eq_true, li_neg]
  (repeat' apply And.intro) <;> first | omega | rfl | assumption
theorem c_tellTime (hB : isB b) (h : CB_ σ b B) (hO : BO_ B) (hc : c < B 0 0) {f : Nat} (hf : f ≤ 4) : f_X0_tellTime KC [.ref b, .int (nI c), .int (nI f)] σ = some (some (.int (nI (tT_ B c f))), σ) := by
  have h1 := BO_cc hO hc
  have h2 := hO.1.2.2
  have h3 := BO_c hO
  have h4 : B 1 c * f ≤ B 1 c * 4 := Nat.mul_le_mul_left _ hf
  refine z_X0_tellTime (e_X0_tellTime_0 hB ?_)
  simp (disch := first | assumption | omega) only [(h.2.1 c hc).2.1, h.1.2.2.1, c_cutUp, Option.some.injEq, Prod.mk.injEq, Value.int.injEq, exists_and_left, exists_eq_left', and_assoc, true_and, and_true, true_implies, false_implies, not_true_eq_false, not_false_eq_true, li_0, li_1, li_2, li_3, li_4, li_5, li_8, li_9, li_10, li_16, li_20, li_80, li_100, li_130, li_144, li_390, li_400, li_M, li_H, li_of, nI_add, pk_mul, cl_, vp_iff, nI_leI, nI_ltI, nI_eq, Nat.add_zero, Nat.zero_add, Nat.reduceEqDiff, Nat.reduceAdd, eq_self, reduceIte, Bool.false_eq_true, li_neg]
  (repeat' apply And.intro) <;> first | omega | rfl | assumption
theorem nI_0mul (x : Int32) : nI 0 * x = nI 0 := Int32.zero_mul
theorem nI_add0 (x : Int32) : x + nI 0 = x := Int32.add_zero x
/-- LACK, of any row q of PARTS -/
theorem c_lackAt (hB : isB b) (h : CB_ σ b B) (hO : BO_ B) {q n : Nat} (hq : KC.1 q = (14, n)) (hn : n < 2 ^ 20) (p : Nat → Int32) (hp : ∀ d, d < c → σ.1 q (16 * r + d) = p (16 * r + d)) (hr : r < 9) (hc : c < B 0 0) (hl : 16 * r + c ≤ n) : f_X0_lackAt KC [.ref b, .int (nI c), .ref q, .int (nI (16 * r))] σ = some (some (.int (lk_ B p r c)), σ) := by
  have h3 := BO_c hO
  have loop : ∀ n' d, d + n' = c → Ev_ (P_X0_lackAt KC) 6 [some (.ref b), some (.int (nI c)), some (.ref q), some (.int (nI (16 * r))), some (.int (lkS_ B p r c d)), some (.int (nI d))] [] σ (some (.int (lk_ B p r c)), σ) := by
    intro n'
    induction n' with
    | zero =>
      intro d hd
      obtain rfl : d = c := by omega
      refine e_X0_lackAt_6 hB hq ?_
      simp (disch := first | assumption | omega) only [Nat.le_refl, Option.some.injEq, Prod.mk.injEq, Value.int.injEq, exists_and_left, exists_eq_left', and_assoc, true_and, and_true, true_implies, false_implies, not_true_eq_false, not_false_eq_true, li_0, li_1, li_2, li_3, li_4, li_5, li_8, li_9, li_10, li_16, li_20, li_80, li_100, li_130, li_144, li_390, li_400, li_M, li_H, li_of, nI_add, pk_mul, cl_, vp_iff, nI_leI, nI_ltI, nI_eq, Nat.add_zero, Nat.zero_add, Nat.reduceEqDiff, Nat.reduceAdd, eq_self, reduceIte, Bool.false_eq_true, li_neg]
      rfl
    | succ n' ih =>
      intro d hd
      have h1 : ¬ c ≤ d := by omega
      have hd16 : d < 16 := by omega
      have h2 := (h.2.1 c hc).2.2.2.2 d hd16
      have h4 := BO_ln hO hc hd16
      have ih1 := ih (d + 1) (by omega)
      rw [lkS_] at ih1
      refine e_X0_lackAt_6 hB hq ?_
      by_cases h5 : B (16 + c) d ≤ 0
      · rw [show B (16 + c) d = 0 by omega, nI_0mul, nI_add0] at ih1
        simp (disch := first | assumption | omega) only [h1, h2, h5, Option.some.injEq, Prod.mk.injEq, Value.int.injEq, exists_and_left, exists_eq_left', and_assoc, true_and, and_true, true_implies, false_implies, not_true_eq_false, not_false_eq_true, li_0, li_1, li_2, li_3, li_4, li_5, li_8, li_9, li_10, li_16, li_20, li_80, li_100, li_130, li_144, li_390, li_400, li_M, li_H, li_of, nI_add, pk_mul, cl_, vp_iff, nI_leI, nI_ltI, nI_eq, Nat.add_zero, Nat.zero_add, Nat.reduceEqDiff, Nat.reduceAdd, eq_self, reduceIte, Bool.false_eq_true, li_neg]
        (repeat' apply And.intro) <;> first | omega | rfl | assumption | exact ih1
      · simp (disch := first | assumption | omega) only [h1, h2, h5, hp d (by omega), Option.some.injEq, Prod.mk.injEq, Value.int.injEq, exists_and_left, exists_eq_left', and_assoc, true_and, and_true, true_implies, false_implies, not_true_eq_false, not_false_eq_true, li_0, li_1, li_2, li_3, li_4, li_5, li_8, li_9, li_10, li_16, li_20, li_80, li_100, li_130, li_144, li_390, li_400, li_M, li_H, li_of, nI_add, pk_mul, cl_, vp_iff, nI_leI, nI_ltI, nI_eq, Nat.add_zero, Nat.zero_add, Nat.reduceEqDiff, Nat.reduceAdd, eq_self, reduceIte, Bool.false_eq_true, li_neg]
        (repeat' apply And.intro) <;> first | omega | rfl | assumption | exact ih1
  exact z_X0_lackAt (e_X0_lackAt_0 hB hq (loop c 0 (by omega)))
theorem c_partsRead (hB : isB b) (h : CB_ σ b B) (hO : BO_ B) (hr : r < B 0 1) (p : Nat → Int32) : f_X0_partsRead KC [.ref b, .int (nI r), .int (lk_ B p r c)] σ = some (some (.int (vR_ B p r c)), σ) := by
  have h3 := BO_c hO
  refine z_X0_partsRead (e_X0_partsRead_0 hB ?_)
  simp (disch := first | assumption | omega) only [(h.2.2 r hr).2.2.2.2.2, Option.some.injEq, Prod.mk.injEq, Value.int.injEq, exists_and_left, exists_eq_left', and_assoc, true_and, and_true, true_implies, false_implies, not_true_eq_false, not_false_eq_true, li_0, li_1, li_2, li_3, li_4, li_5, li_8, li_9, li_10, li_16, li_20, li_80, li_100, li_130, li_144, li_390, li_400, li_M, li_H, li_of, nI_add, pk_mul, cl_, vp_iff, nI_leI, nI_ltI, nI_eq, Nat.add_zero, Nat.zero_add, Nat.reduceEqDiff, Nat.reduceAdd, eq_self, reduceIte, Bool.false_eq_true, li_neg]
  (repeat' apply And.intro) <;> first | omega | rfl | assumption
theorem c_partsTold (hB : isB b) (h : CB_ σ b B) (hO : BO_ B) {t l f : Nat} (ht : t < B 0 1) (hl : l < B 0 1) (x : Int32) : f_X0_partsTold KC [.ref b, .int x, .int (nI t), .int (nI f), .int (nI l)] σ = some (some (.int (gv_ B t l f x)), σ) := by
  have h3 := BO_c hO
  refine z_X0_partsTold (e_X0_partsTold_0 hB ?_)
  simp (disch := first | assumption | omega) only [(h.2.2 t ht).2.2.1, (h.2.2 l hl).2.2.2.1, Option.some.injEq, Prod.mk.injEq, Value.int.injEq, exists_and_left, exists_eq_left', and_assoc, true_and, and_true, true_implies, false_implies, not_true_eq_false, not_false_eq_true, li_0, li_1, li_2, li_3, li_4, li_5, li_8, li_9, li_10, li_16, li_20, li_80, li_100, li_130, li_144, li_390, li_400, li_M, li_H, li_of, nI_add, pk_mul, cl_, vp_iff, nI_leI, nI_ltI, nI_eq, Nat.add_zero, Nat.zero_add, Nat.reduceEqDiff, Nat.reduceAdd, eq_self, reduceIte, Bool.false_eq_true, li_neg]
  (repeat' apply And.intro) <;> first | omega | rfl | assumption
theorem c_retold (hB : isB b) (h : CB_ σ b B) (x : Int32) : f_X0_retold KC [.ref b, .int x] σ = some (some (.int (ga_ B x)), σ) := by
  refine z_X0_retold (e_X0_retold_0 hB ?_)
  simp (disch := first | assumption | omega) only [h.1.2.2.2, Option.some.injEq, Prod.mk.injEq, Value.int.injEq, exists_and_left, exists_eq_left', and_assoc, true_and, and_true, true_implies, false_implies, not_true_eq_false, not_false_eq_true, li_0, li_1, li_2, li_3, li_4, li_5, li_8, li_9, li_10, li_16, li_20, li_80, li_100, li_130, li_144, li_390, li_400, li_M, li_H, li_of, nI_add, pk_mul, cl_, vp_iff, nI_leI, nI_ltI, nI_eq, Nat.add_zero, Nat.zero_add, Nat.reduceEqDiff, Nat.reduceAdd, eq_self, reduceIte, Bool.false_eq_true, li_neg]
  rfl
theorem c_ofMillion (x y : Int32) (σ : St_) : f_X0_ofMillion KC [.int x, .int y] σ = some (some (.int (oM_ x y)), σ) := z_X0_ofMillion (e_X0_ofMillion_0 rfl)
theorem c_partsIfRead (h : CX_ σ m b B) (hk : CK_ σ m B k) (hr : r < B 0 1) (hc : c < B 0 0) : f_X5_partsIfRead KC [.ref m, .int (nI r), .int (nI c)] σ = some (some (.int (mx_ (k.2.2.2 (16 * r + c)) (vR_ B k.2.2.2 r c))), σ) := by
  obtain ⟨⟨hm, hB, h9⟩, hC, hO⟩ := h
  have h3 := BO_c hO
  have hr9 : r < 9 := by omega
  have hc16 : c < 16 := by omega
  refine z_X5_partsIfRead (e_X5_partsIfRead_0 hm ?_)
  simp (disch := first | assumption | omega) only [mul16, h9, hB, c_lackAt hB hC hO (km_k3 hm) (by omega) k.2.2.2 (fun d hd => CK_p hk hr9 (by omega)) hr9 hc (by omega), c_partsRead hB hC hO hr, CK_p hk hr9 hc16, Option.some.injEq, Prod.mk.injEq, Value.int.injEq, exists_and_left, exists_eq_left', and_assoc, true_and, and_true, true_implies, false_implies, not_true_eq_false, not_false_eq_true, li_0, li_1, li_2, li_3, li_4, li_5, li_8, li_9, li_10, li_16, li_20, li_80, li_100, li_130, li_144, li_390, li_400, li_M, li_H, li_of, nI_add, pk_mul, cl_, vp_iff, nI_leI, nI_ltI, nI_eq, Nat.add_zero, Nat.zero_add, Nat.reduceEqDiff, Nat.reduceAdd, eq_self, reduceIte, Bool.false_eq_true, li_neg]
  (repeat' apply And.intro) <;> first | omega | rfl | assumption
theorem c_hear (h : CX_ σ m b B) (hk : CK_ σ m B k) {t f : Nat} (ht : t < B 0 1) (hr : r < B 0 1) (hc : c < B 0 0) : ∃ σ', f_X5_hear KC [.ref m, .int (nI r), .int (nI c), .int (nI t), .int (nI f)] σ = some (none, σ') ∧ CK_ σ' m B (gtK_ B k t r c f) ∧ CF_ m σ σ' := by
  have h0 := h
  obtain ⟨⟨hm, hB, h9⟩, hC, hO⟩ := h
  have h3 := BO_c hO
  have hr9 : r < 9 := by omega
  have ht9 : t < 9 := by omega
  have hc16 : c < 16 := by omega
  have e4 : ∀ i x, (sI_ σ (m + 4) i x).1 (m + 3) = σ.1 (m + 3) := fun i x => sI_row _ _ _ _ (by omega)
  have key : ∀ x, x = gw_ B k t r c f → Ev_ (P_X5_hear KC) 48 [some (.ref m), some (.int (nI r)), some (.int (nI c)), some (.int (nI t)), some (.int (nI f)), some (.int x), none, none, none] [] σ (none, sI_ (sI_ σ (m + 4) (16 * r + c) (k.2.2.2 (16 * r + c) + oM_ (nI 1000000 - k.2.2.2 (16 * r + c)) (oM_ (gw_ B k t r c f) (nI 1000000 - lk_ B k.2.2.2 r c)))) (m + 3) r (ob_ (k.2.2.1 r) c)) := by
    intro x hx
    subst hx
    refine e_X5_hear_48 hm ?_
    simp (disch := first | assumption | omega) only [mul16, h9, hB, c_lackAt hB hC hO (km_k3 hm) (by omega) k.2.2.2 (fun d hd => CK_p hk hr9 (by omega)) hr9 hc (by omega), c_ofMillion, CK_p hk hr9 hc16, e4, CK_t hk hr, Option.some.injEq, Prod.mk.injEq, Value.int.injEq, exists_and_left, exists_eq_left', and_assoc, true_and, and_true, true_implies, false_implies, not_true_eq_false, not_false_eq_true, li_0, li_1, li_2, li_3, li_4, li_5, li_8, li_9, li_10, li_16, li_20, li_80, li_100, li_130, li_144, li_390, li_400, li_M, li_H, li_of, nI_add, pk_mul, cl_, vp_iff, nI_leI, nI_ltI, nI_eq, Nat.add_zero, Nat.zero_add, Nat.reduceEqDiff, Nat.reduceAdd, eq_self, reduceIte, Bool.false_eq_true, li_neg]
    (repeat' apply And.intro) <;> first | omega | rfl | assumption
  refine ⟨_, z_X5_hear (e_X5_hear_0 hm ?_), CK_3 (CK_4 hk _ _) _ _, CF_tr (CF_sI (by omega)) (CF_sI (by omega))⟩
  by_cases hh : hb_ (k.2.1 t) c
  · simp (disch := first | assumption | omega) only [mul16, h9, hB, CK_p hk ht9 hc16, c_partsTold hB hC hO ht hr, CK_r hk ht, hb_0, hh, Option.some.injEq, Prod.mk.injEq, Value.int.injEq, exists_and_left, exists_eq_left', and_assoc, true_and, and_true, true_implies, false_implies, not_true_eq_false, not_false_eq_true, li_0, li_1, li_2, li_3, li_4, li_5, li_8, li_9, li_10, li_16, li_20, li_80, li_100, li_130, li_144, li_390, li_400, li_M, li_H, li_of, nI_add, pk_mul, cl_, vp_iff, nI_leI, nI_ltI, nI_eq, Nat.add_zero, Nat.zero_add, Nat.reduceEqDiff, Nat.reduceAdd, eq_self, reduceIte, Bool.false_eq_true, li_neg]
    refine ⟨by omega, by omega, key _ ?_⟩
    unfold gw_
    rw [if_pos hh]
  · simp (disch := first | assumption | omega) only [mul16, h9, hB, CK_p hk ht9 hc16, c_partsTold hB hC hO ht hr, CK_r hk ht, hb_0, hh, c_retold hB hC, Option.some.injEq, Prod.mk.injEq, Value.int.injEq, exists_and_left, exists_eq_left', and_assoc, true_and, and_true, true_implies, false_implies, not_true_eq_false, not_false_eq_true, li_0, li_1, li_2, li_3, li_4, li_5, li_8, li_9, li_10, li_16, li_20, li_80, li_100, li_130, li_144, li_390, li_400, li_M, li_H, li_of, nI_add, pk_mul, cl_, vp_iff, nI_leI, nI_ltI, nI_eq, Nat.add_zero, Nat.zero_add, Nat.reduceEqDiff, Nat.reduceAdd, eq_self, reduceIte, Bool.false_eq_true, li_neg]
    refine ⟨by omega, by omega, key _ ?_⟩
    unfold gw_
    rw [if_neg hh]
end CR
