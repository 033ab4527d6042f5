/-! bits of small numbers -/
theorem sh_1 {n : Nat} (h : n < 31) : nI 1 <<< (nI n &&& 31) = nI (2 ^ n) := by
  have : ∀ j : Fin 31, nI 1 <<< (nI j.val &&& 31) = nI (2 ^ j.val) := by decide +kernel
  exact this ⟨n, h⟩
theorem or_lt {a b n : Nat} (ha : a < 2 ^ n) (hb : b < 2 ^ n) : a ||| b < 2 ^ n := Nat.or_lt_two_pow ha hb
theorem two_lt {n m : Nat} (h : n < m) : 2 ^ n < 2 ^ m := Nat.pow_lt_pow_right (by decide) h
theorem andn_0 {l w : Nat} (hl : l < 2 ^ 16) : (nI l &&& (nI w ^^^ nM_) = nI 0) = ∀ i, i < 16 → l.testBit i = true → w.testBit i = true := by
  have e1 : ∀ x : Nat, (nI x).toBitVec = BitVec.ofNat 32 x := fun x => rfl
  have e2 : (nM_ : Int32).toBitVec = BitVec.allOnes 32 := by decide
  refine propext ⟨fun h i hi hb => ?_, fun h => ?_⟩
  · have h2 := congrArg (fun z : Int32 => z.toBitVec.getLsbD i) h
    simp only [Int32.toBitVec_and, Int32.toBitVec_xor, e1, e2, BitVec.getLsbD_and, BitVec.getLsbD_xor, BitVec.getLsbD_ofNat, BitVec.getLsbD_allOnes, hb, show i < 32 by omega, decide_true, Bool.true_and, Nat.zero_testBit, Bool.and_false] at h2
    simpa using h2
  · refine Int32.toBitVec_inj.mp (BitVec.eq_of_getLsbD_eq fun i hi => ?_)
    simp only [Int32.toBitVec_and, Int32.toBitVec_xor, e1, e2, BitVec.getLsbD_and, BitVec.getLsbD_xor, BitVec.getLsbD_ofNat, BitVec.getLsbD_allOnes, hi, decide_true, Bool.true_and, Nat.zero_testBit, Bool.and_false]
    by_cases hb : l.testBit i = true
    · have h16 : i < 16 := by
        rcases Nat.lt_or_ge i 16 with z | z
        · exact z
        · rw [Nat.testBit_lt_two_pow (Nat.lt_of_lt_of_le hl (Nat.pow_le_pow_right (by decide) z))] at hb
          cases hb
      rw [hb, h i h16 hb]
      rfl
    · rw [Bool.eq_false_iff.mpr hb]
      rfl
/-- who has so many QUARTERS left, of the first n -/
def wt_ (k : K_) (T : Int32) : Nat → Nat
  | 0 => 0
  | n + 1 => if k.1 n < T then wt_ k T n else wt_ k T n ||| 2 ^ n
theorem wt_lt (k : K_) (T : Int32) : ∀ n, wt_ k T n < 2 ^ n
  | 0 => by rw [wt_]; decide
  | n + 1 => by
    have := wt_lt k T n
    have h2 := two_lt (show n < n + 1 by omega)
    rw [wt_]
    split
    · omega
    · exact or_lt (by omega) h2
theorem wt_bit (k : K_) (T : Int32) (i : Nat) : ∀ n, (wt_ k T n).testBit i = decide (i < n ∧ ¬ k.1 i < T)
  | 0 => by simp [wt_]
  | n + 1 => by
    have := wt_bit k T i n
    rw [wt_]
    split
    · rename_i h
      rw [this]
      by_cases e : i = n
      · subst e
        simp [h]
      · simp only [show (i < n + 1) = (i < n) from propext (by omega)]
    · rename_i h
      rw [Nat.testBit_or, Nat.testBit_two_pow, this]
      by_cases e : n = i
      · subst e
        simp [h]
      · simp only [show (i < n + 1) = (i < n) from propext (by omega)]
        simp [e]
section CR2
variable {σ : St_} {m b : Nat} {B : Nat → Nat → Nat} {c r d : Nat} {k : K_}
theorem c_withTime (h : CX_ σ m b B) (hk : CK_ σ m B k) (T : Int32) : f_X5_withTime KC [.ref m, .int T] σ = some (some (.int (nI (wt_ k T (B 0 1)))), σ) := by
  obtain ⟨⟨hm, hB, h9⟩, hC, hO⟩ := h
  have h3 := BO_c hO
  have loop : ∀ n d, d + n = B 0 1 → Ev_ (P_X5_withTime KC) 4 [some (.ref m), some (.int T), some (.int (nI (wt_ k T d))), some (.int (nI d))] [] σ (some (.int (nI (wt_ k T (B 0 1)))), σ) := by
    intro n
    induction n with
    | zero =>
      intro d hd
      obtain rfl : d = B 0 1 := by omega
      refine e_X5_withTime_4 hm ?_
      simp (disch := first | assumption | omega) only [h9, hB, hC.1.2.1, Nat.le_refl, Option.some.injEq, Prod.mk.injEq, Value.int.injEq, exists_and_left, exists_eq_left', and_assoc, true_and, and_true, true_implies, false_implies, not_true_eq_false, not_false_eq_true, li_0, li_1, li_2, li_3, li_4, li_5, li_8, li_9, li_10, li_16, li_20, li_80, li_100, li_130, li_144, li_390, li_400, li_M, li_H, li_of, nI_add, pk_mul, cl_, vp_iff, nI_leI, nI_ltI, nI_eq, Nat.add_zero, Nat.zero_add, Nat.reduceEqDiff, Nat.reduceAdd, eq_self, reduceIte, Bool.false_eq_true, li_neg]
    | succ n ih =>
      intro d hd
      refine e_X5_withTime_4 hm ?_
      have h1 : ¬ B 0 1 ≤ d := by omega
      have ih1 := ih (d + 1) (by omega)
      by_cases h2 : k.1 d < T
      · rw [wt_, if_pos h2] at ih1
        simp (disch := first | assumption | omega) only [h9, hB, hC.1.2.1, h1, CK_l hk, h2, Option.some.injEq, Prod.mk.injEq, Value.int.injEq, exists_and_left, exists_eq_left', and_assoc, true_and, and_true, true_implies, false_implies, not_true_eq_false, not_false_eq_true, li_0, li_1, li_2, li_3, li_4, li_5, li_8, li_9, li_10, li_16, li_20, li_80, li_100, li_130, li_144, li_390, li_400, li_M, li_H, li_of, nI_add, pk_mul, cl_, vp_iff, nI_leI, nI_ltI, nI_eq, Nat.add_zero, Nat.zero_add, Nat.reduceEqDiff, Nat.reduceAdd, eq_self, reduceIte, Bool.false_eq_true, li_neg]
        (repeat' apply And.intro) <;> first | omega | rfl | assumption | exact ih1
      · rw [wt_, if_neg h2] at ih1
        simp (disch := first | assumption | omega) only [h9, hB, hC.1.2.1, h1, CK_l hk, h2, sh_1, fa_or, Option.some.injEq, Prod.mk.injEq, Value.int.injEq, exists_and_left, exists_eq_left', and_assoc, true_and, and_true, true_implies, false_implies, not_true_eq_false, not_false_eq_true, li_0, li_1, li_2, li_3, li_4, li_5, li_8, li_9, li_10, li_16, li_20, li_80, li_100, li_130, li_144, li_390, li_400, li_M, li_H, li_of, nI_add, pk_mul, cl_, vp_iff, nI_leI, nI_ltI, nI_eq, Nat.add_zero, Nat.zero_add, Nat.reduceEqDiff, Nat.reduceAdd, eq_self, reduceIte, Bool.false_eq_true, li_neg]
        (repeat' apply And.intro) <;> first | omega | rfl | assumption | exact ih1
  exact z_X5_withTime (e_X5_withTime_0 hm (loop (B 0 1) 0 (by omega)))
theorem c_wrongOf (h : CX_ σ m b B) (hk : CK_ σ m B k) {t f l : Nat} (ht : t < B 0 1) (hc : c < B 0 0) (hf : f ≤ 4) (hl : l < 2 ^ B 0 1) : f_X5_wrongOf KC [.ref m, .int (nI t), .int (nI c), .int (nI f), .int (nI l)] σ = some (some (.int (nI (wr_ B k t c f l))), σ) := by
  have h0' := h
  obtain ⟨⟨hm, hB, h9⟩, hC, hO⟩ := h
  have h3 := BO_c hO
  have ht9 : t < 9 := by omega
  have hc16 : c < 16 := by omega
  have hl16 : l < 2 ^ 16 := Nat.lt_of_lt_of_le hl (Nat.pow_le_pow_right (by decide) (by omega))
  refine z_X5_wrongOf (e_X5_wrongOf_0 hm ?_)
  by_cases h0 : f = 0
  · subst h0
    by_cases h1 : k.1 t < nI (tR_ B t c)
    · have h2 : ¬ nI (tR_ B t c) ≤ k.1 t := Int32.not_le.mpr h1
      simp (disch := first | assumption | omega) only [h9, hB, c_readTime hB hC hO, ht, hc, CK_l hk ht, h2, wr_, h1, Option.some.injEq, Prod.mk.injEq, Value.int.injEq, exists_and_left, exists_eq_left', and_assoc, true_and, and_true, true_implies, false_implies, not_true_eq_false, not_false_eq_true, li_0, li_1, li_2, li_3, li_4, li_5, li_8, li_9, li_10, li_16, li_20, li_80, li_100, li_130, li_144, li_390, li_400, li_M, li_H, li_of, nI_add, pk_mul, cl_, vp_iff, nI_leI, nI_ltI, nI_eq, Nat.add_zero, Nat.zero_add, Nat.reduceEqDiff, Nat.reduceAdd, eq_self, reduceIte, Bool.false_eq_true, li_neg]
      omega
    · have h2 : nI (tR_ B t c) ≤ k.1 t := Int32.not_lt.mp h1
      simp (disch := first | assumption | omega) only [h9, hB, c_readTime hB hC hO, ht, hc, CK_l hk ht, h2, wr_, h1, Option.some.injEq, Prod.mk.injEq, Value.int.injEq, exists_and_left, exists_eq_left', and_assoc, true_and, and_true, true_implies, false_implies, not_true_eq_false, not_false_eq_true, li_0, li_1, li_2, li_3, li_4, li_5, li_8, li_9, li_10, li_16, li_20, li_80, li_100, li_130, li_144, li_390, li_400, li_M, li_H, li_of, nI_add, pk_mul, cl_, vp_iff, nI_leI, nI_ltI, nI_eq, Nat.add_zero, Nat.zero_add, Nat.reduceEqDiff, Nat.reduceAdd, eq_self, reduceIte, Bool.false_eq_true, li_neg]
      omega
  · by_cases h1 : k.1 t < nI (tT_ B c f)
    · simp (disch := first | assumption | omega) only [h9, hB, c_tellTime hB hC hO hc, CK_l hk ht, h0, wr_, h1, Option.some.injEq, Prod.mk.injEq, Value.int.injEq, exists_and_left, exists_eq_left', and_assoc, true_and, and_true, true_implies, false_implies, not_true_eq_false, not_false_eq_true, li_0, li_1, li_2, li_3, li_4, li_5, li_8, li_9, li_10, li_16, li_20, li_80, li_100, li_130, li_144, li_390, li_400, li_M, li_H, li_of, nI_add, pk_mul, cl_, vp_iff, nI_leI, nI_ltI, nI_eq, Nat.add_zero, Nat.zero_add, Nat.reduceEqDiff, Nat.reduceAdd, eq_self, reduceIte, Bool.false_eq_true, li_neg]
      omega
    · have hw := wt_lt k (nI (tT_ B c f)) (B 0 1)
      have e : (nI l &&& (nI (wt_ k (nI (tT_ B c f)) (B 0 1)) ^^^ nM_) = nI 0) = ¬ ∃ r, r < B 0 1 ∧ l.testBit r = true ∧ k.1 r < nI (tT_ B c f) := by
        rw [andn_0 hl16]
        refine propext ⟨fun z ⟨r, q1, q2, q3⟩ => ?_, fun z i hi hb => ?_⟩
        · have := z r (by omega) q2
          rw [wt_bit] at this
          exact (of_decide_eq_true this).2 q3
        · rw [wt_bit]
          have hi2 : i < B 0 1 := by
            rcases Nat.lt_or_ge i (B 0 1) with y | y
            · exact y
            · rw [Nat.testBit_lt_two_pow (Nat.lt_of_lt_of_le hl (Nat.pow_le_pow_right (by decide) y))] at hb
              cases hb
          exact decide_eq_true ⟨hi2, fun y => z ⟨i, hi2, hb, y⟩⟩
      by_cases h3 : ∃ r, r < B 0 1 ∧ l.testBit r = true ∧ k.1 r < nI (tT_ B c f)
      · simp (disch := first | assumption | omega) only [mul16, h9, hB, c_tellTime hB hC hO hc, CK_l hk ht, h0, wr_, h1, c_withTime h0' hk, e, h3, CK_p hk ht9 hc16, Option.some.injEq, Prod.mk.injEq, Value.int.injEq, exists_and_left, exists_eq_left', and_assoc, true_and, and_true, true_implies, false_implies, not_true_eq_false, not_false_eq_true, li_0, li_1, li_2, li_3, li_4, li_5, li_8, li_9, li_10, li_16, li_20, li_80, li_100, li_130, li_144, li_390, li_400, li_M, li_H, li_of, nI_add, pk_mul, cl_, vp_iff, nI_leI, nI_ltI, nI_eq, Nat.add_zero, Nat.zero_add, Nat.reduceEqDiff, Nat.reduceAdd, eq_self, reduceIte, Bool.false_eq_true, li_neg]
        omega
      · by_cases h4 : k.2.2.2 (16 * t + c) = nI 0
        · simp (disch := first | assumption | omega) only [mul16, h9, hB, c_tellTime hB hC hO hc, CK_l hk ht, h0, wr_, h1, c_withTime h0' hk, e, h3, CK_p hk ht9 hc16, h4, Option.some.injEq, Prod.mk.injEq, Value.int.injEq, exists_and_left, exists_eq_left', and_assoc, true_and, and_true, true_implies, false_implies, not_true_eq_false, not_false_eq_true, li_0, li_1, li_2, li_3, li_4, li_5, li_8, li_9, li_10, li_16, li_20, li_80, li_100, li_130, li_144, li_390, li_400, li_M, li_H, li_of, nI_add, pk_mul, cl_, vp_iff, nI_leI, nI_ltI, nI_eq, Nat.add_zero, Nat.zero_add, Nat.reduceEqDiff, Nat.reduceAdd, eq_self, reduceIte, Bool.false_eq_true, li_neg]
          omega
        · simp (disch := first | assumption | omega) only [mul16, h9, hB, c_tellTime hB hC hO hc, CK_l hk ht, h0, wr_, h1, c_withTime h0' hk, e, h3, CK_p hk ht9 hc16, h4, Option.some.injEq, Prod.mk.injEq, Value.int.injEq, exists_and_left, exists_eq_left', and_assoc, true_and, and_true, true_implies, false_implies, not_true_eq_false, not_false_eq_true, li_0, li_1, li_2, li_3, li_4, li_5, li_8, li_9, li_10, li_16, li_20, li_80, li_100, li_130, li_144, li_390, li_400, li_M, li_H, li_of, nI_add, pk_mul, cl_, vp_iff, nI_leI, nI_ltI, nI_eq, Nat.add_zero, Nat.zero_add, Nat.reduceEqDiff, Nat.reduceAdd, eq_self, reduceIte, Bool.false_eq_true, li_neg]
          omega
theorem c_perform (h : CX_ σ m b B) (hk : CK_ σ m B k) {t f l : Nat} (ht : t < B 0 1) (hc : c < B 0 0) (hf : f ≤ 4) (hl : l < 2 ^ 16) : ∃ σ', f_X5_perform KC [.ref m, .int (nI t), .int (nI c), .int (nI f), .int (nI l)] σ = some (none, σ') ∧ CK_ σ' m B (doK_ B k t c f l) ∧ CF_ m σ σ' := by
  have h0' := h
  obtain ⟨⟨hm, hB, h9⟩, hC, hO⟩ := h
  have h3 := BO_c hO
  have hc16 : c < 16 := by omega
  by_cases h0 : f = 0
  · subst h0
    have hk1 := CK_1 hk t (k.1 t - nI (tR_ B t c))
    have hx1 := CX_sI (o := m + 1) (i := t) (x := k.1 t - nI (tR_ B t c)) h0' (by omega)
    refine ⟨_, z_X5_perform (e_X5_perform_0 hm ?_), by unfold doK_; rw [if_pos rfl]; exact CK_2 (CK_4 hk1 (16 * t + c) _) t (ob_ (k.2.1 t) c), CF_tr (CF_sI (o := m + 1) (i := t) (x := k.1 t - nI (tR_ B t c)) (by omega)) (CF_tr (CF_sI (by omega)) (CF_sI (by omega)))⟩
    have e4 : ∀ j i x y, (sI_ (sI_ σ (m + 1) i x) (m + 4) j y).1 (m + 2) = σ.1 (m + 2) := fun j i x y => (sI_row _ _ _ _ (by omega)).trans (sI_row _ _ _ _ (by omega))
    simp (disch := first | assumption | omega) only [mul16, h9, hB, c_readTime hB hC hO, ht, hc, CK_l hk ht, c_partsIfRead hx1 hk1 ht hc, e4, CK_r hk ht, Option.some.injEq, Prod.mk.injEq, Value.int.injEq, exists_and_left, exists_eq_left', and_assoc, true_and, and_true, true_implies, false_implies, not_true_eq_false, not_false_eq_true, li_0, li_1, li_2, li_3, li_4, li_5, li_8, li_9, li_10, li_16, li_20, li_80, li_100, li_130, li_144, li_390, li_400, li_M, li_H, li_of, nI_add, pk_mul, cl_, vp_iff, nI_leI, nI_ltI, nI_eq, Nat.add_zero, Nat.zero_add, Nat.reduceEqDiff, Nat.reduceAdd, eq_self, reduceIte, Bool.false_eq_true, li_neg]
    (repeat' apply And.intro) <;> first | omega | rfl | assumption
  · have loop : ∀ n i σ1, i + n = B 0 1 → CX_ σ1 m b B → CK_ σ1 m B (dsK_ B t c f l i (lfK_ k t (tT_ B c f))) → ∃ σ', Ev_ (P_X5_perform KC) 77 [some (.ref m), some (.int (nI t)), some (.int (nI c)), some (.int (nI f)), some (.int (nI l)), some (.int (nI (tT_ B c f))), some (.int (nI i))] [] σ1 (none, σ') ∧ CK_ σ' m B (dsK_ B t c f l (B 0 1) (lfK_ k t (tT_ B c f))) ∧ CF_ m σ1 σ' := by
      intro n
      induction n with
      | zero =>
        intro i σ1 hi hx hm1
        obtain rfl : i = B 0 1 := by omega
        obtain ⟨⟨-, -, h9'⟩, hC', -⟩ := hx
        refine ⟨σ1, e_X5_perform_77 hm ?_, hm1, CF_rf⟩
        simp (disch := first | assumption | omega) only [h9', hB, hC'.1.2.1, Nat.le_refl, Option.some.injEq, Prod.mk.injEq, Value.int.injEq, exists_and_left, exists_eq_left', and_assoc, true_and, and_true, true_implies, false_implies, not_true_eq_false, not_false_eq_true, li_0, li_1, li_2, li_3, li_4, li_5, li_8, li_9, li_10, li_16, li_20, li_80, li_100, li_130, li_144, li_390, li_400, li_M, li_H, li_of, nI_add, pk_mul, cl_, vp_iff, nI_leI, nI_ltI, nI_eq, Nat.add_zero, Nat.zero_add, Nat.reduceEqDiff, Nat.reduceAdd, eq_self, reduceIte, Bool.false_eq_true, li_neg]
      | succ n ih =>
        intro i σ1 hi hx hm1
        have hi2 : ¬ B 0 1 ≤ i := by omega
        have hi3 : i < B 0 1 := by omega
        have hx' := hx
        obtain ⟨⟨-, -, h9'⟩, hC', -⟩ := hx'
        by_cases h4 : l.testBit i = true
        · have hm2 := CK_1 hm1 i ((dsK_ B t c f l i (lfK_ k t (tT_ B c f))).1 i - nI (tT_ B c f))
          have hx2 := CX_sI (o := m + 1) (i := i) (x := (dsK_ B t c f l i (lfK_ k t (tT_ B c f))).1 i - nI (tT_ B c f)) hx (by omega)
          obtain ⟨σ2, g1, g2, g3⟩ := c_hear (f := f) hx2 hm2 ht hi3 hc
          have e : gtK_ B (ud_ (dsK_ B t c f l i (lfK_ k t (tT_ B c f))).1 i ((dsK_ B t c f l i (lfK_ k t (tT_ B c f))).1 i - nI (tT_ B c f)), (dsK_ B t c f l i (lfK_ k t (tT_ B c f))).2) t i c f = dsK_ B t c f l (i + 1) (lfK_ k t (tT_ B c f)) := by
            rw [dsK_, if_pos h4]
            rfl
          rw [e] at g2
          obtain ⟨σ', q1, q2, q3⟩ := ih (i + 1) σ2 (by omega) (CX_CF hx2 g3) g2
          refine ⟨σ', e_X5_perform_77 hm ?_, q2, CF_tr (CF_sI (by omega)) (CF_tr g3 q3)⟩
          simp (disch := first | assumption | omega) only [h9', hB, hC'.1.2.1, hb_0, hb_n, h4, CK_l hm1 hi3, hi2, g1, Option.some.injEq, Prod.mk.injEq, Value.int.injEq, exists_and_left, exists_eq_left', and_assoc, true_and, and_true, true_implies, false_implies, not_true_eq_false, not_false_eq_true, li_0, li_1, li_2, li_3, li_4, li_5, li_8, li_9, li_10, li_16, li_20, li_80, li_100, li_130, li_144, li_390, li_400, li_M, li_H, li_of, nI_add, pk_mul, cl_, vp_iff, nI_leI, nI_ltI, nI_eq, Nat.add_zero, Nat.zero_add, Nat.reduceEqDiff, Nat.reduceAdd, eq_self, reduceIte, Bool.false_eq_true, li_neg]
          (repeat' apply And.intro) <;> first | omega | rfl | assumption | exact q1
        · have e : dsK_ B t c f l (i + 1) (lfK_ k t (tT_ B c f)) = dsK_ B t c f l i (lfK_ k t (tT_ B c f)) := by
            rw [dsK_, if_neg h4]
          obtain ⟨σ', q1, q2, q3⟩ := ih (i + 1) σ1 (by omega) hx (by rw [e]; exact hm1)
          refine ⟨σ', e_X5_perform_77 hm ?_, q2, q3⟩
          simp (disch := first | assumption | omega) only [h9', hB, hC'.1.2.1, hb_0, hb_n, h4, hi2, Option.some.injEq, Prod.mk.injEq, Value.int.injEq, exists_and_left, exists_eq_left', and_assoc, true_and, and_true, true_implies, false_implies, not_true_eq_false, not_false_eq_true, li_0, li_1, li_2, li_3, li_4, li_5, li_8, li_9, li_10, li_16, li_20, li_80, li_100, li_130, li_144, li_390, li_400, li_M, li_H, li_of, nI_add, pk_mul, cl_, vp_iff, nI_leI, nI_ltI, nI_eq, Nat.add_zero, Nat.zero_add, Nat.reduceEqDiff, Nat.reduceAdd, eq_self, reduceIte, Bool.false_eq_true, li_neg]
          exact q1
    have hm1 := CK_1 hk t (k.1 t - nI (tT_ B c f))
    obtain ⟨σ', q1, q2, q3⟩ := loop (B 0 1) 0 (sI_ σ (m + 1) t (k.1 t - nI (tT_ B c f))) (by omega) (CX_sI h0' (by omega)) hm1
    refine ⟨σ', z_X5_perform (e_X5_perform_0 hm ?_), by unfold doK_; rw [if_neg h0]; exact q2, CF_tr (CF_sI (by omega)) q3⟩
    simp (disch := first | assumption | omega) only [h9, hB, c_tellTime hB hC hO hc, CK_l hk ht, h0, Option.some.injEq, Prod.mk.injEq, Value.int.injEq, exists_and_left, exists_eq_left', and_assoc, true_and, and_true, true_implies, false_implies, not_true_eq_false, not_false_eq_true, li_0, li_1, li_2, li_3, li_4, li_5, li_8, li_9, li_10, li_16, li_20, li_80, li_100, li_130, li_144, li_390, li_400, li_M, li_H, li_of, nI_add, pk_mul, cl_, vp_iff, nI_leI, nI_ltI, nI_eq, Nat.add_zero, Nat.zero_add, Nat.reduceEqDiff, Nat.reduceAdd, eq_self, reduceIte, Bool.false_eq_true, li_neg]
    (repeat' apply And.intro) <;> first | omega | rfl | assumption | exact q1
theorem c_inAll (h : CX_ σ m b B) (hk : CK_ σ m B k) (hr : r < 9) : f_X5_inAll KC [.ref m, .int (nI r)] σ = some (some (.int (ia_ B k r)), σ) := by
  obtain ⟨⟨hm, hB, h9⟩, hC, hO⟩ := h
  have h3 := BO_c hO
  have loop : ∀ n d, d + n = B 0 0 → Ev_ (P_X5_inAll KC) 4 [some (.ref m), some (.int (nI r)), some (.int (iaS_ B k r d)), some (.int (nI d))] [] σ (some (.int (ia_ B k r)), σ) := by
    intro n
    induction n with
    | zero =>
      intro d hd
      obtain rfl : d = B 0 0 := by omega
      refine e_X5_inAll_4 hm ?_
      simp (disch := first | assumption | omega) only [h9, hB, hC.1.1, Nat.le_refl, Option.some.injEq, Prod.mk.injEq, Value.int.injEq, exists_and_left, exists_eq_left', and_assoc, true_and, and_true, true_implies, false_implies, not_true_eq_false, not_false_eq_true, li_0, li_1, li_2, li_3, li_4, li_5, li_8, li_9, li_10, li_16, li_20, li_80, li_100, li_130, li_144, li_390, li_400, li_M, li_H, li_of, nI_add, pk_mul, cl_, vp_iff, nI_leI, nI_ltI, nI_eq, Nat.add_zero, Nat.zero_add, Nat.reduceEqDiff, Nat.reduceAdd, eq_self, reduceIte, Bool.false_eq_true, li_neg]
      rfl
    | succ n ih =>
      intro d hd
      refine e_X5_inAll_4 hm ?_
      have h1 : ¬ B 0 0 ≤ d := by omega
      have h2 : d < B 0 0 := by omega
      simp (disch := first | assumption | omega) only [mul16, h9, hB, hC.1.1, h1, (hC.2.1 d h2).2.2.1, CK_p hk hr, c_ofMillion, Option.some.injEq, Prod.mk.injEq, Value.int.injEq, exists_and_left, exists_eq_left', and_assoc, true_and, and_true, true_implies, false_implies, not_true_eq_false, not_false_eq_true, li_0, li_1, li_2, li_3, li_4, li_5, li_8, li_9, li_10, li_16, li_20, li_80, li_100, li_130, li_144, li_390, li_400, li_M, li_H, li_of, nI_add, pk_mul, cl_, vp_iff, nI_leI, nI_ltI, nI_eq, Nat.add_zero, Nat.zero_add, Nat.reduceEqDiff, Nat.reduceAdd, eq_self, reduceIte, Bool.false_eq_true, li_neg]
      (repeat' apply And.intro) <;> first | omega | rfl | assumption | exact ih (d + 1) (by omega)
  exact z_X5_inAll (e_X5_inAll_0 hm (loop (B 0 0) 0 (by omega)))
theorem c_sum (h : CX_ σ m b B) (hk : CK_ σ m B k) : f_X5_sum KC [.ref m] σ = some (some (.int (smK_ B k (B 0 1))), σ) := by
  have h0' := h
  obtain ⟨⟨hm, hB, h9⟩, hC, hO⟩ := h
  have h3 := BO_c hO
  have loop : ∀ n d, d + n = B 0 1 → Ev_ (P_X5_sum KC) 4 [some (.ref m), some (.int (smK_ B k d)), some (.int (nI d))] [] σ (some (.int (smK_ B k (B 0 1))), σ) := by
    intro n
    induction n with
    | zero =>
      intro d hd
      obtain rfl : d = B 0 1 := by omega
      refine e_X5_sum_4 hm ?_
      simp (disch := first | assumption | omega) only [h9, hB, hC.1.2.1, Nat.le_refl, Option.some.injEq, Prod.mk.injEq, Value.int.injEq, exists_and_left, exists_eq_left', and_assoc, true_and, and_true, true_implies, false_implies, not_true_eq_false, not_false_eq_true, li_0, li_1, li_2, li_3, li_4, li_5, li_8, li_9, li_10, li_16, li_20, li_80, li_100, li_130, li_144, li_390, li_400, li_M, li_H, li_of, nI_add, pk_mul, cl_, vp_iff, nI_leI, nI_ltI, nI_eq, Nat.add_zero, Nat.zero_add, Nat.reduceEqDiff, Nat.reduceAdd, eq_self, reduceIte, Bool.false_eq_true, li_neg]
    | succ n ih =>
      intro d hd
      refine e_X5_sum_4 hm ?_
      have h1 : ¬ B 0 1 ≤ d := by omega
      simp (disch := first | assumption | omega) only [h9, hB, hC.1.2.1, h1, c_inAll h0' hk, Option.some.injEq, Prod.mk.injEq, Value.int.injEq, exists_and_left, exists_eq_left', and_assoc, true_and, and_true, true_implies, false_implies, not_true_eq_false, not_false_eq_true, li_0, li_1, li_2, li_3, li_4, li_5, li_8, li_9, li_10, li_16, li_20, li_80, li_100, li_130, li_144, li_390, li_400, li_M, li_H, li_of, nI_add, pk_mul, cl_, vp_iff, nI_leI, nI_ltI, nI_eq, Nat.add_zero, Nat.zero_add, Nat.reduceEqDiff, Nat.reduceAdd, eq_self, reduceIte, Bool.false_eq_true, li_neg]
      exact ih (d + 1) (by omega)
  exact z_X5_sum (e_X5_sum_0 hm (loop (B 0 1) 0 (by omega)))
end CR2
