/-! bytes of the tape as numbers -/
theorem b8_255 : ∀ c : Fin 256, b8_ c.val &&& (255 : Int32) = nI c.val := by decide +kernel
def us_ (t : Nat → Nat) (bd : Nat) : Nat → Option Nat
  | 0 => some 0
  | k + 1 => match us_ t bd k with
    | none => none
    | some m => if t k < bd ∧ m.testBit (t k) = false then some (m ||| 2 ^ t k) else none
theorem us_none {t : Nat → Nat} {bd : Nat} : ∀ n k, us_ t bd k = none → us_ t bd (k + n) = none
  | 0, _, h => h
  | n + 1, k, h => by rw [show k + (n + 1) = k + n + 1 by omega, us_, us_none n k h]
theorem us_lt {t : Nat → Nat} {bd : Nat} (hb : bd ≤ 16) : ∀ k m, us_ t bd k = some m → m < 2 ^ 16 ∧ ∀ i, i < k → t i < bd
  | 0, m, h => by
    cases h
    exact ⟨by decide, fun i hi => absurd hi (by omega)⟩
  | k + 1, m, h => by
    rw [us_] at h
    split at h
    · cases h
    · rename_i m' hm
      split at h
      · rename_i hh
        cases h
        have := us_lt hb k m' hm
        refine ⟨or_lt this.1 (two_lt (by omega)), fun i hi => ?_⟩
        by_cases e : i = k
        · rw [e]
          exact hh.1
        · exact this.2 i (by omega)
      · cases h
section TP
variable {σ μ : St_} {b n : Nat} {B : Nat → Nat → Nat} {t : Nat → Nat}
theorem c_byteAt (h : ∀ i, σ.1 2 i = b8_ (t i)) (ht : ∀ i, t i < 256) {i : Nat} (hi : i < 1040) : f_X8_byteAt KC [.ref 1, .int (nI i)] σ = some (some (.int (nI (t i))), σ) := by
  have l1040 : (1040 : Int32) = nI 1040 := rfl
  have l255 := b8_255 ⟨t i, ht i⟩
  have h0 : ¬ nI i < 0 := nI_pos (by omega)
  refine z_X8_byteAt (e_X8_byteAt_0 (br_f h0 ?_))
  simp (disch := first | assumption | omega) only [l1040, hi, h, l255, Option.some.injEq, Prod.mk.injEq, Value.int.injEq, exists_and_left, exists_eq_left', and_assoc, true_and, and_true, true_implies, false_implies, not_true_eq_false, not_false_eq_true, li_0, li_1, li_2, li_3, li_4, li_5, li_8, li_9, li_10, li_16, li_20, li_80, li_100, li_130, li_144, li_390, li_400, li_M, li_H, li_of, nI_add, pk_mul, cl_, vp_iff, nI_leI, nI_ltI, nI_eq, Nat.add_zero, Nat.zero_add, Nat.reduceEqDiff, Nat.reduceAdd, eq_self, reduceIte, Bool.false_eq_true, li_neg]
theorem c_areUnlike (h : ∀ i, σ.1 2 i = b8_ (t i)) (ht : ∀ i, t i < 256) (hn : n ≤ 1040) {m bd : Nat} (hm : m ≤ 10) (hb : bd ≤ 16) : f_X8_areUnlike KC [.ref 1, .int (nI n), .int (nI m), .int (nI bd)] σ = some (some (.int (if 2 ≤ n ∧ n ≤ m ∧ us_ t bd n ≠ none then nI 1 else nI 0)), σ) := by
  refine z_X8_areUnlike (e_X8_areUnlike_0 ?_)
  by_cases h1 : 2 ≤ n
  · by_cases h2 : n ≤ m
    · have loop : ∀ k i q, i + k = n → us_ t bd i = some q → Ev_ (P_X8_areUnlike KC) 18 [some (.ref 1), some (.int (nI n)), some (.int (nI m)), some (.int (nI bd)), some (.int (nI q)), some (.int (nI i)), none] [] σ (some (.int (if us_ t bd n ≠ none then nI 1 else nI 0)), σ) := by
        intro k
        induction k with
        | zero =>
          intro i q hi hq
          obtain rfl : i = n := by omega
          refine e_X8_areUnlike_18 ?_
          rw [hq, if_pos (by simp)]
          simp (disch := first | assumption | omega) only [Nat.le_refl, Option.some.injEq, Prod.mk.injEq, Value.int.injEq, exists_and_left, exists_eq_left', and_assoc, true_and, and_true, true_implies, false_implies, not_true_eq_false, not_false_eq_true, li_0, li_1, li_2, li_3, li_4, li_5, li_8, li_9, li_10, li_16, li_20, li_80, li_100, li_130, li_144, li_390, li_400, li_M, li_H, li_of, nI_add, pk_mul, cl_, vp_iff, nI_leI, nI_ltI, nI_eq, Nat.add_zero, Nat.zero_add, Nat.reduceEqDiff, Nat.reduceAdd, eq_self, reduceIte, Bool.false_eq_true, li_neg]
        | succ k ih =>
          intro i q hi hq
          have hi1 : ¬ n ≤ i := by omega
          have hql := us_lt hb i q hq
          have hti := ht i
          have hba := c_byteAt h ht (i := i) (by omega)
          by_cases h5 : bd ≤ t i
          · have hno : us_ t bd n = none := by
              have : us_ t bd (i + 1) = none := by rw [us_, hq]; exact if_neg (fun z => by omega)
              have := us_none k (i + 1) this
              rwa [show i + 1 + k = n by omega] at this
            rw [hno, if_neg (by simp)]
            refine e_X8_areUnlike_18 ?_
            simp (disch := first | assumption | omega) only [hi1, hba, h5, Option.some.injEq, Prod.mk.injEq, Value.int.injEq, exists_and_left, exists_eq_left', and_assoc, true_and, and_true, true_implies, false_implies, not_true_eq_false, not_false_eq_true, li_0, li_1, li_2, li_3, li_4, li_5, li_8, li_9, li_10, li_16, li_20, li_80, li_100, li_130, li_144, li_390, li_400, li_M, li_H, li_of, nI_add, pk_mul, cl_, vp_iff, nI_leI, nI_ltI, nI_eq, Nat.add_zero, Nat.zero_add, Nat.reduceEqDiff, Nat.reduceAdd, eq_self, reduceIte, Bool.false_eq_true, li_neg]
          · by_cases h6 : q.testBit (t i) = true
            · have hno : us_ t bd n = none := by
                have : us_ t bd (i + 1) = none := by rw [us_, hq]; exact if_neg (fun z => by rw [h6] at z; cases z.2)
                have := us_none k (i + 1) this
                rwa [show i + 1 + k = n by omega] at this
              rw [hno, if_neg (by simp)]
              refine e_X8_areUnlike_18 ?_
              simp (disch := first | assumption | omega) only [hi1, hba, h5, hb_0, hb_n, h6, Option.some.injEq, Prod.mk.injEq, Value.int.injEq, exists_and_left, exists_eq_left', and_assoc, true_and, and_true, true_implies, false_implies, not_true_eq_false, not_false_eq_true, li_0, li_1, li_2, li_3, li_4, li_5, li_8, li_9, li_10, li_16, li_20, li_80, li_100, li_130, li_144, li_390, li_400, li_M, li_H, li_of, nI_add, pk_mul, cl_, vp_iff, nI_leI, nI_ltI, nI_eq, Nat.add_zero, Nat.zero_add, Nat.reduceEqDiff, Nat.reduceAdd, eq_self, reduceIte, Bool.false_eq_true, li_neg]
            · have ih1 := ih (i + 1) (q ||| 2 ^ t i) (by omega) (by rw [us_, hq]; exact if_pos ⟨by omega, Bool.eq_false_iff.mpr h6⟩)
              refine e_X8_areUnlike_18 ?_
              simp (disch := first | assumption | omega) only [hi1, hba, h5, hb_0, hb_n, h6, sh_1, fa_or, Option.some.injEq, Prod.mk.injEq, Value.int.injEq, exists_and_left, exists_eq_left', and_assoc, true_and, and_true, true_implies, false_implies, not_true_eq_false, not_false_eq_true, li_0, li_1, li_2, li_3, li_4, li_5, li_8, li_9, li_10, li_16, li_20, li_80, li_100, li_130, li_144, li_390, li_400, li_M, li_H, li_of, nI_add, pk_mul, cl_, vp_iff, nI_leI, nI_ltI, nI_eq, Nat.add_zero, Nat.zero_add, Nat.reduceEqDiff, Nat.reduceAdd, eq_self, reduceIte, Bool.false_eq_true, li_neg]
              exact ih1
      have l0 := loop n 0 0 (by omega) rfl
      have h3 : ¬ n < 2 := by omega
      by_cases h4 : us_ t bd n ≠ none
      · rw [if_pos h4] at l0
        rw [if_pos ⟨h1, h2, h4⟩]
        simp (disch := first | assumption | omega) only [h3, h2, Option.some.injEq, Prod.mk.injEq, Value.int.injEq, exists_and_left, exists_eq_left', and_assoc, true_and, and_true, true_implies, false_implies, not_true_eq_false, not_false_eq_true, li_0, li_1, li_2, li_3, li_4, li_5, li_8, li_9, li_10, li_16, li_20, li_80, li_100, li_130, li_144, li_390, li_400, li_M, li_H, li_of, nI_add, pk_mul, cl_, vp_iff, nI_leI, nI_ltI, nI_eq, Nat.add_zero, Nat.zero_add, Nat.reduceEqDiff, Nat.reduceAdd, eq_self, reduceIte, Bool.false_eq_true, li_neg]
        exact l0
      · rw [if_neg h4] at l0
        rw [if_neg (fun z => h4 z.2.2)]
        simp (disch := first | assumption | omega) only [h3, h2, Option.some.injEq, Prod.mk.injEq, Value.int.injEq, exists_and_left, exists_eq_left', and_assoc, true_and, and_true, true_implies, false_implies, not_true_eq_false, not_false_eq_true, li_0, li_1, li_2, li_3, li_4, li_5, li_8, li_9, li_10, li_16, li_20, li_80, li_100, li_130, li_144, li_390, li_400, li_M, li_H, li_of, nI_add, pk_mul, cl_, vp_iff, nI_leI, nI_ltI, nI_eq, Nat.add_zero, Nat.zero_add, Nat.reduceEqDiff, Nat.reduceAdd, eq_self, reduceIte, Bool.false_eq_true, li_neg]
        exact l0
    · have h3 : ¬ n < 2 := by omega
      rw [if_neg (fun z => h2 z.2.1)]
      simp (disch := first | assumption | omega) only [h3, h2, Option.some.injEq, Prod.mk.injEq, Value.int.injEq, exists_and_left, exists_eq_left', and_assoc, true_and, and_true, true_implies, false_implies, not_true_eq_false, not_false_eq_true, li_0, li_1, li_2, li_3, li_4, li_5, li_8, li_9, li_10, li_16, li_20, li_80, li_100, li_130, li_144, li_390, li_400, li_M, li_H, li_of, nI_add, pk_mul, cl_, vp_iff, nI_leI, nI_ltI, nI_eq, Nat.add_zero, Nat.zero_add, Nat.reduceEqDiff, Nat.reduceAdd, eq_self, reduceIte, Bool.false_eq_true, li_neg]
  · have h3 : n < 2 := by omega
    rw [if_neg (fun z => h1 z.1)]
    simp (disch := first | assumption | omega) only [h3, Option.some.injEq, Prod.mk.injEq, Value.int.injEq, exists_and_left, exists_eq_left', and_assoc, true_and, and_true, true_implies, false_implies, not_true_eq_false, not_false_eq_true, li_0, li_1, li_2, li_3, li_4, li_5, li_8, li_9, li_10, li_16, li_20, li_80, li_100, li_130, li_144, li_390, li_400, li_M, li_H, li_of, nI_add, pk_mul, cl_, vp_iff, nI_leI, nI_ltI, nI_eq, Nat.add_zero, Nat.zero_add, Nat.reduceEqDiff, Nat.reduceAdd, eq_self, reduceIte, Bool.false_eq_true, li_neg]
theorem m_isChapN (h : RX_ μ B) {c : Nat} (hc : c < 2 ^ 31) : f_X12_isChap KC [.ref 219, .int (nI c)] μ = some (some (.int (if c < B 0 0 then nI 1 else nI 0)), μ) := by
  have h3 := BO_c h.2
  have h0 : ¬ nI c < 0 := nI_pos hc
  refine z_X12_isChap (e_X12_isChap_0 (br_f h0 ?_))
  by_cases h1 : c < B 0 0
  · have h2 : ¬ B 0 0 ≤ c := by omega
    simp (disch := first | assumption | omega) only [m_chaps h, h1, h2, Option.some.injEq, Prod.mk.injEq, Value.int.injEq, exists_and_left, exists_eq_left', and_assoc, true_and, and_true, true_implies, false_implies, not_true_eq_false, not_false_eq_true, li_0, li_1, li_2, li_3, li_4, li_5, li_8, li_9, li_10, li_16, li_20, li_80, li_100, li_130, li_144, li_390, li_400, li_M, li_H, li_of, nI_add, pk_mul, cl_, vp_iff, nI_leI, nI_ltI, nI_eq, Nat.add_zero, Nat.zero_add, Nat.reduceEqDiff, Nat.reduceAdd, eq_self, reduceIte, Bool.false_eq_true, li_neg]
  · have h2 : B 0 0 ≤ c := by omega
    simp (disch := first | assumption | omega) only [m_chaps h, h1, h2, Option.some.injEq, Prod.mk.injEq, Value.int.injEq, exists_and_left, exists_eq_left', and_assoc, true_and, and_true, true_implies, false_implies, not_true_eq_false, not_false_eq_true, li_0, li_1, li_2, li_3, li_4, li_5, li_8, li_9, li_10, li_16, li_20, li_80, li_100, li_130, li_144, li_390, li_400, li_M, li_H, li_of, nI_add, pk_mul, cl_, vp_iff, nI_leI, nI_ltI, nI_eq, Nat.add_zero, Nat.zero_add, Nat.reduceEqDiff, Nat.reduceAdd, eq_self, reduceIte, Bool.false_eq_true, li_neg]
theorem m_isReaderN (h : RX_ μ B) {c : Nat} (hc : c < 2 ^ 31) : f_X12_isReader KC [.ref 219, .int (nI c)] μ = some (some (.int (if c < B 0 1 then nI 1 else nI 0)), μ) := by
  have h3 := BO_c h.2
  have h0 : ¬ nI c < 0 := nI_pos hc
  refine z_X12_isReader (e_X12_isReader_0 (br_f h0 ?_))
  by_cases h1 : c < B 0 1
  · have h2 : ¬ B 0 1 ≤ c := by omega
    simp (disch := first | assumption | omega) only [m_readers h, h1, h2, Option.some.injEq, Prod.mk.injEq, Value.int.injEq, exists_and_left, exists_eq_left', and_assoc, true_and, and_true, true_implies, false_implies, not_true_eq_false, not_false_eq_true, li_0, li_1, li_2, li_3, li_4, li_5, li_8, li_9, li_10, li_16, li_20, li_80, li_100, li_130, li_144, li_390, li_400, li_M, li_H, li_of, nI_add, pk_mul, cl_, vp_iff, nI_leI, nI_ltI, nI_eq, Nat.add_zero, Nat.zero_add, Nat.reduceEqDiff, Nat.reduceAdd, eq_self, reduceIte, Bool.false_eq_true, li_neg]
  · have h2 : B 0 1 ≤ c := by omega
    simp (disch := first | assumption | omega) only [m_readers h, h1, h2, Option.some.injEq, Prod.mk.injEq, Value.int.injEq, exists_and_left, exists_eq_left', and_assoc, true_and, and_true, true_implies, false_implies, not_true_eq_false, not_false_eq_true, li_0, li_1, li_2, li_3, li_4, li_5, li_8, li_9, li_10, li_16, li_20, li_80, li_100, li_130, li_144, li_390, li_400, li_M, li_H, li_of, nI_add, pk_mul, cl_, vp_iff, nI_leI, nI_ltI, nI_eq, Nat.add_zero, Nat.zero_add, Nat.reduceEqDiff, Nat.reduceAdd, eq_self, reduceIte, Bool.false_eq_true, li_neg]
/-- the class's CHAIN -/
noncomputable def cn_ (B : Nat → Nat → Nat) (N : Nat) (t : Nat → Nat) : Int32 × (Nat → Nat) := tc_ B N t (N - 1) 1 1 (fun _ => t 0) (nI 1000000) (nI 1000000) (nM_, fun _ => 0)
theorem cn_found (hO : BO_ B) {N : Nat} (ha : AO_ B N t) : ¬ (cn_ B N t).1 = nM_ := by
  have h3 := BO_c hO
  have := tc_found hO ha (N - 1) 1 1 (fun _ => t 0) 1000000 1000000 (nM_, fun _ => 0) (by have := ha.1; omega) (by omega) (fun j hj => ha.2.2 0 (by have := ha.1; omega)) (by omega) (by omega) (by
    have : fb_ct (fun i => (1 : Nat).testBit i) N = fb_ct (fun k => if k = 0 then true else false) N := fb_ct_cong (fun c _ => by
      by_cases e : c = 0
      · rw [e]; rfl
      · rw [if_neg e]
        exact Nat.testBit_lt_two_pow (Nat.one_lt_two_pow e))
    rw [this]
    have h2 : fb_ct (fun k => if k = 0 then true else false) N + (if false = true then 1 else 0) = fb_ct (fun _ => false) N + (if true = true then 1 else 0) := fb_ct_upd (fun _ => false) true (i := 0) (n := N) (by have := ha.1; omega)
    rw [if_neg (by decide), if_pos rfl, fb_ct_zero.mpr (fun _ _ => rfl)] at h2
    omega)
  intro z
  refine this ?_
  show (cn_ B N t).1 < nI 0
  rw [z]
  decide
theorem c_chainSearch (hB : isB b) (hC : CB_ σ b B) (hO : BO_ B) (h : ∀ i, σ.1 2 i = b8_ (t i)) (ht : ∀ i, t i < 256) {N : Nat} (ha : AO_ B N t) : ∃ σ', f_X7_search KC [.ref 129, .ref b, .ref 1, .int (nI N)] σ = some (some (.int (cn_ B N t).1), σ') ∧ σ'.1 129 1 = nI N ∧ (∀ j, j < N → σ'.1 130 j = nI ((cn_ B N t).2 j)) ∧ GF_ [129, 130, 131, 132] σ σ' := by
  have h3 := BO_c hO
  have bn := b_no hB
  have hbx : b + 27 < 129 ∨ 142 < b := by omega
  have ha' := ha
  obtain ⟨a1, a2, a3⟩ := ha
  have fr0 : GF_ [129, 130, 131, 132] σ (sI_ (sI_ (sI_ (sR_ σ 129 4 (some b)) 129 5 (nI N)) 129 1 (nI N)) 129 6 nM_) := GF_tr (GF_sR (by simp)) (GF_tr (GF_sI (by simp)) (GF_tr (GF_sI (by simp)) (GF_sI (by simp))))
  have loop : ∀ n i σ1, i + n = N → (CB_ σ1 b B ∧ σ1.2.2 129 4 = some b ∧ σ1.1 129 5 = nI N) → σ1.1 129 6 = nM_ → σ1.1 129 1 = nI N → σ1.1 2 = σ.1 2 → (∀ j, j < i → σ1.1 131 j = nI (t j)) → ∃ σ', Ev_ (P_X7_search KC) 23 [some (.ref 129), some (.ref b), some (.ref 1), some (.int (nI N)), some (.int (nI i))] [] σ1 (some (.int (cn_ B N t).1), σ') ∧ σ'.1 129 1 = nI N ∧ (∀ j, j < N → σ'.1 130 j = nI ((cn_ B N t).2 j)) ∧ fr_ [129, 130, 131, 132] σ1 σ' := by
    intro n
    induction n with
    | zero =>
      intro i σ1 hi hx h6 h1 h2 hr
      obtain rfl : i = N := by omega
      obtain ⟨σ', q1, q2, q3⟩ := c_tryRow (N := i) hB hO ha' (i - 1) 1 80 1 (fun _ => t 0) (nI 1000000) (nI 1000000) (nM_, fun _ => 0) (sI_ σ1 132 0 (nI (t 0))) (by omega) (by omega) (by omega) (by decide) rfl (fun j _ => a3 0 (by omega)) ⟨⟨CB_row hB hx.1 (fun o o1 o2 => sI_row _ _ _ _ (by omega)) hO, hx.2.1, by rw [sI_row _ _ _ _ (by decide)]; exact hx.2.2⟩, ⟨by rw [sI_row _ _ _ _ (by decide)]; exact h6, Or.inl rfl⟩, fun j hj => by rw [sI_row _ _ _ _ (by decide)]; exact hr j hj, fun j hj => by rw [sI_at, if_pos ⟨rfl, by omega⟩]⟩
      refine ⟨σ', e_X7_search_23 hB ?_, by rw [q3.2 1 (by decide), sI_row _ _ _ _ (by decide)]; exact h1, fun j hj => (q2.2.1.2.elim (fun z => absurd z (cn_found hO ha')) id) j hj, fr_tr (fr_sI (by simp)) (fr_mono q3.1 (by simp))⟩
      simp (disch := first | assumption | omega) only [hx.2.2, Nat.le_refl, hr 0 (by omega), q1, Option.some.injEq, Prod.mk.injEq, Value.int.injEq, exists_and_left, exists_eq_left', and_assoc, true_and, and_true, true_implies, false_implies, not_true_eq_false, not_false_eq_true, li_0, li_1, li_2, li_3, li_4, li_5, li_8, li_9, li_10, li_16, li_20, li_80, li_100, li_130, li_144, li_390, li_400, li_M, li_H, li_of, nI_add, pk_mul, cl_, vp_iff, nI_leI, nI_ltI, nI_eq, Nat.add_zero, Nat.zero_add, Nat.reduceEqDiff, Nat.reduceAdd, eq_self, reduceIte, Bool.false_eq_true, li_neg]
      (repeat' apply And.intro) <;> first | omega | rfl | assumption | exact q2.2.1.1.symm
    | succ n ih =>
      intro i σ1 hi hx h6 h1 h2 hr
      have hi1 : ¬ N ≤ i := by omega
      have hba := c_byteAt (σ := σ1) (t := t) (fun j => by rw [h2]; exact h j) ht (i := i) (by omega)
      obtain ⟨σ', q1, q2, q3, q4⟩ := ih (i + 1) (sI_ σ1 131 i (nI (t i))) (by omega) ⟨CB_row hB hx.1 (fun o o1 o2 => sI_row _ _ _ _ (by omega)) hO, hx.2.1, by rw [sI_row _ _ _ _ (by decide)]; exact hx.2.2⟩ (by rw [sI_row _ _ _ _ (by decide)]; exact h6) (by rw [sI_row _ _ _ _ (by decide)]; exact h1) ((sI_row _ _ _ _ (by decide)).trans h2) (fun j hj => by
        rw [sI_at]
        by_cases e : j = i
        · rw [if_pos ⟨rfl, e⟩, e]
        · rw [if_neg (fun z => e z.2)]
          exact hr j (by omega))
      refine ⟨σ', e_X7_search_23 hB ?_, q2, q3, fr_tr (fr_sI (by simp)) q4⟩
      simp (disch := first | assumption | omega) only [hx.2.2, hi1, hba, Option.some.injEq, Prod.mk.injEq, Value.int.injEq, exists_and_left, exists_eq_left', and_assoc, true_and, and_true, true_implies, false_implies, not_true_eq_false, not_false_eq_true, li_0, li_1, li_2, li_3, li_4, li_5, li_8, li_9, li_10, li_16, li_20, li_80, li_100, li_130, li_144, li_390, li_400, li_M, li_H, li_of, nI_add, pk_mul, cl_, vp_iff, nI_leI, nI_ltI, nI_eq, Nat.add_zero, Nat.zero_add, Nat.reduceEqDiff, Nat.reduceAdd, eq_self, reduceIte, Bool.false_eq_true, li_neg]
      (repeat' apply And.intro) <;> first | omega | rfl | assumption | exact q1
  obtain ⟨σ', q1, q2, q3, q4⟩ := loop N 0 (sI_ (sI_ (sI_ (sR_ σ 129 4 (some b)) 129 5 (nI N)) 129 1 (nI N)) 129 6 nM_) (by omega) ⟨CB_row (σ := σ) hB hC (fun o o1 o2 => by
    rw [sI_row _ _ _ _ (by omega), sI_row _ _ _ _ (by omega), sI_row _ _ _ _ (by omega)]
    rfl) hO, by simp only [sI_2]; rw [sR_at, if_pos ⟨rfl, rfl⟩], by simp [sI_at]⟩ (by simp [sI_at]) (by simp [sI_at]) (by rw [sI_row _ _ _ _ (by decide), sI_row _ _ _ _ (by decide), sI_row _ _ _ _ (by decide)]; rfl) (fun j hj => absurd hj (by omega))
  refine ⟨σ', z_X7_search (e_X7_search_0 hB ?_), q2, q3, GF_tr fr0 (GF_fr q4 (fun o h => h))⟩
  simp (disch := first | assumption | omega) only [Option.some.injEq, Prod.mk.injEq, Value.int.injEq, exists_and_left, exists_eq_left', and_assoc, true_and, and_true, true_implies, false_implies, not_true_eq_false, not_false_eq_true, li_0, li_1, li_2, li_3, li_4, li_5, li_8, li_9, li_10, li_16, li_20, li_80, li_100, li_130, li_144, li_390, li_400, li_M, li_H, li_of, nI_add, pk_mul, cl_, vp_iff, nI_leI, nI_ltI, nI_eq, Nat.add_zero, Nat.zero_add, Nat.reduceEqDiff, Nat.reduceAdd, eq_self, reduceIte, Bool.false_eq_true, li_neg]
  exact q1
/-- the reference's CHAIN, from its test on: not as told, or found -/
theorem m_chain36 (hO : BO_ B) (ht : ∀ i, t i < 256) {N : Nat} (hN : 2 ≤ N ∧ N ≤ 7) : ∀ n i q (μ : St_), i + n = N → us_ t (B 0 1) i = some q → RX_ μ B → μ.1 219 54 = nI N → (∀ j, μ.1 220 j = nI (t j)) → (∀ j, j < i → μ.1 243 j = nI (t j)) → (us_ t (B 0 1) N = none ∧ ∃ μ', Ev_ (P_X12_chain KC) 36 [some (.ref 219), some (.int (nI q)), some (.int (nI i))] [] μ (some (.int nM_), μ') ∧ fr_ [243] μ μ') ∨ (us_ t (B 0 1) N ≠ none ∧ ∃ μ', Ev_ (P_X12_chain KC) 36 [some (.ref 219), some (.int (nI q)), some (.int (nI i))] [] μ (some (.int (cn_ B N t).1), μ') ∧ μ'.1 219 53 = nI N ∧ (∀ j, j < N → μ'.1 241 j = nI ((cn_ B N t).2 j)) ∧ fr_ [219, 240, 241, 242, 243] μ μ' ∧ NF2_ [52, 53] 219 μ μ') := by
  have h3 := BO_c hO
  intro n
  induction n with
  | zero =>
    intro i q μ hi hq hx h54 hT hr
    obtain rfl : i = N := by omega
    right
    refine ⟨by rw [hq]; simp, ?_⟩
    have hul := us_lt (show B 0 1 ≤ 16 by omega) i q hq
    have ha : AO_ B i t := ⟨hN.1, hN.2, fun j hj => hul.2 j hj⟩
    have m0 : MR_ (sI_ μ 219 52 nM_) B i t (fun _ => t 0) 0 (nM_, fun _ => 0) := ⟨⟨RX_sI hx (by decide), by rw [sI_at, if_neg (by decide)]; exact h54⟩, ⟨by rw [sI_at, if_pos ⟨rfl, rfl⟩], Or.inl rfl⟩, fun j hj => by rw [sI_row _ _ _ _ (by decide)]; exact hr j hj, fun j hj => absurd hj (by omega)⟩
    -- the first is placed
    have m1 : MR_ (sI_ (sI_ μ 219 52 nM_) 240 0 (nI (t 0))) B i t (fun _ => t 0) 1 (nM_, fun _ => 0) := ⟨⟨RX_sI m0.1.1 (by decide), by rw [sI_row _ _ _ _ (by decide)]; exact m0.1.2⟩, ⟨by rw [sI_row _ _ _ _ (by decide)]; exact m0.2.1.1, Or.inl rfl⟩, fun j hj => by rw [sI_row _ _ _ _ (by decide)]; exact m0.2.2.1 j hj, fun j hj => by rw [sI_at, if_pos ⟨rfl, by omega⟩]⟩
    obtain ⟨μ2, g1, g2, g3⟩ := m_tryChain (N := i) hO ha (i - 1) 1 79 1 (fun _ => t 0) (nI 1000000) (nI 1000000) (nM_, fun _ => 0) _ (by omega) (by omega) (by omega) (by decide) (fun j _ => ha.2.2 0 (by omega)) m1
    have rest : ∀ m j, j + m = i → 1 ≤ j → Ev_ (P_X12_tryChain KC (f_X12_tryChain KC 79)) 57 [some (.ref 219), some (.int (nI 0)), some (.int (nI 0)), some (.int (nI 0)), some (.int (nI 0)), some (.int (nI j)), none] [] μ2 (none, μ2) := by
      intro m
      induction m with
      | zero =>
        intro j hj hj1
        obtain rfl : j = i := by omega
        refine e_X12_tryChain_57 ?_
        simp (disch := first | assumption | omega) only [g2.1.2, Nat.le_refl, Option.some.injEq, Prod.mk.injEq, Value.int.injEq, exists_and_left, exists_eq_left', and_assoc, true_and, and_true, true_implies, false_implies, not_true_eq_false, not_false_eq_true, li_0, li_1, li_2, li_3, li_4, li_5, li_8, li_9, li_10, li_16, li_20, li_80, li_100, li_130, li_144, li_390, li_400, li_M, li_H, li_of, nI_add, pk_mul, cl_, vp_iff, nI_leI, nI_ltI, nI_eq, Nat.add_zero, Nat.zero_add, Nat.reduceEqDiff, Nat.reduceAdd, eq_self, reduceIte, Bool.false_eq_true, li_neg]
      | succ m ihm =>
        intro j hj hj1
        have hj2 : ¬ i ≤ j := by omega
        have hj3 : ¬ j ≤ 0 := by omega
        have ih1 := ihm (j + 1) (by omega) (by omega)
        have hz : ¬ hb_ (nI 0) j := hb_00 (by omega)
        refine e_X12_tryChain_57 ?_
        simp (disch := first | assumption | omega) only [g2.1.2, hj2, m_hasK, hz, hj3, Option.some.injEq, Prod.mk.injEq, Value.int.injEq, exists_and_left, exists_eq_left', and_assoc, true_and, and_true, true_implies, false_implies, not_true_eq_false, not_false_eq_true, li_0, li_1, li_2, li_3, li_4, li_5, li_8, li_9, li_10, li_16, li_20, li_80, li_100, li_130, li_144, li_390, li_400, li_M, li_H, li_of, nI_add, pk_mul, cl_, vp_iff, nI_leI, nI_ltI, nI_eq, Nat.add_zero, Nat.zero_add, Nat.reduceEqDiff, Nat.reduceAdd, eq_self, reduceIte, Bool.false_eq_true, li_neg]
        exact ih1
    have h0N : ¬ 0 = i := by omega
    have hz0 : ¬ hb_ (nI 0) 0 := hb_00 (by omega)
    have l10 : nI 0 ||| nI 1 <<< (nI 0 &&& 31) = nI 1 := by decide
    have s0 : nI 0 + nI 1000000 = nI 1000000 := by decide
    have try0 : f_X12_tryChain KC 80 [.ref 219, .int (nI 0), .int (nI 0), .int (nI 0), .int (nI 0)] (sI_ μ 219 52 nM_) = some (none, μ2) := by
      have t87 : Ev_ (P_X12_tryChain KC (f_X12_tryChain KC 79)) 87 [some (.ref 219), some (.int (nI 0)), some (.int (nI 0)), some (.int (nI 0)), some (.int (nI 0)), some (.int (nI 0)), none] [] (sI_ μ 219 52 nM_) (none, μ2) := by
        refine e_X12_tryChain_87 ?_
        have e243 : (sI_ μ 219 52 nM_).1 243 0 = nI (t 0) := by rw [sI_row _ _ _ _ (by decide)]; exact hr 0 (by omega)
        have t141 : Ev_ (P_X12_tryChain KC (f_X12_tryChain KC 79)) 141 [some (.ref 219), some (.int (nI 0)), some (.int (nI 0)), some (.int (nI 0)), some (.int (nI 0)), some (.int (nI 0)), none] [.int (nI 1000000)] (sI_ (sI_ μ 219 52 nM_) 240 0 (nI (t 0))) (none, μ2) := by
          have r1 := rest (i - 1) 1 (by omega) (by omega)
          refine e_X12_tryChain_141 ?_
          simp (disch := first | assumption | omega) only [l10, g1, Option.some.injEq, Prod.mk.injEq, Value.int.injEq, exists_and_left, exists_eq_left', and_assoc, true_and, and_true, true_implies, false_implies, not_true_eq_false, not_false_eq_true, li_0, li_1, li_2, li_3, li_4, li_5, li_8, li_9, li_10, li_16, li_20, li_80, li_100, li_130, li_144, li_390, li_400, li_M, li_H, li_of, nI_add, pk_mul, cl_, vp_iff, nI_leI, nI_ltI, nI_eq, Nat.add_zero, Nat.zero_add, Nat.reduceEqDiff, Nat.reduceAdd, eq_self, reduceIte, Bool.false_eq_true, li_neg]
          exact r1
        simp (disch := first | assumption | omega) only [e243, Option.some.injEq, Prod.mk.injEq, Value.int.injEq, exists_and_left, exists_eq_left', and_assoc, true_and, and_true, true_implies, false_implies, not_true_eq_false, not_false_eq_true, li_0, li_1, li_2, li_3, li_4, li_5, li_8, li_9, li_10, li_16, li_20, li_80, li_100, li_130, li_144, li_390, li_400, li_M, li_H, li_of, nI_add, pk_mul, cl_, vp_iff, nI_leI, nI_ltI, nI_eq, Nat.add_zero, Nat.zero_add, Nat.reduceEqDiff, Nat.reduceAdd, eq_self, reduceIte, Bool.false_eq_true, li_neg]
        (repeat' apply And.intro) <;> first | omega | rfl | assumption | exact t141
      refine z_X12_tryChain (e_X12_tryChain_0 ?_)
      have t57 : Ev_ (P_X12_tryChain KC (f_X12_tryChain KC 79)) 57 [some (.ref 219), some (.int (nI 0)), some (.int (nI 0)), some (.int (nI 0)), some (.int (nI 0)), some (.int (nI 0)), none] [] (sI_ μ 219 52 nM_) (none, μ2) := by
        refine e_X12_tryChain_57 ?_
        have hi0 : ¬ i ≤ 0 := by omega
        simp (disch := first | assumption | omega) only [m0.1.2, hi0, m_hasK, hz0, Nat.le_refl, Option.some.injEq, Prod.mk.injEq, Value.int.injEq, exists_and_left, exists_eq_left', and_assoc, true_and, and_true, true_implies, false_implies, not_true_eq_false, not_false_eq_true, li_0, li_1, li_2, li_3, li_4, li_5, li_8, li_9, li_10, li_16, li_20, li_80, li_100, li_130, li_144, li_390, li_400, li_M, li_H, li_of, nI_add, pk_mul, cl_, vp_iff, nI_leI, nI_ltI, nI_eq, Nat.add_zero, Nat.zero_add, Nat.reduceEqDiff, Nat.reduceAdd, eq_self, reduceIte, Bool.false_eq_true, li_neg]
        exact t87
      simp (disch := first | assumption | omega) only [m0.1.2, h0N, Option.some.injEq, Prod.mk.injEq, Value.int.injEq, exists_and_left, exists_eq_left', and_assoc, true_and, and_true, true_implies, false_implies, not_true_eq_false, not_false_eq_true, li_0, li_1, li_2, li_3, li_4, li_5, li_8, li_9, li_10, li_16, li_20, li_80, li_100, li_130, li_144, li_390, li_400, li_M, li_H, li_of, nI_add, pk_mul, cl_, vp_iff, nI_leI, nI_ltI, nI_eq, Nat.add_zero, Nat.zero_add, Nat.reduceEqDiff, Nat.reduceAdd, eq_self, reduceIte, Bool.false_eq_true, li_neg]
      exact t57
    have e52 : μ2.1 219 54 = nI i := g2.1.2
    -- the row is kept
    have lc : ∀ m j μ3, j + m = i → μ3.1 219 54 = nI i → μ3.1 219 52 = (cn_ B i t).1 → (∀ k, k < i → μ3.1 242 k = nI ((cn_ B i t).2 k)) → (∀ k, k < j → μ3.1 241 k = nI ((cn_ B i t).2 k)) → ∃ μ', Ev_ (P_X12_chain KC) 124 [some (.ref 219), none, some (.int (nI j))] [] μ3 (some (.int (cn_ B i t).1), μ') ∧ (∀ k, k < i → μ'.1 241 k = nI ((cn_ B i t).2 k)) ∧ fr_ [241] μ3 μ' := by
      intro m
      induction m with
      | zero =>
        intro j μ3 hj a1 a2 a3 a4
        obtain rfl : j = i := by omega
        refine ⟨μ3, e_X12_chain_124 ?_, a4, fr_rf _ _⟩
        simp (disch := first | assumption | omega) only [a1, Nat.le_refl, a2, Option.some.injEq, Prod.mk.injEq, Value.int.injEq, exists_and_left, exists_eq_left', and_assoc, true_and, and_true, true_implies, false_implies, not_true_eq_false, not_false_eq_true, li_0, li_1, li_2, li_3, li_4, li_5, li_8, li_9, li_10, li_16, li_20, li_80, li_100, li_130, li_144, li_390, li_400, li_M, li_H, li_of, nI_add, pk_mul, cl_, vp_iff, nI_leI, nI_ltI, nI_eq, Nat.add_zero, Nat.zero_add, Nat.reduceEqDiff, Nat.reduceAdd, eq_self, reduceIte, Bool.false_eq_true, li_neg]
      | succ m ihm =>
        intro j μ3 hj a1 a2 a3 a4
        have hj1 : ¬ i ≤ j := by omega
        obtain ⟨μ', b1, b2, b3⟩ := ihm (j + 1) (sI_ μ3 241 j (nI ((cn_ B i t).2 j))) (by omega) (by rw [sI_row _ _ _ _ (by decide)]; exact a1) (by rw [sI_row _ _ _ _ (by decide)]; exact a2) (fun k hk => by rw [sI_row _ _ _ _ (by decide)]; exact a3 k hk) (fun k hk => by
          rw [sI_at]
          by_cases e : k = j
          · rw [if_pos ⟨rfl, e⟩, e]
          · rw [if_neg (fun z => e z.2)]
            exact a4 k (by omega))
        refine ⟨μ', e_X12_chain_124 ?_, b2, fr_tr (fr_sI (by simp)) b3⟩
        simp (disch := first | assumption | omega) only [a1, hj1, a3 j (by omega), Option.some.injEq, Prod.mk.injEq, Value.int.injEq, exists_and_left, exists_eq_left', and_assoc, true_and, and_true, true_implies, false_implies, not_true_eq_false, not_false_eq_true, li_0, li_1, li_2, li_3, li_4, li_5, li_8, li_9, li_10, li_16, li_20, li_80, li_100, li_130, li_144, li_390, li_400, li_M, li_H, li_of, nI_add, pk_mul, cl_, vp_iff, nI_leI, nI_ltI, nI_eq, Nat.add_zero, Nat.zero_add, Nat.reduceEqDiff, Nat.reduceAdd, eq_self, reduceIte, Bool.false_eq_true, li_neg]
        (repeat' apply And.intro) <;> first | omega | rfl | assumption | exact b1
    have hrow := g2.2.1.2.elim (fun z => absurd z (cn_found hO ha)) id
    obtain ⟨μ', l1, l2, l3⟩ := lc i 0 (sI_ μ2 219 53 (nI i)) (by omega) (by rw [sI_at, if_neg (by decide)]; exact e52) (by rw [sI_at, if_neg (by decide)]; exact g2.2.1.1) (fun k hk => by rw [sI_row _ _ _ _ (by decide)]; exact hrow k hk) (fun k hk => absurd hk (by omega))
    have o219 : μ'.1 219 = (sI_ μ2 219 53 (nI i)).1 219 := l3.1 219 (by decide)
    refine ⟨μ', e_X12_chain_36 ?_, by rw [o219, sI_at, if_pos ⟨rfl, rfl⟩], l2, fr_tr (fr_sI (by simp)) (fr_tr (fr_sI (by simp)) (fr_tr (fr_mono g3.1 (by simp)) (fr_tr (fr_sI (by simp)) (fr_mono l3 (by simp))))), fun f hf => ?_⟩
    · simp (disch := first | assumption | omega) only [h54, Nat.le_refl, try0, e52, Option.some.injEq, Prod.mk.injEq, Value.int.injEq, exists_and_left, exists_eq_left', and_assoc, true_and, and_true, true_implies, false_implies, not_true_eq_false, not_false_eq_true, li_0, li_1, li_2, li_3, li_4, li_5, li_8, li_9, li_10, li_16, li_20, li_80, li_100, li_130, li_144, li_390, li_400, li_M, li_H, li_of, nI_add, pk_mul, cl_, vp_iff, nI_leI, nI_ltI, nI_eq, Nat.add_zero, Nat.zero_add, Nat.reduceEqDiff, Nat.reduceAdd, eq_self, reduceIte, Bool.false_eq_true, li_neg]
      exact l1
    · simp only [List.mem_cons, List.not_mem_nil, or_false, not_or] at hf
      rw [o219, sI_at, if_neg (by omega), g3.2 f (by simp; omega), sI_row _ _ _ _ (by decide), sI_at, if_neg (by omega)]
  | succ n ih =>
    intro i q μ hi hq hx h54 hT hr
    have hi1 : ¬ N ≤ i := by omega
    have hul := us_lt (show B 0 1 ≤ 16 by omega) i q hq
    have hti := ht i
    have hrd := m_isReaderN hx (show t i < 2 ^ 31 by omega)
    by_cases h5 : t i < B 0 1
    · rw [if_pos h5] at hrd
      by_cases h6 : q.testBit (t i) = true
      · have hno : us_ t (B 0 1) N = none := by
          have : us_ t (B 0 1) (i + 1) = none := by rw [us_, hq]; exact if_neg (fun z => by rw [h6] at z; cases z.2)
          have := us_none n (i + 1) this
          rwa [show i + 1 + n = N by omega] at this
        refine Or.inl ⟨hno, μ, e_X12_chain_36 ?_, fr_rf _ _⟩
        simp (disch := first | assumption | omega) only [h54, hi1, hT, hrd, m_hasK, hb_n, h6, Option.some.injEq, Prod.mk.injEq, Value.int.injEq, exists_and_left, exists_eq_left', and_assoc, true_and, and_true, true_implies, false_implies, not_true_eq_false, not_false_eq_true, li_0, li_1, li_2, li_3, li_4, li_5, li_8, li_9, li_10, li_16, li_20, li_80, li_100, li_130, li_144, li_390, li_400, li_M, li_H, li_of, nI_add, pk_mul, cl_, vp_iff, nI_leI, nI_ltI, nI_eq, Nat.add_zero, Nat.zero_add, Nat.reduceEqDiff, Nat.reduceAdd, eq_self, reduceIte, Bool.false_eq_true, li_neg]
        (repeat' apply And.intro) <;> first | omega | rfl | assumption
      · have hsome : us_ t (B 0 1) (i + 1) = some (q ||| 2 ^ t i) := by rw [us_, hq]; exact if_pos ⟨h5, Bool.eq_false_iff.mpr h6⟩
        rcases ih (i + 1) (q ||| 2 ^ t i) (sI_ μ 243 i (nI (t i))) (by omega) hsome (RX_sI hx (by decide)) (by rw [sI_row _ _ _ _ (by decide)]; exact h54) (fun j => by rw [sI_row _ _ _ _ (by decide)]; exact hT j) (fun j hj => by
          rw [sI_at]
          by_cases e : j = i
          · rw [if_pos ⟨rfl, e⟩, e]
          · rw [if_neg (fun z => e z.2)]
            exact hr j (by omega)) with ⟨c1, μ', c2, c3⟩ | ⟨c1, μ', c2, c3, c4, c5, c6⟩
        · refine Or.inl ⟨c1, μ', e_X12_chain_36 ?_, fr_tr (fr_sI (by simp)) c3⟩
          simp (disch := first | assumption | omega) only [h54, hi1, hT, hrd, m_hasK, hb_n, h6, sh_1, fa_or, Option.some.injEq, Prod.mk.injEq, Value.int.injEq, exists_and_left, exists_eq_left', and_assoc, true_and, and_true, true_implies, false_implies, not_true_eq_false, not_false_eq_true, li_0, li_1, li_2, li_3, li_4, li_5, li_8, li_9, li_10, li_16, li_20, li_80, li_100, li_130, li_144, li_390, li_400, li_M, li_H, li_of, nI_add, pk_mul, cl_, vp_iff, nI_leI, nI_ltI, nI_eq, Nat.add_zero, Nat.zero_add, Nat.reduceEqDiff, Nat.reduceAdd, eq_self, reduceIte, Bool.false_eq_true, li_neg]
          (repeat' apply And.intro) <;> first | omega | rfl | assumption | exact c2
        · refine Or.inr ⟨c1, μ', e_X12_chain_36 ?_, c3, c4, fr_tr (fr_sI (by simp)) c5, fun f hf => by rw [c6 f hf, sI_row _ _ _ _ (by decide)]⟩
          simp (disch := first | assumption | omega) only [h54, hi1, hT, hrd, m_hasK, hb_n, h6, sh_1, fa_or, Option.some.injEq, Prod.mk.injEq, Value.int.injEq, exists_and_left, exists_eq_left', and_assoc, true_and, and_true, true_implies, false_implies, not_true_eq_false, not_false_eq_true, li_0, li_1, li_2, li_3, li_4, li_5, li_8, li_9, li_10, li_16, li_20, li_80, li_100, li_130, li_144, li_390, li_400, li_M, li_H, li_of, nI_add, pk_mul, cl_, vp_iff, nI_leI, nI_ltI, nI_eq, Nat.add_zero, Nat.zero_add, Nat.reduceEqDiff, Nat.reduceAdd, eq_self, reduceIte, Bool.false_eq_true, li_neg]
          (repeat' apply And.intro) <;> first | omega | rfl | assumption | exact c2
    · rw [if_neg h5] at hrd
      have hno : us_ t (B 0 1) N = none := by
        have : us_ t (B 0 1) (i + 1) = none := by rw [us_, hq]; exact if_neg (fun z => h5 z.1)
        have := us_none n (i + 1) this
        rwa [show i + 1 + n = N by omega] at this
      refine Or.inl ⟨hno, μ, e_X12_chain_36 ?_, fr_rf _ _⟩
      simp (disch := first | assumption | omega) only [h54, hi1, hT, hrd, Option.some.injEq, Prod.mk.injEq, Value.int.injEq, exists_and_left, exists_eq_left', and_assoc, true_and, and_true, true_implies, false_implies, not_true_eq_false, not_false_eq_true, li_0, li_1, li_2, li_3, li_4, li_5, li_8, li_9, li_10, li_16, li_20, li_80, li_100, li_130, li_144, li_390, li_400, li_M, li_H, li_of, nI_add, pk_mul, cl_, vp_iff, nI_leI, nI_ltI, nI_eq, Nat.add_zero, Nat.zero_add, Nat.reduceEqDiff, Nat.reduceAdd, eq_self, reduceIte, Bool.false_eq_true, li_neg]
      (repeat' apply And.intro) <;> first | omega | rfl | assumption
end TP
