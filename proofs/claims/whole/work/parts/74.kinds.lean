/-! TWICE, CHAIN, ROUND -/
def oN_ (o : Option Nat) : Int32 := match o with
  | none => nM_
  | some i => nI i
/-- the one with the most QUARTERS left of the first n, but for those of sk -/
noncomputable def ml_ (k : K_) (sk : Nat → Prop) : Nat → Option Nat
  | 0 => none
  | n + 1 => @ite _ (sk n) (Classical.propDecidable _) (ml_ k sk n) (match ml_ k sk n with
    | none => some n
    | some b => if k.1 b < k.1 n then some n else some b)
/-- the CHAP of the most WORTH but for those of the set m -/
def mw_ (B : Nat → Nat → Nat) (m : Nat) : Nat → Option Nat
  | 0 => none
  | n + 1 => if m.testBit n = true then mw_ B m n else match mw_ B m n with
    | none => some n
    | some b => if B 2 b < B 2 n then some n else some b
def mwc_ (B : Nat → Nat → Nat) (m : Nat) : Nat := (mw_ B m (B 0 0)).getD 0
noncomputable def tws_ (B : Nat → Nat → Nat) (T : T_) (c : Nat) : T_ := match ml_ T.1 (fun r => hb_ (T.1.2.1 r) c) (B 0 1) with
  | none => T
  | some r => (ta_ B T r c 0 0).2
noncomputable def tw2_ (B : Nat → Nat → Nat) (T : T_) : Nat → Nat × T_
  | 0 => (0, T)
  | i + 1 => ((tw2_ B T i).1 ||| 2 ^ mwc_ B (tw2_ B T i).1, tws_ B (tw2_ B T i).2 (mwc_ B (tw2_ B T i).1))
section KD
variable {σ μ : St_} {b p : Nat} {B : Nat → Nat → Nat} {T : T_} {k : K_} {r c m : Nat}
theorem ml_lt {sk : Nat → Prop} : ∀ n i, ml_ k sk n = some i → i < n
  | 0, i, h => by cases h
  | n + 1, i, h => by
    rw [ml_] at h
    split at h
    · have := ml_lt n i h
      omega
    · split at h
      · cases h
        omega
      · rename_i q hq
        have := ml_lt n q hq
        split at h <;> cases h <;> omega
theorem mw_lt : ∀ n i, mw_ B m n = some i → i < n ∧ m.testBit i = false
  | 0, i, h => by cases h
  | n + 1, i, h => by
    rw [mw_] at h
    split at h
    · have := mw_lt n i h
      exact ⟨by omega, this.2⟩
    · rename_i hm
      have hm2 : m.testBit n = false := Bool.eq_false_iff.mpr hm
      split at h
      · cases h
        exact ⟨by omega, hm2⟩
      · rename_i q hq
        have := mw_lt n q hq
        split at h <;> cases h
        · exact ⟨by omega, hm2⟩
        · exact ⟨by omega, this.2⟩
theorem mw_some : ∀ n, (∃ i, i < n ∧ m.testBit i = false) → ∃ i, mw_ B m n = some i
  | 0, ⟨i, h, _⟩ => absurd h (by omega)
  | n + 1, ⟨i, h, h2⟩ => by
    rw [mw_]
    by_cases hm : m.testBit n = true
    · rw [if_pos hm]
      refine mw_some n ⟨i, ?_, h2⟩
      by_cases e : i = n
      · rw [e, hm] at h2
        cases h2
      · omega
    · rw [if_neg hm]
      split
      · exact ⟨n, rfl⟩
      · split
        · exact ⟨_, rfl⟩
        · exact ⟨_, rfl⟩
theorem tw2_met (hO : BO_ B) : ∀ i, i ≤ B 0 0 → fb_ct (fun c => (tw2_ B T i).1.testBit c) (B 0 0) = i ∧ (tw2_ B T i).1 < 2 ^ 16 := by
  have h3 := BO_c hO
  intro i
  induction i with
  | zero =>
    intro _
    refine ⟨fb_ct_zero.mpr (fun c _ => ?_), by rw [tw2_]; show 0 < 2 ^ 16; decide⟩
    rw [tw2_]
    exact Nat.zero_testBit _
  | succ i ih =>
    intro hi
    obtain ⟨h1, h2⟩ := ih (by omega)
    have hex : ∃ j, j < B 0 0 ∧ (tw2_ B T i).1.testBit j = false := by
      refine Classical.byContradiction fun hn => ?_
      have : fb_ct (fun c => (tw2_ B T i).1.testBit c) (B 0 0) = B 0 0 := fb_ct_all.mpr (fun j hj => by
        cases hq : (tw2_ B T i).1.testBit j with
        | true => rfl
        | false => exact absurd ⟨j, hj, hq⟩ hn)
      omega
    obtain ⟨j, hj⟩ := mw_some (B := B) (B 0 0) hex
    have hl := mw_lt _ _ hj
    have hc : mwc_ B (tw2_ B T i).1 = j := by unfold mwc_; rw [hj]; rfl
    rw [tw2_, hc]
    refine ⟨?_, or_lt h2 (two_lt (by omega))⟩
    have hu : fb_ct (fun k => if k = j then true else (tw2_ B T i).1.testBit k) (B 0 0) + (if (tw2_ B T i).1.testBit j = true then 1 else 0) = fb_ct (fun c => (tw2_ B T i).1.testBit c) (B 0 0) + (if true = true then 1 else 0) := fb_ct_upd (fun c => (tw2_ B T i).1.testBit c) true (i := j) (n := B 0 0) hl.1
    have hg : fb_ct (fun c => ((tw2_ B T i).1 ||| 2 ^ j).testBit c) (B 0 0) = fb_ct (fun k => if k = j then true else (tw2_ B T i).1.testBit k) (B 0 0) := fb_ct_cong (fun c _ => by
      rw [fb_bit_set]
      by_cases e : c = j
      · simp [e]
      · simp [e])
    show fb_ct (fun c => ((tw2_ B T i).1 ||| 2 ^ j).testBit c) (B 0 0) = i + 1
    rw [hg]
    rw [hl.2, if_neg (by decide), if_pos rfl, h1] at hu
    omega
theorem c_mostLeft (h : CG_ σ b p B T) {x : Nat} (hx : x < 2 ^ 16) : f_X4_mostLeft KC [.ref 85, .int (nI x)] σ = some (some (.int (oN_ (ml_ T.1 (fun r => x.testBit r = true) (B 0 1)))), σ) := by
  have hB := h.1.1.1.2.1
  have h3 := BO_c h.1.1.2.2
  have hk := h.2.2.1
  have h2 := h.1.2.1
  have loop : ∀ n d, d + n = B 0 1 → Ev_ (P_X4_mostLeft KC) 4 [some (.ref 85), some (.int (nI x)), some (.int (oN_ (ml_ T.1 (fun r => x.testBit r = true) d))), some (.int (nI d))] [] σ (some (.int (oN_ (ml_ T.1 (fun r => x.testBit r = true) (B 0 1)))), σ) := by
    intro n
    induction n with
    | zero =>
      intro d hd
      obtain rfl : d = B 0 1 := by omega
      refine e_X4_mostLeft_4 ?_
      simp (disch := first | assumption | omega) only [h2, hB, h.1.1.2.1.1.2.1, Nat.le_refl, Option.some.injEq, Prod.mk.injEq, Value.int.injEq, exists_and_left, exists_eq_left', and_assoc, true_and, and_true, true_implies, false_implies, not_true_eq_false, not_false_eq_true, li_0, li_1, li_2, li_3, li_4, li_5, li_8, li_9, li_10, li_16, li_20, li_80, li_100, li_130, li_144, li_390, li_400, li_M, li_H, li_of, nI_add, pk_mul, cl_, vp_iff, nI_leI, nI_ltI, nI_eq, Nat.add_zero, Nat.zero_add, Nat.reduceEqDiff, Nat.reduceAdd, eq_self, reduceIte, Bool.false_eq_true, li_neg]
    | succ n ih =>
      intro d hd
      have h1 : ¬ B 0 1 ≤ d := by omega
      have ih1 := ih (d + 1) (by omega)
      have e87 : ∀ q, q < B 0 1 → σ.1 87 q = T.1.1 q := fun q hq => CK_l (m := 86) hk hq
      refine e_X4_mostLeft_4 ?_
      rw [ml_] at ih1
      by_cases hs : x.testBit d = true
      · rw [if_pos hs] at ih1
        simp (disch := first | assumption | omega) only [h2, hB, h.1.1.2.1.1.2.1, h1, hb_0, hb_n, hs, Option.some.injEq, Prod.mk.injEq, Value.int.injEq, exists_and_left, exists_eq_left', and_assoc, true_and, and_true, true_implies, false_implies, not_true_eq_false, not_false_eq_true, li_0, li_1, li_2, li_3, li_4, li_5, li_8, li_9, li_10, li_16, li_20, li_80, li_100, li_130, li_144, li_390, li_400, li_M, li_H, li_of, nI_add, pk_mul, cl_, vp_iff, nI_leI, nI_ltI, nI_eq, Nat.add_zero, Nat.zero_add, Nat.reduceEqDiff, Nat.reduceAdd, eq_self, reduceIte, Bool.false_eq_true, li_neg]
        exact ih1
      · rw [if_neg hs] at ih1
        cases hm : ml_ T.1 (fun r => x.testBit r = true) d with
        | none =>
          rw [hm] at ih1
          simp (disch := first | assumption | omega) only [h2, hB, h.1.1.2.1.1.2.1, h1, hb_0, hb_n, hs, oN_, Option.some.injEq, Prod.mk.injEq, Value.int.injEq, exists_and_left, exists_eq_left', and_assoc, true_and, and_true, true_implies, false_implies, not_true_eq_false, not_false_eq_true, li_0, li_1, li_2, li_3, li_4, li_5, li_8, li_9, li_10, li_16, li_20, li_80, li_100, li_130, li_144, li_390, li_400, li_M, li_H, li_of, nI_add, pk_mul, cl_, vp_iff, nI_leI, nI_ltI, nI_eq, Nat.add_zero, Nat.zero_add, Nat.reduceEqDiff, Nat.reduceAdd, eq_self, reduceIte, Bool.false_eq_true, li_neg]
          exact ih1
        | some q =>
          have hq := ml_lt _ _ hm
          have hqn : ¬ nI q = nM_ := nI_m1 (by omega)
          rw [hm] at ih1
          dsimp only at ih1
          by_cases hg : T.1.1 q < T.1.1 d
          · have hg2 := Int32.not_le.mpr hg
            rw [if_pos hg] at ih1
            simp (disch := first | assumption | omega) only [h2, hB, h.1.1.2.1.1.2.1, h1, hb_0, hb_n, hs, oN_, hqn, e87, hg2, Option.some.injEq, Prod.mk.injEq, Value.int.injEq, exists_and_left, exists_eq_left', and_assoc, true_and, and_true, true_implies, false_implies, not_true_eq_false, not_false_eq_true, li_0, li_1, li_2, li_3, li_4, li_5, li_8, li_9, li_10, li_16, li_20, li_80, li_100, li_130, li_144, li_390, li_400, li_M, li_H, li_of, nI_add, pk_mul, cl_, vp_iff, nI_leI, nI_ltI, nI_eq, Nat.add_zero, Nat.zero_add, Nat.reduceEqDiff, Nat.reduceAdd, eq_self, reduceIte, Bool.false_eq_true, li_neg]
            (repeat' apply And.intro) <;> first | omega | rfl | assumption | exact ih1
          · have hg2 := Int32.not_lt.mp hg
            rw [if_neg hg] at ih1
            simp (disch := first | assumption | omega) only [h2, hB, h.1.1.2.1.1.2.1, h1, hb_0, hb_n, hs, oN_, hqn, e87, hg2, Option.some.injEq, Prod.mk.injEq, Value.int.injEq, exists_and_left, exists_eq_left', and_assoc, true_and, and_true, true_implies, false_implies, not_true_eq_false, not_false_eq_true, li_0, li_1, li_2, li_3, li_4, li_5, li_8, li_9, li_10, li_16, li_20, li_80, li_100, li_130, li_144, li_390, li_400, li_M, li_H, li_of, nI_add, pk_mul, cl_, vp_iff, nI_leI, nI_ltI, nI_eq, Nat.add_zero, Nat.zero_add, Nat.reduceEqDiff, Nat.reduceAdd, eq_self, reduceIte, Bool.false_eq_true, li_neg]
            (repeat' apply And.intro) <;> first | omega | rfl | assumption | exact ih1
  exact z_X4_mostLeft (e_X4_mostLeft_0 (loop (B 0 1) 0 (by omega)))
theorem m_idlest (h : RG_ μ B T) (x : Int32) (sk : Nat → Prop) (hsk : (x = nM_ ∧ ∀ r, r < B 0 1 → ¬ sk r) ∨ ∃ c, c < 16 ∧ x = nI c ∧ ∀ r, r < B 0 1 → (sk r ↔ hb_ (T.1.2.1 r) c)) : f_X12_idlest KC [.ref 219, .int x] μ = some (some (.int (oN_ (ml_ T.1 sk (B 0 1)))), μ) := by
  have hx := h.1
  have h3 := BO_c hx.2
  have hk := h.2.2.1
  have loop : ∀ n d, d + n = B 0 1 → Ev_ (P_X12_idlest KC) 4 [some (.ref 219), some (.int x), some (.int (oN_ (ml_ T.1 sk d))), some (.int (nI d))] [] μ (some (.int (oN_ (ml_ T.1 sk (B 0 1)))), μ) := by
    intro n
    induction n with
    | zero =>
      intro d hd
      obtain rfl : d = B 0 1 := by omega
      refine e_X12_idlest_4 ?_
      simp (disch := first | assumption | omega) only [m_readers hx, Nat.le_refl, Option.some.injEq, Prod.mk.injEq, Value.int.injEq, exists_and_left, exists_eq_left', and_assoc, true_and, and_true, true_implies, false_implies, not_true_eq_false, not_false_eq_true, li_0, li_1, li_2, li_3, li_4, li_5, li_8, li_9, li_10, li_16, li_20, li_80, li_100, li_130, li_144, li_390, li_400, li_M, li_H, li_of, nI_add, pk_mul, cl_, vp_iff, nI_leI, nI_ltI, nI_eq, Nat.add_zero, Nat.zero_add, Nat.reduceEqDiff, Nat.reduceAdd, eq_self, reduceIte, Bool.false_eq_true, li_neg]
    | succ n ih =>
      intro d hd
      have h1 : ¬ B 0 1 ≤ d := by omega
      have h2 : d < B 0 1 := by omega
      have ih1 := ih (d + 1) (by omega)
      rw [ml_] at ih1
      have t30 : ¬ sk d → Ev_ (P_X12_idlest KC) 30 [some (.ref 219), some (.int x), some (.int (oN_ (ml_ T.1 sk d))), some (.int (nI d))] [] μ (some (.int (oN_ (ml_ T.1 sk (B 0 1)))), μ) := by
        intro hs
        rw [if_neg hs] at ih1
        refine e_X12_idlest_30 ?_
        cases hm : ml_ T.1 sk d with
        | none =>
          rw [hm] at ih1
          simp (disch := first | assumption | omega) only [oN_, Option.some.injEq, Prod.mk.injEq, Value.int.injEq, exists_and_left, exists_eq_left', and_assoc, true_and, and_true, true_implies, false_implies, not_true_eq_false, not_false_eq_true, li_0, li_1, li_2, li_3, li_4, li_5, li_8, li_9, li_10, li_16, li_20, li_80, li_100, li_130, li_144, li_390, li_400, li_M, li_H, li_of, nI_add, pk_mul, cl_, vp_iff, nI_leI, nI_ltI, nI_eq, Nat.add_zero, Nat.zero_add, Nat.reduceEqDiff, Nat.reduceAdd, eq_self, reduceIte, Bool.false_eq_true, li_neg]
          exact ih1
        | some q =>
          have hq := ml_lt _ _ hm
          have hqn : ¬ nI q = nM_ := nI_m1 (by omega)
          rw [hm] at ih1
          dsimp only at ih1
          by_cases hg : T.1.1 q < T.1.1 d
          · have hg2 := Int32.not_le.mpr hg
            rw [if_pos hg] at ih1
            simp (disch := first | assumption | omega) only [oN_, hqn, MK_l hk, hg2, Option.some.injEq, Prod.mk.injEq, Value.int.injEq, exists_and_left, exists_eq_left', and_assoc, true_and, and_true, true_implies, false_implies, not_true_eq_false, not_false_eq_true, li_0, li_1, li_2, li_3, li_4, li_5, li_8, li_9, li_10, li_16, li_20, li_80, li_100, li_130, li_144, li_390, li_400, li_M, li_H, li_of, nI_add, pk_mul, cl_, vp_iff, nI_leI, nI_ltI, nI_eq, Nat.add_zero, Nat.zero_add, Nat.reduceEqDiff, Nat.reduceAdd, eq_self, reduceIte, Bool.false_eq_true, li_neg]
            (repeat' apply And.intro) <;> first | omega | rfl | assumption | exact ih1
          · have hg2 := Int32.not_lt.mp hg
            rw [if_neg hg] at ih1
            simp (disch := first | assumption | omega) only [oN_, hqn, MK_l hk, hg2, Option.some.injEq, Prod.mk.injEq, Value.int.injEq, exists_and_left, exists_eq_left', and_assoc, true_and, and_true, true_implies, false_implies, not_true_eq_false, not_false_eq_true, li_0, li_1, li_2, li_3, li_4, li_5, li_8, li_9, li_10, li_16, li_20, li_80, li_100, li_130, li_144, li_390, li_400, li_M, li_H, li_of, nI_add, pk_mul, cl_, vp_iff, nI_leI, nI_ltI, nI_eq, Nat.add_zero, Nat.zero_add, Nat.reduceEqDiff, Nat.reduceAdd, eq_self, reduceIte, Bool.false_eq_true, li_neg]
            (repeat' apply And.intro) <;> first | omega | rfl | assumption | exact ih1
      refine e_X12_idlest_4 ?_
      rcases hsk with ⟨hx0, hx1⟩ | ⟨c, hc, hx0, hx1⟩
      · have t := t30 (hx1 d h2)
        rw [hx0] at t ⊢
        simp (disch := first | assumption | omega) only [m_readers hx, h1, Option.some.injEq, Prod.mk.injEq, Value.int.injEq, exists_and_left, exists_eq_left', and_assoc, true_and, and_true, true_implies, false_implies, not_true_eq_false, not_false_eq_true, li_0, li_1, li_2, li_3, li_4, li_5, li_8, li_9, li_10, li_16, li_20, li_80, li_100, li_130, li_144, li_390, li_400, li_M, li_H, li_of, nI_add, pk_mul, cl_, vp_iff, nI_leI, nI_ltI, nI_eq, Nat.add_zero, Nat.zero_add, Nat.reduceEqDiff, Nat.reduceAdd, eq_self, reduceIte, Bool.false_eq_true, li_neg]
        exact t
      · have hcn : ¬ nI c = nM_ := nI_m1 (by omega)
        by_cases hs : hb_ (T.1.2.1 d) c
        · rw [if_pos ((hx1 d h2).mpr hs)] at ih1
          rw [hx0] at ih1 ⊢
          simp (disch := first | assumption | omega) only [m_readers hx, h1, hcn, MK_r hk h2, m_hasK, hs, Option.some.injEq, Prod.mk.injEq, Value.int.injEq, exists_and_left, exists_eq_left', and_assoc, true_and, and_true, true_implies, false_implies, not_true_eq_false, not_false_eq_true, li_0, li_1, li_2, li_3, li_4, li_5, li_8, li_9, li_10, li_16, li_20, li_80, li_100, li_130, li_144, li_390, li_400, li_M, li_H, li_of, nI_add, pk_mul, cl_, vp_iff, nI_leI, nI_ltI, nI_eq, Nat.add_zero, Nat.zero_add, Nat.reduceEqDiff, Nat.reduceAdd, eq_self, reduceIte, Bool.false_eq_true, li_neg]
          (repeat' apply And.intro) <;> first | omega | rfl | assumption | exact ih1
        · have t := t30 (fun z => hs ((hx1 d h2).mp z))
          rw [hx0] at t ⊢
          simp (disch := first | assumption | omega) only [m_readers hx, h1, hcn, MK_r hk h2, m_hasK, hs, Option.some.injEq, Prod.mk.injEq, Value.int.injEq, exists_and_left, exists_eq_left', and_assoc, true_and, and_true, true_implies, false_implies, not_true_eq_false, not_false_eq_true, li_0, li_1, li_2, li_3, li_4, li_5, li_8, li_9, li_10, li_16, li_20, li_80, li_100, li_130, li_144, li_390, li_400, li_M, li_H, li_of, nI_add, pk_mul, cl_, vp_iff, nI_leI, nI_ltI, nI_eq, Nat.add_zero, Nat.zero_add, Nat.reduceEqDiff, Nat.reduceAdd, eq_self, reduceIte, Bool.false_eq_true, li_neg]
          (repeat' apply And.intro) <;> first | omega | rfl | assumption | exact t
  exact z_X12_idlest (e_X12_idlest_0 (loop (B 0 1) 0 (by omega)))
theorem c_mostWorth (h : CG_ σ b p B T) (hm : m < 2 ^ 16) : f_X4_mostWorth KC [.ref 85, .int (nI m)] σ = some (some (.int (nI (mwc_ B m))), σ) := by
  have hB := h.1.1.1.2.1
  have h3 := BO_c h.1.1.2.2
  have h2 := h.1.2.1
  have hC := h.1.1.2.1
  have loop : ∀ n d, d + n = B 0 0 → Ev_ (P_X4_mostWorth KC) 4 [some (.ref 85), some (.int (nI m)), some (.int (oN_ (mw_ B m d))), some (.int (nI d))] [] σ (some (.int (nI (mwc_ B m))), σ) := by
    intro n
    induction n with
    | zero =>
      intro d hd
      obtain rfl : d = B 0 0 := by omega
      refine e_X4_mostWorth_4 ?_
      unfold mwc_
      cases hw : mw_ B m (B 0 0) with
      | none => simp (disch := first | assumption | omega) only [h2, hB, hC.1.1, Nat.le_refl, oN_, Option.getD, Option.some.injEq, Prod.mk.injEq, Value.int.injEq, exists_and_left, exists_eq_left', and_assoc, true_and, and_true, true_implies, false_implies, not_true_eq_false, not_false_eq_true, li_0, li_1, li_2, li_3, li_4, li_5, li_8, li_9, li_10, li_16, li_20, li_80, li_100, li_130, li_144, li_390, li_400, li_M, li_H, li_of, nI_add, pk_mul, cl_, vp_iff, nI_leI, nI_ltI, nI_eq, Nat.add_zero, Nat.zero_add, Nat.reduceEqDiff, Nat.reduceAdd, eq_self, reduceIte, Bool.false_eq_true, li_neg]
      | some q =>
        have hq := mw_lt _ _ hw
        have hqn : ¬ nI q = nM_ := nI_m1 (by omega)
        simp (disch := first | assumption | omega) only [h2, hB, hC.1.1, Nat.le_refl, oN_, Option.getD, hqn, Option.some.injEq, Prod.mk.injEq, Value.int.injEq, exists_and_left, exists_eq_left', and_assoc, true_and, and_true, true_implies, false_implies, not_true_eq_false, not_false_eq_true, li_0, li_1, li_2, li_3, li_4, li_5, li_8, li_9, li_10, li_16, li_20, li_80, li_100, li_130, li_144, li_390, li_400, li_M, li_H, li_of, nI_add, pk_mul, cl_, vp_iff, nI_leI, nI_ltI, nI_eq, Nat.add_zero, Nat.zero_add, Nat.reduceEqDiff, Nat.reduceAdd, eq_self, reduceIte, Bool.false_eq_true, li_neg]
    | succ n ih =>
      intro d hd
      have h1 : ¬ B 0 0 ≤ d := by omega
      have hd2 : d < B 0 0 := by omega
      have hw2 := BO_cc h.1.1.2.2 hd2
      have ih1 := ih (d + 1) (by omega)
      refine e_X4_mostWorth_4 ?_
      rw [mw_] at ih1
      by_cases hs : m.testBit d = true
      · rw [if_pos hs] at ih1
        simp (disch := first | assumption | omega) only [h2, hB, hC.1.1, h1, hb_0, hb_n, hs, Option.some.injEq, Prod.mk.injEq, Value.int.injEq, exists_and_left, exists_eq_left', and_assoc, true_and, and_true, true_implies, false_implies, not_true_eq_false, not_false_eq_true, li_0, li_1, li_2, li_3, li_4, li_5, li_8, li_9, li_10, li_16, li_20, li_80, li_100, li_130, li_144, li_390, li_400, li_M, li_H, li_of, nI_add, pk_mul, cl_, vp_iff, nI_leI, nI_ltI, nI_eq, Nat.add_zero, Nat.zero_add, Nat.reduceEqDiff, Nat.reduceAdd, eq_self, reduceIte, Bool.false_eq_true, li_neg]
        exact ih1
      · rw [if_neg hs] at ih1
        cases hw : mw_ B m d with
        | none =>
          rw [hw] at ih1
          simp (disch := first | assumption | omega) only [h2, hB, hC.1.1, h1, hb_0, hb_n, hs, oN_, Option.some.injEq, Prod.mk.injEq, Value.int.injEq, exists_and_left, exists_eq_left', and_assoc, true_and, and_true, true_implies, false_implies, not_true_eq_false, not_false_eq_true, li_0, li_1, li_2, li_3, li_4, li_5, li_8, li_9, li_10, li_16, li_20, li_80, li_100, li_130, li_144, li_390, li_400, li_M, li_H, li_of, nI_add, pk_mul, cl_, vp_iff, nI_leI, nI_ltI, nI_eq, Nat.add_zero, Nat.zero_add, Nat.reduceEqDiff, Nat.reduceAdd, eq_self, reduceIte, Bool.false_eq_true, li_neg]
          exact ih1
        | some q =>
          have hq := mw_lt _ _ hw
          have hq2 : q < B 0 0 := by omega
          have hw3 := BO_cc h.1.1.2.2 hq2
          have hqn : ¬ nI q = nM_ := nI_m1 (by omega)
          rw [hw] at ih1
          dsimp only at ih1
          by_cases hg : B 2 q < B 2 d
          · have hg2 : ¬ B 2 d ≤ B 2 q := by omega
            rw [if_pos hg] at ih1
            simp (disch := first | assumption | omega) only [h2, hB, hC.1.1, h1, hb_0, hb_n, hs, oN_, hqn, (hC.2.1 d hd2).2.2.1, (hC.2.1 q hq2).2.2.1, hg2, Option.some.injEq, Prod.mk.injEq, Value.int.injEq, exists_and_left, exists_eq_left', and_assoc, true_and, and_true, true_implies, false_implies, not_true_eq_false, not_false_eq_true, li_0, li_1, li_2, li_3, li_4, li_5, li_8, li_9, li_10, li_16, li_20, li_80, li_100, li_130, li_144, li_390, li_400, li_M, li_H, li_of, nI_add, pk_mul, cl_, vp_iff, nI_leI, nI_ltI, nI_eq, Nat.add_zero, Nat.zero_add, Nat.reduceEqDiff, Nat.reduceAdd, eq_self, reduceIte, Bool.false_eq_true, li_neg]
            (repeat' apply And.intro) <;> first | omega | rfl | assumption | exact ih1
          · have hg2 : B 2 d ≤ B 2 q := by omega
            rw [if_neg hg] at ih1
            simp (disch := first | assumption | omega) only [h2, hB, hC.1.1, h1, hb_0, hb_n, hs, oN_, hqn, (hC.2.1 d hd2).2.2.1, (hC.2.1 q hq2).2.2.1, hg2, Option.some.injEq, Prod.mk.injEq, Value.int.injEq, exists_and_left, exists_eq_left', and_assoc, true_and, and_true, true_implies, false_implies, not_true_eq_false, not_false_eq_true, li_0, li_1, li_2, li_3, li_4, li_5, li_8, li_9, li_10, li_16, li_20, li_80, li_100, li_130, li_144, li_390, li_400, li_M, li_H, li_of, nI_add, pk_mul, cl_, vp_iff, nI_leI, nI_ltI, nI_eq, Nat.add_zero, Nat.zero_add, Nat.reduceEqDiff, Nat.reduceAdd, eq_self, reduceIte, Bool.false_eq_true, li_neg]
            (repeat' apply And.intro) <;> first | omega | rfl | assumption | exact ih1
  exact z_X4_mostWorth (e_X4_mostWorth_0 (loop (B 0 0) 0 (by omega)))
/-- who has READ c, of the first n -/
noncomputable def ro_ (k : K_) (c : Nat) : Nat → Nat
  | 0 => 0
  | n + 1 => @ite _ (hb_ (k.2.1 n) c) (Classical.propDecidable _) (ro_ k c n ||| 2 ^ n) (ro_ k c n)
theorem ro_bit (k : K_) (c i : Nat) : ∀ n, ((ro_ k c n).testBit i = true) = (i < n ∧ hb_ (k.2.1 i) c)
  | 0 => by simp [ro_]
  | n + 1 => by
    have := ro_bit k c i n
    rw [ro_]
    split
    · rename_i hh
      rw [fb_bit_set, Bool.or_eq_true, this, decide_eq_true_eq]
      refine propext ⟨fun z => z.elim (fun z => ⟨by omega, z.2⟩) (fun z => ⟨by omega, by rw [z]; exact hh⟩), fun z => ?_⟩
      by_cases e : i = n
      · exact Or.inr e
      · exact Or.inl ⟨by omega, z.2⟩
    · rename_i hh
      rw [this]
      refine propext ⟨fun z => ⟨by omega, z.2⟩, fun z => ⟨?_, z.2⟩⟩
      by_cases e : i = n
      · rw [e] at z
        exact absurd z.2 hh
      · omega
theorem ro_lt (k : K_) (c : Nat) : ∀ n, ro_ k c n < 2 ^ n
  | 0 => by rw [ro_]; decide
  | n + 1 => by
    have := ro_lt k c n
    have h2 := two_lt (show n < n + 1 by omega)
    rw [ro_]
    split
    · exact or_lt (by omega) h2
    · omega
theorem bt_v (x : Int32) (c : Nat) : (x >>> (nI c &&& 31)) &&& nI 1 = @ite _ (hb_ x c) (Classical.propDecidable _) (nI 1) (nI 0) := by
  split
  · rename_i h
    exact h
  · rename_i h
    have := hb_0 x c
    rw [eq_true h] at this
    exact of_eq_true this
theorem c_readersOf (h : CG_ σ b p B T) (hc : c < 16) : f_X4_readersOf KC [.ref 85, .int (nI c)] σ = some (some (.int (nI (ro_ T.1 c (B 0 1)))), σ) := by
  have hB := h.1.1.1.2.1
  have h3 := BO_c h.1.1.2.2
  have hk := h.2.2.1
  have h2 := h.1.2.1
  have e88 : ∀ q, q < B 0 1 → σ.1 88 q = T.1.2.1 q := fun q hq => CK_r (m := 86) hk hq
  have hz : ∀ d : Fin 9, nI 0 <<< (nI d.val &&& 31) = nI 0 := by decide +kernel
  have loop : ∀ n d, d + n = B 0 1 → Ev_ (P_X4_readersOf KC) 4 [some (.ref 85), some (.int (nI c)), some (.int (nI (ro_ T.1 c d))), some (.int (nI d))] [] σ (some (.int (nI (ro_ T.1 c (B 0 1)))), σ) := by
    intro n
    induction n with
    | zero =>
      intro d hd
      obtain rfl : d = B 0 1 := by omega
      refine e_X4_readersOf_4 ?_
      simp (disch := first | assumption | omega) only [h2, hB, h.1.1.2.1.1.2.1, Nat.le_refl, Option.some.injEq, Prod.mk.injEq, Value.int.injEq, exists_and_left, exists_eq_left', and_assoc, true_and, and_true, true_implies, false_implies, not_true_eq_false, not_false_eq_true, li_0, li_1, li_2, li_3, li_4, li_5, li_8, li_9, li_10, li_16, li_20, li_80, li_100, li_130, li_144, li_390, li_400, li_M, li_H, li_of, nI_add, pk_mul, cl_, vp_iff, nI_leI, nI_ltI, nI_eq, Nat.add_zero, Nat.zero_add, Nat.reduceEqDiff, Nat.reduceAdd, eq_self, reduceIte, Bool.false_eq_true, li_neg]
    | succ n ih =>
      intro d hd
      have h1 : ¬ B 0 1 ≤ d := by omega
      have ih1 := ih (d + 1) (by omega)
      refine e_X4_readersOf_4 ?_
      rw [ro_] at ih1
      by_cases hs : hb_ (T.1.2.1 d) c
      · rw [if_pos hs] at ih1
        simp (disch := first | assumption | omega) only [h2, hB, h.1.1.2.1.1.2.1, h1, e88, bt_v, hs, sh_1, fa_or, Option.some.injEq, Prod.mk.injEq, Value.int.injEq, exists_and_left, exists_eq_left', and_assoc, true_and, and_true, true_implies, false_implies, not_true_eq_false, not_false_eq_true, li_0, li_1, li_2, li_3, li_4, li_5, li_8, li_9, li_10, li_16, li_20, li_80, li_100, li_130, li_144, li_390, li_400, li_M, li_H, li_of, nI_add, pk_mul, cl_, vp_iff, nI_leI, nI_ltI, nI_eq, Nat.add_zero, Nat.zero_add, Nat.reduceEqDiff, Nat.reduceAdd, eq_self, reduceIte, Bool.false_eq_true, li_neg]
        (repeat' apply And.intro) <;> first | omega | rfl | assumption | exact ih1
      · rw [if_neg hs] at ih1
        have hz1 := hz ⟨d, by omega⟩
        dsimp only at hz1
        simp (disch := first | assumption | omega) only [h2, hB, h.1.1.2.1.1.2.1, h1, e88, bt_v, hs, hz1, fa_or, Nat.or_zero, Option.some.injEq, Prod.mk.injEq, Value.int.injEq, exists_and_left, exists_eq_left', and_assoc, true_and, and_true, true_implies, false_implies, not_true_eq_false, not_false_eq_true, li_0, li_1, li_2, li_3, li_4, li_5, li_8, li_9, li_10, li_16, li_20, li_80, li_100, li_130, li_144, li_390, li_400, li_M, li_H, li_of, nI_add, pk_mul, cl_, vp_iff, nI_leI, nI_ltI, nI_eq, Nat.add_zero, Nat.zero_add, Nat.reduceEqDiff, Nat.reduceAdd, eq_self, reduceIte, Bool.false_eq_true, li_neg]
        (repeat' apply And.intro) <;> first | omega | rfl | assumption | exact ih1
  exact z_X4_readersOf (e_X4_readersOf_0 (loop (B 0 1) 0 (by omega)))
theorem ml_cg {s1 s2 : Nat → Prop} : ∀ n, (∀ r, r < n → (s1 r ↔ s2 r)) → ml_ k s1 n = ml_ k s2 n
  | 0, _ => rfl
  | n + 1, h => by
    rw [ml_, ml_, ml_cg n (fun r hr => h r (by omega))]
    by_cases e : s1 n
    · rw [if_pos e, if_pos ((h n (by omega)).mp e)]
    · rw [if_neg e, if_neg (fun z => e ((h n (by omega)).mpr z))]
theorem c_second (hk1 : 1 ≤ r ∧ r ≤ 16) : ∀ n i (T0 : T_) (σ : St_), i + n = min r (B 0 0) → CG_ σ b p B (tw2_ B T0 i).2 → ∃ σ', Ev_ (P_X4_addSecondReadings KC) 4 [some (.ref 85), some (.int (nI r)), some (.int (nI (tw2_ B T0 i).1)), some (.int (nI i)), none, none] [] σ (none, σ') ∧ CG_ σ' b p B (tw2_ B T0 (min r (B 0 0))).2 ∧ CFp_ p σ σ' := by
  intro n
  induction n with
  | zero =>
    intro i T0 σ hi h
    have hB := h.1.1.1.2.1
    have h3 := BO_c h.1.1.2.2
    have hi2 : i = min r (B 0 0) := by omega
    refine ⟨σ, e_X4_addSecondReadings_4 ?_, by rw [← hi2]; exact h, CFp_rf⟩
    by_cases h1 : r ≤ i
    · simp (disch := first | assumption | omega) only [h1, Option.some.injEq, Prod.mk.injEq, Value.int.injEq, exists_and_left, exists_eq_left', and_assoc, true_and, and_true, true_implies, false_implies, not_true_eq_false, not_false_eq_true, li_0, li_1, li_2, li_3, li_4, li_5, li_8, li_9, li_10, li_16, li_20, li_80, li_100, li_130, li_144, li_390, li_400, li_M, li_H, li_of, nI_add, pk_mul, cl_, vp_iff, nI_leI, nI_ltI, nI_eq, Nat.add_zero, Nat.zero_add, Nat.reduceEqDiff, Nat.reduceAdd, eq_self, reduceIte, Bool.false_eq_true, li_neg]
    · have h4 : B 0 0 ≤ i := by omega
      simp (disch := first | assumption | omega) only [h1, h.1.2.1, hB, h.1.1.2.1.1.1, h4, Option.some.injEq, Prod.mk.injEq, Value.int.injEq, exists_and_left, exists_eq_left', and_assoc, true_and, and_true, true_implies, false_implies, not_true_eq_false, not_false_eq_true, li_0, li_1, li_2, li_3, li_4, li_5, li_8, li_9, li_10, li_16, li_20, li_80, li_100, li_130, li_144, li_390, li_400, li_M, li_H, li_of, nI_add, pk_mul, cl_, vp_iff, nI_leI, nI_ltI, nI_eq, Nat.add_zero, Nat.zero_add, Nat.reduceEqDiff, Nat.reduceAdd, eq_self, reduceIte, Bool.false_eq_true, li_neg]
  | succ n ih =>
    intro i T0 σ hi h
    have hB := h.1.1.1.2.1
    have hO := h.1.1.2.2
    have h3 := BO_c hO
    have h1 : ¬ r ≤ i := by omega
    have h4 : ¬ B 0 0 ≤ i := by omega
    have hmet := tw2_met (T := T0) hO i (by omega)
    have hex : ∃ j, j < B 0 0 ∧ (tw2_ B T0 i).1.testBit j = false := by
      refine Classical.byContradiction fun hn => ?_
      have : fb_ct (fun c => (tw2_ B T0 i).1.testBit c) (B 0 0) = B 0 0 := fb_ct_all.mpr (fun j hj => by
        cases hq : (tw2_ B T0 i).1.testBit j with
        | true => rfl
        | false => exact absurd ⟨j, hj, hq⟩ hn)
      omega
    obtain ⟨j, hj⟩ := mw_some (B := B) (B 0 0) hex
    have hl := mw_lt _ _ hj
    have hc : mwc_ B (tw2_ B T0 i).1 = j := by unfold mwc_; rw [hj]; rfl
    have g1 := c_mostWorth h hmet.2
    rw [hc] at g1
    have hro := ro_lt (tw2_ B T0 i).2.1 j (B 0 1)
    have hro16 : ro_ (tw2_ B T0 i).2.1 j (B 0 1) < 2 ^ 16 := Nat.lt_of_lt_of_le hro (Nat.pow_le_pow_right (by decide) (by omega))
    have g2 := c_readersOf h (c := j) (by omega)
    have g3 := c_mostLeft h hro16
    have g4 : ml_ (tw2_ B T0 i).2.1 (fun r => (ro_ (tw2_ B T0 i).2.1 j (B 0 1)).testBit r = true) (B 0 1) = ml_ (tw2_ B T0 i).2.1 (fun r => hb_ ((tw2_ B T0 i).2.1.2.1 r) j) (B 0 1) := ml_cg _ (fun q hq => by rw [ro_bit]; exact ⟨fun z => z.2, fun z => ⟨hq, z⟩⟩)
    rw [g4] at g3
    have e1 : (tw2_ B T0 (i + 1)).1 = (tw2_ B T0 i).1 ||| 2 ^ j := by rw [tw2_, hc]
    have e2 : (tw2_ B T0 (i + 1)).2 = tws_ B (tw2_ B T0 i).2 j := by rw [tw2_, hc]
    cases hm : ml_ (tw2_ B T0 i).2.1 (fun r => hb_ ((tw2_ B T0 i).2.1.2.1 r) j) (B 0 1) with
    | none =>
      have e3 : tws_ B (tw2_ B T0 i).2 j = (tw2_ B T0 i).2 := by unfold tws_; rw [hm]
      obtain ⟨σ', q1, q2⟩ := ih (i + 1) T0 σ (by omega) (by rw [e2, e3]; exact h)
      rw [e1] at q1
      rw [hm] at g3
      refine ⟨σ', e_X4_addSecondReadings_4 ?_, q2⟩
      simp (disch := first | assumption | omega) only [h1, h.1.2.1, hB, h.1.1.2.1.1.1, h4, g1, g2, g3, oN_, sh_1, fa_or, Option.some.injEq, Prod.mk.injEq, Value.int.injEq, exists_and_left, exists_eq_left', and_assoc, true_and, and_true, true_implies, false_implies, not_true_eq_false, not_false_eq_true, li_0, li_1, li_2, li_3, li_4, li_5, li_8, li_9, li_10, li_16, li_20, li_80, li_100, li_130, li_144, li_390, li_400, li_M, li_H, li_of, nI_add, pk_mul, cl_, vp_iff, nI_leI, nI_ltI, nI_eq, Nat.add_zero, Nat.zero_add, Nat.reduceEqDiff, Nat.reduceAdd, eq_self, reduceIte, Bool.false_eq_true, li_neg]
      exact q1
    | some q =>
      have hq := ml_lt _ _ hm
      have hqn : ¬ nI q = nM_ := nI_m1 (by omega)
      have e3 : tws_ B (tw2_ B T0 i).2 j = (ta_ B (tw2_ B T0 i).2 q j 0 0).2 := by unfold tws_; rw [hm]
      obtain ⟨σ2, k1, k2, k3⟩ := c_tryAct (f := 0) (l := 0) h hq hl.1 (by omega) (Nat.two_pow_pos _)
      obtain ⟨σ', q1, q2, q3⟩ := ih (i + 1) T0 σ2 (by omega) (by rw [e2, e3]; exact k2)
      rw [e1] at q1
      rw [hm] at g3
      refine ⟨σ', e_X4_addSecondReadings_4 ?_, q2, CFp_tr k3 q3⟩
      simp (disch := first | assumption | omega) only [h1, h.1.2.1, hB, h.1.1.2.1.1.1, h4, g1, g2, g3, oN_, hqn, k1, sh_1, fa_or, Option.some.injEq, Prod.mk.injEq, Value.int.injEq, exists_and_left, exists_eq_left', and_assoc, true_and, and_true, true_implies, false_implies, not_true_eq_false, not_false_eq_true, li_0, li_1, li_2, li_3, li_4, li_5, li_8, li_9, li_10, li_16, li_20, li_80, li_100, li_130, li_144, li_390, li_400, li_M, li_H, li_of, nI_add, pk_mul, cl_, vp_iff, nI_leI, nI_ltI, nI_eq, Nat.add_zero, Nat.zero_add, Nat.reduceEqDiff, Nat.reduceAdd, eq_self, reduceIte, Bool.false_eq_true, li_neg]
      exact q1
theorem m_twice (hk1 : 1 ≤ r ∧ r ≤ 16) : ∀ n i (T0 : T_) (μ : St_), i + n = min r (B 0 0) → RG_ μ B (tw2_ B T0 i).2 → ∃ μ', Ev_ (P_X12_makeTwice KC) 4 [some (.ref 219), some (.int (nI r)), some (.int (nI (tw2_ B T0 i).1)), some (.int (nI i)), none, none] [] μ (none, μ') ∧ RG_ μ' B (tw2_ B T0 (min r (B 0 0))).2 ∧ RFp_ μ μ' := by
  intro n
  induction n with
  | zero =>
    intro i T0 μ hi h
    have h3 := BO_c h.1.2
    have hi2 : i = min r (B 0 0) := by omega
    refine ⟨μ, e_X12_makeTwice_4 ?_, by rw [← hi2]; exact h, RFp_rf⟩
    by_cases h1 : r ≤ i
    · simp (disch := first | assumption | omega) only [h1, Option.some.injEq, Prod.mk.injEq, Value.int.injEq, exists_and_left, exists_eq_left', and_assoc, true_and, and_true, true_implies, false_implies, not_true_eq_false, not_false_eq_true, li_0, li_1, li_2, li_3, li_4, li_5, li_8, li_9, li_10, li_16, li_20, li_80, li_100, li_130, li_144, li_390, li_400, li_M, li_H, li_of, nI_add, pk_mul, cl_, vp_iff, nI_leI, nI_ltI, nI_eq, Nat.add_zero, Nat.zero_add, Nat.reduceEqDiff, Nat.reduceAdd, eq_self, reduceIte, Bool.false_eq_true, li_neg]
    · have h4 : B 0 0 ≤ i := by omega
      simp (disch := first | assumption | omega) only [h1, m_chaps h.1, h4, Option.some.injEq, Prod.mk.injEq, Value.int.injEq, exists_and_left, exists_eq_left', and_assoc, true_and, and_true, true_implies, false_implies, not_true_eq_false, not_false_eq_true, li_0, li_1, li_2, li_3, li_4, li_5, li_8, li_9, li_10, li_16, li_20, li_80, li_100, li_130, li_144, li_390, li_400, li_M, li_H, li_of, nI_add, pk_mul, cl_, vp_iff, nI_leI, nI_ltI, nI_eq, Nat.add_zero, Nat.zero_add, Nat.reduceEqDiff, Nat.reduceAdd, eq_self, reduceIte, Bool.false_eq_true, li_neg]
  | succ n ih =>
    intro i T0 μ hi h
    have hx := h.1
    have hO := hx.2
    have h3 := BO_c hO
    have h1 : ¬ r ≤ i := by omega
    have h4 : ¬ B 0 0 ≤ i := by omega
    have hmet := tw2_met (T := T0) hO i (by omega)
    have hex : ∃ j, j < B 0 0 ∧ (tw2_ B T0 i).1.testBit j = false := by
      refine Classical.byContradiction fun hn => ?_
      have : fb_ct (fun c => (tw2_ B T0 i).1.testBit c) (B 0 0) = B 0 0 := fb_ct_all.mpr (fun j hj => by
        cases hq : (tw2_ B T0 i).1.testBit j with
        | true => rfl
        | false => exact absurd ⟨j, hj, hq⟩ hn)
      omega
    obtain ⟨j, hj⟩ := mw_some (B := B) (B 0 0) hex
    have hl := mw_lt _ _ hj
    have hc : mwc_ B (tw2_ B T0 i).1 = j := by unfold mwc_; rw [hj]; rfl
    have e1 : (tw2_ B T0 (i + 1)).1 = (tw2_ B T0 i).1 ||| 2 ^ j := by rw [tw2_, hc]
    have e2 : (tw2_ B T0 (i + 1)).2 = tws_ B (tw2_ B T0 i).2 j := by rw [tw2_, hc]
    have g3 := m_idlest h (nI j) (fun r => hb_ ((tw2_ B T0 i).2.1.2.1 r) j) (Or.inr ⟨j, by omega, rfl, fun _ _ => Iff.rfl⟩)
    -- behind the search for c
    have fin : ∃ μ', (∀ c, Ev_ (P_X12_makeTwice KC) 23 [some (.ref 219), some (.int (nI r)), some (.int (nI (tw2_ B T0 i).1)), some (.int (nI i)), some (.int (nI j)), some (.int (nI c))] [] μ (none, μ') ∨ ¬ c = B 0 0) ∧ RG_ μ' B (tw2_ B T0 (min r (B 0 0))).2 ∧ RFp_ μ μ' := by
      cases hm : ml_ (tw2_ B T0 i).2.1 (fun r => hb_ ((tw2_ B T0 i).2.1.2.1 r) j) (B 0 1) with
      | none =>
        have e3 : tws_ B (tw2_ B T0 i).2 j = (tw2_ B T0 i).2 := by unfold tws_; rw [hm]
        obtain ⟨μ', q1, q2⟩ := ih (i + 1) T0 μ (by omega) (by rw [e2, e3]; exact h)
        rw [e1] at q1
        rw [hm] at g3
        refine ⟨μ', fun c => ?_, q2⟩
        by_cases hcc : c = B 0 0
        · left
          subst hcc
          refine e_X12_makeTwice_23 ?_
          simp (disch := first | assumption | omega) only [m_chaps hx, Nat.le_refl, g3, oN_, sh_1, fa_or, Option.some.injEq, Prod.mk.injEq, Value.int.injEq, exists_and_left, exists_eq_left', and_assoc, true_and, and_true, true_implies, false_implies, not_true_eq_false, not_false_eq_true, li_0, li_1, li_2, li_3, li_4, li_5, li_8, li_9, li_10, li_16, li_20, li_80, li_100, li_130, li_144, li_390, li_400, li_M, li_H, li_of, nI_add, pk_mul, cl_, vp_iff, nI_leI, nI_ltI, nI_eq, Nat.add_zero, Nat.zero_add, Nat.reduceEqDiff, Nat.reduceAdd, eq_self, reduceIte, Bool.false_eq_true, li_neg]
          exact q1
        · exact Or.inr hcc
      | some q =>
        have hq := ml_lt _ _ hm
        have hqn : ¬ nI q = nM_ := nI_m1 (by omega)
        have e3 : tws_ B (tw2_ B T0 i).2 j = (ta_ B (tw2_ B T0 i).2 q j 0 0).2 := by unfold tws_; rw [hm]
        obtain ⟨μ2, k1, k2, k3⟩ := m_tries (f := 0) (l := 0) h hq hl.1 (by omega) (Nat.two_pow_pos _)
        obtain ⟨μ', q1, q2, q3⟩ := ih (i + 1) T0 μ2 (by omega) (by rw [e2, e3]; exact k2)
        rw [e1] at q1
        rw [hm] at g3
        refine ⟨μ', fun c => ?_, q2, RFp_tr k3 q3⟩
        by_cases hcc : c = B 0 0
        · left
          subst hcc
          refine e_X12_makeTwice_23 ?_
          simp (disch := first | assumption | omega) only [m_chaps hx, Nat.le_refl, g3, oN_, hqn, k1, sh_1, fa_or, Option.some.injEq, Prod.mk.injEq, Value.int.injEq, exists_and_left, exists_eq_left', and_assoc, true_and, and_true, true_implies, false_implies, not_true_eq_false, not_false_eq_true, li_0, li_1, li_2, li_3, li_4, li_5, li_8, li_9, li_10, li_16, li_20, li_80, li_100, li_130, li_144, li_390, li_400, li_M, li_H, li_of, nI_add, pk_mul, cl_, vp_iff, nI_leI, nI_ltI, nI_eq, Nat.add_zero, Nat.zero_add, Nat.reduceEqDiff, Nat.reduceAdd, eq_self, reduceIte, Bool.false_eq_true, li_neg]
          exact q1
        · exact Or.inr hcc
    obtain ⟨μ', f1, f2⟩ := fin
    have hs : ∀ m' d, d + m' = B 0 0 → Ev_ (P_X12_makeTwice KC) 23 [some (.ref 219), some (.int (nI r)), some (.int (nI (tw2_ B T0 i).1)), some (.int (nI i)), some (.int (oN_ (mw_ B (tw2_ B T0 i).1 d))), some (.int (nI d))] [] μ (none, μ') := by
      intro m'
      induction m' with
      | zero =>
        intro d hd
        obtain rfl : d = B 0 0 := by omega
        rw [hj]
        exact (f1 (B 0 0)).elim id (fun z => absurd rfl z)
      | succ m' ihm =>
        intro d hd
        have h5 : ¬ B 0 0 ≤ d := by omega
        have hd2 : d < B 0 0 := by omega
        have hw2 := BO_cc hO hd2
        have ih1 := ihm (d + 1) (by omega)
        refine e_X12_makeTwice_23 ?_
        rw [mw_] at ih1
        by_cases hs : (tw2_ B T0 i).1.testBit d = true
        · rw [if_pos hs] at ih1
          simp (disch := first | assumption | omega) only [m_chaps hx, h5, m_hasK, hb_n, hs, Option.some.injEq, Prod.mk.injEq, Value.int.injEq, exists_and_left, exists_eq_left', and_assoc, true_and, and_true, true_implies, false_implies, not_true_eq_false, not_false_eq_true, li_0, li_1, li_2, li_3, li_4, li_5, li_8, li_9, li_10, li_16, li_20, li_80, li_100, li_130, li_144, li_390, li_400, li_M, li_H, li_of, nI_add, pk_mul, cl_, vp_iff, nI_leI, nI_ltI, nI_eq, Nat.add_zero, Nat.zero_add, Nat.reduceEqDiff, Nat.reduceAdd, eq_self, reduceIte, Bool.false_eq_true, li_neg]
          exact ih1
        · rw [if_neg hs] at ih1
          cases hw : mw_ B (tw2_ B T0 i).1 d with
          | none =>
            rw [hw] at ih1
            simp (disch := first | assumption | omega) only [m_chaps hx, h5, m_hasK, hb_n, hs, oN_, Option.some.injEq, Prod.mk.injEq, Value.int.injEq, exists_and_left, exists_eq_left', and_assoc, true_and, and_true, true_implies, false_implies, not_true_eq_false, not_false_eq_true, li_0, li_1, li_2, li_3, li_4, li_5, li_8, li_9, li_10, li_16, li_20, li_80, li_100, li_130, li_144, li_390, li_400, li_M, li_H, li_of, nI_add, pk_mul, cl_, vp_iff, nI_leI, nI_ltI, nI_eq, Nat.add_zero, Nat.zero_add, Nat.reduceEqDiff, Nat.reduceAdd, eq_self, reduceIte, Bool.false_eq_true, li_neg]
            exact ih1
          | some q =>
            have hq := mw_lt _ _ hw
            have hq2 : q < B 0 0 := by omega
            have hw3 := BO_cc hO hq2
            have hqn : ¬ nI q = nM_ := nI_m1 (by omega)
            rw [hw] at ih1
            dsimp only at ih1
            by_cases hg : B 2 q < B 2 d
            · have hg2 : ¬ B 2 d ≤ B 2 q := by omega
              rw [if_pos hg] at ih1
              simp (disch := first | assumption | omega) only [m_chaps hx, h5, m_hasK, hb_n, hs, oN_, hqn, m_chapOf hx hd2, m_chapOf hx hq2, hg2, Option.some.injEq, Prod.mk.injEq, Value.int.injEq, exists_and_left, exists_eq_left', and_assoc, true_and, and_true, true_implies, false_implies, not_true_eq_false, not_false_eq_true, li_0, li_1, li_2, li_3, li_4, li_5, li_8, li_9, li_10, li_16, li_20, li_80, li_100, li_130, li_144, li_390, li_400, li_M, li_H, li_of, nI_add, pk_mul, cl_, vp_iff, nI_leI, nI_ltI, nI_eq, Nat.add_zero, Nat.zero_add, Nat.reduceEqDiff, Nat.reduceAdd, eq_self, reduceIte, Bool.false_eq_true, li_neg]
              exact ih1
            · have hg2 : B 2 d ≤ B 2 q := by omega
              rw [if_neg hg] at ih1
              simp (disch := first | assumption | omega) only [m_chaps hx, h5, m_hasK, hb_n, hs, oN_, hqn, m_chapOf hx hd2, m_chapOf hx hq2, hg2, Option.some.injEq, Prod.mk.injEq, Value.int.injEq, exists_and_left, exists_eq_left', and_assoc, true_and, and_true, true_implies, false_implies, not_true_eq_false, not_false_eq_true, li_0, li_1, li_2, li_3, li_4, li_5, li_8, li_9, li_10, li_16, li_20, li_80, li_100, li_130, li_144, li_390, li_400, li_M, li_H, li_of, nI_add, pk_mul, cl_, vp_iff, nI_leI, nI_ltI, nI_eq, Nat.add_zero, Nat.zero_add, Nat.reduceEqDiff, Nat.reduceAdd, eq_self, reduceIte, Bool.false_eq_true, li_neg]
              exact ih1
    have s0 := hs (B 0 0) 0 (by omega)
    refine ⟨μ', e_X12_makeTwice_4 ?_, f2⟩
    simp (disch := first | assumption | omega) only [h1, m_chaps hx, h4, Option.some.injEq, Prod.mk.injEq, Value.int.injEq, exists_and_left, exists_eq_left', and_assoc, true_and, and_true, true_implies, false_implies, not_true_eq_false, not_false_eq_true, li_0, li_1, li_2, li_3, li_4, li_5, li_8, li_9, li_10, li_16, li_20, li_80, li_100, li_130, li_144, li_390, li_400, li_M, li_H, li_of, nI_add, pk_mul, cl_, vp_iff, nI_leI, nI_ltI, nI_eq, Nat.add_zero, Nat.zero_add, Nat.reduceEqDiff, Nat.reduceAdd, eq_self, reduceIte, Bool.false_eq_true, li_neg]
    exact s0
end KD
