/-! SENT, unread musts, LACKING -/
/-- the best of READERS 0 to n -/
def bs_ (B : Nat → Nat → Nat) (k : K_) : Nat → Nat
  | 0 => 0
  | n + 1 => if ia_ B k (bs_ B k n) < ia_ B k (n + 1) then n + 1 else bs_ B k n
theorem bs_le (B : Nat → Nat → Nat) (k : K_) : ∀ n, bs_ B k n ≤ n
  | 0 => Nat.le_refl _
  | n + 1 => by
    have := bs_le B k n
    rw [bs_]
    split <;> omega
def se_ (B : Nat → Nat → Nat) (k : K_) : Int32 := if B 0 1 = 0 then nM_ else nI (bs_ B k (B 0 1 - 1))
noncomputable def uc_ (B : Nat → Nat → Nat) (k : K_) (r : Nat) : Nat → Nat
  | 0 => 0
  | c + 1 => @ite _ (B 3 c = 1 ∧ ¬ hb_ (k.2.1 r) c) (Classical.propDecidable _) (uc_ B k r c + 1) (uc_ B k r c)
noncomputable def um_ (B : Nat → Nat → Nat) (k : K_) : Nat → Nat
  | 0 => 0
  | r + 1 => um_ B k r + uc_ B k r (B 0 0)
noncomputable def la_ (B : Nat → Nat → Nat) (k : K_) : Nat → Nat
  | 0 => 0
  | c + 1 => @ite _ (∃ r, r < B 0 1 ∧ ¬ k.2.2.2 (16 * r + c) < nI 500000) (Classical.propDecidable _) (la_ B k c) (la_ B k c ||| 2 ^ c)
section AL
variable {σ μ : St_} {m b : Nat} {B P : Nat → Nat → Nat} {k : K_}
theorem uc_le (r : Nat) : ∀ c, uc_ B k r c ≤ c
  | 0 => Nat.le_refl _
  | c + 1 => by
    have := uc_le r c
    rw [uc_]
    split <;> omega
theorem um_le (h : B 0 0 ≤ 16) : ∀ r, um_ B k r ≤ 16 * r
  | 0 => Nat.le_refl _
  | r + 1 => by
    have := um_le h r
    have h2 := uc_le (B := B) (k := k) r (B 0 0)
    rw [um_]
    omega
theorem la_lt : ∀ c, la_ B k c < 2 ^ c
  | 0 => by rw [la_]; decide
  | c + 1 => by
    have := la_lt c
    have h2 := two_lt (show c < c + 1 by omega)
    rw [la_]
    split
    · omega
    · exact or_lt (by omega) h2
theorem c_sent (h : CX_ σ m b B) (hk : CK_ σ m B k) (hK : KB_ k) : f_X5_sent KC [.ref m] σ = some (some (.int (se_ B k)), σ) := by
  have h0' := h
  obtain ⟨⟨hm, hB, h9⟩, hC, hO⟩ := h
  have h3 := BO_c hO
  have loop : ∀ n d, d + 1 + n = B 0 1 → Ev_ (P_X5_sent KC) 6 [some (.ref m), some (.int (nI (bs_ B k d))), some (.int (ia_ B k (bs_ B k d))), some (.int (nI (d + 1))), none] [] σ (some (.int (se_ B k)), σ) := by
    intro n
    induction n with
    | zero =>
      intro d hd
      refine e_X5_sent_6 hm ?_
      have h1 : B 0 1 ≤ d + 1 := by omega
      have h4 : ¬ B 0 1 = 0 := by omega
      simp (disch := first | assumption | omega) only [h9, hB, hC.1.2.1, h1, se_, h4, Option.some.injEq, Prod.mk.injEq, Value.int.injEq, exists_and_left, exists_eq_left', and_assoc, true_and, and_true, true_implies, false_implies, not_true_eq_false, not_false_eq_true, li_0, li_1, li_2, li_3, li_4, li_5, li_8, li_9, li_10, li_16, li_20, li_80, li_100, li_130, li_144, li_390, li_400, li_M, li_H, li_of, nI_add, pk_mul, cl_, vp_iff, nI_leI, nI_ltI, nI_eq, Nat.add_zero, Nat.zero_add, Nat.reduceEqDiff, Nat.reduceAdd, eq_self, reduceIte, Bool.false_eq_true, li_neg]
      rw [show B 0 1 - 1 = d by omega]
    | succ n ih =>
      intro d hd
      refine e_X5_sent_6 hm ?_
      have h1 : ¬ B 0 1 ≤ d + 1 := by omega
      have ih1 := ih (d + 1) (by omega)
      by_cases h4 : ia_ B k (bs_ B k d) < ia_ B k (d + 1)
      · have h5 := Int32.not_le.mpr h4
        rw [bs_, if_pos h4] at ih1
        simp (disch := first | assumption | omega) only [h9, hB, hC.1.2.1, h1, c_inAll h0' hk, h5, Option.some.injEq, Prod.mk.injEq, Value.int.injEq, exists_and_left, exists_eq_left', and_assoc, true_and, and_true, true_implies, false_implies, not_true_eq_false, not_false_eq_true, li_0, li_1, li_2, li_3, li_4, li_5, li_8, li_9, li_10, li_16, li_20, li_80, li_100, li_130, li_144, li_390, li_400, li_M, li_H, li_of, nI_add, pk_mul, cl_, vp_iff, nI_leI, nI_ltI, nI_eq, Nat.add_zero, Nat.zero_add, Nat.reduceEqDiff, Nat.reduceAdd, eq_self, reduceIte, Bool.false_eq_true, li_neg]
        exact ih1
      · have h5 := Int32.not_lt.mp h4
        rw [bs_, if_neg h4] at ih1
        simp (disch := first | assumption | omega) only [h9, hB, hC.1.2.1, h1, c_inAll h0' hk, h5, Option.some.injEq, Prod.mk.injEq, Value.int.injEq, exists_and_left, exists_eq_left', and_assoc, true_and, and_true, true_implies, false_implies, not_true_eq_false, not_false_eq_true, li_0, li_1, li_2, li_3, li_4, li_5, li_8, li_9, li_10, li_16, li_20, li_80, li_100, li_130, li_144, li_390, li_400, li_M, li_H, li_of, nI_add, pk_mul, cl_, vp_iff, nI_leI, nI_ltI, nI_eq, Nat.add_zero, Nat.zero_add, Nat.reduceEqDiff, Nat.reduceAdd, eq_self, reduceIte, Bool.false_eq_true, li_neg]
        exact ih1
  refine z_X5_sent (e_X5_sent_0 hm (e_X5_sent_6 hm ?_))
  by_cases h4 : B 0 1 = 0
  · simp (disch := first | assumption | omega) only [h9, hB, hC.1.2.1, h4, se_, Nat.le_refl, Option.some.injEq, Prod.mk.injEq, Value.int.injEq, exists_and_left, exists_eq_left', and_assoc, true_and, and_true, true_implies, false_implies, not_true_eq_false, not_false_eq_true, li_0, li_1, li_2, li_3, li_4, li_5, li_8, li_9, li_10, li_16, li_20, li_80, li_100, li_130, li_144, li_390, li_400, li_M, li_H, li_of, nI_add, pk_mul, cl_, vp_iff, nI_leI, nI_ltI, nI_eq, Nat.add_zero, Nat.zero_add, Nat.reduceEqDiff, Nat.reduceAdd, eq_self, reduceIte, Bool.false_eq_true, li_neg]
  · have h5 : ¬ B 0 1 ≤ 0 := by omega
    obtain ⟨q, q1, q2⟩ := ia_n (r := 0) hO hK
    have h6 : ¬ ia_ B k 0 ≤ nM_ := by
      rw [q2, Int32.not_le]
      refine Int32.lt_iff_toInt_lt.mpr ?_
      rw [nI_toInt (by omega), show nM_.toInt = -1 by decide]
      omega
    have l0 := loop (B 0 1 - 1) 0 (by omega)
    simp (disch := first | assumption | omega) only [h9, hB, hC.1.2.1, h5, c_inAll h0' hk, h6, Option.some.injEq, Prod.mk.injEq, Value.int.injEq, exists_and_left, exists_eq_left', and_assoc, true_and, and_true, true_implies, false_implies, not_true_eq_false, not_false_eq_true, li_0, li_1, li_2, li_3, li_4, li_5, li_8, li_9, li_10, li_16, li_20, li_80, li_100, li_130, li_144, li_390, li_400, li_M, li_H, li_of, nI_add, pk_mul, cl_, vp_iff, nI_leI, nI_ltI, nI_eq, Nat.add_zero, Nat.zero_add, Nat.reduceEqDiff, Nat.reduceAdd, eq_self, reduceIte, Bool.false_eq_true, li_neg]
    exact l0
theorem c_unread (h : CX_ σ m b B) (hk : CK_ σ m B k) : f_X5_unreadMusts KC [.ref m] σ = some (some (.int (nI (um_ B k (B 0 1)))), σ) := by
  obtain ⟨⟨hm, hB, h9⟩, hC, hO⟩ := h
  have h3 := BO_c hO
  have in_ : ∀ r, r < B 0 1 → ∀ n c, c + n = B 0 0 → Ev_ (P_X5_unreadMusts KC) 4 [some (.ref m), some (.int (nI (um_ B k (r + 1)))), some (.int (nI (r + 1))), none] [] σ (some (.int (nI (um_ B k (B 0 1)))), σ) → Ev_ (P_X5_unreadMusts KC) 17 [some (.ref m), some (.int (nI (um_ B k r + uc_ B k r c))), some (.int (nI r)), some (.int (nI c))] [] σ (some (.int (nI (um_ B k (B 0 1)))), σ) := by
    intro r hr n
    induction n with
    | zero =>
      intro c hc hend
      obtain rfl : c = B 0 0 := by omega
      refine e_X5_unreadMusts_17 hm ?_
      simp (disch := first | assumption | omega) only [h9, hB, hC.1.1, Nat.le_refl, Option.some.injEq, Prod.mk.injEq, Value.int.injEq, exists_and_left, exists_eq_left', and_assoc, true_and, and_true, true_implies, false_implies, not_true_eq_false, not_false_eq_true, li_0, li_1, li_2, li_3, li_4, li_5, li_8, li_9, li_10, li_16, li_20, li_80, li_100, li_130, li_144, li_390, li_400, li_M, li_H, li_of, nI_add, pk_mul, cl_, vp_iff, nI_leI, nI_ltI, nI_eq, Nat.add_zero, Nat.zero_add, Nat.reduceEqDiff, Nat.reduceAdd, eq_self, reduceIte, Bool.false_eq_true, li_neg]
      exact hend
    | succ n ih =>
      intro c hc hend
      have h1 : ¬ B 0 0 ≤ c := by omega
      have h2 : c < B 0 0 := by omega
      have h4 := BO_cc hO h2
      have ih1 := ih (c + 1) (by omega) hend
      refine e_X5_unreadMusts_17 hm ?_
      by_cases h5 : B 3 c = 1
      · by_cases h6 : hb_ (k.2.1 r) c
        · rw [uc_, if_neg (fun z => z.2 h6)] at ih1
          simp (disch := first | assumption | omega) only [h9, hB, hC.1.1, h1, (hC.2.1 c h2).2.2.2.1, h5, CK_r hk hr, hb_0, h6, Option.some.injEq, Prod.mk.injEq, Value.int.injEq, exists_and_left, exists_eq_left', and_assoc, true_and, and_true, true_implies, false_implies, not_true_eq_false, not_false_eq_true, li_0, li_1, li_2, li_3, li_4, li_5, li_8, li_9, li_10, li_16, li_20, li_80, li_100, li_130, li_144, li_390, li_400, li_M, li_H, li_of, nI_add, pk_mul, cl_, vp_iff, nI_leI, nI_ltI, nI_eq, Nat.add_zero, Nat.zero_add, Nat.reduceEqDiff, Nat.reduceAdd, eq_self, reduceIte, Bool.false_eq_true, li_neg]
          (repeat' apply And.intro) <;> first | omega | rfl | assumption | exact ih1
        · rw [uc_, if_pos ⟨h5, h6⟩] at ih1
          simp (disch := first | assumption | omega) only [h9, hB, hC.1.1, h1, (hC.2.1 c h2).2.2.2.1, h5, CK_r hk hr, hb_0, h6, Option.some.injEq, Prod.mk.injEq, Value.int.injEq, exists_and_left, exists_eq_left', and_assoc, true_and, and_true, true_implies, false_implies, not_true_eq_false, not_false_eq_true, li_0, li_1, li_2, li_3, li_4, li_5, li_8, li_9, li_10, li_16, li_20, li_80, li_100, li_130, li_144, li_390, li_400, li_M, li_H, li_of, nI_add, pk_mul, cl_, vp_iff, nI_leI, nI_ltI, nI_eq, Nat.add_zero, Nat.zero_add, Nat.reduceEqDiff, Nat.reduceAdd, eq_self, reduceIte, Bool.false_eq_true, li_neg]
          (repeat' apply And.intro) <;> first | omega | rfl | assumption | exact ih1
      · rw [uc_, if_neg (fun z => h5 z.1)] at ih1
        simp (disch := first | assumption | omega) only [h9, hB, hC.1.1, h1, (hC.2.1 c h2).2.2.2.1, h5, Option.some.injEq, Prod.mk.injEq, Value.int.injEq, exists_and_left, exists_eq_left', and_assoc, true_and, and_true, true_implies, false_implies, not_true_eq_false, not_false_eq_true, li_0, li_1, li_2, li_3, li_4, li_5, li_8, li_9, li_10, li_16, li_20, li_80, li_100, li_130, li_144, li_390, li_400, li_M, li_H, li_of, nI_add, pk_mul, cl_, vp_iff, nI_leI, nI_ltI, nI_eq, Nat.add_zero, Nat.zero_add, Nat.reduceEqDiff, Nat.reduceAdd, eq_self, reduceIte, Bool.false_eq_true, li_neg]
        (repeat' apply And.intro) <;> first | omega | rfl | assumption | exact ih1
  have loop : ∀ n r, r + n = B 0 1 → Ev_ (P_X5_unreadMusts KC) 4 [some (.ref m), some (.int (nI (um_ B k r))), some (.int (nI r)), none] [] σ (some (.int (nI (um_ B k (B 0 1)))), σ) := by
    intro n
    induction n with
    | zero =>
      intro r hr
      obtain rfl : r = B 0 1 := by omega
      refine e_X5_unreadMusts_4 hm ?_
      simp (disch := first | assumption | omega) only [h9, hB, hC.1.2.1, Nat.le_refl, Option.some.injEq, Prod.mk.injEq, Value.int.injEq, exists_and_left, exists_eq_left', and_assoc, true_and, and_true, true_implies, false_implies, not_true_eq_false, not_false_eq_true, li_0, li_1, li_2, li_3, li_4, li_5, li_8, li_9, li_10, li_16, li_20, li_80, li_100, li_130, li_144, li_390, li_400, li_M, li_H, li_of, nI_add, pk_mul, cl_, vp_iff, nI_leI, nI_ltI, nI_eq, Nat.add_zero, Nat.zero_add, Nat.reduceEqDiff, Nat.reduceAdd, eq_self, reduceIte, Bool.false_eq_true, li_neg]
    | succ n ih =>
      intro r hr
      have h1 : ¬ B 0 1 ≤ r := by omega
      have q := in_ r (by omega) (B 0 0) 0 (by omega) (ih (r + 1) (by omega))
      refine e_X5_unreadMusts_4 hm ?_
      simp (disch := first | assumption | omega) only [h9, hB, hC.1.2.1, h1, Option.some.injEq, Prod.mk.injEq, Value.int.injEq, exists_and_left, exists_eq_left', and_assoc, true_and, and_true, true_implies, false_implies, not_true_eq_false, not_false_eq_true, li_0, li_1, li_2, li_3, li_4, li_5, li_8, li_9, li_10, li_16, li_20, li_80, li_100, li_130, li_144, li_390, li_400, li_M, li_H, li_of, nI_add, pk_mul, cl_, vp_iff, nI_leI, nI_ltI, nI_eq, Nat.add_zero, Nat.zero_add, Nat.reduceEqDiff, Nat.reduceAdd, eq_self, reduceIte, Bool.false_eq_true, li_neg]
      exact q
  exact z_X5_unreadMusts (e_X5_unreadMusts_0 hm (loop (B 0 1) 0 (by omega)))
theorem c_lacking (h : CX_ σ m b B) (hk : CK_ σ m B k) : f_X5_lacking KC [.ref m] σ = some (some (.int (nI (la_ B k (B 0 0)))), σ) := by
  obtain ⟨⟨hm, hB, h9⟩, hC, hO⟩ := h
  have h3 := BO_c hO
  have in_ : ∀ c, c < B 0 0 → (∀ out : Out_, out = (some (.int (nI (la_ B k (B 0 0)))), σ) → Ev_ (P_X5_lacking KC) 4 [some (.ref m), some (.int (nI (la_ B k (c + 1)))), some (.int (nI (c + 1))), none, none] [] σ out) → ∀ n r, r + n = B 0 1 → (∀ q, q < r → k.2.2.2 (16 * q + c) < nI 500000) → Ev_ (P_X5_lacking KC) 20 [some (.ref m), some (.int (nI (la_ B k c))), some (.int (nI c)), some (.int (nI 0)), some (.int (nI r))] [] σ (some (.int (nI (la_ B k (B 0 0)))), σ) := by
    intro c hc hend n
    induction n with
    | zero =>
      intro r hr hq
      obtain rfl : r = B 0 1 := by omega
      have e := hend _ rfl
      rw [la_, if_neg (fun ⟨q, q1, q2⟩ => q2 (hq q q1))] at e
      refine e_X5_lacking_20 hm ?_
      simp (disch := first | assumption | omega) only [h9, hB, hC.1.2.1, Nat.le_refl, sh_1, fa_or, Option.some.injEq, Prod.mk.injEq, Value.int.injEq, exists_and_left, exists_eq_left', and_assoc, true_and, and_true, true_implies, false_implies, not_true_eq_false, not_false_eq_true, li_0, li_1, li_2, li_3, li_4, li_5, li_8, li_9, li_10, li_16, li_20, li_80, li_100, li_130, li_144, li_390, li_400, li_M, li_H, li_of, nI_add, pk_mul, cl_, vp_iff, nI_leI, nI_ltI, nI_eq, Nat.add_zero, Nat.zero_add, Nat.reduceEqDiff, Nat.reduceAdd, eq_self, reduceIte, Bool.false_eq_true, li_neg]
      exact e
    | succ n ih =>
      intro r hr hq
      have h1 : ¬ B 0 1 ≤ r := by omega
      refine e_X5_lacking_20 hm ?_
      by_cases h4 : k.2.2.2 (16 * r + c) < nI 500000
      · have ih1 := ih (r + 1) (by omega) (fun q hq2 => by
          by_cases e : q = r
          · rw [e]; exact h4
          · exact hq q (by omega))
        simp (disch := first | assumption | omega) only [mul16, h9, hB, hC.1.2.1, h1, CK_p hk, h4, Option.some.injEq, Prod.mk.injEq, Value.int.injEq, exists_and_left, exists_eq_left', and_assoc, true_and, and_true, true_implies, false_implies, not_true_eq_false, not_false_eq_true, li_0, li_1, li_2, li_3, li_4, li_5, li_8, li_9, li_10, li_16, li_20, li_80, li_100, li_130, li_144, li_390, li_400, li_M, li_H, li_of, nI_add, pk_mul, cl_, vp_iff, nI_leI, nI_ltI, nI_eq, Nat.add_zero, Nat.zero_add, Nat.reduceEqDiff, Nat.reduceAdd, eq_self, reduceIte, Bool.false_eq_true, li_neg]
        (repeat' apply And.intro) <;> first | omega | rfl | assumption | exact ih1
      · have e := hend _ rfl
        rw [la_, if_pos ⟨r, by omega, h4⟩] at e
        have fin : Ev_ (P_X5_lacking KC) 20 [some (.ref m), some (.int (nI (la_ B k c))), some (.int (nI c)), some (.int (nI 1)), some (.int (nI (r + 1)))] [] σ (some (.int (nI (la_ B k (B 0 0)))), σ) := by
          refine e_X5_lacking_20 hm ?_
          by_cases h5 : B 0 1 ≤ r + 1
          · simp (disch := first | assumption | omega) only [h9, hB, hC.1.2.1, h5, Option.some.injEq, Prod.mk.injEq, Value.int.injEq, exists_and_left, exists_eq_left', and_assoc, true_and, and_true, true_implies, false_implies, not_true_eq_false, not_false_eq_true, li_0, li_1, li_2, li_3, li_4, li_5, li_8, li_9, li_10, li_16, li_20, li_80, li_100, li_130, li_144, li_390, li_400, li_M, li_H, li_of, nI_add, pk_mul, cl_, vp_iff, nI_leI, nI_ltI, nI_eq, Nat.add_zero, Nat.zero_add, Nat.reduceEqDiff, Nat.reduceAdd, eq_self, reduceIte, Bool.false_eq_true, li_neg]
            exact e
          · simp (disch := first | assumption | omega) only [h9, hB, hC.1.2.1, h5, Option.some.injEq, Prod.mk.injEq, Value.int.injEq, exists_and_left, exists_eq_left', and_assoc, true_and, and_true, true_implies, false_implies, not_true_eq_false, not_false_eq_true, li_0, li_1, li_2, li_3, li_4, li_5, li_8, li_9, li_10, li_16, li_20, li_80, li_100, li_130, li_144, li_390, li_400, li_M, li_H, li_of, nI_add, pk_mul, cl_, vp_iff, nI_leI, nI_ltI, nI_eq, Nat.add_zero, Nat.zero_add, Nat.reduceEqDiff, Nat.reduceAdd, eq_self, reduceIte, Bool.false_eq_true, li_neg]
            exact e
        simp (disch := first | assumption | omega) only [mul16, h9, hB, hC.1.2.1, h1, CK_p hk, h4, Option.some.injEq, Prod.mk.injEq, Value.int.injEq, exists_and_left, exists_eq_left', and_assoc, true_and, and_true, true_implies, false_implies, not_true_eq_false, not_false_eq_true, li_0, li_1, li_2, li_3, li_4, li_5, li_8, li_9, li_10, li_16, li_20, li_80, li_100, li_130, li_144, li_390, li_400, li_M, li_H, li_of, nI_add, pk_mul, cl_, vp_iff, nI_leI, nI_ltI, nI_eq, Nat.add_zero, Nat.zero_add, Nat.reduceEqDiff, Nat.reduceAdd, eq_self, reduceIte, Bool.false_eq_true, li_neg]
        (repeat' apply And.intro) <;> first | omega | rfl | assumption | exact fin
  have loop : ∀ n c, c + n = B 0 0 → Ev_ (P_X5_lacking KC) 4 [some (.ref m), some (.int (nI (la_ B k c))), some (.int (nI c)), none, none] [] σ (some (.int (nI (la_ B k (B 0 0)))), σ) := by
    intro n
    induction n with
    | zero =>
      intro c hc
      obtain rfl : c = B 0 0 := by omega
      refine e_X5_lacking_4 hm ?_
      simp (disch := first | assumption | omega) only [h9, hB, hC.1.1, Nat.le_refl, Option.some.injEq, Prod.mk.injEq, Value.int.injEq, exists_and_left, exists_eq_left', and_assoc, true_and, and_true, true_implies, false_implies, not_true_eq_false, not_false_eq_true, li_0, li_1, li_2, li_3, li_4, li_5, li_8, li_9, li_10, li_16, li_20, li_80, li_100, li_130, li_144, li_390, li_400, li_M, li_H, li_of, nI_add, pk_mul, cl_, vp_iff, nI_leI, nI_ltI, nI_eq, Nat.add_zero, Nat.zero_add, Nat.reduceEqDiff, Nat.reduceAdd, eq_self, reduceIte, Bool.false_eq_true, li_neg]
    | succ n ih =>
      intro c hc
      have h1 : ¬ B 0 0 ≤ c := by omega
      have q := in_ c (by omega) (fun out ho => by rw [ho]; exact ih (c + 1) (by omega)) (B 0 1) 0 (by omega) (fun q hq => absurd hq (by omega))
      refine e_X5_lacking_4 hm ?_
      simp (disch := first | assumption | omega) only [h9, hB, hC.1.1, h1, Option.some.injEq, Prod.mk.injEq, Value.int.injEq, exists_and_left, exists_eq_left', and_assoc, true_and, and_true, true_implies, false_implies, not_true_eq_false, not_false_eq_true, li_0, li_1, li_2, li_3, li_4, li_5, li_8, li_9, li_10, li_16, li_20, li_80, li_100, li_130, li_144, li_390, li_400, li_M, li_H, li_of, nI_add, pk_mul, cl_, vp_iff, nI_leI, nI_ltI, nI_eq, Nat.add_zero, Nat.zero_add, Nat.reduceEqDiff, Nat.reduceAdd, eq_self, reduceIte, Bool.false_eq_true, li_neg]
      exact q
  exact z_X5_lacking (e_X5_lacking_0 hm (loop (B 0 0) 0 (by omega)))
theorem m_lacking (h : RX_ μ B) (hk : MK_ μ B k) (hK : KB_ k) : f_X12_lacking KC [.ref 219] μ = some (some (.int (nI (la_ B k (B 0 0)))), μ) := by
  have h3 := BO_c h.2
  have e2 : ∀ r c, r < 9 → c < 16 → (nI 2 * μ.1 229 (16 * r + c) < nI 1000000) = (k.2.2.2 (16 * r + c) < nI 500000) := fun r c hr hc => by
    rw [MK_p hk hr hc]
    obtain ⟨n, n1, n2⟩ := hK (16 * r + c)
    rw [n2, pk_mul, nI_ltI (by omega) (by omega), nI_ltI (by omega) (by omega)]
    exact propext (by omega)
  have in1 : ∀ c, c < B 0 0 → (∀ out : Out_, out = (some (.int (nI (la_ B k (B 0 0)))), μ) → Ev_ (P_X12_lacking KC) 4 [some (.ref 219), some (.int (nI (la_ B k c))), some (.int (nI (c + 1))), none, none] [] μ out) → ∀ n r, r + n = B 0 1 → Ev_ (P_X12_lacking KC) 17 [some (.ref 219), some (.int (nI (la_ B k c))), some (.int (nI c)), some (.int (nI 1)), some (.int (nI r))] [] μ (some (.int (nI (la_ B k (B 0 0)))), μ) := by
    intro c hc hend n
    induction n with
    | zero =>
      intro r hr
      obtain rfl : r = B 0 1 := by omega
      refine e_X12_lacking_17 ?_
      simp (disch := first | assumption | omega) only [m_readers h, Nat.le_refl, Option.some.injEq, Prod.mk.injEq, Value.int.injEq, exists_and_left, exists_eq_left', and_assoc, true_and, and_true, true_implies, false_implies, not_true_eq_false, not_false_eq_true, li_0, li_1, li_2, li_3, li_4, li_5, li_8, li_9, li_10, li_16, li_20, li_80, li_100, li_130, li_144, li_390, li_400, li_M, li_H, li_of, nI_add, pk_mul, cl_, vp_iff, nI_leI, nI_ltI, nI_eq, Nat.add_zero, Nat.zero_add, Nat.reduceEqDiff, Nat.reduceAdd, eq_self, reduceIte, Bool.false_eq_true, li_neg]
      exact hend _ rfl
    | succ n ih =>
      intro r hr
      have h1 : ¬ B 0 1 ≤ r := by omega
      have ih1 := ih (r + 1) (by omega)
      refine e_X12_lacking_17 ?_
      simp (disch := first | assumption | omega) only [m_readers h, h1, Option.some.injEq, Prod.mk.injEq, Value.int.injEq, exists_and_left, exists_eq_left', and_assoc, true_and, and_true, true_implies, false_implies, not_true_eq_false, not_false_eq_true, li_0, li_1, li_2, li_3, li_4, li_5, li_8, li_9, li_10, li_16, li_20, li_80, li_100, li_130, li_144, li_390, li_400, li_M, li_H, li_of, nI_add, pk_mul, cl_, vp_iff, nI_leI, nI_ltI, nI_eq, Nat.add_zero, Nat.zero_add, Nat.reduceEqDiff, Nat.reduceAdd, eq_self, reduceIte, Bool.false_eq_true, li_neg]
      exact ih1
  have in_ : ∀ c, c < B 0 0 → (∀ out : Out_, out = (some (.int (nI (la_ B k (B 0 0)))), μ) → Ev_ (P_X12_lacking KC) 4 [some (.ref 219), some (.int (nI (la_ B k (c + 1)))), some (.int (nI (c + 1))), none, none] [] μ out) → ∀ n r, r + n = B 0 1 → (∀ q, q < r → k.2.2.2 (16 * q + c) < nI 500000) → Ev_ (P_X12_lacking KC) 17 [some (.ref 219), some (.int (nI (la_ B k c))), some (.int (nI c)), some (.int (nI 0)), some (.int (nI r))] [] μ (some (.int (nI (la_ B k (B 0 0)))), μ) := by
    intro c hc hend n
    induction n with
    | zero =>
      intro r hr hq
      obtain rfl : r = B 0 1 := by omega
      have e := hend _ rfl
      rw [la_, if_neg (fun ⟨q, q1, q2⟩ => q2 (hq q q1))] at e
      refine e_X12_lacking_17 ?_
      simp (disch := first | assumption | omega) only [m_readers h, Nat.le_refl, sh_1, fa_or, Option.some.injEq, Prod.mk.injEq, Value.int.injEq, exists_and_left, exists_eq_left', and_assoc, true_and, and_true, true_implies, false_implies, not_true_eq_false, not_false_eq_true, li_0, li_1, li_2, li_3, li_4, li_5, li_8, li_9, li_10, li_16, li_20, li_80, li_100, li_130, li_144, li_390, li_400, li_M, li_H, li_of, nI_add, pk_mul, cl_, vp_iff, nI_leI, nI_ltI, nI_eq, Nat.add_zero, Nat.zero_add, Nat.reduceEqDiff, Nat.reduceAdd, eq_self, reduceIte, Bool.false_eq_true, li_neg]
      exact e
    | succ n ih =>
      intro r hr hq
      have h1 : ¬ B 0 1 ≤ r := by omega
      refine e_X12_lacking_17 ?_
      by_cases h4 : k.2.2.2 (16 * r + c) < nI 500000
      · have ih1 := ih (r + 1) (by omega) (fun q hq2 => by
          by_cases e : q = r
          · rw [e]; exact h4
          · exact hq q (by omega))
        simp (disch := first | assumption | omega) only [m_readers h, h1, e2, h4, Option.some.injEq, Prod.mk.injEq, Value.int.injEq, exists_and_left, exists_eq_left', and_assoc, true_and, and_true, true_implies, false_implies, not_true_eq_false, not_false_eq_true, li_0, li_1, li_2, li_3, li_4, li_5, li_8, li_9, li_10, li_16, li_20, li_80, li_100, li_130, li_144, li_390, li_400, li_M, li_H, li_of, nI_add, pk_mul, cl_, vp_iff, nI_leI, nI_ltI, nI_eq, Nat.add_zero, Nat.zero_add, Nat.reduceEqDiff, Nat.reduceAdd, eq_self, reduceIte, Bool.false_eq_true, li_neg]
        (repeat' apply And.intro) <;> first | omega | rfl | assumption | exact ih1
      · have e := hend
        rw [la_, if_pos ⟨r, by omega, h4⟩] at e
        have fin := in1 c hc e n (r + 1) (by omega)
        simp (disch := first | assumption | omega) only [m_readers h, h1, e2, h4, Option.some.injEq, Prod.mk.injEq, Value.int.injEq, exists_and_left, exists_eq_left', and_assoc, true_and, and_true, true_implies, false_implies, not_true_eq_false, not_false_eq_true, li_0, li_1, li_2, li_3, li_4, li_5, li_8, li_9, li_10, li_16, li_20, li_80, li_100, li_130, li_144, li_390, li_400, li_M, li_H, li_of, nI_add, pk_mul, cl_, vp_iff, nI_leI, nI_ltI, nI_eq, Nat.add_zero, Nat.zero_add, Nat.reduceEqDiff, Nat.reduceAdd, eq_self, reduceIte, Bool.false_eq_true, li_neg]
        (repeat' apply And.intro) <;> first | omega | rfl | assumption | exact fin
  have loop : ∀ n c, c + n = B 0 0 → Ev_ (P_X12_lacking KC) 4 [some (.ref 219), some (.int (nI (la_ B k c))), some (.int (nI c)), none, none] [] μ (some (.int (nI (la_ B k (B 0 0)))), μ) := by
    intro n
    induction n with
    | zero =>
      intro c hc
      obtain rfl : c = B 0 0 := by omega
      refine e_X12_lacking_4 ?_
      simp (disch := first | assumption | omega) only [m_chaps h, Nat.le_refl, Option.some.injEq, Prod.mk.injEq, Value.int.injEq, exists_and_left, exists_eq_left', and_assoc, true_and, and_true, true_implies, false_implies, not_true_eq_false, not_false_eq_true, li_0, li_1, li_2, li_3, li_4, li_5, li_8, li_9, li_10, li_16, li_20, li_80, li_100, li_130, li_144, li_390, li_400, li_M, li_H, li_of, nI_add, pk_mul, cl_, vp_iff, nI_leI, nI_ltI, nI_eq, Nat.add_zero, Nat.zero_add, Nat.reduceEqDiff, Nat.reduceAdd, eq_self, reduceIte, Bool.false_eq_true, li_neg]
    | succ n ih =>
      intro c hc
      have h1 : ¬ B 0 0 ≤ c := by omega
      have q := in_ c (by omega) (fun out ho => by rw [ho]; exact ih (c + 1) (by omega)) (B 0 1) 0 (by omega) (fun q hq => absurd hq (by omega))
      refine e_X12_lacking_4 ?_
      simp (disch := first | assumption | omega) only [m_chaps h, h1, Option.some.injEq, Prod.mk.injEq, Value.int.injEq, exists_and_left, exists_eq_left', and_assoc, true_and, and_true, true_implies, false_implies, not_true_eq_false, not_false_eq_true, li_0, li_1, li_2, li_3, li_4, li_5, li_8, li_9, li_10, li_16, li_20, li_80, li_100, li_130, li_144, li_390, li_400, li_M, li_H, li_of, nI_add, pk_mul, cl_, vp_iff, nI_leI, nI_ltI, nI_eq, Nat.add_zero, Nat.zero_add, Nat.reduceEqDiff, Nat.reduceAdd, eq_self, reduceIte, Bool.false_eq_true, li_neg]
      exact q
  exact z_X12_lacking (e_X12_lacking_0 (loop (B 0 0) 0 (by omega)))
end AL
