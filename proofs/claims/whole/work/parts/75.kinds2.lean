/-! CHAIN, ROUND -/
noncomputable def fw_ (k : K_) (c : Nat) : Nat → Nat → Option Nat
  | 0, _ => none
  | n + 1, r => @ite _ (hb_ (k.2.1 r) c) (Classical.propDecidable _) (some r) (fw_ k c n (r + 1))
def nx_ (B : Nat → Nat → Nat) (t : Nat) : Nat := if t + 1 < B 0 1 then t + 1 else 0
noncomputable def ch_ (B : Nat → Nat → Nat) (c f : Nat) : Nat → Nat → T_ → T_
  | 0, _, T => T
  | n + 1, t, T => if (ta_ B T t c f (2 ^ nx_ B t)).1 = true then ch_ B c f n (nx_ B t) (ta_ B T t c f (2 ^ nx_ B t)).2 else (ta_ B T t c f (2 ^ nx_ B t)).2
noncomputable def chc_ (B : Nat → Nat → Nat) (f : Nat) (T : T_) (c : Nat) : T_ := match fw_ T.1 c (B 0 1) 0 with
  | none => T
  | some w => ch_ B c f (B 0 1 - 1) w T
noncomputable def cha_ (B : Nat → Nat → Nat) (f : Nat) (T : T_) : Nat → T_
  | 0 => T
  | c + 1 => chc_ B f (cha_ B f T c) c
/-- who has time to listen, but r -/
def ws_ (k : K_) (x : Int32) (r : Nat) : Nat → Nat
  | 0 => 0
  | u + 1 => if u = r then ws_ k x r u else if k.1 u < x then ws_ k x r u else ws_ k x r u ||| 2 ^ u
noncomputable def rdc_ (B : Nat → Nat → Nat) (f : Nat) (T : T_) (r c : Nat) : T_ := @ite _ (hb_ (T.1.2.1 r) c) (Classical.propDecidable _) (if ws_ T.1 (nI (tT_ B c f)) r (B 0 1) = 0 then T else (ta_ B T r c f (ws_ T.1 (nI (tT_ B c f)) r (B 0 1))).2) T
noncomputable def rdr_ (B : Nat → Nat → Nat) (f : Nat) (T : T_) (r : Nat) : Nat → T_
  | 0 => T
  | c + 1 => rdc_ B f (rdr_ B f T r c) r c
noncomputable def rda_ (B : Nat → Nat → Nat) (f : Nat) (T : T_) : Nat → T_
  | 0 => T
  | r + 1 => rdr_ B f (rda_ B f T r) r (B 0 0)
section K2
variable {σ μ : St_} {b p : Nat} {B : Nat → Nat → Nat} {T : T_} {k : K_} {r c f t : Nat}
theorem ws_lt (x : Int32) (r : Nat) : ∀ n, ws_ k x r n < 2 ^ n
  | 0 => by rw [ws_]; decide
  | n + 1 => by
    have := ws_lt x r n
    have h2 := two_lt (show n < n + 1 by omega)
    rw [ws_]
    split
    · omega
    · split
      · omega
      · exact or_lt (by omega) h2
theorem ws_bit (x : Int32) (r i : Nat) : ∀ n, ((ws_ k x r n).testBit i = true) = (i < n ∧ i ≠ r ∧ ¬ k.1 i < x)
  | 0 => by simp [ws_]
  | n + 1 => by
    have := ws_bit x r i n
    rw [ws_]
    by_cases h1 : n = r
    · rw [if_pos h1, this]
      exact propext ⟨fun z => ⟨by omega, z.2⟩, fun z => ⟨by omega, z.2⟩⟩
    · rw [if_neg h1]
      by_cases h2 : k.1 n < x
      · rw [if_pos h2, this]
        refine propext ⟨fun z => ⟨by omega, z.2⟩, fun z => ⟨?_, z.2⟩⟩
        by_cases e : i = n
        · rw [e] at z
          exact absurd h2 z.2.2
        · omega
      · rw [if_neg h2, fb_bit_set, Bool.or_eq_true, this, decide_eq_true_eq]
        refine propext ⟨fun z => z.elim (fun z => ⟨by omega, z.2⟩) (fun z => by rw [z]; exact ⟨by omega, h1, h2⟩), fun z => ?_⟩
        by_cases e : i = n
        · exact Or.inr e
        · exact Or.inl ⟨by omega, z.2⟩
theorem ws_cb (h : B 0 1 ≤ 9) (x : Int32) (hr : r < B 0 1) : cb_ (wt_ k x (B 0 1)) r = ws_ k x r (B 0 1) := by
  refine Nat.eq_of_testBit_eq fun i => ?_
  have h2 := ws_bit (k := k) x r i (B 0 1)
  have hw := wt_bit k x i (B 0 1)
  unfold cb_
  rw [Nat.testBit_and, hw, Nat.testBit_xor, show (65535 : Nat) = 2 ^ 16 - 1 from rfl, Nat.testBit_two_pow_sub_one, Nat.testBit_two_pow]
  by_cases hi : i < B 0 1 ∧ i ≠ r ∧ ¬ k.1 i < x
  · rw [eq_true hi] at h2
    rw [of_eq_true h2, decide_eq_true ⟨hi.1, hi.2.2⟩, decide_eq_true (show i < 16 by omega), decide_eq_false (fun z => hi.2.1 z.symm)]
    rfl
  · rw [eq_false hi] at h2
    have h3 : (ws_ k x r (B 0 1)).testBit i = false := Bool.eq_false_iff.mpr (fun z => of_eq_false h2 z)
    rw [h3]
    by_cases hj : i < B 0 1 ∧ ¬ k.1 i < x
    · have : i = r := Classical.byContradiction fun z => hi ⟨hj.1, z, hj.2⟩
      rw [decide_eq_true (show r = i from this.symm), decide_eq_true (show i < 16 by omega)]
      simp
    · rw [decide_eq_false hj]
      rfl
theorem nx_lt (h : t < B 0 1) : nx_ B t < B 0 1 := by
  unfold nx_
  split <;> omega
theorem ds_read (B : Nat → Nat → Nat) (t c f l : Nat) (k : K_) : ∀ n, (dsK_ B t c f l n k).2.1 = k.2.1
  | 0 => rfl
  | n + 1 => by
    rw [dsK_]
    split
    · show (dsK_ B t c f l n k).2.1 = _
      exact ds_read B t c f l k n
    · exact ds_read B t c f l k n
theorem ta_rd (T : T_) (t c f l : Nat) (hf : f ≠ 0) : (ta_ B T t c f l).2.1.2.1 = T.1.2.1 := by
  unfold ta_
  split
  · rfl
  · show (doK_ B T.1 t c f l).2.1 = _
    unfold doK_
    rw [if_neg hf]
    exact ds_read B t c f l _ _
theorem ch_rd (hf : f ≠ 0) : ∀ n t (T : T_), (ch_ B c f n t T).1.2.1 = T.1.2.1
  | 0, _, _ => rfl
  | n + 1, t, T => by
    rw [ch_]
    split
    · rw [ch_rd hf n, ta_rd _ _ _ _ _ hf]
    · exact ta_rd _ _ _ _ _ hf
theorem cha_rd (hf : f ≠ 0) (T : T_) : ∀ c, (cha_ B f T c).1.2.1 = T.1.2.1
  | 0 => rfl
  | c + 1 => by
    rw [cha_]
    unfold chc_
    split
    · exact cha_rd hf T c
    · rw [ch_rd hf, cha_rd hf T c]
theorem fw_some : ∀ n r w, fw_ k c n r = some w → (r ≤ w ∧ w < r + n) ∧ hb_ (k.2.1 w) c
  | 0, _, _, h => by cases h
  | n + 1, r, w, h => by
    rw [fw_] at h
    split at h
    · rename_i hh
      cases h
      exact ⟨⟨Nat.le_refl _, by omega⟩, hh⟩
    · have := fw_some n (r + 1) w h
      exact ⟨⟨by omega, by omega⟩, this.2⟩
theorem c_readerOf4 (h : CG_ σ b p B T) (hc : c < 16) : f_X4_readerOf KC [.ref 85, .int (nI c)] σ = some (some (.int (oN_ (fw_ T.1 c (B 0 1) 0))), σ) := by
  have hB := h.1.1.1.2.1
  have h3 := BO_c h.1.1.2.2
  have hk := h.2.2.1
  have h2 := h.1.2.1
  have e88 : ∀ q, q < B 0 1 → σ.1 88 q = T.1.2.1 q := fun q hq => CK_r (m := 86) hk hq
  have loop : ∀ n d, d + n = B 0 1 → Ev_ (P_X4_readerOf KC) 2 [some (.ref 85), some (.int (nI c)), some (.int (nI d))] [] σ (some (.int (oN_ (fw_ T.1 c n d))), σ) := by
    intro n
    induction n with
    | zero =>
      intro d hd
      obtain rfl : d = B 0 1 := by omega
      refine e_X4_readerOf_2 ?_
      simp (disch := first | assumption | omega) only [h2, hB, h.1.1.2.1.1.2.1, Nat.le_refl, fw_, oN_, Option.some.injEq, Prod.mk.injEq, Value.int.injEq, exists_and_left, exists_eq_left', and_assoc, true_and, and_true, true_implies, false_implies, not_true_eq_false, not_false_eq_true, li_0, li_1, li_2, li_3, li_4, li_5, li_8, li_9, li_10, li_16, li_20, li_80, li_100, li_130, li_144, li_390, li_400, li_M, li_H, li_of, nI_add, pk_mul, cl_, vp_iff, nI_leI, nI_ltI, nI_eq, Nat.add_zero, Nat.zero_add, Nat.reduceEqDiff, Nat.reduceAdd, eq_self, reduceIte, Bool.false_eq_true, li_neg]
    | succ n ih =>
      intro d hd
      have h1 : ¬ B 0 1 ≤ d := by omega
      have ih1 := ih (d + 1) (by omega)
      refine e_X4_readerOf_2 ?_
      rw [fw_]
      by_cases hs : hb_ (T.1.2.1 d) c
      · simp (disch := first | assumption | omega) only [h2, hB, h.1.1.2.1.1.2.1, h1, e88, hb_0, hs, oN_, Option.some.injEq, Prod.mk.injEq, Value.int.injEq, exists_and_left, exists_eq_left', and_assoc, true_and, and_true, true_implies, false_implies, not_true_eq_false, not_false_eq_true, li_0, li_1, li_2, li_3, li_4, li_5, li_8, li_9, li_10, li_16, li_20, li_80, li_100, li_130, li_144, li_390, li_400, li_M, li_H, li_of, nI_add, pk_mul, cl_, vp_iff, nI_leI, nI_ltI, nI_eq, Nat.add_zero, Nat.zero_add, Nat.reduceEqDiff, Nat.reduceAdd, eq_self, reduceIte, Bool.false_eq_true, li_neg]
        (repeat' apply And.intro) <;> first | omega | rfl | assumption
      · simp (disch := first | assumption | omega) only [h2, hB, h.1.1.2.1.1.2.1, h1, e88, hb_0, hs, Option.some.injEq, Prod.mk.injEq, Value.int.injEq, exists_and_left, exists_eq_left', and_assoc, true_and, and_true, true_implies, false_implies, not_true_eq_false, not_false_eq_true, li_0, li_1, li_2, li_3, li_4, li_5, li_8, li_9, li_10, li_16, li_20, li_80, li_100, li_130, li_144, li_390, li_400, li_M, li_H, li_of, nI_add, pk_mul, cl_, vp_iff, nI_leI, nI_ltI, nI_eq, Nat.add_zero, Nat.zero_add, Nat.reduceEqDiff, Nat.reduceAdd, eq_self, reduceIte, Bool.false_eq_true, li_neg]
        (repeat' apply And.intro) <;> first | omega | rfl | assumption | exact ih1
  exact z_X4_readerOf (e_X4_readerOf_0 (loop (B 0 1) 0 (by omega)))
/-- one telling after the other -/
theorem c_chain22 (hf : 1 ≤ f ∧ f ≤ 4) (hc : c < B 0 0) : ∀ n i t (T : T_) (σ : St_), i + n = max 1 (B 0 1) → 1 ≤ i → t < B 0 1 → CG_ σ b p B T → ∃ σ', (∀ out, Ev_ (P_X4_addChains KC) 2 [some (.ref 85), some (.int (nI f)), some (.int (nI (c + 1))), none, none, none] [] σ' out → Ev_ (P_X4_addChains KC) 22 [some (.ref 85), some (.int (nI f)), some (.int (nI c)), some (.int (nI t)), some (.int (nI i)), none] [] σ out) ∧ CG_ σ' b p B (ch_ B c f n t T) ∧ CFp_ p σ σ' := by
  intro n
  induction n with
  | zero =>
    intro i t T σ hi hi1 ht h
    have hB := h.1.1.1.2.1
    have h3 := BO_c h.1.1.2.2
    have h1 : B 0 1 ≤ i := by omega
    refine ⟨σ, fun out q => e_X4_addChains_22 ?_, h, CFp_rf⟩
    simp (disch := first | assumption | omega) only [h.1.2.1, hB, h.1.1.2.1.1.2.1, h1, Option.some.injEq, Prod.mk.injEq, Value.int.injEq, exists_and_left, exists_eq_left', and_assoc, true_and, and_true, true_implies, false_implies, not_true_eq_false, not_false_eq_true, li_0, li_1, li_2, li_3, li_4, li_5, li_8, li_9, li_10, li_16, li_20, li_80, li_100, li_130, li_144, li_390, li_400, li_M, li_H, li_of, nI_add, pk_mul, cl_, vp_iff, nI_leI, nI_ltI, nI_eq, Nat.add_zero, Nat.zero_add, Nat.reduceEqDiff, Nat.reduceAdd, eq_self, reduceIte, Bool.false_eq_true, li_neg]
    exact q
  | succ n ih =>
    intro i t T σ hi hi1 ht h
    have hB := h.1.1.1.2.1
    have h3 := BO_c h.1.1.2.2
    have h1 : ¬ B 0 1 ≤ i := by omega
    have htn : ¬ nI t = nM_ := nI_m1 (by omega)
    have hnx := nx_lt ht
    obtain ⟨σ2, g1, g2, g3⟩ := c_tryAct (f := f) (l := 2 ^ nx_ B t) h ht hc hf.2 (two_lt hnx)
    -- from the place 59 on
    have t59 : ∃ σ', (∀ out, Ev_ (P_X4_addChains KC) 2 [some (.ref 85), some (.int (nI f)), some (.int (nI (c + 1))), none, none, none] [] σ' out → Ev_ (P_X4_addChains KC) 59 [some (.ref 85), some (.int (nI f)), some (.int (nI c)), some (.int (nI t)), some (.int (nI i)), none] [.int (nI (nx_ B t))] σ out) ∧ CG_ σ' b p B (ch_ B c f (n + 1) t T) ∧ CFp_ p σ σ' := by
      by_cases hok : (ta_ B T t c f (2 ^ nx_ B t)).1 = true
      · obtain ⟨σ', q1, q2, q3⟩ := ih (i + 1) (nx_ B t) _ σ2 (by omega) (by omega) hnx g2
        rw [if_pos hok] at g1
        refine ⟨σ', fun out q => e_X4_addChains_59 ?_, by rw [ch_, if_pos hok]; exact q2, CFp_tr g3 q3⟩
        have q1' := q1 out q
        simp (disch := first | assumption | omega) only [sh_1, g1, Option.some.injEq, Prod.mk.injEq, Value.int.injEq, exists_and_left, exists_eq_left', and_assoc, true_and, and_true, true_implies, false_implies, not_true_eq_false, not_false_eq_true, li_0, li_1, li_2, li_3, li_4, li_5, li_8, li_9, li_10, li_16, li_20, li_80, li_100, li_130, li_144, li_390, li_400, li_M, li_H, li_of, nI_add, pk_mul, cl_, vp_iff, nI_leI, nI_ltI, nI_eq, Nat.add_zero, Nat.zero_add, Nat.reduceEqDiff, Nat.reduceAdd, eq_self, reduceIte, Bool.false_eq_true, li_neg]
        exact q1'
      · rw [if_neg hok] at g1
        have hB2 := g2.1.1.1.2.1
        refine ⟨σ2, fun out q => e_X4_addChains_59 ?_, by rw [ch_, if_neg hok]; exact g2, g3⟩
        have q1' : Ev_ (P_X4_addChains KC) 22 [some (.ref 85), some (.int (nI f)), some (.int (nI c)), some (.int nM_), some (.int (nI (i + 1))), none] [] σ2 out := by
          refine e_X4_addChains_22 ?_
          by_cases h5 : B 0 1 ≤ i + 1
          · simp (disch := first | assumption | omega) only [g2.1.2.1, hB2, g2.1.1.2.1.1.2.1, h5, Option.some.injEq, Prod.mk.injEq, Value.int.injEq, exists_and_left, exists_eq_left', and_assoc, true_and, and_true, true_implies, false_implies, not_true_eq_false, not_false_eq_true, li_0, li_1, li_2, li_3, li_4, li_5, li_8, li_9, li_10, li_16, li_20, li_80, li_100, li_130, li_144, li_390, li_400, li_M, li_H, li_of, nI_add, pk_mul, cl_, vp_iff, nI_leI, nI_ltI, nI_eq, Nat.add_zero, Nat.zero_add, Nat.reduceEqDiff, Nat.reduceAdd, eq_self, reduceIte, Bool.false_eq_true, li_neg]
            exact q
          · simp (disch := first | assumption | omega) only [g2.1.2.1, hB2, g2.1.1.2.1.1.2.1, h5, Option.some.injEq, Prod.mk.injEq, Value.int.injEq, exists_and_left, exists_eq_left', and_assoc, true_and, and_true, true_implies, false_implies, not_true_eq_false, not_false_eq_true, li_0, li_1, li_2, li_3, li_4, li_5, li_8, li_9, li_10, li_16, li_20, li_80, li_100, li_130, li_144, li_390, li_400, li_M, li_H, li_of, nI_add, pk_mul, cl_, vp_iff, nI_leI, nI_ltI, nI_eq, Nat.add_zero, Nat.zero_add, Nat.reduceEqDiff, Nat.reduceAdd, eq_self, reduceIte, Bool.false_eq_true, li_neg]
            exact q
        simp (disch := first | assumption | omega) only [sh_1, g1, Option.some.injEq, Prod.mk.injEq, Value.int.injEq, exists_and_left, exists_eq_left', and_assoc, true_and, and_true, true_implies, false_implies, not_true_eq_false, not_false_eq_true, li_0, li_1, li_2, li_3, li_4, li_5, li_8, li_9, li_10, li_16, li_20, li_80, li_100, li_130, li_144, li_390, li_400, li_M, li_H, li_of, nI_add, pk_mul, cl_, vp_iff, nI_leI, nI_ltI, nI_eq, Nat.add_zero, Nat.zero_add, Nat.reduceEqDiff, Nat.reduceAdd, eq_self, reduceIte, Bool.false_eq_true, li_neg]
        exact q1'
    obtain ⟨σ', q1, q2, q3⟩ := t59
    refine ⟨σ', fun out q => e_X4_addChains_22 ?_, q2, q3⟩
    have q1' := q1 out q
    unfold nx_ at q1'
    by_cases h5 : t + 1 < B 0 1
    · have h6 : ¬ B 0 1 ≤ t + 1 := by omega
      rw [if_pos h5] at q1'
      simp (disch := first | assumption | omega) only [h.1.2.1, hB, h.1.1.2.1.1.2.1, h1, htn, h6, Option.some.injEq, Prod.mk.injEq, Value.int.injEq, exists_and_left, exists_eq_left', and_assoc, true_and, and_true, true_implies, false_implies, not_true_eq_false, not_false_eq_true, li_0, li_1, li_2, li_3, li_4, li_5, li_8, li_9, li_10, li_16, li_20, li_80, li_100, li_130, li_144, li_390, li_400, li_M, li_H, li_of, nI_add, pk_mul, cl_, vp_iff, nI_leI, nI_ltI, nI_eq, Nat.add_zero, Nat.zero_add, Nat.reduceEqDiff, Nat.reduceAdd, eq_self, reduceIte, Bool.false_eq_true, li_neg]
      exact q1'
    · have h6 : B 0 1 ≤ t + 1 := by omega
      rw [if_neg h5] at q1'
      simp (disch := first | assumption | omega) only [h.1.2.1, hB, h.1.1.2.1.1.2.1, h1, htn, h6, Option.some.injEq, Prod.mk.injEq, Value.int.injEq, exists_and_left, exists_eq_left', and_assoc, true_and, and_true, true_implies, false_implies, not_true_eq_false, not_false_eq_true, li_0, li_1, li_2, li_3, li_4, li_5, li_8, li_9, li_10, li_16, li_20, li_80, li_100, li_130, li_144, li_390, li_400, li_M, li_H, li_of, nI_add, pk_mul, cl_, vp_iff, nI_leI, nI_ltI, nI_eq, Nat.add_zero, Nat.zero_add, Nat.reduceEqDiff, Nat.reduceAdd, eq_self, reduceIte, Bool.false_eq_true, li_neg]
      exact q1'
theorem c_addChains (hf : 1 ≤ f ∧ f ≤ 4) : ∀ n c (T0 : T_) (σ : St_), c + n = B 0 0 → CG_ σ b p B (cha_ B f T0 c) → ∃ σ', Ev_ (P_X4_addChains KC) 2 [some (.ref 85), some (.int (nI f)), some (.int (nI c)), none, none, none] [] σ (none, σ') ∧ CG_ σ' b p B (cha_ B f T0 (B 0 0)) ∧ CFp_ p σ σ' := by
  intro n
  induction n with
  | zero =>
    intro c T0 σ hc h
    obtain rfl : c = B 0 0 := by omega
    have hB := h.1.1.1.2.1
    have h3 := BO_c h.1.1.2.2
    refine ⟨σ, e_X4_addChains_2 ?_, h, CFp_rf⟩
    simp (disch := first | assumption | omega) only [h.1.2.1, hB, h.1.1.2.1.1.1, Nat.le_refl, Option.some.injEq, Prod.mk.injEq, Value.int.injEq, exists_and_left, exists_eq_left', and_assoc, true_and, and_true, true_implies, false_implies, not_true_eq_false, not_false_eq_true, li_0, li_1, li_2, li_3, li_4, li_5, li_8, li_9, li_10, li_16, li_20, li_80, li_100, li_130, li_144, li_390, li_400, li_M, li_H, li_of, nI_add, pk_mul, cl_, vp_iff, nI_leI, nI_ltI, nI_eq, Nat.add_zero, Nat.zero_add, Nat.reduceEqDiff, Nat.reduceAdd, eq_self, reduceIte, Bool.false_eq_true, li_neg]
  | succ n ih =>
    intro c T0 σ hc h
    have hB := h.1.1.1.2.1
    have h3 := BO_c h.1.1.2.2
    have h1 : ¬ B 0 0 ≤ c := by omega
    have g1 := c_readerOf4 h (c := c) (by omega)
    cases hw : fw_ (cha_ B f T0 c).1 c (B 0 1) 0 with
    | none =>
      have e : cha_ B f T0 (c + 1) = cha_ B f T0 c := by rw [cha_]; unfold chc_; rw [hw]
      obtain ⟨σ', q1, q2⟩ := ih (c + 1) T0 σ (by omega) (by rw [e]; exact h)
      rw [hw] at g1
      have t22 : Ev_ (P_X4_addChains KC) 22 [some (.ref 85), some (.int (nI f)), some (.int (nI c)), some (.int nM_), some (.int (nI 1)), none] [] σ (none, σ') := by
        refine e_X4_addChains_22 ?_
        by_cases h5 : B 0 1 ≤ 1
        · simp (disch := first | assumption | omega) only [h.1.2.1, hB, h.1.1.2.1.1.2.1, h5, Option.some.injEq, Prod.mk.injEq, Value.int.injEq, exists_and_left, exists_eq_left', and_assoc, true_and, and_true, true_implies, false_implies, not_true_eq_false, not_false_eq_true, li_0, li_1, li_2, li_3, li_4, li_5, li_8, li_9, li_10, li_16, li_20, li_80, li_100, li_130, li_144, li_390, li_400, li_M, li_H, li_of, nI_add, pk_mul, cl_, vp_iff, nI_leI, nI_ltI, nI_eq, Nat.add_zero, Nat.zero_add, Nat.reduceEqDiff, Nat.reduceAdd, eq_self, reduceIte, Bool.false_eq_true, li_neg]
          exact q1
        · simp (disch := first | assumption | omega) only [h.1.2.1, hB, h.1.1.2.1.1.2.1, h5, Option.some.injEq, Prod.mk.injEq, Value.int.injEq, exists_and_left, exists_eq_left', and_assoc, true_and, and_true, true_implies, false_implies, not_true_eq_false, not_false_eq_true, li_0, li_1, li_2, li_3, li_4, li_5, li_8, li_9, li_10, li_16, li_20, li_80, li_100, li_130, li_144, li_390, li_400, li_M, li_H, li_of, nI_add, pk_mul, cl_, vp_iff, nI_leI, nI_ltI, nI_eq, Nat.add_zero, Nat.zero_add, Nat.reduceEqDiff, Nat.reduceAdd, eq_self, reduceIte, Bool.false_eq_true, li_neg]
          exact q1
      refine ⟨σ', e_X4_addChains_2 ?_, q2⟩
      simp (disch := first | assumption | omega) only [h.1.2.1, hB, h.1.1.2.1.1.1, h1, g1, oN_, Option.some.injEq, Prod.mk.injEq, Value.int.injEq, exists_and_left, exists_eq_left', and_assoc, true_and, and_true, true_implies, false_implies, not_true_eq_false, not_false_eq_true, li_0, li_1, li_2, li_3, li_4, li_5, li_8, li_9, li_10, li_16, li_20, li_80, li_100, li_130, li_144, li_390, li_400, li_M, li_H, li_of, nI_add, pk_mul, cl_, vp_iff, nI_leI, nI_ltI, nI_eq, Nat.add_zero, Nat.zero_add, Nat.reduceEqDiff, Nat.reduceAdd, eq_self, reduceIte, Bool.false_eq_true, li_neg]
      exact t22
    | some w =>
      have hw2 := fw_some _ _ _ hw
      have e : cha_ B f T0 (c + 1) = ch_ B c f (B 0 1 - 1) w (cha_ B f T0 c) := by rw [cha_]; unfold chc_; rw [hw]
      obtain ⟨σ2, k1, k2, k3⟩ := c_chain22 hf (show c < B 0 0 by omega) (B 0 1 - 1) 1 w _ σ (by omega) (by omega) (by omega) h
      obtain ⟨σ', q1, q2, q3⟩ := ih (c + 1) T0 σ2 (by omega) (by rw [e]; exact k2)
      rw [hw] at g1
      refine ⟨σ', e_X4_addChains_2 ?_, q2, CFp_tr k3 q3⟩
      have k1' := k1 _ q1
      simp (disch := first | assumption | omega) only [h.1.2.1, hB, h.1.1.2.1.1.1, h1, g1, oN_, Option.some.injEq, Prod.mk.injEq, Value.int.injEq, exists_and_left, exists_eq_left', and_assoc, true_and, and_true, true_implies, false_implies, not_true_eq_false, not_false_eq_true, li_0, li_1, li_2, li_3, li_4, li_5, li_8, li_9, li_10, li_16, li_20, li_80, li_100, li_130, li_144, li_390, li_400, li_M, li_H, li_of, nI_add, pk_mul, cl_, vp_iff, nI_leI, nI_ltI, nI_eq, Nat.add_zero, Nat.zero_add, Nat.reduceEqDiff, Nat.reduceAdd, eq_self, reduceIte, Bool.false_eq_true, li_neg]
      exact k1'
/-- the reference's chain, from the j-th on -/
theorem m_chain54 (hf : 1 ≤ f ∧ f ≤ 4) (hc : c < B 0 0) {w : Nat} (hw : w < B 0 1) : ∀ n j t (T : T_) (μ : St_), j + n + 1 = B 0 1 → (t = if w + j < B 0 1 then w + j else w + j - B 0 1) → RG_ μ B T → (∀ r, r < B 0 1 → (hb_ (T.1.2.1 r) c ↔ r = w)) → ∃ μ', (∀ out, Ev_ (P_X12_makeChain KC) 2 [some (.ref 219), some (.int (nI f)), some (.int (nI (c + 1))), none, none, none] [] μ' out → Ev_ (P_X12_makeChain KC) 54 [some (.ref 219), some (.int (nI f)), some (.int (nI c)), some (.int (nI t)), some (.int (nI 1)), none] [] μ out) ∧ RG_ μ' B (ch_ B c f n t T) ∧ RFp_ μ μ' := by
  intro n
  induction n with
  | zero =>
    intro j t T μ hj ht h hu
    have hx := h.1
    have h3 := BO_c hx.2
    have ht2 : t < B 0 1 := by rw [ht]; split <;> omega
    have hn : nx_ B t = w := by
      unfold nx_
      rw [ht]
      split <;> split <;> omega
    have hm : (t + 1) % B 0 1 = nx_ B t := by
      unfold nx_
      split
      · exact Nat.mod_eq_of_lt (by omega)
      · rw [show t + 1 = B 0 1 by omega]
        exact Nat.mod_self _
    have hb := (hu w hw).mpr rfl
    refine ⟨μ, fun out q => e_X12_makeChain_54 ?_, h, RFp_rf⟩
    have q2 : Ev_ (P_X12_makeChain KC) 54 [some (.ref 219), some (.int (nI f)), some (.int (nI c)), some (.int (nI w)), some (.int (nI 0)), none] [] μ out := by
      refine e_X12_makeChain_54 ?_
      simp (disch := first | assumption | omega) only [Option.some.injEq, Prod.mk.injEq, Value.int.injEq, exists_and_left, exists_eq_left', and_assoc, true_and, and_true, true_implies, false_implies, not_true_eq_false, not_false_eq_true, li_0, li_1, li_2, li_3, li_4, li_5, li_8, li_9, li_10, li_16, li_20, li_80, li_100, li_130, li_144, li_390, li_400, li_M, li_H, li_of, nI_add, pk_mul, cl_, vp_iff, nI_leI, nI_ltI, nI_eq, Nat.add_zero, Nat.zero_add, Nat.reduceEqDiff, Nat.reduceAdd, eq_self, reduceIte, Bool.false_eq_true, li_neg]
      exact q
    have h0 : ¬ B 0 1 = 0 := by omega
    simp (disch := first | assumption | omega) only [m_readers hx, h0, pk_rem, hm, hn, MK_r h.2.2.1 hw, m_hasK, hb, not_false_eq_true, Option.some.injEq, Prod.mk.injEq, Value.int.injEq, exists_and_left, exists_eq_left', and_assoc, true_and, and_true, true_implies, false_implies, not_true_eq_false, not_false_eq_true, li_0, li_1, li_2, li_3, li_4, li_5, li_8, li_9, li_10, li_16, li_20, li_80, li_100, li_130, li_144, li_390, li_400, li_M, li_H, li_of, nI_add, pk_mul, cl_, vp_iff, nI_leI, nI_ltI, nI_eq, Nat.add_zero, Nat.zero_add, Nat.reduceEqDiff, Nat.reduceAdd, eq_self, reduceIte, Bool.false_eq_true, li_neg]
    (repeat' apply And.intro) <;> first | omega | rfl | assumption | exact q2
  | succ n ih =>
    intro j t T μ hj ht h hu
    have hx := h.1
    have h3 := BO_c hx.2
    have ht2 : t < B 0 1 := by rw [ht]; split <;> omega
    have hn : nx_ B t = if w + (j + 1) < B 0 1 then w + (j + 1) else w + (j + 1) - B 0 1 := by
      unfold nx_
      rw [ht]
      split <;> split <;> split <;> omega
    have hnw : nx_ B t ≠ w := by
      rw [hn]
      split <;> omega
    have hnx := nx_lt ht2
    have hm : (t + 1) % B 0 1 = nx_ B t := by
      unfold nx_
      split
      · exact Nat.mod_eq_of_lt (by omega)
      · rw [show t + 1 = B 0 1 by omega]
        exact Nat.mod_self _
    have hb : ¬ hb_ (T.1.2.1 (nx_ B t)) c := fun z => hnw ((hu _ hnx).mp z)
    have h0 : ¬ B 0 1 = 0 := by omega
    obtain ⟨μ2, g1, g2, g3⟩ := m_tries (f := f) (l := 2 ^ nx_ B t) h ht2 hc hf.2 (two_lt hnx)
    by_cases hok : (ta_ B T t c f (2 ^ nx_ B t)).1 = true
    · obtain ⟨μ', q1, q2, q3⟩ := ih (j + 1) (nx_ B t) _ μ2 (by omega) hn g2 (by rw [ta_rd _ _ _ _ _ (by omega)]; exact hu)
      rw [if_pos hok] at g1
      refine ⟨μ', fun out q => e_X12_makeChain_54 ?_, by rw [ch_, if_pos hok]; exact q2, RFp_tr g3 q3⟩
      have q1' := q1 out q
      simp (disch := first | assumption | omega) only [m_readers hx, h0, pk_rem, hm, MK_r h.2.2.1 hnx, m_hasK, hb, sh_1, g1, not_false_eq_true, Option.some.injEq, Prod.mk.injEq, Value.int.injEq, exists_and_left, exists_eq_left', and_assoc, true_and, and_true, true_implies, false_implies, not_true_eq_false, not_false_eq_true, li_0, li_1, li_2, li_3, li_4, li_5, li_8, li_9, li_10, li_16, li_20, li_80, li_100, li_130, li_144, li_390, li_400, li_M, li_H, li_of, nI_add, pk_mul, cl_, vp_iff, nI_leI, nI_ltI, nI_eq, Nat.add_zero, Nat.zero_add, Nat.reduceEqDiff, Nat.reduceAdd, eq_self, reduceIte, Bool.false_eq_true, li_neg]
      (repeat' apply And.intro) <;> first | omega | rfl | assumption | exact q1'
    · rw [if_neg hok] at g1
      refine ⟨μ2, fun out q => e_X12_makeChain_54 ?_, by rw [ch_, if_neg hok]; exact g2, g3⟩
      have q2 : Ev_ (P_X12_makeChain KC) 54 [some (.ref 219), some (.int (nI f)), some (.int (nI c)), some (.int (nI (nx_ B t))), some (.int (nI 0)), none] [] μ2 out := by
        refine e_X12_makeChain_54 ?_
        simp (disch := first | assumption | omega) only [Option.some.injEq, Prod.mk.injEq, Value.int.injEq, exists_and_left, exists_eq_left', and_assoc, true_and, and_true, true_implies, false_implies, not_true_eq_false, not_false_eq_true, li_0, li_1, li_2, li_3, li_4, li_5, li_8, li_9, li_10, li_16, li_20, li_80, li_100, li_130, li_144, li_390, li_400, li_M, li_H, li_of, nI_add, pk_mul, cl_, vp_iff, nI_leI, nI_ltI, nI_eq, Nat.add_zero, Nat.zero_add, Nat.reduceEqDiff, Nat.reduceAdd, eq_self, reduceIte, Bool.false_eq_true, li_neg]
        exact q
      simp (disch := first | assumption | omega) only [m_readers hx, h0, pk_rem, hm, MK_r h.2.2.1 hnx, m_hasK, hb, sh_1, g1, not_false_eq_true, Option.some.injEq, Prod.mk.injEq, Value.int.injEq, exists_and_left, exists_eq_left', and_assoc, true_and, and_true, true_implies, false_implies, not_true_eq_false, not_false_eq_true, li_0, li_1, li_2, li_3, li_4, li_5, li_8, li_9, li_10, li_16, li_20, li_80, li_100, li_130, li_144, li_390, li_400, li_M, li_H, li_of, nI_add, pk_mul, cl_, vp_iff, nI_leI, nI_ltI, nI_eq, Nat.add_zero, Nat.zero_add, Nat.reduceEqDiff, Nat.reduceAdd, eq_self, reduceIte, Bool.false_eq_true, li_neg]
      (repeat' apply And.intro) <;> first | omega | rfl | assumption | exact q2
theorem m_makeChain (hf : 1 ≤ f ∧ f ≤ 4) : ∀ n c (T0 : T_) (μ : St_), UQ_ B T0.1 → c + n = B 0 0 → RG_ μ B (cha_ B f T0 c) → ∃ μ', Ev_ (P_X12_makeChain KC) 2 [some (.ref 219), some (.int (nI f)), some (.int (nI c)), none, none, none] [] μ (none, μ') ∧ RG_ μ' B (cha_ B f T0 (B 0 0)) ∧ RFp_ μ μ' := by
  intro n
  induction n with
  | zero =>
    intro c T0 μ hu hc h
    obtain rfl : c = B 0 0 := by omega
    have h3 := BO_c h.1.2
    refine ⟨μ, e_X12_makeChain_2 ?_, h, RFp_rf⟩
    simp (disch := first | assumption | omega) only [m_chaps h.1, Nat.le_refl, Option.some.injEq, Prod.mk.injEq, Value.int.injEq, exists_and_left, exists_eq_left', and_assoc, true_and, and_true, true_implies, false_implies, not_true_eq_false, not_false_eq_true, li_0, li_1, li_2, li_3, li_4, li_5, li_8, li_9, li_10, li_16, li_20, li_80, li_100, li_130, li_144, li_390, li_400, li_M, li_H, li_of, nI_add, pk_mul, cl_, vp_iff, nI_leI, nI_ltI, nI_eq, Nat.add_zero, Nat.zero_add, Nat.reduceEqDiff, Nat.reduceAdd, eq_self, reduceIte, Bool.false_eq_true, li_neg]
  | succ n ih =>
    intro c T0 μ hu hc h
    have hx := h.1
    have h3 := BO_c hx.2
    have h1 : ¬ B 0 0 ≤ c := by omega
    have hk := h.2.2.1
    -- the search for who has READ it
    have find : ∀ m d, d + m = B 0 1 → ∀ out, (fw_ (cha_ B f T0 c).1 c m d = none → Ev_ (P_X12_makeChain KC) 54 [some (.ref 219), some (.int (nI f)), some (.int (nI c)), some (.int (nI (B 0 1))), some (.int (nI 0)), none] [] μ out) → (∀ w, fw_ (cha_ B f T0 c).1 c m d = some w → Ev_ (P_X12_makeChain KC) 54 [some (.ref 219), some (.int (nI f)), some (.int (nI c)), some (.int (nI w)), some (.int (nI 1)), none] [] μ out) → Ev_ (P_X12_makeChain KC) 12 [some (.ref 219), some (.int (nI f)), some (.int (nI c)), some (.int (nI d)), none, none] [] μ out := by
      intro m
      induction m with
      | zero =>
        intro d hd out g1 g2
        obtain rfl : d = B 0 1 := by omega
        refine e_X12_makeChain_12 ?_
        simp (disch := first | assumption | omega) only [m_readers hx, Nat.le_refl, Option.some.injEq, Prod.mk.injEq, Value.int.injEq, exists_and_left, exists_eq_left', and_assoc, true_and, and_true, true_implies, false_implies, not_true_eq_false, not_false_eq_true, li_0, li_1, li_2, li_3, li_4, li_5, li_8, li_9, li_10, li_16, li_20, li_80, li_100, li_130, li_144, li_390, li_400, li_M, li_H, li_of, nI_add, pk_mul, cl_, vp_iff, nI_leI, nI_ltI, nI_eq, Nat.add_zero, Nat.zero_add, Nat.reduceEqDiff, Nat.reduceAdd, eq_self, reduceIte, Bool.false_eq_true, li_neg]
        exact g1 rfl
      | succ m ihm =>
        intro d hd out g1 g2
        have h5 : ¬ B 0 1 ≤ d := by omega
        have h6 : d < B 0 1 := by omega
        rw [fw_] at g1 g2
        refine e_X12_makeChain_12 ?_
        by_cases hs : hb_ ((cha_ B f T0 c).1.2.1 d) c
        · rw [if_pos hs] at g1 g2
          have g2' := g2 d rfl
          simp (disch := first | assumption | omega) only [m_readers hx, h5, MK_r hk h6, m_hasK, hs, Option.some.injEq, Prod.mk.injEq, Value.int.injEq, exists_and_left, exists_eq_left', and_assoc, true_and, and_true, true_implies, false_implies, not_true_eq_false, not_false_eq_true, li_0, li_1, li_2, li_3, li_4, li_5, li_8, li_9, li_10, li_16, li_20, li_80, li_100, li_130, li_144, li_390, li_400, li_M, li_H, li_of, nI_add, pk_mul, cl_, vp_iff, nI_leI, nI_ltI, nI_eq, Nat.add_zero, Nat.zero_add, Nat.reduceEqDiff, Nat.reduceAdd, eq_self, reduceIte, Bool.false_eq_true, li_neg]
          (repeat' apply And.intro) <;> first | omega | rfl | assumption | exact g2'
        · rw [if_neg hs] at g1 g2
          have ih1 := ihm (d + 1) (by omega) out g1 g2
          simp (disch := first | assumption | omega) only [m_readers hx, h5, MK_r hk h6, m_hasK, hs, Option.some.injEq, Prod.mk.injEq, Value.int.injEq, exists_and_left, exists_eq_left', and_assoc, true_and, and_true, true_implies, false_implies, not_true_eq_false, not_false_eq_true, li_0, li_1, li_2, li_3, li_4, li_5, li_8, li_9, li_10, li_16, li_20, li_80, li_100, li_130, li_144, li_390, li_400, li_M, li_H, li_of, nI_add, pk_mul, cl_, vp_iff, nI_leI, nI_ltI, nI_eq, Nat.add_zero, Nat.zero_add, Nat.reduceEqDiff, Nat.reduceAdd, eq_self, reduceIte, Bool.false_eq_true, li_neg]
          (repeat' apply And.intro) <;> first | omega | rfl | assumption | exact ih1
    cases hw : fw_ (cha_ B f T0 c).1 c (B 0 1) 0 with
    | none =>
      have e : cha_ B f T0 (c + 1) = cha_ B f T0 c := by rw [cha_]; unfold chc_; rw [hw]
      obtain ⟨μ', q1, q2⟩ := ih (c + 1) T0 μ hu (by omega) (by rw [e]; exact h)
      have t12 := find (B 0 1) 0 (by omega) (none, μ') (fun _ => by
        refine e_X12_makeChain_54 ?_
        simp (disch := first | assumption | omega) only [Option.some.injEq, Prod.mk.injEq, Value.int.injEq, exists_and_left, exists_eq_left', and_assoc, true_and, and_true, true_implies, false_implies, not_true_eq_false, not_false_eq_true, li_0, li_1, li_2, li_3, li_4, li_5, li_8, li_9, li_10, li_16, li_20, li_80, li_100, li_130, li_144, li_390, li_400, li_M, li_H, li_of, nI_add, pk_mul, cl_, vp_iff, nI_leI, nI_ltI, nI_eq, Nat.add_zero, Nat.zero_add, Nat.reduceEqDiff, Nat.reduceAdd, eq_self, reduceIte, Bool.false_eq_true, li_neg]
        exact q1) (fun w z => by rw [hw] at z; cases z)
      refine ⟨μ', e_X12_makeChain_2 ?_, q2⟩
      simp (disch := first | assumption | omega) only [m_chaps hx, h1, Option.some.injEq, Prod.mk.injEq, Value.int.injEq, exists_and_left, exists_eq_left', and_assoc, true_and, and_true, true_implies, false_implies, not_true_eq_false, not_false_eq_true, li_0, li_1, li_2, li_3, li_4, li_5, li_8, li_9, li_10, li_16, li_20, li_80, li_100, li_130, li_144, li_390, li_400, li_M, li_H, li_of, nI_add, pk_mul, cl_, vp_iff, nI_leI, nI_ltI, nI_eq, Nat.add_zero, Nat.zero_add, Nat.reduceEqDiff, Nat.reduceAdd, eq_self, reduceIte, Bool.false_eq_true, li_neg]
      exact t12
    | some w =>
      have hw2 := fw_some _ _ _ hw
      have hwR : w < B 0 1 := by omega
      have e : cha_ B f T0 (c + 1) = ch_ B c f (B 0 1 - 1) w (cha_ B f T0 c) := by rw [cha_]; unfold chc_; rw [hw]
      have hrd := cha_rd (B := B) (f := f) (by omega) T0 c
      obtain ⟨μ2, k1, k2, k3⟩ := m_chain54 hf (show c < B 0 0 by omega) hwR (B 0 1 - 1) 0 w _ μ (by omega) (by rw [if_pos (by omega)]; rfl) h (fun r hr => ⟨fun z => by
        rw [hrd] at z
        have hb := hw2.2
        rw [hrd] at hb
        exact hu c r w (by omega) hr hwR z hb, fun z => by rw [z]; exact hw2.2⟩)
      obtain ⟨μ', q1, q2, q3⟩ := ih (c + 1) T0 μ2 hu (by omega) (by rw [e]; exact k2)
      have t12 := find (B 0 1) 0 (by omega) (none, μ') (fun z => by rw [hw] at z; cases z) (fun w' z => by
        rw [hw] at z
        cases z
        exact k1 _ q1)
      refine ⟨μ', e_X12_makeChain_2 ?_, q2, RFp_tr k3 q3⟩
      simp (disch := first | assumption | omega) only [m_chaps hx, h1, Option.some.injEq, Prod.mk.injEq, Value.int.injEq, exists_and_left, exists_eq_left', and_assoc, true_and, and_true, true_implies, false_implies, not_true_eq_false, not_false_eq_true, li_0, li_1, li_2, li_3, li_4, li_5, li_8, li_9, li_10, li_16, li_20, li_80, li_100, li_130, li_144, li_390, li_400, li_M, li_H, li_of, nI_add, pk_mul, cl_, vp_iff, nI_leI, nI_ltI, nI_eq, Nat.add_zero, Nat.zero_add, Nat.reduceEqDiff, Nat.reduceAdd, eq_self, reduceIte, Bool.false_eq_true, li_neg]
      exact t12
end K2
