/-! CHAIN -/
def gc_ (B : Nat → Nat → Nat) (t l k : Nat) (x : Int32) : Int32 := if k = 1 then gv_ B t l 4 x else ga_ B (gv_ B t l 4 x)
noncomputable def tc_ (B : Nat → Nat → Nat) (N : Nat) (a : Nat → Nat) : Nat → Nat → Nat → (Nat → Nat) → Int32 → Int32 → Int32 × (Nat → Nat) → Int32 × (Nat → Nat)
  | 0, _, _, q, _, sum, s => if s.1 < sum then (sum, q) else s
  | n + 1, k, used, q, x, sum, s => tl_ (fun i s => if used.testBit i = true then s else tc_ B N a n (k + 1) (used ||| 2 ^ i) (ud_ q k (a i)) (gc_ B (q (k - 1)) (a i) k x) (sum + gc_ B (q (k - 1)) (a i) k x) s) N s
section CH
variable {σ μ : St_} {b : Nat} {B : Nat → Nat → Nat} {N : Nat} {a : Nat → Nat}
/-- what all ways need -/
def AO_ (B : Nat → Nat → Nat) (N : Nat) (a : Nat → Nat) : Prop := 2 ≤ N ∧ N ≤ 7 ∧ ∀ i, i < N → a i < B 0 1
theorem gc_n (hO : BO_ B) {t l k x : Nat} (ht : t < B 0 1) (hl : l < B 0 1) (hx : x ≤ 1000000) : ∃ y, y ≤ 1000000 ∧ gc_ B t l k (nI x) = nI y := by
  obtain ⟨y, h1, h2⟩ := gv_n (f := 4) hO ht hl (by omega) hx
  unfold gc_
  split
  · exact ⟨y, h1, h2⟩
  · rw [h2]
    exact ga_n hO h1
theorem tl_found {f : Nat → Int32 × (Nat → Nat) → Int32 × (Nat → Nat)} {R : Int32 × (Nat → Nat) → Prop} (hk : ∀ r s, R s → R (f r s)) {i : Nat} (hi : ∀ s, R (f i s)) : ∀ n s, i < n → R (tl_ f n s)
  | 0, _, h => absurd h (by omega)
  | n + 1, s, h => by
    rw [tl_]
    by_cases e : i = n
    · rw [← e]
      exact hi _
    · exact hk _ _ (tl_found hk hi n s (by omega))
/-- the best never falls -/
theorem tc_keep {R : Int32 × (Nat → Nat) → Prop} (hR : ∀ (s : Int32 × (Nat → Nat)) sum q, R s → s.1 < sum → R (sum, q)) : ∀ n k used q x sum s, R s → R (tc_ B N a n k used q x sum s)
  | 0, k, used, q, x, sum, s, h => by
    rw [tc_]
    split
    · rename_i h1
      exact hR s sum q h h1
    · exact h
  | n + 1, k, used, q, x, sum, s, h => by
    rw [tc_]
    have key : ∀ m s, R s → R (tl_ (fun i s => if used.testBit i = true then s else tc_ B N a n (k + 1) (used ||| 2 ^ i) (ud_ q k (a i)) (gc_ B (q (k - 1)) (a i) k x) (sum + gc_ B (q (k - 1)) (a i) k x) s) m s) := by
      intro m
      induction m with
      | zero => exact fun s h => h
      | succ m ih =>
        intro s h
        rw [tl_]
        try dsimp only
        split
        · exact ih s h
        · exact tc_keep hR n _ _ _ _ _ _ (ih s h)
    exact key N s h
theorem tc_found (hO : BO_ B) (ha : AO_ B N a) : ∀ n k used q x sum s, k + n = N → 1 ≤ k → (∀ j, j < k → q j < B 0 1) → x ≤ 1000000 → sum ≤ k * 1000000 → fb_ct (fun i => used.testBit i) N = k → ¬ (tc_ B N a n k used q (nI x) (nI sum) s).1 < nI 0
  | 0, k, used, q, x, sum, s, hk, h1, hq, hx, hs, hu => by
    obtain ⟨a1, a2, a3⟩ := ha
    rw [tc_]
    split
    · exact nI_nlt (by omega) (by omega)
    · rename_i h2
      intro z
      refine h2 (Int32.lt_of_lt_of_le z (nI_le (by omega) (by omega)))
  | n + 1, k, used, q, x, sum, s, hk, h1, hq, hx, hs, hu => by
    have ha' := ha
    obtain ⟨a1, a2, a3⟩ := ha
    have hex : ∃ j, j < N ∧ used.testBit j = false := by
      refine Classical.byContradiction fun hn => ?_
      have : fb_ct (fun c => used.testBit c) N = N := fb_ct_all.mpr (fun j hj => by
        cases hq : used.testBit j with
        | true => rfl
        | false => exact absurd ⟨j, hj, hq⟩ hn)
      omega
    obtain ⟨j, hj, hj2⟩ := hex
    rw [tc_]
    refine tl_found (R := fun s => ¬ s.1 < nI 0) (fun r s hr => ?_) (i := j) (fun s => ?_) N s hj
    · try dsimp only
      split
      · exact hr
      · exact tc_keep (R := fun s => ¬ s.1 < nI 0) (fun s sum q h1 h2 z => h1 (Int32.lt_trans h2 z)) n _ _ _ _ _ _ hr
    · try dsimp only
      rw [if_neg (by rw [hj2]; decide)]
      obtain ⟨y, y1, y2⟩ := gc_n (k := k) hO (hq (k - 1) (by omega)) (a3 j hj) hx
      rw [y2, nI_add]
      refine tc_found hO ha' n (k + 1) _ _ y (sum + y) s (by omega) (by omega) (fun i hi => ?_) y1 (by omega) ?_
      · by_cases e : i = k
        · rw [e, ud_eq]
          exact a3 j hj
        · rw [ud_ne _ _ e]
          exact hq i (by omega)
      · have hu2 : fb_ct (fun k => if k = j then true else used.testBit k) N + (if used.testBit j = true then 1 else 0) = fb_ct (fun c => used.testBit c) N + (if true = true then 1 else 0) := fb_ct_upd (fun c => used.testBit c) true (i := j) (n := N) hj
        rw [hj2, if_neg (by decide), if_pos rfl, hu] at hu2
        rw [← hu2]
        refine fb_ct_cong (fun c _ => ?_)
        rw [fb_bit_set]
        by_cases e : c = j
        · simp [e]
        · simp [e]
def CR_ (σ : St_) (b : Nat) (B : Nat → Nat → Nat) (N : Nat) (a q : Nat → Nat) (k : Nat) (s : Int32 × (Nat → Nat)) : Prop := (CB_ σ b B ∧ σ.2.2 129 4 = some b ∧ σ.1 129 5 = nI N) ∧ (σ.1 129 6 = s.1 ∧ (s.1 = nM_ ∨ ∀ j, j < N → σ.1 130 j = nI (s.2 j))) ∧ (∀ i, i < N → σ.1 131 i = nI (a i)) ∧ ∀ j, j < k → σ.1 132 j = nI (q j)
def RWF_ (σ σ' : St_) : Prop := fr_ [129, 130, 132] σ σ' ∧ NF2_ [6] 129 σ σ'
theorem RWF_tr {x y z : St_} (h : RWF_ x y) (h2 : RWF_ y z) : RWF_ x z := ⟨fr_tr h.1 h2.1, NF2_tr h.2 h2.2⟩
theorem c_tryRow (hB : isB b) (hO : BO_ B) (ha : AO_ B N a) : ∀ n k d used q x sum s (σ : St_), k + n = N → 1 ≤ k → n < d → used < 2 ^ 16 → used.testBit 0 = true → (∀ j, j < k → q j < B 0 1) → CR_ σ b B N a q k s → ∃ σ', f_X7_tryFrom KC d [.ref 129, .int (nI k), .int (nI used), .int x, .int sum] σ = some (none, σ') ∧ CR_ σ' b B N a q k (tc_ B N a n k used q x sum s) ∧ RWF_ σ σ' := by
  have h3 := BO_c hO
  have bn := b_no hB
  have hbx : b + 27 < 129 ∨ 142 < b := by omega
  obtain ⟨a1, a2, a3⟩ := ha
  intro n
  induction n with
  | zero =>
    intro k d used q x sum s σ hk h1 hd hu hu0 hq h
    obtain rfl : k = N := by omega
    obtain ⟨d, rfl⟩ : ∃ d', d = d' + 1 := ⟨d - 1, by omega⟩
    obtain ⟨⟨hC, h4, h5⟩, ⟨h6, hrow⟩, hA, hQ⟩ := h
    have hkk : ¬ k < k := Nat.lt_irrefl _
    by_cases hg : s.1 < sum
    · have hg2 := Int32.not_le.mpr hg
      have e129 : ∀ x, (sI_ σ 129 6 x).1 129 5 = nI k := fun x => by rw [sI_at, if_neg (by decide)]; exact h5
      obtain ⟨σ2, g1, g2, g3, g4⟩ := c_copyRow (σ := sI_ σ 129 6 sum) (q0 := 132) (q1 := 130) (m := k) (n0 := 7) (n1 := 7) rfl rfl (by omega) (by omega) (by decide) (by decide)
      have o129 : σ2.1 129 = (sI_ σ 129 6 sum).1 129 := g2.1 129 (by decide)
      have oo : ∀ o, o ≠ 129 → o ≠ 130 → σ2.1 o = σ.1 o := fun o o1 o2 => (g2.1 o (by simp [o2])).trans (sI_row _ _ _ _ o1)
      refine ⟨σ2, z_X7_tryFrom (e_X7_tryFrom_0 ?_), by rw [tc_, if_pos hg]; exact ⟨⟨CB_row hB hC (fun o o1 o2 => oo o (by omega) (by omega)) hO, by rw [g2.2]; exact h4, by rw [o129]; exact e129 _⟩, ⟨by rw [o129, sI_at, if_pos ⟨rfl, rfl⟩], Or.inr (fun j hj => by rw [g3 j hj, sI_row _ _ _ _ (by decide)]; exact hQ j hj)⟩, fun i hi => by rw [oo 131 (by decide) (by decide)]; exact hA i hi, fun j hj => by rw [oo 132 (by decide) (by decide)]; exact hQ j hj⟩, fr_tr (fr_sI (by simp)) (fr_mono g2 (by simp)), fun f hf => by rw [o129, sI_at, if_neg (fun z => hf (by rw [z.2]; simp))]⟩
      simp (disch := first | assumption | omega) only [h5, hkk, h6, hg2, e129, g1, Option.some.injEq, Prod.mk.injEq, Value.int.injEq, exists_and_left, exists_eq_left', and_assoc, true_and, and_true, true_implies, false_implies, not_true_eq_false, not_false_eq_true, li_0, li_1, li_2, li_3, li_4, li_5, li_8, li_9, li_10, li_16, li_20, li_80, li_100, li_130, li_144, li_390, li_400, li_M, li_H, li_of, nI_add, pk_mul, cl_, vp_iff, nI_leI, nI_ltI, nI_eq, Nat.add_zero, Nat.zero_add, Nat.reduceEqDiff, Nat.reduceAdd, eq_self, reduceIte, Bool.false_eq_true, li_neg]
    · have hg2 := Int32.not_lt.mp hg
      refine ⟨σ, z_X7_tryFrom (e_X7_tryFrom_0 ?_), by rw [tc_, if_neg hg]; exact ⟨⟨hC, h4, h5⟩, ⟨h6, hrow⟩, hA, hQ⟩, fr_rf _ _, fun _ _ => rfl⟩
      simp (disch := first | assumption | omega) only [h5, hkk, h6, hg2, Option.some.injEq, Prod.mk.injEq, Value.int.injEq, exists_and_left, exists_eq_left', and_assoc, true_and, and_true, true_implies, false_implies, not_true_eq_false, not_false_eq_true, li_0, li_1, li_2, li_3, li_4, li_5, li_8, li_9, li_10, li_16, li_20, li_80, li_100, li_130, li_144, li_390, li_400, li_M, li_H, li_of, nI_add, pk_mul, cl_, vp_iff, nI_leI, nI_ltI, nI_eq, Nat.add_zero, Nat.zero_add, Nat.reduceEqDiff, Nat.reduceAdd, eq_self, reduceIte, Bool.false_eq_true, li_neg]
  | succ n ih =>
    intro k d used q x sum s σ hk h1 hd hu hu0 hq h
    obtain ⟨d, rfl⟩ : ∃ d', d = d' + 1 := ⟨d - 1, by omega⟩
    have hkN : k < N := by omega
    have t42 : ∀ m i s1 (σ1 : St_), i + m = N → 1 ≤ i → CR_ σ1 b B N a q k s1 → ∃ σ', Ev_ (P_X7_tryFrom KC (f_X7_tryFrom KC d)) 42 [some (.ref 129), some (.int (nI k)), some (.int (nI used)), some (.int x), some (.int sum), some (.int (nI i)), none] [] σ1 (none, σ') ∧ (∀ s0, tl_ (fun i s => if used.testBit i = true then s else tc_ B N a n (k + 1) (used ||| 2 ^ i) (ud_ q k (a i)) (gc_ B (q (k - 1)) (a i) k x) (sum + gc_ B (q (k - 1)) (a i) k x) s) i s0 = s1 → CR_ σ' b B N a q k (tc_ B N a (n + 1) k used q x sum s0)) ∧ RWF_ σ1 σ' := by
      intro m
      induction m with
      | zero =>
        intro i s1 σ1 hi hi1 hc
        obtain rfl : i = N := by omega
        refine ⟨σ1, e_X7_tryFrom_42 ?_, fun s0 hs => by rw [tc_, hs]; exact hc, fr_rf _ _, fun _ _ => rfl⟩
        simp (disch := first | assumption | omega) only [hc.1.2.2, Nat.le_refl, Option.some.injEq, Prod.mk.injEq, Value.int.injEq, exists_and_left, exists_eq_left', and_assoc, true_and, and_true, true_implies, false_implies, not_true_eq_false, not_false_eq_true, li_0, li_1, li_2, li_3, li_4, li_5, li_8, li_9, li_10, li_16, li_20, li_80, li_100, li_130, li_144, li_390, li_400, li_M, li_H, li_of, nI_add, pk_mul, cl_, vp_iff, nI_leI, nI_ltI, nI_eq, Nat.add_zero, Nat.zero_add, Nat.reduceEqDiff, Nat.reduceAdd, eq_self, reduceIte, Bool.false_eq_true, li_neg]
      | succ m ihm =>
        intro i s1 σ1 hi hi1 hc
        have hiN : ¬ N ≤ i := by omega
        have hi2 : i < N := by omega
        by_cases ht : used.testBit i = true
        · obtain ⟨σ', q1, q2, q3⟩ := ihm (i + 1) s1 σ1 (by omega) (by omega) hc
          refine ⟨σ', e_X7_tryFrom_42 ?_, fun s0 hs => q2 s0 (by rw [tl_, hs]; exact if_pos ht), q3⟩
          simp (disch := first | assumption | omega) only [hc.1.2.2, hiN, hb_0, hb_n, ht, Option.some.injEq, Prod.mk.injEq, Value.int.injEq, exists_and_left, exists_eq_left', and_assoc, true_and, and_true, true_implies, false_implies, not_true_eq_false, not_false_eq_true, li_0, li_1, li_2, li_3, li_4, li_5, li_8, li_9, li_10, li_16, li_20, li_80, li_100, li_130, li_144, li_390, li_400, li_M, li_H, li_of, nI_add, pk_mul, cl_, vp_iff, nI_leI, nI_ltI, nI_eq, Nat.add_zero, Nat.zero_add, Nat.reduceEqDiff, Nat.reduceAdd, eq_self, reduceIte, Bool.false_eq_true, li_neg]
          exact q1
        · have hai := a3 i hi2
          have hqk := hq (k - 1) (by omega)
          have hpt := c_partsTold (σ := σ1) (f := 4) hB hc.1.1 hO hqk hai x
          have e132 := hc.2.2.2 (k - 1) (by omega)
          have hrt : ∀ y, f_X0_retold KC [.ref b, .int y] σ1 = some (some (.int (ga_ B y)), σ1) := fun y => c_retold hB hc.1.1 y
          have fr0 : RWF_ σ1 (sI_ σ1 132 k (nI (a i))) := ⟨fr_sI (by simp), fun f _ => by rw [sI_row _ _ _ _ (by decide)]⟩
          obtain ⟨σ2, g1, g2, g3⟩ := ih (k + 1) d (used ||| 2 ^ i) (ud_ q k (a i)) (gc_ B (q (k - 1)) (a i) k x) (sum + gc_ B (q (k - 1)) (a i) k x) s1 (sI_ σ1 132 k (nI (a i))) (by omega) (by omega) (by omega) (or_lt hu (two_lt (by omega))) (by rw [fb_bit_set, hu0]; rfl) (fun j hj => by
            by_cases e : j = k
            · rw [e, ud_eq]; exact hai
            · rw [ud_ne _ _ e]; exact hq j (by omega)) ⟨⟨CB_row hB hc.1.1 (fun o o1 o2 => sI_row _ _ _ _ (by omega)) hO, hc.1.2.1, by rw [sI_row _ _ _ _ (by decide)]; exact hc.1.2.2⟩, ⟨by rw [sI_row _ _ _ _ (by decide)]; exact hc.2.1.1, hc.2.1.2.imp id (fun z j hj => by rw [sI_row _ _ _ _ (by decide)]; exact z j hj)⟩, fun j hj => by rw [sI_row _ _ _ _ (by decide)]; exact hc.2.2.1 j hj, fun j hj => by
            rw [sI_at]
            by_cases e : j = k
            · rw [if_pos ⟨rfl, e⟩, e, ud_eq]
            · rw [if_neg (fun z => e z.2), ud_ne _ _ e]
              exact hc.2.2.2 j (by omega)⟩
          obtain ⟨σ', q1, q2, q3⟩ := ihm (i + 1) _ σ2 (by omega) (by omega) ⟨g2.1, g2.2.1, g2.2.2.1, fun j hj => by
            have := g2.2.2.2 j (by omega)
            rw [ud_ne _ _ (by omega)] at this
            exact this⟩
          have t102 : Ev_ (P_X7_tryFrom KC (f_X7_tryFrom KC d)) 102 [some (.ref 129), some (.int (nI k)), some (.int (nI used)), some (.int x), some (.int sum), some (.int (nI i)), some (.int (gc_ B (q (k - 1)) (a i) k x))] [] σ1 (none, σ') := by
            refine e_X7_tryFrom_102 ?_
            simp (disch := first | assumption | omega) only [hc.2.2.1 i hi2, sh_1, fa_or, g1, Option.some.injEq, Prod.mk.injEq, Value.int.injEq, exists_and_left, exists_eq_left', and_assoc, true_and, and_true, true_implies, false_implies, not_true_eq_false, not_false_eq_true, li_0, li_1, li_2, li_3, li_4, li_5, li_8, li_9, li_10, li_16, li_20, li_80, li_100, li_130, li_144, li_390, li_400, li_M, li_H, li_of, nI_add, pk_mul, cl_, vp_iff, nI_leI, nI_ltI, nI_eq, Nat.add_zero, Nat.zero_add, Nat.reduceEqDiff, Nat.reduceAdd, eq_self, reduceIte, Bool.false_eq_true, li_neg]
            (repeat' apply And.intro) <;> first | omega | rfl | assumption | exact q1
          refine ⟨σ', e_X7_tryFrom_42 ?_, fun s0 hs => q2 s0 (by rw [tl_, hs]; exact if_neg ht), RWF_tr fr0 (RWF_tr g3 q3)⟩
          unfold gc_ at t102
          by_cases hk1 : k = 1
          · have hk2 : k ≤ 1 := by omega
            rw [if_pos hk1] at t102
            simp (disch := first | assumption | omega) only [hc.1.2.2, hiN, hb_0, hb_n, ht, hc.1.2.1, hB, pk_sub, e132, hc.2.2.1 i hi2, hpt, hk2, Option.some.injEq, Prod.mk.injEq, Value.int.injEq, exists_and_left, exists_eq_left', and_assoc, true_and, and_true, true_implies, false_implies, not_true_eq_false, not_false_eq_true, li_0, li_1, li_2, li_3, li_4, li_5, li_8, li_9, li_10, li_16, li_20, li_80, li_100, li_130, li_144, li_390, li_400, li_M, li_H, li_of, nI_add, pk_mul, cl_, vp_iff, nI_leI, nI_ltI, nI_eq, Nat.add_zero, Nat.zero_add, Nat.reduceEqDiff, Nat.reduceAdd, eq_self, reduceIte, Bool.false_eq_true, li_neg]
            (repeat' apply And.intro) <;> first | omega | rfl | assumption | exact t102
          · have hk2 : ¬ k ≤ 1 := by omega
            rw [if_neg hk1] at t102
            simp (disch := first | assumption | omega) only [hc.1.2.2, hiN, hb_0, hb_n, ht, hc.1.2.1, hB, pk_sub, e132, hc.2.2.1 i hi2, hpt, hk2, hrt, Option.some.injEq, Prod.mk.injEq, Value.int.injEq, exists_and_left, exists_eq_left', and_assoc, true_and, and_true, true_implies, false_implies, not_true_eq_false, not_false_eq_true, li_0, li_1, li_2, li_3, li_4, li_5, li_8, li_9, li_10, li_16, li_20, li_80, li_100, li_130, li_144, li_390, li_400, li_M, li_H, li_of, nI_add, pk_mul, cl_, vp_iff, nI_leI, nI_ltI, nI_eq, Nat.add_zero, Nat.zero_add, Nat.reduceEqDiff, Nat.reduceAdd, eq_self, reduceIte, Bool.false_eq_true, li_neg]
            (repeat' apply And.intro) <;> first | omega | rfl | assumption | exact t102
    obtain ⟨σ', q1, q2, q3⟩ := t42 (N - 1) 1 s σ (by omega) (by omega) h
    refine ⟨σ', z_X7_tryFrom (e_X7_tryFrom_0 ?_), q2 s (by rw [tl_, tl_]; exact if_pos hu0), q3⟩
    simp (disch := first | assumption | omega) only [h.1.2.2, hkN, Option.some.injEq, Prod.mk.injEq, Value.int.injEq, exists_and_left, exists_eq_left', and_assoc, true_and, and_true, true_implies, false_implies, not_true_eq_false, not_false_eq_true, li_0, li_1, li_2, li_3, li_4, li_5, li_8, li_9, li_10, li_16, li_20, li_80, li_100, li_130, li_144, li_390, li_400, li_M, li_H, li_of, nI_add, pk_mul, cl_, vp_iff, nI_leI, nI_ltI, nI_eq, Nat.add_zero, Nat.zero_add, Nat.reduceEqDiff, Nat.reduceAdd, eq_self, reduceIte, Bool.false_eq_true, li_neg]
    exact q1
/-- the reference's -/
def MR_ (μ : St_) (B : Nat → Nat → Nat) (N : Nat) (a q : Nat → Nat) (k : Nat) (s : Int32 × (Nat → Nat)) : Prop := (RX_ μ B ∧ μ.1 219 54 = nI N) ∧ (μ.1 219 52 = s.1 ∧ (s.1 = nM_ ∨ ∀ j, j < N → μ.1 242 j = nI (s.2 j))) ∧ (∀ i, i < N → μ.1 243 i = nI (a i)) ∧ ∀ j, j < k → μ.1 240 j = nI (q j)
def MRF_ (σ σ' : St_) : Prop := fr_ [219, 240, 242] σ σ' ∧ NF2_ [52] 219 σ σ'
theorem MRF_tr {x y z : St_} (h : MRF_ x y) (h2 : MRF_ y z) : MRF_ x z := ⟨fr_tr h.1 h2.1, NF2_tr h.2 h2.2⟩
theorem m_tryChain (hO : BO_ B) (ha : AO_ B N a) : ∀ n k d used q x sum s (μ : St_), k + n = N → 1 ≤ k → n < d → used < 2 ^ 16 → (∀ j, j < k → q j < B 0 1) → MR_ μ B N a q k s → ∃ μ', f_X12_tryChain KC d [.ref 219, .int (nI k), .int (nI used), .int x, .int sum] μ = some (none, μ') ∧ MR_ μ' B N a q k (tc_ B N a n k used q x sum s) ∧ MRF_ μ μ' := by
  have h3 := BO_c hO
  obtain ⟨a1, a2, a3⟩ := ha
  intro n
  induction n with
  | zero =>
    intro k d used q x sum s μ hk h1 hd hu hq h
    obtain rfl : k = N := by omega
    obtain ⟨d, rfl⟩ : ∃ d', d = d' + 1 := ⟨d - 1, by omega⟩
    obtain ⟨⟨hx, h5⟩, ⟨h6, hrow⟩, hA, hQ⟩ := h
    by_cases hg : s.1 < sum
    · have lc : ∀ n' i μ4, i + n' = k → (∀ j, j < k → μ4.1 240 j = nI (q j)) → (∀ j, j < i → μ4.1 242 j = nI (q j)) → ∃ μ', Ev_ (P_X12_tryChain KC (f_X12_tryChain KC d)) 27 [some (.ref 219), some (.int (nI k)), some (.int (nI used)), some (.int x), some (.int sum), some (.int (nI i)), none] [] μ4 (none, μ') ∧ (∀ j, j < k → μ'.1 242 j = nI (q j)) ∧ fr_ [242] μ4 μ' := by
        intro n'
        induction n' with
        | zero =>
          intro i μ4 hi b2 b3
          obtain rfl : i = k := by omega
          refine ⟨μ4, e_X12_tryChain_27 ?_, b3, fr_rf _ _⟩
          simp (disch := first | assumption | omega) only [Nat.le_refl, Option.some.injEq, Prod.mk.injEq, Value.int.injEq, exists_and_left, exists_eq_left', and_assoc, true_and, and_true, true_implies, false_implies, not_true_eq_false, not_false_eq_true, li_0, li_1, li_2, li_3, li_4, li_5, li_8, li_9, li_10, li_16, li_20, li_80, li_100, li_130, li_144, li_390, li_400, li_M, li_H, li_of, nI_add, pk_mul, cl_, vp_iff, nI_leI, nI_ltI, nI_eq, Nat.add_zero, Nat.zero_add, Nat.reduceEqDiff, Nat.reduceAdd, eq_self, reduceIte, Bool.false_eq_true, li_neg]
        | succ n' ihn =>
          intro i μ4 hi b2 b3
          have hi1 : ¬ k ≤ i := by omega
          obtain ⟨μ', c1, c2, c3⟩ := ihn (i + 1) (sI_ μ4 242 i (nI (q i))) (by omega) (fun j hj => by rw [sI_row _ _ _ _ (by decide)]; exact b2 j hj) (fun j hj => by
            rw [sI_at]
            by_cases e : j = i
            · rw [if_pos ⟨rfl, e⟩, e]
            · rw [if_neg (fun z => e z.2)]
              exact b3 j (by omega))
          refine ⟨μ', e_X12_tryChain_27 ?_, c2, fr_tr (fr_sI (by simp)) c3⟩
          simp (disch := first | assumption | omega) only [hi1, b2 i (by omega), Option.some.injEq, Prod.mk.injEq, Value.int.injEq, exists_and_left, exists_eq_left', and_assoc, true_and, and_true, true_implies, false_implies, not_true_eq_false, not_false_eq_true, li_0, li_1, li_2, li_3, li_4, li_5, li_8, li_9, li_10, li_16, li_20, li_80, li_100, li_130, li_144, li_390, li_400, li_M, li_H, li_of, nI_add, pk_mul, cl_, vp_iff, nI_leI, nI_ltI, nI_eq, Nat.add_zero, Nat.zero_add, Nat.reduceEqDiff, Nat.reduceAdd, eq_self, reduceIte, Bool.false_eq_true, li_neg]
          (repeat' apply And.intro) <;> first | omega | rfl | assumption | exact c1
      obtain ⟨μ', l1, l2, l3⟩ := lc k 0 (sI_ μ 219 52 sum) (by omega) (fun j hj => by rw [sI_row _ _ _ _ (by decide)]; exact hQ j hj) (fun j hj => absurd hj (by omega))
      have o219 : μ'.1 219 = (sI_ μ 219 52 sum).1 219 := l3.1 219 (by decide)
      refine ⟨μ', z_X12_tryChain (e_X12_tryChain_0 ?_), by rw [tc_, if_pos hg]; exact ⟨⟨RX_fr (RX_sI hx (by decide)) l3 (by decide), by rw [o219, sI_at, if_neg (by decide)]; exact h5⟩, ⟨by rw [o219, sI_at, if_pos ⟨rfl, rfl⟩], Or.inr l2⟩, fun i hi => by rw [l3.1 243 (by decide), sI_row _ _ _ _ (by decide)]; exact hA i hi, fun j hj => by rw [l3.1 240 (by decide), sI_row _ _ _ _ (by decide)]; exact hQ j hj⟩, fr_tr (fr_sI (by simp)) (fr_mono l3 (by simp)), fun f hf => by rw [o219, sI_at, if_neg (fun z => hf (by rw [z.2]; simp))]⟩
      simp (disch := first | assumption | omega) only [h5, h6, hg, Option.some.injEq, Prod.mk.injEq, Value.int.injEq, exists_and_left, exists_eq_left', and_assoc, true_and, and_true, true_implies, false_implies, not_true_eq_false, not_false_eq_true, li_0, li_1, li_2, li_3, li_4, li_5, li_8, li_9, li_10, li_16, li_20, li_80, li_100, li_130, li_144, li_390, li_400, li_M, li_H, li_of, nI_add, pk_mul, cl_, vp_iff, nI_leI, nI_ltI, nI_eq, Nat.add_zero, Nat.zero_add, Nat.reduceEqDiff, Nat.reduceAdd, eq_self, reduceIte, Bool.false_eq_true, li_neg]
      exact l1
    · refine ⟨μ, z_X12_tryChain (e_X12_tryChain_0 ?_), by rw [tc_, if_neg hg]; exact ⟨⟨hx, h5⟩, ⟨h6, hrow⟩, hA, hQ⟩, fr_rf _ _, fun _ _ => rfl⟩
      simp (disch := first | assumption | omega) only [h5, h6, hg, Option.some.injEq, Prod.mk.injEq, Value.int.injEq, exists_and_left, exists_eq_left', and_assoc, true_and, and_true, true_implies, false_implies, not_true_eq_false, not_false_eq_true, li_0, li_1, li_2, li_3, li_4, li_5, li_8, li_9, li_10, li_16, li_20, li_80, li_100, li_130, li_144, li_390, li_400, li_M, li_H, li_of, nI_add, pk_mul, cl_, vp_iff, nI_leI, nI_ltI, nI_eq, Nat.add_zero, Nat.zero_add, Nat.reduceEqDiff, Nat.reduceAdd, eq_self, reduceIte, Bool.false_eq_true, li_neg]
  | succ n ih =>
    intro k d used q x sum s μ hk h1 hd hu hq h
    obtain ⟨d, rfl⟩ : ∃ d', d = d' + 1 := ⟨d - 1, by omega⟩
    have hkN : ¬ k = N := by omega
    have hk0 : ¬ k = 0 := by omega
    have t57 : ∀ m i s1 (μ1 : St_), i + m = N → MR_ μ1 B N a q k s1 → ∃ μ', Ev_ (P_X12_tryChain KC (f_X12_tryChain KC d)) 57 [some (.ref 219), some (.int (nI k)), some (.int (nI used)), some (.int x), some (.int sum), some (.int (nI i)), none] [] μ1 (none, μ') ∧ (∀ s0, tl_ (fun i s => if used.testBit i = true then s else tc_ B N a n (k + 1) (used ||| 2 ^ i) (ud_ q k (a i)) (gc_ B (q (k - 1)) (a i) k x) (sum + gc_ B (q (k - 1)) (a i) k x) s) i s0 = s1 → MR_ μ' B N a q k (tc_ B N a (n + 1) k used q x sum s0)) ∧ MRF_ μ1 μ' := by
      intro m
      induction m with
      | zero =>
        intro i s1 μ1 hi hc
        obtain rfl : i = N := by omega
        refine ⟨μ1, e_X12_tryChain_57 ?_, fun s0 hs => by rw [tc_, hs]; exact hc, fr_rf _ _, fun _ _ => rfl⟩
        simp (disch := first | assumption | omega) only [hc.1.2, Nat.le_refl, Option.some.injEq, Prod.mk.injEq, Value.int.injEq, exists_and_left, exists_eq_left', and_assoc, true_and, and_true, true_implies, false_implies, not_true_eq_false, not_false_eq_true, li_0, li_1, li_2, li_3, li_4, li_5, li_8, li_9, li_10, li_16, li_20, li_80, li_100, li_130, li_144, li_390, li_400, li_M, li_H, li_of, nI_add, pk_mul, cl_, vp_iff, nI_leI, nI_ltI, nI_eq, Nat.add_zero, Nat.zero_add, Nat.reduceEqDiff, Nat.reduceAdd, eq_self, reduceIte, Bool.false_eq_true, li_neg]
      | succ m ihm =>
        intro i s1 μ1 hi hc
        have hiN : ¬ N ≤ i := by omega
        have hi2 : i < N := by omega
        by_cases ht : used.testBit i = true
        · obtain ⟨μ', q1, q2, q3⟩ := ihm (i + 1) s1 μ1 (by omega) hc
          refine ⟨μ', e_X12_tryChain_57 ?_, fun s0 hs => q2 s0 (by rw [tl_, hs]; exact if_pos ht), q3⟩
          simp (disch := first | assumption | omega) only [hc.1.2, hiN, m_hasK, hb_n, ht, Option.some.injEq, Prod.mk.injEq, Value.int.injEq, exists_and_left, exists_eq_left', and_assoc, true_and, and_true, true_implies, false_implies, not_true_eq_false, not_false_eq_true, li_0, li_1, li_2, li_3, li_4, li_5, li_8, li_9, li_10, li_16, li_20, li_80, li_100, li_130, li_144, li_390, li_400, li_M, li_H, li_of, nI_add, pk_mul, cl_, vp_iff, nI_leI, nI_ltI, nI_eq, Nat.add_zero, Nat.zero_add, Nat.reduceEqDiff, Nat.reduceAdd, eq_self, reduceIte, Bool.false_eq_true, li_neg]
          exact q1
        · have hai := a3 i hi2
          have hqk := hq (k - 1) (by omega)
          have fr0 : MRF_ μ1 (sI_ μ1 240 k (nI (a i))) := ⟨fr_sI (by simp), fun f _ => by rw [sI_row _ _ _ _ (by decide)]⟩
          have hx1 : RX_ (sI_ μ1 240 k (nI (a i))) B := RX_sI hc.1.1 (by decide)
          obtain ⟨μ2, g1, g2, g3⟩ := ih (k + 1) d (used ||| 2 ^ i) (ud_ q k (a i)) (gc_ B (q (k - 1)) (a i) k x) (sum + gc_ B (q (k - 1)) (a i) k x) s1 (sI_ μ1 240 k (nI (a i))) (by omega) (by omega) (by omega) (or_lt hu (two_lt (by omega))) (fun j hj => by
            by_cases e : j = k
            · rw [e, ud_eq]; exact hai
            · rw [ud_ne _ _ e]; exact hq j (by omega)) ⟨⟨hx1, by rw [sI_row _ _ _ _ (by decide)]; exact hc.1.2⟩, ⟨by rw [sI_row _ _ _ _ (by decide)]; exact hc.2.1.1, hc.2.1.2.imp id (fun z j hj => by rw [sI_row _ _ _ _ (by decide)]; exact z j hj)⟩, fun j hj => by rw [sI_row _ _ _ _ (by decide)]; exact hc.2.2.1 j hj, fun j hj => by
            rw [sI_at]
            by_cases e : j = k
            · rw [if_pos ⟨rfl, e⟩, e, ud_eq]
            · rw [if_neg (fun z => e z.2), ud_ne _ _ e]
              exact hc.2.2.2 j (by omega)⟩
          obtain ⟨μ', q1, q2, q3⟩ := ihm (i + 1) _ μ2 (by omega) ⟨g2.1, g2.2.1, g2.2.2.1, fun j hj => by
            have := g2.2.2.2 j (by omega)
            rw [ud_ne _ _ (by omega)] at this
            exact this⟩
          have t141 : Ev_ (P_X12_tryChain KC (f_X12_tryChain KC d)) 141 [some (.ref 219), some (.int (nI k)), some (.int (nI used)), some (.int x), some (.int sum), some (.int (nI i)), none] [.int (gc_ B (q (k - 1)) (a i) k x)] (sI_ μ1 240 k (nI (a i))) (none, μ') := by
            refine e_X12_tryChain_141 ?_
            simp (disch := first | assumption | omega) only [sh_1, fa_or, g1, Option.some.injEq, Prod.mk.injEq, Value.int.injEq, exists_and_left, exists_eq_left', and_assoc, true_and, and_true, true_implies, false_implies, not_true_eq_false, not_false_eq_true, li_0, li_1, li_2, li_3, li_4, li_5, li_8, li_9, li_10, li_16, li_20, li_80, li_100, li_130, li_144, li_390, li_400, li_M, li_H, li_of, nI_add, pk_mul, cl_, vp_iff, nI_leI, nI_ltI, nI_eq, Nat.add_zero, Nat.zero_add, Nat.reduceEqDiff, Nat.reduceAdd, eq_self, reduceIte, Bool.false_eq_true, li_neg]
            exact q1
          have e240 : (sI_ μ1 240 k (nI (a i))).1 240 (k - 1) = nI (q (k - 1)) := by rw [sI_at, if_neg (by omega)]; exact hc.2.2.2 (k - 1) (by omega)
          have e243 : (sI_ μ1 240 k (nI (a i))).1 243 i = nI (a i) := by rw [sI_row _ _ _ _ (by decide)]; exact hc.2.2.1 i hi2
          have gT := m_given (f := 4) hx1 hqk hai x True
          have gF := m_given (f := 4) hx1 hqk hai x False
          rw [if_pos trivial, if_pos trivial] at gT
          rw [if_neg id, if_neg id] at gF
          unfold gc_ at t141
          refine ⟨μ', e_X12_tryChain_57 ?_, fun s0 hs => q2 s0 (by rw [tl_, hs]; exact if_neg ht), MRF_tr fr0 (MRF_tr g3 q3)⟩
          have t87 : Ev_ (P_X12_tryChain KC (f_X12_tryChain KC d)) 87 [some (.ref 219), some (.int (nI k)), some (.int (nI used)), some (.int x), some (.int sum), some (.int (nI i)), none] [] μ1 (none, μ') := by
            refine e_X12_tryChain_87 ?_
            by_cases hk1 : k = 1
            · rw [if_pos hk1] at t141
              subst hk1
              simp (disch := first | assumption | omega) only [hc.2.2.1 i hi2, hk0, pk_sub, e240, e243, gT, Option.some.injEq, Prod.mk.injEq, Value.int.injEq, exists_and_left, exists_eq_left', and_assoc, true_and, and_true, true_implies, false_implies, not_true_eq_false, not_false_eq_true, li_0, li_1, li_2, li_3, li_4, li_5, li_8, li_9, li_10, li_16, li_20, li_80, li_100, li_130, li_144, li_390, li_400, li_M, li_H, li_of, nI_add, pk_mul, cl_, vp_iff, nI_leI, nI_ltI, nI_eq, Nat.add_zero, Nat.zero_add, Nat.reduceEqDiff, Nat.reduceAdd, eq_self, reduceIte, Bool.false_eq_true, li_neg]
              (repeat' apply And.intro) <;> first | omega | rfl | assumption | exact t141
            · rw [if_neg hk1] at t141
              simp (disch := first | assumption | omega) only [hc.2.2.1 i hi2, hk0, pk_sub, hk1, e240, e243, gF, Option.some.injEq, Prod.mk.injEq, Value.int.injEq, exists_and_left, exists_eq_left', and_assoc, true_and, and_true, true_implies, false_implies, not_true_eq_false, not_false_eq_true, li_0, li_1, li_2, li_3, li_4, li_5, li_8, li_9, li_10, li_16, li_20, li_80, li_100, li_130, li_144, li_390, li_400, li_M, li_H, li_of, nI_add, pk_mul, cl_, vp_iff, nI_leI, nI_ltI, nI_eq, Nat.add_zero, Nat.zero_add, Nat.reduceEqDiff, Nat.reduceAdd, eq_self, reduceIte, Bool.false_eq_true, li_neg]
              (repeat' apply And.intro) <;> first | omega | rfl | assumption | exact t141
          simp (disch := first | assumption | omega) only [hc.1.2, hiN, m_hasK, hb_n, ht, hk0, Option.some.injEq, Prod.mk.injEq, Value.int.injEq, exists_and_left, exists_eq_left', and_assoc, true_and, and_true, true_implies, false_implies, not_true_eq_false, not_false_eq_true, li_0, li_1, li_2, li_3, li_4, li_5, li_8, li_9, li_10, li_16, li_20, li_80, li_100, li_130, li_144, li_390, li_400, li_M, li_H, li_of, nI_add, pk_mul, cl_, vp_iff, nI_leI, nI_ltI, nI_eq, Nat.add_zero, Nat.zero_add, Nat.reduceEqDiff, Nat.reduceAdd, eq_self, reduceIte, Bool.false_eq_true, li_neg]
          exact t87
    obtain ⟨μ', q1, q2, q3⟩ := t57 N 0 s μ (by omega) h
    refine ⟨μ', z_X12_tryChain (e_X12_tryChain_0 ?_), q2 s rfl, q3⟩
    simp (disch := first | assumption | omega) only [h.1.2, hkN, Option.some.injEq, Prod.mk.injEq, Value.int.injEq, exists_and_left, exists_eq_left', and_assoc, true_and, and_true, true_implies, false_implies, not_true_eq_false, not_false_eq_true, li_0, li_1, li_2, li_3, li_4, li_5, li_8, li_9, li_10, li_16, li_20, li_80, li_100, li_130, li_144, li_390, li_400, li_M, li_H, li_of, nI_add, pk_mul, cl_, vp_iff, nI_leI, nI_ltI, nI_eq, Nat.add_zero, Nat.zero_add, Nat.reduceEqDiff, Nat.reduceAdd, eq_self, reduceIte, Bool.false_eq_true, li_neg]
    exact q1
end CH
