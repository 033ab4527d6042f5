/-! BEST: the class -/
def tv_ (w r : Nat) : Int32 := if r = w then nM_ else nI r
def CS_ (σ : St_) (b : Nat) (B : Nat → Nat → Nat) (m w : Nat) (v : Nat → Nat) (c : Nat) (s : Int32 × (Nat → Nat)) : Prop :=
  (CB_ σ b B ∧ σ.2.2 99 6 = some b ∧ σ.1 99 7 = nI m ∧ σ.1 99 8 = nI w) ∧ (σ.1 99 9 = s.1 ∧ (s.1 = nM_ ∨ ∀ k, k < m → σ.1 100 k = tv_ w (s.2 k))) ∧ (∀ r, r < w → σ.1 102 r = (st_ B w v c).1 r) ∧ (∀ r d, r < w → d < c → σ.1 103 (16 * r + d) = (st_ B w v c).2.1 (16 * r + d) ∧ σ.1 104 (16 * r + d) = (st_ B w v c).2.2 (16 * r + d)) ∧ ∀ k, k < c → σ.1 101 k = tv_ w (v k)
def SHF_ (σ σ' : St_) : Prop := fr_ [99, 100, 101, 102, 103, 104] σ σ' ∧ NF2_ [9] 99 σ σ'
section BC
variable {σ : St_} {b : Nat} {B : Nat → Nat → Nat} {m w : Nat} {v : Nat → Nat} {c : Nat} {s : Int32 × (Nat → Nat)}
theorem SHF_tr {x y z : St_} (h : SHF_ x y) (h2 : SHF_ y z) : SHF_ x z := ⟨fr_tr h.1 h2.1, NF2_tr h.2 h2.2⟩
theorem SHF_sI {o i : Nat} {x : Int32} (h : o = 100 ∨ o = 101 ∨ o = 102 ∨ o = 103 ∨ o = 104) : SHF_ σ (sI_ σ o i x) := ⟨fr_sI (by simp; omega), fun f _ => by rw [sI_row _ _ _ _ (by omega)]⟩
theorem SHF_rf : SHF_ σ σ := ⟨fr_rf _ _, fun _ _ => rfl⟩
/-- the context that no step changes -/
def CXS_ (σ : St_) (b : Nat) (B : Nat → Nat → Nat) (m w : Nat) : Prop := CB_ σ b B ∧ σ.2.2 99 6 = some b ∧ σ.1 99 7 = nI m ∧ σ.1 99 8 = nI w
theorem CXS_SHF {σ' : St_} (hB : isB b) (hO : BO_ B) (h : CXS_ σ b B m w) (hf : SHF_ σ σ') : CXS_ σ' b B m w := by
  have bn := b_no hB
  exact ⟨CB_row hB h.1 (fun o o1 o2 => hf.1.1 o (by simp; omega)) hO, by rw [hf.1.2]; exact h.2.1, by rw [hf.2 7 (by simp)]; exact h.2.2.1, by rw [hf.2 8 (by simp)]; exact h.2.2.2⟩
theorem c_mostOfRest (hB : isB b) (h : CXS_ σ b B m w) (hO : BO_ B) (hm : m ≤ B 0 0) (hm6 : m ≤ 6) (hw4 : w ≤ 4) : f_X10_mostOfRest KC [.ref 99, .int (nI c)] σ = some (some (.int (nI (w * fb_sm (fun j => B 2 (c + j)) (m - c)))), σ) ∨ m < c := by
  have h3 := BO_c hO
  obtain ⟨hC, h6, h7, h8⟩ := h
  by_cases hc : m < c
  · exact Or.inr hc
  left
  have loop : ∀ n k, c + k + n = m → Ev_ (P_X10_mostOfRest KC) 4 [some (.ref 99), some (.int (nI c)), some (.int (nI (fb_sm (fun j => B 2 (c + j)) k))), some (.int (nI (c + k)))] [] σ (some (.int (nI (w * fb_sm (fun j => B 2 (c + j)) (m - c)))), σ) := by
    intro n
    induction n with
    | zero =>
      intro k hk
      have e : m - c = k := by omega
      have e2 : m ≤ c + k := by omega
      refine e_X10_mostOfRest_4 ?_
      rw [e]
      simp (disch := first | assumption | omega) only [h7, h8, e2, Option.some.injEq, Prod.mk.injEq, Value.int.injEq, exists_and_left, exists_eq_left', and_assoc, true_and, and_true, true_implies, false_implies, not_true_eq_false, not_false_eq_true, li_0, li_1, li_2, li_3, li_4, li_5, li_8, li_9, li_10, li_16, li_20, li_80, li_100, li_130, li_144, li_390, li_400, li_M, li_H, li_of, nI_add, pk_mul, cl_, vp_iff, nI_leI, nI_ltI, nI_eq, Nat.add_zero, Nat.zero_add, Nat.reduceEqDiff, Nat.reduceAdd, eq_self, reduceIte, Bool.false_eq_true, li_neg]
      rw [Nat.mul_comm]
    | succ n ih =>
      intro k hk
      have e2 : ¬ m ≤ c + k := by omega
      have hck : c + k < B 0 0 := by omega
      have ih1 := ih (k + 1) (by omega)
      rw [fb_sm_succ, show c + (k + 1) = c + k + 1 by omega] at ih1
      refine e_X10_mostOfRest_4 ?_
      simp (disch := first | assumption | omega) only [h7, e2, h6, hB, (hC.2.1 (c + k) hck).2.2.1, Option.some.injEq, Prod.mk.injEq, Value.int.injEq, exists_and_left, exists_eq_left', and_assoc, true_and, and_true, true_implies, false_implies, not_true_eq_false, not_false_eq_true, li_0, li_1, li_2, li_3, li_4, li_5, li_8, li_9, li_10, li_16, li_20, li_80, li_100, li_130, li_144, li_390, li_400, li_M, li_H, li_of, nI_add, pk_mul, cl_, vp_iff, nI_leI, nI_ltI, nI_eq, Nat.add_zero, Nat.zero_add, Nat.reduceEqDiff, Nat.reduceAdd, eq_self, reduceIte, Bool.false_eq_true, li_neg]
      (repeat' apply And.intro) <;> first | omega | rfl | assumption | exact ih1
  have l0 := loop (m - c) 0 (by omega)
  exact z_X10_mostOfRest (e_X10_mostOfRest_0 (by rw [Nat.add_zero] at l0; exact l0))
/-- what comes of c, when r READS it -/
theorem c_worthIf (hB : isB b) (h : CXS_ σ b B m w) (hO : BO_ B) (hw : w ≤ B 0 1) (hw4 : w ≤ 4) (hc : c < B 0 0) {r : Nat} (hr : r < w) (E : (Nat → Int32) × (Nat → Int32) × (Nat → Int32)) (hE : ∀ u d, u < w → d < c → σ.1 103 (16 * u + d) = E.2.1 (16 * u + d) ∧ σ.1 104 (16 * u + d) = E.2.2 (16 * u + d)) : ∃ σ', f_X10_worthIfReadBy KC [.ref 99, .int (nI r), .int (nI c)] σ = some (some (.int (wor_ B (es_ B w E c r).2.2 c w)), σ') ∧ (∀ u d, u < w → d < c + 1 → σ'.1 103 (16 * u + d) = (es_ B w E c r).2.1 (16 * u + d) ∧ σ'.1 104 (16 * u + d) = (es_ B w E c r).2.2 (16 * u + d)) ∧ fr_ [103, 104] σ σ' := by
  have h3 := BO_c hO
  have bn := b_no hB
  have hc16 : c < 16 := by omega
  have k103 : KC.1 103 = (14, 64) := rfl
  have k104 : KC.1 104 = (14, 64) := rfl
  have es1 : ∀ u d, u < w → d < 16 → (es_ B w E c r).2.1 (16 * u + d) = if d = c then (if u = r then vR_ B E.2.1 r c else nI 0) else E.2.1 (16 * u + d) := fun u d hu hd => by
    show (if (16 * u + d) % 16 = c ∧ (16 * u + d) / 16 < w then (if (16 * u + d) / 16 = r then vR_ B E.2.1 r c else nI 0) else E.2.1 (16 * u + d)) = _
    rw [show (16 * u + d) % 16 = d by omega, show (16 * u + d) / 16 = u by omega]
    by_cases e : d = c
    · rw [if_pos ⟨e, hu⟩, if_pos e]
    · rw [if_neg (fun z => e z.1), if_neg e]
  have es2 : ∀ u d, u < w → d < 16 → (es_ B w E c r).2.2 (16 * u + d) = if d = c then (if u = r then vR_ B E.2.1 r c else oM_ (gv_ B r u 4 (vR_ B E.2.1 r c)) (nI 1000000 - lk_ B E.2.2 u c)) else E.2.2 (16 * u + d) := fun u d hu hd => by
    show (if (16 * u + d) % 16 = c ∧ (16 * u + d) / 16 < w then (if r = w then nI 0 else if (16 * u + d) / 16 = r then vR_ B E.2.1 r c else oM_ (gv_ B r ((16 * u + d) / 16) 4 (vR_ B E.2.1 r c)) (nI 1000000 - lk_ B E.2.2 ((16 * u + d) / 16) c)) else E.2.2 (16 * u + d)) = _
    rw [show (16 * u + d) % 16 = d by omega, show (16 * u + d) / 16 = u by omega, if_neg (show ¬ r = w by omega)]
    by_cases e : d = c
    · rw [if_pos ⟨e, hu⟩, if_pos e]
    · rw [if_neg (fun z => e z.1), if_neg e]
  have hlr := c_lackAt (σ := σ) (r := r) hB h.1 hO k103 (by omega) E.2.1 (fun d hd => (hE r d hr hd).1) (by omega) hc (by omega)
  have hpr := c_partsRead (c := c) hB h.1 hO (show r < B 0 1 by omega) E.2.1
  have loop : ∀ n u σ1, u + n = w → CXS_ σ1 b B m w → (∀ q d, q < w → d < 16 → (d = c → u ≤ q) → σ1.1 103 (16 * q + d) = σ.1 103 (16 * q + d) ∧ σ1.1 104 (16 * q + d) = σ.1 104 (16 * q + d)) → (∀ q, q < u → σ1.1 103 (16 * q + c) = (es_ B w E c r).2.1 (16 * q + c) ∧ σ1.1 104 (16 * q + c) = (es_ B w E c r).2.2 (16 * q + c)) → ∃ σ', Ev_ (P_X10_worthIfReadBy KC) 31 [some (.ref 99), some (.int (nI r)), some (.int (nI c)), some (.int (vR_ B E.2.1 r c)), some (.int (wor_ B (es_ B w E c r).2.2 c u)), some (.int (nI u)), none, none] [] σ1 (some (.int (wor_ B (es_ B w E c r).2.2 c w)), σ') ∧ (∀ q d, q < w → d < c + 1 → σ'.1 103 (16 * q + d) = (es_ B w E c r).2.1 (16 * q + d) ∧ σ'.1 104 (16 * q + d) = (es_ B w E c r).2.2 (16 * q + d)) ∧ fr_ [103, 104] σ1 σ' := by
    intro n
    induction n with
    | zero =>
      intro u σ1 hu hx g1 g2
      obtain rfl : u = w := by omega
      refine ⟨σ1, e_X10_worthIfReadBy_31 ?_, fun q d hq hd => ?_, fr_rf _ _⟩
      · simp (disch := first | assumption | omega) only [hx.2.2.2, Nat.le_refl, Option.some.injEq, Prod.mk.injEq, Value.int.injEq, exists_and_left, exists_eq_left', and_assoc, true_and, and_true, true_implies, false_implies, not_true_eq_false, not_false_eq_true, li_0, li_1, li_2, li_3, li_4, li_5, li_8, li_9, li_10, li_16, li_20, li_80, li_100, li_130, li_144, li_390, li_400, li_M, li_H, li_of, nI_add, pk_mul, cl_, vp_iff, nI_leI, nI_ltI, nI_eq, Nat.add_zero, Nat.zero_add, Nat.reduceEqDiff, Nat.reduceAdd, eq_self, reduceIte, Bool.false_eq_true, li_neg]
      · by_cases e : d = c
        · rw [e]
          exact g2 q hq
        · rw [es1 q d hq (by omega), es2 q d hq (by omega), if_neg e, if_neg e, (g1 q d hq (by omega) (fun z => absurd z e)).1, (g1 q d hq (by omega) (fun z => absurd z e)).2]
          exact hE q d hq (by omega)
    | succ n ih =>
      intro u σ1 hu hx g1 g2
      have hu1 : ¬ w ≤ u := by omega
      have hu2 : u < w := by omega
      -- the place 131 on
      have t131 : ∀ x1 x2, x1 = (es_ B w E c r).2.1 (16 * u + c) → x2 = (es_ B w E c r).2.2 (16 * u + c) → ∃ σ', Ev_ (P_X10_worthIfReadBy KC) 131 [some (.ref 99), some (.int (nI r)), some (.int (nI c)), some (.int (vR_ B E.2.1 r c)), some (.int (wor_ B (es_ B w E c r).2.2 c u)), some (.int (nI u)), some (.int (nI (16 * u))), none] [] (sI_ (sI_ σ1 103 (16 * u + c) x1) 104 (16 * u + c) x2) (some (.int (wor_ B (es_ B w E c r).2.2 c w)), σ') ∧ (∀ q d, q < w → d < c + 1 → σ'.1 103 (16 * q + d) = (es_ B w E c r).2.1 (16 * q + d) ∧ σ'.1 104 (16 * q + d) = (es_ B w E c r).2.2 (16 * q + d)) ∧ fr_ [103, 104] σ1 σ' := by
        intro x1 x2 hx1 hx2
        have hx' : CXS_ (sI_ (sI_ σ1 103 (16 * u + c) x1) 104 (16 * u + c) x2) b B m w := CXS_SHF hB hO hx (SHF_tr (SHF_sI (by omega)) (SHF_sI (by omega)))
        obtain ⟨σ', q1, q2, q3⟩ := ih (u + 1) (sI_ (sI_ σ1 103 (16 * u + c) x1) 104 (16 * u + c) x2) (by omega) hx' (fun q d hq hd hdc => by
          have hne : ¬ (16 * q + d = 16 * u + c) := fun z => by
            have := hdc (by omega)
            omega
          simp only [sI_at, show ¬ (103 = 104) by decide, show ¬ (104 = 103) by decide, false_and, if_false, hne, and_false]
          exact g1 q d hq hd (fun z => by have := hdc z; omega)) (fun q hq => by
          by_cases e : q = u
          · rw [e]
            simp [sI_at, hx1, hx2]
          · have hne : ¬ (16 * q + c = 16 * u + c) := by omega
            simp only [sI_at, show ¬ (103 = 104) by decide, show ¬ (104 = 103) by decide, false_and, if_false, hne, and_false]
            exact g2 q (by omega))
        have e104 : (sI_ (sI_ σ1 103 (16 * u + c) x1) 104 (16 * u + c) x2).1 104 (16 * u + c) = (es_ B w E c r).2.2 (16 * u + c) := by simp [sI_at, hx2]
        refine ⟨σ', e_X10_worthIfReadBy_131 ?_, q2, fr_tr (fr_sI (by simp)) (fr_tr (fr_sI (by simp)) q3)⟩
        simp (disch := first | assumption | omega) only [hx'.2.1, hB, (hx'.1.2.1 c hc).2.2.1, e104, c_ofMillion, Option.some.injEq, Prod.mk.injEq, Value.int.injEq, exists_and_left, exists_eq_left', and_assoc, true_and, and_true, true_implies, false_implies, not_true_eq_false, not_false_eq_true, li_0, li_1, li_2, li_3, li_4, li_5, li_8, li_9, li_10, li_16, li_20, li_80, li_100, li_130, li_144, li_390, li_400, li_M, li_H, li_of, nI_add, pk_mul, cl_, vp_iff, nI_leI, nI_ltI, nI_eq, Nat.add_zero, Nat.zero_add, Nat.reduceEqDiff, Nat.reduceAdd, eq_self, reduceIte, Bool.false_eq_true, li_neg]
        (repeat' apply And.intro) <;> first | omega | rfl | assumption | exact q1
      by_cases e : u = r
      · obtain ⟨σ', q1, q2⟩ := t131 (vR_ B E.2.1 r c) (vR_ B E.2.1 r c) (by rw [es1 u c hu2 hc16, if_pos rfl, if_pos e]) (by rw [es2 u c hu2 hc16, if_pos rfl, if_pos e])
        refine ⟨σ', e_X10_worthIfReadBy_31 ?_, q2⟩
        have hu1' : ¬ w ≤ r := by omega
        rw [e] at q1 ⊢
        simp (disch := first | assumption | omega) only [mul16, hx.2.2.2, hu1', Option.some.injEq, Prod.mk.injEq, Value.int.injEq, exists_and_left, exists_eq_left', and_assoc, true_and, and_true, true_implies, false_implies, not_true_eq_false, not_false_eq_true, li_0, li_1, li_2, li_3, li_4, li_5, li_8, li_9, li_10, li_16, li_20, li_80, li_100, li_130, li_144, li_390, li_400, li_M, li_H, li_of, nI_add, pk_mul, cl_, vp_iff, nI_leI, nI_ltI, nI_eq, Nat.add_zero, Nat.zero_add, Nat.reduceEqDiff, Nat.reduceAdd, eq_self, reduceIte, Bool.false_eq_true, li_neg]
        (repeat' apply And.intro) <;> first | omega | rfl | assumption | exact q1
      · have e2 : (es_ B w E c r).2.2 (16 * u + c) = oM_ (gv_ B r u 4 (vR_ B E.2.1 r c)) (nI 1000000 - lk_ B E.2.2 u c) := by rw [es2 u c hu2 hc16, if_pos rfl, if_neg e]
        obtain ⟨σ', q1, q2⟩ := t131 (nI 0) (oM_ (gv_ B r u 4 (vR_ B E.2.1 r c)) (nI 1000000 - lk_ B E.2.2 u c)) (by rw [es1 u c hu2 hc16, if_pos rfl, if_neg e]) e2.symm
        have hlu := c_lackAt (σ := σ1) (r := u) hB hx.1 hO k104 (by omega) E.2.2 (fun d hd => by rw [(g1 u d hu2 (by omega) (fun z => absurd z (by omega))).2]; exact (hE u d hu2 hd).2) (by omega) hc (by omega)
        have hx3 : CXS_ (sI_ σ1 103 (16 * u + c) (nI 0)) b B m w := CXS_SHF hB hO hx (SHF_sI (by omega))
        have hpt := c_partsTold (f := 4) hB hx3.1 hO (show r < B 0 1 by omega) (show u < B 0 1 by omega) (vR_ B E.2.1 r c)
        refine ⟨σ', e_X10_worthIfReadBy_31 ?_, q2⟩
        simp (disch := first | assumption | omega) only [mul16, hx.2.2.2, hu1, e, hx.2.1, hB, hlu, hx3.2.1, hpt, c_ofMillion, Option.some.injEq, Prod.mk.injEq, Value.int.injEq, exists_and_left, exists_eq_left', and_assoc, true_and, and_true, true_implies, false_implies, not_true_eq_false, not_false_eq_true, li_0, li_1, li_2, li_3, li_4, li_5, li_8, li_9, li_10, li_16, li_20, li_80, li_100, li_130, li_144, li_390, li_400, li_M, li_H, li_of, nI_add, pk_mul, cl_, vp_iff, nI_leI, nI_ltI, nI_eq, Nat.add_zero, Nat.zero_add, Nat.reduceEqDiff, Nat.reduceAdd, eq_self, reduceIte, Bool.false_eq_true, li_neg]
        (repeat' apply And.intro) <;> first | omega | rfl | assumption | exact q1
  obtain ⟨σ', q1, q2, q3⟩ := loop w 0 σ (by omega) h (fun _ _ _ _ _ => ⟨rfl, rfl⟩) (fun q hq => absurd hq (by omega))
  refine ⟨σ', z_X10_worthIfReadBy (e_X10_worthIfReadBy_0 ?_), q2, q3⟩
  simp (disch := first | assumption | omega) only [mul16, h.2.1, hB, hlr, hpr, Option.some.injEq, Prod.mk.injEq, Value.int.injEq, exists_and_left, exists_eq_left', and_assoc, true_and, and_true, true_implies, false_implies, not_true_eq_false, not_false_eq_true, li_0, li_1, li_2, li_3, li_4, li_5, li_8, li_9, li_10, li_16, li_20, li_80, li_100, li_130, li_144, li_390, li_400, li_M, li_H, li_of, nI_add, pk_mul, cl_, vp_iff, nI_leI, nI_ltI, nI_eq, Nat.add_zero, Nat.zero_add, Nat.reduceEqDiff, Nat.reduceAdd, eq_self, reduceIte, Bool.false_eq_true, li_neg]
  exact q1
theorem oM_0 (x : Int32) : oM_ x (nI 0) = nI 0 := by
  unfold oM_
  rw [show Int32.toInt64 (nI 0) = 0 by decide, Int64.mul_zero]
  decide
theorem wor_0 {p : Nat → Int32} {c : Nat} : ∀ n, (∀ u, u < n → p (16 * u + c) = nI 0) → wor_ B p c n = nI 0
  | 0, _ => rfl
  | n + 1, h => by
    rw [wor_, wor_0 n (fun u hu => h u (by omega)), h n (by omega), oM_0]
    rfl
/-- the search -/
theorem c_tryFrom (hB : isB b) (hO : BO_ B) (hm : m ≤ B 0 0) (hm6 : m ≤ 6) (hw : w ≤ B 0 1) (hw4 : w ≤ 4) : ∀ n c d v s (σ : St_), c + n = m → n < d → (∀ k, k < c → v k ≤ w) → CS_ σ b B m w v c s → okv_ B w v c → ∃ σ', f_X10_tryFrom KC d [.ref 99, .int (nI c), .int (val_ B w v c)] σ = some (none, σ') ∧ CS_ σ' b B m w v c (tr_ B m w n c v s) ∧ SHF_ σ σ' := by
  have h3 := BO_c hO
  have bn := b_no hB
  intro n
  induction n with
  | zero =>
    intro c d v s σ hc hd hv h hok
    obtain rfl : c = m := by omega
    obtain ⟨d, rfl⟩ : ∃ d', d = d' + 1 := ⟨d - 1, by omega⟩
    obtain ⟨⟨hC, h6, h7, h8⟩, ⟨h9, hrow⟩, hl, hp, ht⟩ := h
    have e99 : ∀ x, (sI_ σ 99 9 x).1 99 7 = nI c := fun x => by rw [sI_at, if_neg (by decide)]; exact h7
    by_cases hg : s.1 < val_ B w v c
    · have e : tr_ B c w 0 c v s = (val_ B w v c, v) := by rw [tr_, if_pos ⟨hok, hg⟩]
      have hg2 := Int32.not_le.mpr hg
      obtain ⟨σ2, g1, g2, g3, g4⟩ := c_copyRow (σ := sI_ σ 99 9 (val_ B w v c)) (q0 := 101) (q1 := 100) (m := c) (n0 := 6) (n1 := 6) rfl rfl hm6 hm6 (by decide) (by decide)
      have o1 : ∀ o, o ≠ 99 → o ≠ 100 → σ2.1 o = σ.1 o := fun o o1 o2 => (g2.1 o (by simp [o2])).trans (sI_row _ _ _ _ o1)
      have o99 : σ2.1 99 = (sI_ σ 99 9 (val_ B w v c)).1 99 := g2.1 99 (by decide)
      have fr0 : SHF_ σ σ2 := ⟨fr_tr (fr_sI (by simp)) (fr_mono g2 (by simp)), fun f hf => by rw [o99, sI_at, if_neg (fun z => hf (by rw [z.2]; simp))]⟩
      have hx2 := CXS_SHF (m := c) (w := w) hB hO ⟨hC, h6, h7, h8⟩ fr0
      rw [e]
      refine ⟨σ2, z_X10_tryFrom (e_X10_tryFrom_0 ?_), ⟨hx2, ⟨by rw [o99, sI_at, if_pos ⟨rfl, rfl⟩], Or.inr (fun k hk => by rw [g3 k hk, sI_row _ _ _ _ (by decide)]; exact ht k hk)⟩, fun r hr => by rw [o1 102 (by decide) (by decide)]; exact hl r hr, fun r d hr hd => by rw [o1 103 (by decide) (by decide), o1 104 (by decide) (by decide)]; exact hp r d hr hd, fun k hk => by rw [o1 101 (by decide) (by decide)]; exact ht k hk⟩, fr0⟩
      simp (disch := first | assumption | omega) only [h7, Nat.lt_irrefl, h9, hg2, e99, g1, Option.some.injEq, Prod.mk.injEq, Value.int.injEq, exists_and_left, exists_eq_left', and_assoc, true_and, and_true, true_implies, false_implies, not_true_eq_false, not_false_eq_true, li_0, li_1, li_2, li_3, li_4, li_5, li_8, li_9, li_10, li_16, li_20, li_80, li_100, li_130, li_144, li_390, li_400, li_M, li_H, li_of, nI_add, pk_mul, cl_, vp_iff, nI_leI, nI_ltI, nI_eq, Nat.add_zero, Nat.zero_add, Nat.reduceEqDiff, Nat.reduceAdd, eq_self, reduceIte, Bool.false_eq_true, li_neg]
    · have e : tr_ B c w 0 c v s = s := by rw [tr_, if_neg (fun z => hg z.2)]
      have hg2 := Int32.not_lt.mp hg
      rw [e]
      refine ⟨σ, z_X10_tryFrom (e_X10_tryFrom_0 ?_), ⟨⟨hC, h6, h7, h8⟩, ⟨h9, hrow⟩, hl, hp, ht⟩, SHF_rf⟩
      simp (disch := first | assumption | omega) only [h7, Nat.lt_irrefl, h9, hg2, Option.some.injEq, Prod.mk.injEq, Value.int.injEq, exists_and_left, exists_eq_left', and_assoc, true_and, and_true, true_implies, false_implies, not_true_eq_false, not_false_eq_true, li_0, li_1, li_2, li_3, li_4, li_5, li_8, li_9, li_10, li_16, li_20, li_80, li_100, li_130, li_144, li_390, li_400, li_M, li_H, li_of, nI_add, pk_mul, cl_, vp_iff, nI_leI, nI_ltI, nI_eq, Nat.add_zero, Nat.zero_add, Nat.reduceEqDiff, Nat.reduceAdd, eq_self, reduceIte, Bool.false_eq_true, li_neg]
  | succ n ih =>
    intro c d v s σ hc hd hv h hok
    obtain ⟨d, rfl⟩ : ∃ d', d = d' + 1 := ⟨d - 1, by omega⟩
    have hcm : c < m := by omega
    have hcB : c < B 0 0 := by omega
    have hc16 : c < 16 := by omega
    have hx : CXS_ σ b B m w := h.1
    obtain ⟨N, hNb, hN⟩ := val_n (v := v) hO hw c 0 (by omega) (fun d hd => hv d (by omega)) 0 rfl
    rw [Nat.zero_add, Nat.zero_add] at hN
    have hbd : N + w * fb_sm (fun j => B 2 (c + j)) (n + 1) < 2 ^ 30 := by
      have b1 : fb_sm (fun j => B 2 (0 + j)) c ≤ c * 999 := fb_sm_bound (fun k hk => by have := BO_cc hO (show 0 + k < B 0 0 by omega); omega)
      have b2 : fb_sm (fun j => B 2 (c + j)) (n + 1) ≤ (n + 1) * 999 := fb_sm_bound (fun k hk => by have := BO_cc hO (show c + k < B 0 0 by omega); omega)
      have b1' : fb_sm (fun j => B 2 (0 + j)) c ≤ 5994 := by omega
      have b2' : fb_sm (fun j => B 2 (c + j)) (n + 1) ≤ 5994 := by omega
      have b3 : w * fb_sm (fun j => B 2 (0 + j)) c ≤ 4 * 5994 := Nat.mul_le_mul hw4 b1'
      have b4 : w * fb_sm (fun j => B 2 (c + j)) (n + 1) ≤ 4 * 5994 := Nat.mul_le_mul hw4 b2'
      omega
    have hmr := (c_mostOfRest (c := c) hB hx hO hm hm6 hw4).elim id (fun z => by omega)
    rw [show m - c = n + 1 by omega] at hmr
    by_cases hpr : s.1 < nI (N + w * fb_sm (fun j => B 2 (c + j)) (n + 1))
    · -- none of READERS: c by nobody
      have t143 : ∀ s1 (σ1 : St_), CS_ σ1 b B m w v c s1 → ∃ σ', Ev_ (P_X10_tryFrom KC (f_X10_tryFrom KC d)) 143 [some (.ref 99), some (.int (nI c)), some (.int (val_ B w v c)), some (.int (nI 0)), none] [] (sI_ σ1 101 c nM_) (none, σ') ∧ CS_ σ' b B m w v c (tr_ B m w n (c + 1) (ud_ v c w) s1) ∧ SHF_ σ1 σ' := by
        intro s1 σ1 h1
        have hv' : ∀ k, k < c → ud_ v c w k = v k := fun k hk => ud_ne _ _ (by omega)
        have hst : st_ B w (ud_ v c w) c = st_ B w v c := st_cg c hv'
        have hst1 : st_ B w (ud_ v c w) (c + 1) = es_ B w (st_ B w v c) c w := by rw [st_, hst, ud_eq]
        have es1 : ∀ u d, u < w → d < 16 → (es_ B w (st_ B w v c) c w).2.1 (16 * u + d) = if d = c then nI 0 else (st_ B w v c).2.1 (16 * u + d) := fun u d hu hd => by
          show (if (16 * u + d) % 16 = c ∧ (16 * u + d) / 16 < w then (if (16 * u + d) / 16 = w then _ else nI 0) else _) = _
          rw [show (16 * u + d) % 16 = d by omega, show (16 * u + d) / 16 = u by omega]
          by_cases e : d = c
          · rw [if_pos ⟨e, hu⟩, if_pos e, if_neg (show ¬ u = w by omega)]
          · rw [if_neg (fun z => e z.1), if_neg e]
        have es2 : ∀ u d, u < w → d < 16 → (es_ B w (st_ B w v c) c w).2.2 (16 * u + d) = if d = c then nI 0 else (st_ B w v c).2.2 (16 * u + d) := fun u d hu hd => by
          show (if (16 * u + d) % 16 = c ∧ (16 * u + d) / 16 < w then (if w = w then nI 0 else _) else _) = _
          rw [show (16 * u + d) % 16 = d by omega, show (16 * u + d) / 16 = u by omega]
          by_cases e : d = c
          · rw [if_pos ⟨e, hu⟩, if_pos e, if_pos rfl]
          · rw [if_neg (fun z => e z.1), if_neg e]
        have hval : val_ B w (ud_ v c w) (c + 1) = val_ B w v c := by
          rw [val_, val_cg c hv', hst1, wor_0 w (fun u hu => by rw [es2 u c hu hc16, if_pos rfl])]
          exact nI_add0 _
        have lz : ∀ k r σ2, r + k = w → CXS_ σ2 b B m w → (σ2.1 99 9 = s1.1 ∧ (s1.1 = nM_ ∨ ∀ k, k < m → σ2.1 100 k = tv_ w (s1.2 k))) → (∀ q, q < w → σ2.1 102 q = (st_ B w v c).1 q) → (∀ q d, q < w → d < c → σ2.1 103 (16 * q + d) = (st_ B w v c).2.1 (16 * q + d) ∧ σ2.1 104 (16 * q + d) = (st_ B w v c).2.2 (16 * q + d)) → (∀ q, q < r → σ2.1 103 (16 * q + c) = nI 0 ∧ σ2.1 104 (16 * q + c) = nI 0) → (∀ k, k < c → σ2.1 101 k = tv_ w (v k)) → σ2.1 101 c = nM_ → ∃ σ', Ev_ (P_X10_tryFrom KC (f_X10_tryFrom KC d)) 143 [some (.ref 99), some (.int (nI c)), some (.int (val_ B w v c)), some (.int (nI r)), none] [] σ2 (none, σ') ∧ CS_ σ' b B m w v c (tr_ B m w n (c + 1) (ud_ v c w) s1) ∧ SHF_ σ2 σ' := by
          intro k
          induction k with
          | zero =>
            intro r σ2 hr hx2 g9 g2 g3 g4 g5 g6
            obtain rfl : r = w := by omega
            have hcs : CS_ σ2 b B m r (ud_ v c r) (c + 1) s1 := by
              refine ⟨hx2, g9, fun q hq => ?_, fun q d hq hd => ?_, fun k hk => ?_⟩
              · rw [hst1, g2 q hq]
                show _ = (if r = r then (st_ B r v c).1 else _) q
                rw [if_pos rfl]
              · rw [hst1, es1 q d hq (by omega), es2 q d hq (by omega)]
                by_cases e : d = c
                · rw [if_pos e, if_pos e, e]
                  exact g4 q hq
                · rw [if_neg e, if_neg e]
                  exact g3 q d hq (by omega)
              · by_cases e : k = c
                · rw [e, ud_eq, g6]
                  exact (if_pos rfl).symm
                · rw [ud_ne _ _ e]
                  exact g5 k (by omega)
            obtain ⟨σ', q1, q2, q3⟩ := ih (c + 1) d (ud_ v c r) s1 σ2 (by omega) (by omega) (fun k hk => by
              by_cases e : k = c
              · rw [e, ud_eq]; exact Nat.le_refl _
              · rw [ud_ne _ _ e]; exact hv k (by omega)) hcs (okv_ud.mpr ⟨hok, Or.inl rfl⟩)
            rw [hval] at q1
            have q99 := q2.2.1
            refine ⟨σ', e_X10_tryFrom_143 ?_, ⟨q2.1, q99, fun q hq => ?_, fun q d hq hd => ?_, fun k hk => ?_⟩, q3⟩
            · simp (disch := first | assumption | omega) only [hx2.2.2.2, Nat.le_refl, q1, Option.some.injEq, Prod.mk.injEq, Value.int.injEq, exists_and_left, exists_eq_left', and_assoc, true_and, and_true, true_implies, false_implies, not_true_eq_false, not_false_eq_true, li_0, li_1, li_2, li_3, li_4, li_5, li_8, li_9, li_10, li_16, li_20, li_80, li_100, li_130, li_144, li_390, li_400, li_M, li_H, li_of, nI_add, pk_mul, cl_, vp_iff, nI_leI, nI_ltI, nI_eq, Nat.add_zero, Nat.zero_add, Nat.reduceEqDiff, Nat.reduceAdd, eq_self, reduceIte, Bool.false_eq_true, li_neg]
            · rw [q2.2.2.1 q hq, hst1]
              show (if r = r then (st_ B r v c).1 else _) q = _
              rw [if_pos rfl]
            · have := q2.2.2.2.1 q d hq (by omega)
              rw [hst1, es1 q d hq (by omega), es2 q d hq (by omega), if_neg (by omega), if_neg (by omega)] at this
              exact this
            · have := q2.2.2.2.2 k (by omega)
              rw [ud_ne _ _ (by omega)] at this
              exact this
          | succ k ihk =>
            intro r σ2 hr hx2 g9 g2 g3 g4 g5 g6
            have hr1 : ¬ w ≤ r := by omega
            have fr0 : SHF_ σ2 (sI_ (sI_ σ2 103 (16 * r + c) (nI 0)) 104 (16 * r + c) (nI 0)) := SHF_tr (SHF_sI (by omega)) (SHF_sI (by omega))
            have ne1 : ∀ q d, d < 16 → ¬ (q = r ∧ d = c) → ¬ 16 * q + d = 16 * r + c := fun q d hd hn z => hn ⟨by omega, by omega⟩
            obtain ⟨σ', q1, q2, q3⟩ := ihk (r + 1) (sI_ (sI_ σ2 103 (16 * r + c) (nI 0)) 104 (16 * r + c) (nI 0)) (by omega) (CXS_SHF hB hO hx2 fr0) ⟨by simp [sI_at]; exact g9.1, g9.2.imp id (fun z k hk => by simp only [sI_at, show ¬ (100 = 104) by decide, show ¬ (100 = 103) by decide, false_and, if_false]; exact z k hk)⟩ (fun q hq => by simp [sI_at]; exact g2 q hq) (fun q d hq hd => by
              have hne := ne1 q d (by omega) (fun z => by omega)
              simp only [sI_at, show ¬ (103 = 104) by decide, show ¬ (104 = 103) by decide, false_and, if_false, hne, and_false]
              exact g3 q d hq hd) (fun q hq => by
              by_cases e : q = r
              · rw [e]; simp [sI_at]
              · have hne := ne1 q c hc16 (fun z => e z.1)
                simp only [sI_at, show ¬ (103 = 104) by decide, show ¬ (104 = 103) by decide, false_and, if_false, hne, and_false]
                exact g4 q (by omega)) (fun k hk => by simp [sI_at]; exact g5 k hk) (by simp [sI_at]; exact g6)
            refine ⟨σ', e_X10_tryFrom_143 ?_, q2, SHF_tr fr0 q3⟩
            simp (disch := first | assumption | omega) only [mul16, hx2.2.2.2, hr1, Option.some.injEq, Prod.mk.injEq, Value.int.injEq, exists_and_left, exists_eq_left', and_assoc, true_and, and_true, true_implies, false_implies, not_true_eq_false, not_false_eq_true, li_0, li_1, li_2, li_3, li_4, li_5, li_8, li_9, li_10, li_16, li_20, li_80, li_100, li_130, li_144, li_390, li_400, li_M, li_H, li_of, nI_add, pk_mul, cl_, vp_iff, nI_leI, nI_ltI, nI_eq, Nat.add_zero, Nat.zero_add, Nat.reduceEqDiff, Nat.reduceAdd, eq_self, reduceIte, Bool.false_eq_true, li_neg]
            (repeat' apply And.intro) <;> first | omega | rfl | assumption | exact q1
        have fr1 : SHF_ σ1 (sI_ σ1 101 c nM_) := SHF_sI (by omega)
        obtain ⟨σ', q1, q2, q3⟩ := lz w 0 (sI_ σ1 101 c nM_) (by omega) (CXS_SHF hB hO h1.1 fr1) ⟨by rw [sI_row _ _ _ _ (by decide)]; exact h1.2.1.1, h1.2.1.2.imp id (fun z k hk => by rw [sI_row _ _ _ _ (by decide)]; exact z k hk)⟩ (fun q hq => by rw [sI_row _ _ _ _ (by decide)]; exact h1.2.2.1 q hq) (fun q d hq hd => by rw [sI_row _ _ _ _ (by decide), sI_row _ _ _ _ (by decide)]; exact h1.2.2.2.1 q d hq hd) (fun q hq => absurd hq (by omega)) (fun k hk => by rw [sI_at, if_neg (by omega)]; exact h1.2.2.2.2 k hk) (by rw [sI_at, if_pos ⟨rfl, rfl⟩])
        exact ⟨σ', q1, q2, SHF_tr fr1 q3⟩
      -- READER by READER
      have t54 : ∀ k r s1 (σ1 : St_), r + k = w → CS_ σ1 b B m w v c s1 → ∃ σ', Ev_ (P_X10_tryFrom KC (f_X10_tryFrom KC d)) 54 [some (.ref 99), some (.int (nI c)), some (.int (val_ B w v c)), some (.int (nI r)), none] [] σ1 (none, σ') ∧ (∀ s0, tl_ (fun r s => tr_ B m w n (c + 1) (ud_ v c r) s) r s0 = s1 → CS_ σ' b B m w v c (tr_ B m w (n + 1) c v s0)) ∧ SHF_ σ1 σ' := by
        intro k
        induction k with
        | zero =>
          intro r s1 σ1 hr h1
          obtain rfl : r = w := by omega
          obtain ⟨σ', q1, q2, q3⟩ := t143 s1 σ1 h1
          refine ⟨σ', e_X10_tryFrom_54 ?_, fun s0 hs => by rw [tr_, tl_, hs]; exact q2, q3⟩
          simp (disch := first | assumption | omega) only [h1.1.2.2.2, Nat.le_refl, Option.some.injEq, Prod.mk.injEq, Value.int.injEq, exists_and_left, exists_eq_left', and_assoc, true_and, and_true, true_implies, false_implies, not_true_eq_false, not_false_eq_true, li_0, li_1, li_2, li_3, li_4, li_5, li_8, li_9, li_10, li_16, li_20, li_80, li_100, li_130, li_144, li_390, li_400, li_M, li_H, li_of, nI_add, pk_mul, cl_, vp_iff, nI_leI, nI_ltI, nI_eq, Nat.add_zero, Nat.zero_add, Nat.reduceEqDiff, Nat.reduceAdd, eq_self, reduceIte, Bool.false_eq_true, li_neg]
          (repeat' apply And.intro) <;> first | omega | rfl | assumption | exact q1
        | succ k ihk =>
          intro r s1 σ1 hr h1
          have hr1 : ¬ w ≤ r := by omega
          have hr2 : r < w := by omega
          have hrt := c_readTime hB h1.1.1 hO (show r < B 0 1 by omega) hcB
          have hlr := h1.2.2.1 r hr2
          by_cases ht : (st_ B w v c).1 r < nI (tR_ B r c)
          · have hno : tr_ B m w n (c + 1) (ud_ v c r) s1 = s1 := tr_no n (c + 1) (ud_ v c r) s1 (by omega) (fun z => by
              rcases (okv_ud.mp z).2 with y | y
              · omega
              · exact y ht)
            obtain ⟨σ', q1, q2, q3⟩ := ihk (r + 1) s1 σ1 (by omega) h1
            refine ⟨σ', e_X10_tryFrom_54 ?_, fun s0 hs => q2 s0 (by rw [tl_, hs]; exact hno), q3⟩
            simp (disch := first | assumption | omega) only [h1.1.2.2.2, hr1, h1.1.2.1, hB, hrt, hlr, ht, Option.some.injEq, Prod.mk.injEq, Value.int.injEq, exists_and_left, exists_eq_left', and_assoc, true_and, and_true, true_implies, false_implies, not_true_eq_false, not_false_eq_true, li_0, li_1, li_2, li_3, li_4, li_5, li_8, li_9, li_10, li_16, li_20, li_80, li_100, li_130, li_144, li_390, li_400, li_M, li_H, li_of, nI_add, pk_mul, cl_, vp_iff, nI_leI, nI_ltI, nI_eq, Nat.add_zero, Nat.zero_add, Nat.reduceEqDiff, Nat.reduceAdd, eq_self, reduceIte, Bool.false_eq_true, li_neg]
            (repeat' apply And.intro) <;> first | omega | rfl | assumption | exact q1
          · have hv' : ∀ k, k < c → ud_ v c r k = v k := fun k hk => ud_ne _ _ (by omega)
            have hst : st_ B w (ud_ v c r) c = st_ B w v c := st_cg c hv'
            have hst1 : st_ B w (ud_ v c r) (c + 1) = es_ B w (st_ B w v c) c r := by rw [st_, hst, ud_eq]
            have fr1 : SHF_ σ1 (sI_ (sI_ σ1 102 r ((st_ B w v c).1 r - nI (tR_ B r c))) 101 c (nI r)) := SHF_tr (SHF_sI (by omega)) (SHF_sI (by omega))
            have hx1 := CXS_SHF hB hO h1.1 fr1
            obtain ⟨σ2, g1, g2, g3⟩ := c_worthIf (c := c) (r := r) hB hx1 hO hw hw4 hcB hr2 (st_ B w v c) (fun u d hu hd => by rw [sI_row _ _ _ _ (by decide), sI_row _ _ _ _ (by decide), sI_row _ _ _ _ (by decide), sI_row _ _ _ _ (by decide)]; exact h1.2.2.2.1 u d hu hd)
            have fr2 : SHF_ (sI_ (sI_ σ1 102 r ((st_ B w v c).1 r - nI (tR_ B r c))) 101 c (nI r)) σ2 := ⟨fr_mono g3 (by simp), fun f _ => by rw [g3.1 99 (by decide)]⟩
            have o2 : ∀ o, o ≠ 103 → o ≠ 104 → σ2.1 o = (sI_ (sI_ σ1 102 r ((st_ B w v c).1 r - nI (tR_ B r c))) 101 c (nI r)).1 o := fun o o1 o2 => g3.1 o (by simp [o1, o2])
            have hval : val_ B w (ud_ v c r) (c + 1) = val_ B w v c + wor_ B (es_ B w (st_ B w v c) c r).2.2 c w := by rw [val_, val_cg c hv', hst1]
            have hcs : CS_ σ2 b B m w (ud_ v c r) (c + 1) s1 := by
              refine ⟨CXS_SHF hB hO hx1 fr2, ⟨?_, h1.2.1.2.imp id (fun z k hk => ?_)⟩, fun q hq => ?_, fun q d hq hd => ?_, fun k hk => ?_⟩
              · rw [o2 99 (by decide) (by decide), sI_row _ _ _ _ (by decide), sI_row _ _ _ _ (by decide)]
                exact h1.2.1.1
              · rw [o2 100 (by decide) (by decide), sI_row _ _ _ _ (by decide), sI_row _ _ _ _ (by decide)]
                exact z k hk
              · rw [hst1, o2 102 (by decide) (by decide), sI_row _ _ _ _ (by decide), sI_at]
                show _ = (if r = w then (st_ B w v c).1 else ud_ (st_ B w v c).1 r ((st_ B w v c).1 r - nI (tR_ B r c))) q
                rw [if_neg (show ¬ r = w by omega)]
                by_cases e : q = r
                · rw [if_pos ⟨rfl, e⟩, e, ud_eq]
                · rw [if_neg (fun z => e z.2), ud_ne _ _ e]
                  exact h1.2.2.1 q hq
              · rw [hst1]
                exact g2 q d hq hd
              · rw [o2 101 (by decide) (by decide), sI_at]
                by_cases e : k = c
                · rw [if_pos ⟨rfl, e⟩, e, ud_eq]
                  exact (if_neg (show ¬ r = w by omega)).symm
                · rw [if_neg (fun z => e z.2), ud_ne _ _ e, sI_row _ _ _ _ (by decide)]
                  exact h1.2.2.2.2 k (by omega)
            obtain ⟨σ3, k1, k2, k3⟩ := ih (c + 1) d (ud_ v c r) s1 σ2 (by omega) (by omega) (fun k hk => by
              by_cases e : k = c
              · rw [e, ud_eq]; omega
              · rw [ud_ne _ _ e]; exact hv k (by omega)) hcs (okv_ud.mpr ⟨hok, Or.inr ht⟩)
            rw [hval] at k1
            have hl3 : σ3.1 102 r = (st_ B w v c).1 r - nI (tR_ B r c) := by
              rw [k2.2.2.1 r hr2, hst1]
              show (if r = w then (st_ B w v c).1 else ud_ (st_ B w v c).1 r ((st_ B w v c).1 r - nI (tR_ B r c))) r = _
              rw [if_neg (show ¬ r = w by omega), ud_eq]
            have fr3 : SHF_ σ3 (sI_ σ3 102 r ((st_ B w v c).1 r - nI (tR_ B r c) + nI (tR_ B r c))) := SHF_sI (by omega)
            obtain ⟨σ', q1, q2, q3⟩ := ihk (r + 1) (tr_ B m w n (c + 1) (ud_ v c r) s1) (sI_ σ3 102 r ((st_ B w v c).1 r - nI (tR_ B r c) + nI (tR_ B r c))) (by omega) (by
              refine ⟨CXS_SHF hB hO k2.1 fr3, ⟨by rw [sI_row _ _ _ _ (by decide)]; exact k2.2.1.1, k2.2.1.2.imp id (fun z k hk => by rw [sI_row _ _ _ _ (by decide)]; exact z k hk)⟩, fun q hq => ?_, fun q d hq hd => ?_, fun k hk => ?_⟩
              · rw [sI_at]
                by_cases e : q = r
                · rw [if_pos ⟨rfl, e⟩, e]
                  exact Int32.sub_add_cancel _ _
                · rw [if_neg (fun z => e z.2), k2.2.2.1 q hq, hst1]
                  show (if r = w then (st_ B w v c).1 else ud_ (st_ B w v c).1 r ((st_ B w v c).1 r - nI (tR_ B r c))) q = _
                  rw [if_neg (show ¬ r = w by omega), ud_ne _ _ e]
              · rw [sI_row _ _ _ _ (by decide), sI_row _ _ _ _ (by decide)]
                have := k2.2.2.2.1 q d hq (by omega)
                rw [hst1] at this
                rw [this.1, this.2]
                have a1 : (16 * q + d) % 16 ≠ c := by omega
                constructor
                · show (if (16 * q + d) % 16 = c ∧ (16 * q + d) / 16 < w then _ else (st_ B w v c).2.1 (16 * q + d)) = _
                  rw [if_neg (fun z => a1 z.1)]
                · show (if (16 * q + d) % 16 = c ∧ (16 * q + d) / 16 < w then _ else (st_ B w v c).2.2 (16 * q + d)) = _
                  rw [if_neg (fun z => a1 z.1)]
              · rw [sI_row _ _ _ _ (by decide)]
                have := k2.2.2.2.2 k (by omega)
                rw [ud_ne _ _ (by omega)] at this
                exact this)
            refine ⟨σ', e_X10_tryFrom_54 ?_, fun s0 hs => q2 s0 (by rw [tl_, hs]), SHF_tr fr1 (SHF_tr fr2 (SHF_tr k3 (SHF_tr fr3 q3)))⟩
            simp (disch := first | assumption | omega) only [h1.1.2.2.2, hr1, h1.1.2.1, hB, hrt, hlr, ht, g1, k1, hl3, Option.some.injEq, Prod.mk.injEq, Value.int.injEq, exists_and_left, exists_eq_left', and_assoc, true_and, and_true, true_implies, false_implies, not_true_eq_false, not_false_eq_true, li_0, li_1, li_2, li_3, li_4, li_5, li_8, li_9, li_10, li_16, li_20, li_80, li_100, li_130, li_144, li_390, li_400, li_M, li_H, li_of, nI_add, pk_mul, cl_, vp_iff, nI_leI, nI_ltI, nI_eq, Nat.add_zero, Nat.zero_add, Nat.reduceEqDiff, Nat.reduceAdd, eq_self, reduceIte, Bool.false_eq_true, li_neg]
            (repeat' apply And.intro) <;> first | omega | rfl | assumption | exact q1
      obtain ⟨σ', q1, q2, q3⟩ := t54 w 0 s σ (by omega) h
      have hcs := q2 s rfl
      refine ⟨σ', z_X10_tryFrom (e_X10_tryFrom_0 ?_), hcs, q3⟩
      rw [hN] at q1 ⊢
      simp (disch := first | assumption | omega) only [hx.2.2.1, hcm, hmr, h.2.1.1, hpr, Option.some.injEq, Prod.mk.injEq, Value.int.injEq, exists_and_left, exists_eq_left', and_assoc, true_and, and_true, true_implies, false_implies, not_true_eq_false, not_false_eq_true, li_0, li_1, li_2, li_3, li_4, li_5, li_8, li_9, li_10, li_16, li_20, li_80, li_100, li_130, li_144, li_390, li_400, li_M, li_H, li_of, nI_add, pk_mul, cl_, vp_iff, nI_leI, nI_ltI, nI_eq, Nat.add_zero, Nat.zero_add, Nat.reduceEqDiff, Nat.reduceAdd, eq_self, reduceIte, Bool.false_eq_true, li_neg]
      exact q1
    · -- can't be better
      have hlow := tr_low (m := m) hO hw hm (n + 1) c v s N hc hv hN hbd hpr
      rw [hlow]
      refine ⟨σ, z_X10_tryFrom (e_X10_tryFrom_0 ?_), h, SHF_rf⟩
      rw [hN]
      simp (disch := first | assumption | omega) only [hx.2.2.1, hcm, hmr, h.2.1.1, hpr, Option.some.injEq, Prod.mk.injEq, Value.int.injEq, exists_and_left, exists_eq_left', and_assoc, true_and, and_true, true_implies, false_implies, not_true_eq_false, not_false_eq_true, li_0, li_1, li_2, li_3, li_4, li_5, li_8, li_9, li_10, li_16, li_20, li_80, li_100, li_130, li_144, li_390, li_400, li_M, li_H, li_of, nI_add, pk_mul, cl_, vp_iff, nI_leI, nI_ltI, nI_eq, Nat.add_zero, Nat.zero_add, Nat.reduceEqDiff, Nat.reduceAdd, eq_self, reduceIte, Bool.false_eq_true, li_neg]
end BC
