/-! BEST: the reference tells, adds, and tries all -/
def sx_ (f : Nat → Int32) : Nat → Int32
  | 0 => nI 0
  | n + 1 => sx_ f n + f n
theorem sx_cg {f g : Nat → Int32} : ∀ n, (∀ i, i < n → f i = g i) → sx_ f n = sx_ g n
  | 0, _ => rfl
  | n + 1, h => by rw [sx_, sx_, sx_cg n (fun i hi => h i (by omega)), h n (by omega)]
theorem sx_add (f g : Nat → Int32) : ∀ n, sx_ (fun i => f i + g i) n = sx_ f n + sx_ g n
  | 0 => rfl
  | n + 1 => by
    rw [sx_, sx_, sx_, sx_add f g n]
    generalize sx_ f n = a
    generalize sx_ g n = b
    generalize f n = c
    generalize g n = d
    grind
theorem sm_sx (B : Nat → Nat → Nat) (k : K_) : ∀ n, smK_ B k n = sx_ (ia_ B k) n
  | 0 => rfl
  | n + 1 => by rw [smK_, sx_, sm_sx B k n]
theorem wor_sx (B : Nat → Nat → Nat) (p : Nat → Int32) (c : Nat) : ∀ n, wor_ B p c n = sx_ (fun u => oM_ (nI (B 2 c)) (p (16 * u + c))) n
  | 0 => rfl
  | n + 1 => by rw [wor_, sx_, wor_sx B p c n]
section BN
variable {μ : St_} {B : Nat → Nat → Nat} {m w : Nat} {v : Nat → Nat} {k : K_}
def K2_ (B : Nat → Nat → Nat) (m w : Nat) (v : Nat → Nat) (c e : Nat) (k : K_) : Prop := (∀ r d, r < w → d < m → k.2.2.2 (16 * r + d) = if d < c ∨ (d = c ∧ r < e) then (st_ B w v m).2.2 (16 * r + d) else (st_ B w v m).2.1 (16 * r + d)) ∧ (∀ r d, d < 16 → (w ≤ r ∨ m ≤ d) → k.2.2.2 (16 * r + d) = nI 0) ∧ ∀ r d, r < w → d < m → v d = r → hb_ (k.2.1 r) d
theorem gv_0 (B : Nat → Nat → Nat) (t l : Nat) : gv_ B t l 4 (nI 0) = nI 0 := by
  unfold gv_
  rw [pk_mul, Nat.zero_mul, pk_div (by omega) (by decide) (by decide), Nat.zero_div, pk_mul, Nat.zero_mul, pk_div (by omega) (by decide) (by decide), Nat.zero_div, pk_mul, Nat.zero_mul, pk_div (by omega) (by decide) (by decide), Nat.zero_div]
theorem st_p (hO : BO_ B) (hw : w ≤ B 0 1) (hv : ∀ k, k < m → v k ≤ w) {c : Nat} (hc : c ≤ m) (hm : m ≤ B 0 0) : (∀ i, ∃ n, n ≤ 1000000 ∧ (st_ B w v c).2.1 i = nI n) ∧ ∀ i, ∃ n, n ≤ 1000000 ∧ (st_ B w v c).2.2 i = nI n := st_n hO hw c (by omega) (fun d hd => hv d (by omega))
/-- one CHAP, told to all others -/
theorem m_tell144 (hw : w ≤ B 0 1) (hm : m ≤ B 0 0) (hm6 : m ≤ 6) {rt : Fn_} {x1 : Int32} {c : Nat} (hc : c < m) (hvr : v c < w) : ∀ n u k (μ : St_), u + n = w → RX_ μ B → MK_ μ B k → VR_ μ m w v → K2_ B m w v c u k → ∃ μ' k', (∀ out, Ev_ (P_X12_tryReaders KC rt) 101 [some (.ref 219), some (.int x1), some (.int (nI (c + 1))), none, none] [] μ' out → Ev_ (P_X12_tryReaders KC rt) 144 [some (.ref 219), some (.int x1), some (.int (nI c)), some (.int (nI (v c))), some (.int (nI u))] [] μ out) ∧ RX_ μ' B ∧ MK_ μ' B k' ∧ VR_ μ' m w v ∧ K2_ B m w v c w k' ∧ KF_ μ μ' := by
  intro n
  induction n with
  | zero =>
    intro u k μ hu hx hk hv h2
    obtain rfl : u = w := by omega
    have h3 := BO_c hx.2
    refine ⟨μ, k, fun out q => e_X12_tryReaders_144 ?_, hx, hk, hv, h2, KF_rf⟩
    simp (disch := first | assumption | omega) only [hv.1.2, Nat.le_refl, Option.some.injEq, Prod.mk.injEq, Value.int.injEq, exists_and_left, exists_eq_left', and_assoc, true_and, and_true, true_implies, false_implies, not_true_eq_false, not_false_eq_true, li_0, li_1, li_2, li_3, li_4, li_5, li_8, li_9, li_10, li_16, li_20, li_80, li_100, li_130, li_144, li_390, li_400, li_M, li_H, li_of, nI_add, pk_mul, cl_, vp_iff, nI_leI, nI_ltI, nI_eq, Nat.add_zero, Nat.zero_add, Nat.reduceEqDiff, Nat.reduceAdd, eq_self, reduceIte, Bool.false_eq_true, li_neg]
    exact q
  | succ n ih =>
    intro u k μ hu hx hk hv h2
    have hO := hx.2
    have h3 := BO_c hO
    have hu1 : ¬ w ≤ u := by omega
    have hu2 : u < w := by omega
    have hcB : c < B 0 0 := by omega
    have hc16 : c < 16 := by omega
    obtain ⟨j, rfl⟩ : ∃ j, m = c + 1 + j := ⟨m - (c + 1), by omega⟩
    have f1 : (st_ B w v (c + 1 + j)).2.1 (16 * u + c) = if u = v c then vR_ B (st_ B w v c).2.1 (v c) c else nI 0 := by
      rw [st_keep1 hu2 hc16 j (c + 1) (by omega), st_, st_in1 hu2 hc16, if_pos rfl]
    have f2 : (st_ B w v (c + 1 + j)).2.2 (16 * u + c) = if u = v c then vR_ B (st_ B w v c).2.1 (v c) c else oM_ (gv_ B (v c) u 4 (vR_ B (st_ B w v c).2.1 (v c) c)) (nI 1000000 - lk_ B (st_ B w v c).2.2 u c) := by
      rw [st_keep2 hu2 hc16 j (c + 1) (by omega), st_, st_in2 hu2 hc16, if_pos rfl, if_neg (show ¬ v c = w by omega)]
    by_cases e : u = v c
    · have h2' : K2_ B (c + 1 + j) w v c (u + 1) k := by
        refine ⟨fun r d hr hd => ?_, h2.2.1, h2.2.2⟩
        rw [h2.1 r d hr hd]
        by_cases e2 : d = c ∧ r = u
        · rw [if_neg (by omega), if_pos (by omega), e2.1, e2.2, f1, f2, if_pos e, if_pos e]
        · by_cases e3 : d < c ∨ d = c ∧ r < u
          · rw [if_pos e3, if_pos (by omega)]
          · rw [if_neg e3, if_neg (by omega)]
      obtain ⟨μ', k', q1, q2⟩ := ih (u + 1) k μ (by omega) hx hk hv h2'
      refine ⟨μ', k', fun out q => e_X12_tryReaders_144 ?_, q2⟩
      have q1' := q1 out q
      have hu1' : ¬ w ≤ v c := by omega
      rw [e] at q1' ⊢
      simp (disch := first | assumption | omega) only [hv.1.2, hu1', Option.some.injEq, Prod.mk.injEq, Value.int.injEq, exists_and_left, exists_eq_left', and_assoc, true_and, and_true, true_implies, false_implies, not_true_eq_false, not_false_eq_true, li_0, li_1, li_2, li_3, li_4, li_5, li_8, li_9, li_10, li_16, li_20, li_80, li_100, li_130, li_144, li_390, li_400, li_M, li_H, li_of, nI_add, pk_mul, cl_, vp_iff, nI_leI, nI_ltI, nI_eq, Nat.add_zero, Nat.zero_add, Nat.reduceEqDiff, Nat.reduceAdd, eq_self, reduceIte, Bool.false_eq_true, li_neg]
      exact q1'
    · obtain ⟨μ2, g1, g2, g3⟩ := m_gets (t := v c) (r := u) (f := 4) hx hk (by omega) (by omega) hcB
      have p0 := st_p (c := c) hO hw hv.2.2 (by omega) hm
      obtain ⟨a, a1, a2⟩ := vR_n (r := v c) hO _ p0.1 (by omega) hcB
      obtain ⟨g, b1, b2⟩ := gv_n (t := v c) (l := u) (f := 4) hO (by omega) (by omega) (by omega) a1
      obtain ⟨q, c1, c2⟩ := lk_n (r := u) hO _ p0.2 hcB
      have kr : k.2.2.2 (16 * v c + c) = vR_ B (st_ B w v c).2.1 (v c) c := by
        rw [h2.1 (v c) c hvr (by omega)]
        have r1 : (st_ B w v (c + 1 + j)).2.1 (16 * v c + c) = vR_ B (st_ B w v c).2.1 (v c) c := by rw [st_keep1 hvr hc16 j (c + 1) (by omega), st_, st_in1 hvr hc16, if_pos rfl, if_pos rfl]
        have r2 : (st_ B w v (c + 1 + j)).2.2 (16 * v c + c) = vR_ B (st_ B w v c).2.1 (v c) c := by rw [st_keep2 hvr hc16 j (c + 1) (by omega), st_, st_in2 hvr hc16, if_pos rfl, if_neg (show ¬ v c = w by omega), if_pos rfl]
        split
        · exact r2
        · exact r1
      have ku : k.2.2.2 (16 * u + c) = nI 0 := by
        rw [h2.1 u c hu2 (by omega), if_neg (by omega), f1, if_neg e]
      have klk : lk_ B k.2.2.2 u c = lk_ B (st_ B w v c).2.2 u c := by
        unfold lk_
        have hh : ∀ d, d < c → k.2.2.2 (16 * u + d) = (st_ B w v c).2.2 (16 * u + d) := fun d hd => by
          rw [h2.1 u d hu2 (by omega), if_pos (Or.inl hd), show c + 1 + j = c + (1 + j) by omega]
          exact st_keep2 hu2 (by omega) (1 + j) c hd
        rw [lkS_cg c hh]
      have hgw : gw_ B k (v c) u c 4 = nI g := by
        unfold gw_
        rw [if_pos (h2.2.2 (v c) c hvr (by omega) rfl), kr, a2, b2]
      have hm2 := oM_le (a := g) (b := 1000000 - q) b1 (by omega)
      have new : (gtK_ B k (v c) u c 4).2.2.2 (16 * u + c) = (st_ B w v (c + 1 + j)).2.2 (16 * u + c) := by
        show ud_ k.2.2.2 (16 * u + c) _ (16 * u + c) = _
        rw [ud_eq, ku, hgw, klk, c2, f2, if_neg e, a2, b2, c2, pk_sub (by omega), pk_sub (by omega), oM_n (by omega) (by omega), oM_n (by omega) (by omega), nI_add]
        congr 1
        rw [Nat.sub_zero, Nat.mul_comm, Nat.mul_div_cancel _ (by decide), Nat.zero_add]
      have h2' : K2_ B (c + 1 + j) w v c (u + 1) (gtK_ B k (v c) u c 4) := by
        refine ⟨fun r d hr hd => ?_, fun r d hd hz => ?_, fun r d hr hd hvd => h2.2.2 r d hr hd hvd⟩
        · by_cases e2 : d = c ∧ r = u
          · rw [if_pos (by omega), e2.1, e2.2]
            exact new
          · show ud_ k.2.2.2 (16 * u + c) _ (16 * r + d) = _
            rw [ud_ne _ _ (by omega), h2.1 r d hr hd]
            by_cases e3 : d < c ∨ d = c ∧ r < u
            · rw [if_pos e3, if_pos (by omega)]
            · rw [if_neg e3, if_neg (by omega)]
        · show ud_ k.2.2.2 (16 * u + c) _ (16 * r + d) = _
          rw [ud_ne _ _ (by omega)]
          exact h2.2.1 r d hd hz
      obtain ⟨μ', k', q1, q2, q3, q4, q5, q6⟩ := ih (u + 1) _ μ2 (by omega) (RX_KF hx g3) g2 (VR_KF hv g3) h2'
      refine ⟨μ', k', fun out q => e_X12_tryReaders_144 ?_, q2, q3, q4, q5, KF_tr g3 q6⟩
      have q1' := q1 out q
      simp (disch := first | assumption | omega) only [hv.1.2, hu1, e, g1, Option.some.injEq, Prod.mk.injEq, Value.int.injEq, exists_and_left, exists_eq_left', and_assoc, true_and, and_true, true_implies, false_implies, not_true_eq_false, not_false_eq_true, li_0, li_1, li_2, li_3, li_4, li_5, li_8, li_9, li_10, li_16, li_20, li_80, li_100, li_130, li_144, li_390, li_400, li_M, li_H, li_of, nI_add, pk_mul, cl_, vp_iff, nI_leI, nI_ltI, nI_eq, Nat.add_zero, Nat.zero_add, Nat.reduceEqDiff, Nat.reduceAdd, eq_self, reduceIte, Bool.false_eq_true, li_neg]
      exact q1'
theorem m_tell101 (hw : w ≤ B 0 1) (hm : m ≤ B 0 0) (hm6 : m ≤ 6) {rt : Fn_} {x1 : Int32} : ∀ n c k (μ : St_), c + n = m → RX_ μ B → MK_ μ B k → VR_ μ m w v → K2_ B m w v c 0 k → ∃ μ' k', (∀ out, Ev_ (P_X12_tryReaders KC rt) 101 [some (.ref 219), some (.int x1), some (.int (nI m)), none, none] [] μ' out → Ev_ (P_X12_tryReaders KC rt) 101 [some (.ref 219), some (.int x1), some (.int (nI c)), none, none] [] μ out) ∧ RX_ μ' B ∧ MK_ μ' B k' ∧ VR_ μ' m w v ∧ K2_ B m w v m 0 k' ∧ KF_ μ μ' := by
  intro n
  induction n with
  | zero =>
    intro c k μ hc hx hk hv h2
    obtain rfl : c = m := by omega
    exact ⟨μ, k, fun _ q => q, hx, hk, hv, h2, KF_rf⟩
  | succ n ih =>
    intro c k μ hc hx hk hv h2
    have hO := hx.2
    have h3 := BO_c hO
    have hcm : c < m := by omega
    have hcB : c < B 0 0 := by omega
    have hc16 : c < 16 := by omega
    have hc1 : ¬ m ≤ c := by omega
    have hvc := hv.2.1 c hcm
    have hvw := hv.2.2 c hcm
    obtain ⟨j, hj⟩ : ∃ j, m = c + 1 + j := ⟨m - (c + 1), by omega⟩
    -- a CHAP of which nothing is told: its row is settled already
    have skip : (∀ r, r < w → (st_ B w v m).2.1 (16 * r + c) = (st_ B w v m).2.2 (16 * r + c)) → ∃ μ' k', (∀ out, Ev_ (P_X12_tryReaders KC rt) 101 [some (.ref 219), some (.int x1), some (.int (nI m)), none, none] [] μ' out → Ev_ (P_X12_tryReaders KC rt) 101 [some (.ref 219), some (.int x1), some (.int (nI (c + 1))), none, none] [] μ out) ∧ RX_ μ' B ∧ MK_ μ' B k' ∧ VR_ μ' m w v ∧ K2_ B m w v m 0 k' ∧ KF_ μ μ' := fun hs => ih (c + 1) k μ (by omega) hx hk hv ⟨fun r d hr hd => by
        rw [h2.1 r d hr hd]
        by_cases e2 : d = c
        · rw [if_neg (by omega), if_pos (by omega), e2, hs r hr]
        · by_cases e3 : d < c
          · rw [if_pos (Or.inl e3), if_pos (by omega)]
          · rw [if_neg (by omega), if_neg (by omega)], h2.2.1, h2.2.2⟩
    by_cases e : v c = w
    · obtain ⟨μ', k', q1, q2⟩ := skip (fun r hr => by
        rw [hj, st_keep1 hr hc16 j (c + 1) (by omega), st_keep2 hr hc16 j (c + 1) (by omega), st_, st_in1 hr hc16, st_in2 hr hc16, if_pos rfl, if_pos rfl, if_neg (show ¬ r = v c by omega), if_pos e])
      refine ⟨μ', k', fun out q => e_X12_tryReaders_101 ?_, q2⟩
      have q1' := q1 out q
      simp (disch := first | assumption | omega) only [hv.1.1, hc1, hvc, hv.1.2, e, Option.some.injEq, Prod.mk.injEq, Value.int.injEq, exists_and_left, exists_eq_left', and_assoc, true_and, and_true, true_implies, false_implies, not_true_eq_false, not_false_eq_true, li_0, li_1, li_2, li_3, li_4, li_5, li_8, li_9, li_10, li_16, li_20, li_80, li_100, li_130, li_144, li_390, li_400, li_M, li_H, li_of, nI_add, pk_mul, cl_, vp_iff, nI_leI, nI_ltI, nI_eq, Nat.add_zero, Nat.zero_add, Nat.reduceEqDiff, Nat.reduceAdd, eq_self, reduceIte, Bool.false_eq_true, li_neg]
      (repeat' apply And.intro) <;> first | omega | rfl | assumption | exact q1'
    · have hvr : v c < w := by omega
      have hvB : v c < B 0 1 := by omega
      have p0 := st_p (c := c) hO hw hv.2.2 (by omega) hm
      have kr : k.2.2.2 (16 * v c + c) = vR_ B (st_ B w v c).2.1 (v c) c := by
        rw [h2.1 (v c) c hvr hcm, if_neg (by omega), hj, st_keep1 hvr hc16 j (c + 1) (by omega), st_, st_in1 hvr hc16, if_pos rfl, if_pos rfl]
      by_cases hz : vR_ B (st_ B w v c).2.1 (v c) c = nI 0
      · obtain ⟨μ', k', q1, q2⟩ := skip (fun r hr => by
          obtain ⟨q, c1, c2⟩ := lk_n (r := r) hO _ p0.2 hcB
          rw [hj, st_keep1 hr hc16 j (c + 1) (by omega), st_keep2 hr hc16 j (c + 1) (by omega), st_, st_in1 hr hc16, st_in2 hr hc16, if_pos rfl, if_pos rfl, if_neg e, hz, gv_0, c2, pk_sub (by omega), oM_n (by omega) (by omega), Nat.zero_mul, Nat.zero_div])
        refine ⟨μ', k', fun out q => e_X12_tryReaders_101 ?_, q2⟩
        have q1' := q1 out q
        simp (disch := first | assumption | omega) only [hv.1.1, hc1, hvc, hv.1.2, e, MK_p hk, kr, hz, Option.some.injEq, Prod.mk.injEq, Value.int.injEq, exists_and_left, exists_eq_left', and_assoc, true_and, and_true, true_implies, false_implies, not_true_eq_false, not_false_eq_true, li_0, li_1, li_2, li_3, li_4, li_5, li_8, li_9, li_10, li_16, li_20, li_80, li_100, li_130, li_144, li_390, li_400, li_M, li_H, li_of, nI_add, pk_mul, cl_, vp_iff, nI_leI, nI_ltI, nI_eq, Nat.add_zero, Nat.zero_add, Nat.reduceEqDiff, Nat.reduceAdd, eq_self, reduceIte, Bool.false_eq_true, li_neg]
        (repeat' apply And.intro) <;> first | omega | rfl | assumption | exact q1'
      · obtain ⟨μ2, k2, g1, g2, g3, g4, g5, g6⟩ := m_tell144 (rt := rt) (x1 := x1) hw hm hm6 hcm hvr w 0 k μ (by omega) hx hk hv h2
        obtain ⟨μ', k', q1, q2, q3, q4, q5, q6⟩ := ih (c + 1) k2 μ2 (by omega) g2 g3 g4 ⟨fun r d hr hd => by
          rw [g5.1 r d hr hd]
          by_cases e3 : d < c ∨ d = c ∧ r < w
          · rw [if_pos e3, if_pos (by omega)]
          · rw [if_neg e3, if_neg (by omega)], g5.2.1, g5.2.2⟩
        refine ⟨μ', k', fun out q => e_X12_tryReaders_101 ?_, q2, q3, q4, q5, KF_tr g6 q6⟩
        have q1' := g1 out (q1 out q)
        simp (disch := first | assumption | omega) only [hv.1.1, hc1, hvc, hv.1.2, e, MK_p hk, kr, hz, Option.some.injEq, Prod.mk.injEq, Value.int.injEq, exists_and_left, exists_eq_left', and_assoc, true_and, and_true, true_implies, false_implies, not_true_eq_false, not_false_eq_true, li_0, li_1, li_2, li_3, li_4, li_5, li_8, li_9, li_10, li_16, li_20, li_80, li_100, li_130, li_144, li_390, li_400, li_M, li_H, li_of, nI_add, pk_mul, cl_, vp_iff, nI_leI, nI_ltI, nI_eq, Nat.add_zero, Nat.zero_add, Nat.reduceEqDiff, Nat.reduceAdd, eq_self, reduceIte, Bool.false_eq_true, li_neg]
        (repeat' apply And.intro) <;> first | omega | rfl | assumption | exact q1'
/-- the SUM of the w is the way's value -/
theorem sum_val (hw : w ≤ B 0 1) (h16 : B 0 0 ≤ 16) (hm : m ≤ B 0 0) (h : K2_ B m w v m 0 k) : smK_ B k w = val_ B w v m := by
  have e1 : ∀ r, r < w → ia_ B k r = iaS_ B k r m := fun r hr => by
    have key : ∀ n, m + n ≤ B 0 0 → iaS_ B k r (m + n) = iaS_ B k r m := by
      intro n
      induction n with
      | zero => exact fun _ => rfl
      | succ n ih =>
        intro hn
        rw [show m + (n + 1) = m + n + 1 by omega, iaS_, ih (by omega), h.2.1 r (m + n) (by omega) (Or.inr (by omega)), oM_0]
        exact nI_add0 _
    have := key (B 0 0 - m) (by omega)
    rw [show m + (B 0 0 - m) = B 0 0 by omega] at this
    exact this
  have e2 : ∀ c, c ≤ m → sx_ (fun r => iaS_ B k r c) w = val_ B w v c := by
    intro c
    induction c with
    | zero =>
      intro _
      have : ∀ n, sx_ (fun r => iaS_ B k r 0) n = nI 0 := by
        intro n
        induction n with
        | zero => rfl
        | succ n ihn =>
          rw [sx_, ihn]
          rfl
      exact this w
    | succ c ih =>
      intro hc
      rw [val_, ← ih (by omega), wor_sx, ← sx_add]
      refine sx_cg _ (fun r hr => ?_)
      obtain ⟨j, hj⟩ : ∃ j, m = c + 1 + j := ⟨m - (c + 1), by omega⟩
      rw [iaS_, h.1 r c hr (by omega), if_pos (Or.inl (by omega)), hj, st_keep2 hr (by omega) j (c + 1) (by omega)]
  rw [sm_sx, ← e2 m (Nat.le_refl _)]
  exact sx_cg _ e1
def RS_ (μ : St_) (B : Nat → Nat → Nat) (m w : Nat) (v : Nat → Nat) (c : Nat) (s : Int32 × (Nat → Nat)) : Prop := RX_ μ B ∧ (μ.1 219 38 = nI m ∧ μ.1 219 39 = nI w) ∧ (μ.1 219 37 = s.1 ∧ (s.1 = nM_ ∨ ∀ k, k < m → μ.1 235 k = nI (s.2 k))) ∧ ∀ k, k < c → μ.1 234 k = nI (v k)
def RSF_ (μ μ' : St_) : Prop := fr_ [219, 229, 230, 231, 232, 234, 235] μ μ' ∧ NF2_ [37] 219 μ μ'
theorem RSF_tr {x y z : St_} (h : RSF_ x y) (h2 : RSF_ y z) : RSF_ x z := ⟨fr_tr h.1 h2.1, NF2_tr h.2 h2.2⟩
theorem RSF_KF {x y : St_} (h : KF_ x y) : RSF_ x y := ⟨fr_mono h (by simp), fun f _ => by rw [h.1 219 (by decide)]⟩
theorem RSF_sI {o i : Nat} {x : Int32} (h : o = 234 ∨ o = 235) : RSF_ μ (sI_ μ o i x) := ⟨fr_sI (by simp; omega), fun f _ => by rw [sI_row _ _ _ _ (by omega)]⟩
theorem RX_RSF {μ' : St_} (h : RX_ μ B) (hf : RSF_ μ μ') : RX_ μ' B := RX_fr h hf.1 (by decide)
theorem m_tryReaders (hw : w ≤ B 0 1) (hw4 : w ≤ 4) (hm : m ≤ B 0 0) (hm6 : m ≤ 6) : ∀ n c d v s (μ : St_), c + n = m → n < d → (∀ k, k < c → v k ≤ w) → RS_ μ B m w v c s → ∃ μ', f_X12_tryReaders KC d [.ref 219, .int (nI c)] μ = some (none, μ') ∧ RS_ μ' B m w v c (tr_ B m w n c v s) ∧ RSF_ μ μ' := by
  intro n
  induction n with
  | zero =>
    intro c d v s μ hc hd hv h
    obtain rfl : c = m := by omega
    obtain ⟨d, rfl⟩ : ∃ d', d = d' + 1 := ⟨d - 1, by omega⟩
    obtain ⟨hx, ⟨h38, h39⟩, ⟨h37, hrow⟩, hch⟩ := h
    have h3 := BO_c hx.2
    obtain ⟨μ1, g1, g2, g3⟩ := m_dawn hx
    have hx1 := RX_KF hx g3
    have o219 : μ1.1 219 = μ.1 219 := g3.1 219 (by decide)
    have hv1 : VR_ μ1 c w v := ⟨⟨by rw [o219]; exact h38, by rw [o219]; exact h39⟩, fun k hk => by rw [g3.1 234 (by decide)]; exact hch k hk, hv⟩
    rcases m_read45 (rt := f_X12_tryReaders KC d) (x1 := nI c) hw hm hm6 c 0 (k0_ B) μ1 (by omega) hx1 g2 hv1 ⟨fun r _ => rfl, fun r d _ hd => absurd hd (by omega), fun r d _ _ => rfl, fun r d _ hd => absurd hd (by omega)⟩ (fun d hd => absurd hd (by omega)) with ⟨hok, μ2, k2, q1, q2, q3, q4, q5, q6⟩ | ⟨hok, μ2, q1, q2⟩
    · obtain ⟨μ3, k3, p1, p2, p3, p4, p5, p6⟩ := m_tell101 (rt := f_X12_tryReaders KC d) (x1 := nI c) hw hm hm6 c 0 k2 μ2 (by omega) q2 q3 q4 ⟨fun r d hr hd => by rw [if_neg (by omega)]; exact q5.2.1 r d hr hd, q5.2.2.1, q5.2.2.2⟩
      have hsum := m_sum p2 p3 (m := w) (by omega)
      rw [sum_val hw h3.1 hm p5] at hsum
      have kf : KF_ μ μ3 := KF_tr g3 (KF_tr q6 p6)
      have o219' : μ3.1 219 = μ.1 219 := kf.1 219 (by decide)
      have o234 : μ3.1 234 = μ.1 234 := kf.1 234 (by decide)
      have o235 : μ3.1 235 = μ.1 235 := kf.1 235 (by decide)
      by_cases hg : s.1 < val_ B w v c
      · have e : tr_ B c w 0 c v s = (val_ B w v c, v) := by rw [tr_, if_pos ⟨hok, hg⟩]
        rw [e]
        -- the row is kept
        have lc : ∀ n' i μ4, i + n' = c → μ4.1 219 38 = nI c → (∀ k, k < c → μ4.1 234 k = nI (v k)) → (∀ k, k < i → μ4.1 235 k = nI (v k)) → ∃ μ', Ev_ (P_X12_tryReaders KC (f_X12_tryReaders KC d)) 205 [some (.ref 219), some (.int (nI c)), none, some (.int (nI i)), none] [] μ4 (none, μ') ∧ (∀ k, k < c → μ'.1 235 k = nI (v k)) ∧ fr_ [235] μ4 μ' := by
          intro n'
          induction n' with
          | zero =>
            intro i μ4 hi a1 a2 a3
            obtain rfl : i = c := by omega
            refine ⟨μ4, e_X12_tryReaders_205 ?_, a3, fr_rf _ _⟩
            simp (disch := first | assumption | omega) only [a1, Nat.le_refl, Option.some.injEq, Prod.mk.injEq, Value.int.injEq, exists_and_left, exists_eq_left', and_assoc, true_and, and_true, true_implies, false_implies, not_true_eq_false, not_false_eq_true, li_0, li_1, li_2, li_3, li_4, li_5, li_8, li_9, li_10, li_16, li_20, li_80, li_100, li_130, li_144, li_390, li_400, li_M, li_H, li_of, nI_add, pk_mul, cl_, vp_iff, nI_leI, nI_ltI, nI_eq, Nat.add_zero, Nat.zero_add, Nat.reduceEqDiff, Nat.reduceAdd, eq_self, reduceIte, Bool.false_eq_true, li_neg]
          | succ n' ihn =>
            intro i μ4 hi a1 a2 a3
            have hi1 : ¬ c ≤ i := by omega
            obtain ⟨μ', b1, b2, b3⟩ := ihn (i + 1) (sI_ μ4 235 i (nI (v i))) (by omega) (by rw [sI_row _ _ _ _ (by decide)]; exact a1) (fun k hk => by rw [sI_row _ _ _ _ (by decide)]; exact a2 k hk) (fun k hk => by
              rw [sI_at]
              by_cases e : k = i
              · rw [if_pos ⟨rfl, e⟩, e]
              · rw [if_neg (fun z => e z.2)]
                exact a3 k (by omega))
            refine ⟨μ', e_X12_tryReaders_205 ?_, b2, fr_tr (fr_sI (by simp)) b3⟩
            simp (disch := first | assumption | omega) only [a1, hi1, a2 i (by omega), Option.some.injEq, Prod.mk.injEq, Value.int.injEq, exists_and_left, exists_eq_left', and_assoc, true_and, and_true, true_implies, false_implies, not_true_eq_false, not_false_eq_true, li_0, li_1, li_2, li_3, li_4, li_5, li_8, li_9, li_10, li_16, li_20, li_80, li_100, li_130, li_144, li_390, li_400, li_M, li_H, li_of, nI_add, pk_mul, cl_, vp_iff, nI_leI, nI_ltI, nI_eq, Nat.add_zero, Nat.zero_add, Nat.reduceEqDiff, Nat.reduceAdd, eq_self, reduceIte, Bool.false_eq_true, li_neg]
            (repeat' apply And.intro) <;> first | omega | rfl | assumption | exact b1
        obtain ⟨μ', l1, l2, l3⟩ := lc c 0 (sI_ μ3 219 37 (val_ B w v c)) (by omega) (by rw [sI_at, if_neg (by decide), o219']; exact h38) (fun k hk => by rw [sI_row _ _ _ _ (by decide), o234]; exact hch k hk) (fun k hk => absurd hk (by omega))
        have t101 : Ev_ (P_X12_tryReaders KC (f_X12_tryReaders KC d)) 101 [some (.ref 219), some (.int (nI c)), some (.int (nI c)), none, none] [] μ3 (none, μ') := by
          refine e_X12_tryReaders_101 ?_
          simp (disch := first | assumption | omega) only [p4.1.1, p4.1.2, Nat.le_refl, hsum, o219', h37, hg, Option.some.injEq, Prod.mk.injEq, Value.int.injEq, exists_and_left, exists_eq_left', and_assoc, true_and, and_true, true_implies, false_implies, not_true_eq_false, not_false_eq_true, li_0, li_1, li_2, li_3, li_4, li_5, li_8, li_9, li_10, li_16, li_20, li_80, li_100, li_130, li_144, li_390, li_400, li_M, li_H, li_of, nI_add, pk_mul, cl_, vp_iff, nI_leI, nI_ltI, nI_eq, Nat.add_zero, Nat.zero_add, Nat.reduceEqDiff, Nat.reduceAdd, eq_self, reduceIte, Bool.false_eq_true, li_neg]
          exact l1
        have fr0 : RSF_ μ μ' := RSF_tr (RSF_KF kf) ⟨fr_tr (fr_sI (by simp)) (fr_mono l3 (by simp)), fun f hf => by rw [l3.1 219 (by decide), sI_at, if_neg (fun z => hf (by rw [z.2]; simp))]⟩
        refine ⟨μ', z_X12_tryReaders (e_X12_tryReaders_0 ?_), ⟨RX_RSF hx fr0, ⟨by rw [fr0.2 38 (by decide)]; exact h38, by rw [fr0.2 39 (by decide)]; exact h39⟩, ⟨by rw [l3.1 219 (by decide), sI_at, if_pos ⟨rfl, rfl⟩], Or.inr l2⟩, fun k hk => by rw [l3.1 234 (by decide), sI_row _ _ _ _ (by decide), o234]; exact hch k hk⟩, fr0⟩
        have t := q1 _ (p1 _ t101)
        simp (disch := first | assumption | omega) only [h38, Nat.le_refl, g1, Option.some.injEq, Prod.mk.injEq, Value.int.injEq, exists_and_left, exists_eq_left', and_assoc, true_and, and_true, true_implies, false_implies, not_true_eq_false, not_false_eq_true, li_0, li_1, li_2, li_3, li_4, li_5, li_8, li_9, li_10, li_16, li_20, li_80, li_100, li_130, li_144, li_390, li_400, li_M, li_H, li_of, nI_add, pk_mul, cl_, vp_iff, nI_leI, nI_ltI, nI_eq, Nat.add_zero, Nat.zero_add, Nat.reduceEqDiff, Nat.reduceAdd, eq_self, reduceIte, Bool.false_eq_true, li_neg]
        exact t
      · have e : tr_ B c w 0 c v s = s := by rw [tr_, if_neg (fun z => hg z.2)]
        rw [e]
        have t101 : Ev_ (P_X12_tryReaders KC (f_X12_tryReaders KC d)) 101 [some (.ref 219), some (.int (nI c)), some (.int (nI c)), none, none] [] μ3 (none, μ3) := by
          refine e_X12_tryReaders_101 ?_
          simp (disch := first | assumption | omega) only [p4.1.1, p4.1.2, Nat.le_refl, hsum, o219', h37, hg, Option.some.injEq, Prod.mk.injEq, Value.int.injEq, exists_and_left, exists_eq_left', and_assoc, true_and, and_true, true_implies, false_implies, not_true_eq_false, not_false_eq_true, li_0, li_1, li_2, li_3, li_4, li_5, li_8, li_9, li_10, li_16, li_20, li_80, li_100, li_130, li_144, li_390, li_400, li_M, li_H, li_of, nI_add, pk_mul, cl_, vp_iff, nI_leI, nI_ltI, nI_eq, Nat.add_zero, Nat.zero_add, Nat.reduceEqDiff, Nat.reduceAdd, eq_self, reduceIte, Bool.false_eq_true, li_neg]
        refine ⟨μ3, z_X12_tryReaders (e_X12_tryReaders_0 ?_), ⟨RX_KF hx kf, ⟨by rw [o219']; exact h38, by rw [o219']; exact h39⟩, ⟨by rw [o219']; exact h37, hrow.imp id (fun z k hk => by rw [o235]; exact z k hk)⟩, fun k hk => by rw [o234]; exact hch k hk⟩, RSF_KF kf⟩
        have t := q1 _ (p1 _ t101)
        simp (disch := first | assumption | omega) only [h38, Nat.le_refl, g1, Option.some.injEq, Prod.mk.injEq, Value.int.injEq, exists_and_left, exists_eq_left', and_assoc, true_and, and_true, true_implies, false_implies, not_true_eq_false, not_false_eq_true, li_0, li_1, li_2, li_3, li_4, li_5, li_8, li_9, li_10, li_16, li_20, li_80, li_100, li_130, li_144, li_390, li_400, li_M, li_H, li_of, nI_add, pk_mul, cl_, vp_iff, nI_leI, nI_ltI, nI_eq, Nat.add_zero, Nat.zero_add, Nat.reduceEqDiff, Nat.reduceAdd, eq_self, reduceIte, Bool.false_eq_true, li_neg]
        exact t
    · have e : tr_ B c w 0 c v s = s := by rw [tr_, if_neg (fun z => hok z.1)]
      rw [e]
      have kf : KF_ μ μ2 := KF_tr g3 q2
      have o219' : μ2.1 219 = μ.1 219 := kf.1 219 (by decide)
      refine ⟨μ2, z_X12_tryReaders (e_X12_tryReaders_0 ?_), ⟨RX_KF hx kf, ⟨by rw [o219']; exact h38, by rw [o219']; exact h39⟩, ⟨by rw [o219']; exact h37, hrow.imp id (fun z k hk => by rw [kf.1 235 (by decide)]; exact z k hk)⟩, fun k hk => by rw [kf.1 234 (by decide)]; exact hch k hk⟩, RSF_KF kf⟩
      simp (disch := first | assumption | omega) only [h38, Nat.le_refl, g1, Option.some.injEq, Prod.mk.injEq, Value.int.injEq, exists_and_left, exists_eq_left', and_assoc, true_and, and_true, true_implies, false_implies, not_true_eq_false, not_false_eq_true, li_0, li_1, li_2, li_3, li_4, li_5, li_8, li_9, li_10, li_16, li_20, li_80, li_100, li_130, li_144, li_390, li_400, li_M, li_H, li_of, nI_add, pk_mul, cl_, vp_iff, nI_leI, nI_ltI, nI_eq, Nat.add_zero, Nat.zero_add, Nat.reduceEqDiff, Nat.reduceAdd, eq_self, reduceIte, Bool.false_eq_true, li_neg]
      exact q1
  | succ n ih =>
    intro c d v s μ hc hd hv h
    obtain ⟨d, rfl⟩ : ∃ d', d = d' + 1 := ⟨d - 1, by omega⟩
    have h3 := BO_c h.1.2
    have hcm : ¬ m ≤ c := by omega
    have t10 : ∀ k r s1 (μ1 : St_), r + k = w + 1 → RS_ μ1 B m w v c s1 → ∃ μ', Ev_ (P_X12_tryReaders KC (f_X12_tryReaders KC d)) 10 [some (.ref 219), some (.int (nI c)), some (.int (nI r)), none, none] [] μ1 (none, μ') ∧ (∀ s0, tl_ (fun r s => tr_ B m w n (c + 1) (ud_ v c r) s) r s0 = s1 → RS_ μ' B m w v c (tr_ B m w (n + 1) c v s0)) ∧ RSF_ μ1 μ' := by
      intro k
      induction k with
      | zero =>
        intro r s1 μ1 hr h1
        have hr1 : w < r := by omega
        refine ⟨μ1, e_X12_tryReaders_10 ?_, fun s0 hs => ?_, ⟨fr_rf _ _, fun _ _ => rfl⟩⟩
        · simp (disch := first | assumption | omega) only [h1.2.1.2, hr1, Option.some.injEq, Prod.mk.injEq, Value.int.injEq, exists_and_left, exists_eq_left', and_assoc, true_and, and_true, true_implies, false_implies, not_true_eq_false, not_false_eq_true, li_0, li_1, li_2, li_3, li_4, li_5, li_8, li_9, li_10, li_16, li_20, li_80, li_100, li_130, li_144, li_390, li_400, li_M, li_H, li_of, nI_add, pk_mul, cl_, vp_iff, nI_leI, nI_ltI, nI_eq, Nat.add_zero, Nat.zero_add, Nat.reduceEqDiff, Nat.reduceAdd, eq_self, reduceIte, Bool.false_eq_true, li_neg]
        · rw [tr_, show w + 1 = r by omega, hs]
          exact h1
      | succ k ihk =>
        intro r s1 μ1 hr h1
        have hr1 : ¬ w < r := by omega
        obtain ⟨μ2, g1, g2, g3⟩ := ih (c + 1) d (ud_ v c r) s1 (sI_ μ1 234 c (nI r)) (by omega) (by omega) (fun k hk => by
          by_cases e : k = c
          · rw [e, ud_eq]; omega
          · rw [ud_ne _ _ e]; exact hv k (by omega)) ⟨RX_sI h1.1 (by decide), ⟨by rw [sI_row _ _ _ _ (by decide)]; exact h1.2.1.1, by rw [sI_row _ _ _ _ (by decide)]; exact h1.2.1.2⟩, ⟨by rw [sI_row _ _ _ _ (by decide)]; exact h1.2.2.1.1, h1.2.2.1.2.imp id (fun z k hk => by rw [sI_row _ _ _ _ (by decide)]; exact z k hk)⟩, fun k hk => by
          rw [sI_at]
          by_cases e : k = c
          · rw [if_pos ⟨rfl, e⟩, e, ud_eq]
          · rw [if_neg (fun z => e z.2), ud_ne _ _ e]
            exact h1.2.2.2 k (by omega)⟩
        obtain ⟨μ', q1, q2, q3⟩ := ihk (r + 1) _ μ2 (by omega) ⟨g2.1, g2.2.1, g2.2.2.1, fun k hk => by
          have := g2.2.2.2 k (by omega)
          rw [ud_ne _ _ (by omega)] at this
          exact this⟩
        refine ⟨μ', e_X12_tryReaders_10 ?_, fun s0 hs => q2 s0 (by rw [tl_, hs]), RSF_tr (RSF_sI (by omega)) (RSF_tr g3 q3)⟩
        simp (disch := first | assumption | omega) only [h1.2.1.2, hr1, g1, Option.some.injEq, Prod.mk.injEq, Value.int.injEq, exists_and_left, exists_eq_left', and_assoc, true_and, and_true, true_implies, false_implies, not_true_eq_false, not_false_eq_true, li_0, li_1, li_2, li_3, li_4, li_5, li_8, li_9, li_10, li_16, li_20, li_80, li_100, li_130, li_144, li_390, li_400, li_M, li_H, li_of, nI_add, pk_mul, cl_, vp_iff, nI_leI, nI_ltI, nI_eq, Nat.add_zero, Nat.zero_add, Nat.reduceEqDiff, Nat.reduceAdd, eq_self, reduceIte, Bool.false_eq_true, li_neg]
        (repeat' apply And.intro) <;> first | omega | rfl | assumption | exact q1
    obtain ⟨μ', q1, q2, q3⟩ := t10 (w + 1) 0 s μ (by omega) h
    refine ⟨μ', z_X12_tryReaders (e_X12_tryReaders_0 ?_), q2 s rfl, q3⟩
    simp (disch := first | assumption | omega) only [h.2.1.1, hcm, Option.some.injEq, Prod.mk.injEq, Value.int.injEq, exists_and_left, exists_eq_left', and_assoc, true_and, and_true, true_implies, false_implies, not_true_eq_false, not_false_eq_true, li_0, li_1, li_2, li_3, li_4, li_5, li_8, li_9, li_10, li_16, li_20, li_80, li_100, li_130, li_144, li_390, li_400, li_M, li_H, li_of, nI_add, pk_mul, cl_, vp_iff, nI_leI, nI_ltI, nI_eq, Nat.add_zero, Nat.zero_add, Nat.reduceEqDiff, Nat.reduceAdd, eq_self, reduceIte, Bool.false_eq_true, li_neg]
    exact q1
end BN
