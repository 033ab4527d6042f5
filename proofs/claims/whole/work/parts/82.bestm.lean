/-! BEST: the class's search; the reference's -/
section BM
variable {σ μ : St_} {b : Nat} {B : Nat → Nat → Nat} {m w : Nat} {v : Nat → Nat} {k : K_}
noncomputable def bs0_ (B : Nat → Nat → Nat) (m w : Nat) : Int32 × (Nat → Nat) := tr_ B m w m 0 (fun _ => 0) (nM_, fun _ => 0)
theorem bs0_found (hO : BO_ B) (hw : w ≤ B 0 1) (hm : m ≤ B 0 0) : ¬ (bs0_ B m w).1 = nM_ := by
  have := tr_found (m := m) hO hw hm m 0 (fun _ => 0) (nM_, fun _ => 0) (by omega) (fun d hd => absurd hd (by omega)) (fun d hd => absurd hd (by omega))
  intro z
  refine this ?_
  show (bs0_ B m w).1 < nI 0
  rw [z]
  decide
theorem c_search (hB : isB b) (hC : CB_ σ b B) (hO : BO_ B) (hm : m ≤ B 0 0) (hm6 : m ≤ 6) (hw : w ≤ B 0 1) (hw4 : w ≤ 4) : ∃ σ', f_X10_search KC [.ref 99, .ref b, .int (nI m), .int (nI w)] σ = some (some (.int (bs0_ B m w).1), σ') ∧ σ'.1 99 1 = nI m ∧ (∀ k, k < m → σ'.1 100 k = tv_ w ((bs0_ B m w).2 k)) ∧ GF_ [99, 100, 101, 102, 103, 104] σ σ' := by
  have h3 := BO_c hO
  have bn := b_no hB
  have fr0 : GF_ [99, 100, 101, 102, 103, 104] σ (sI_ (sI_ (sI_ (sI_ (sR_ σ 99 6 (some b)) 99 7 (nI m)) 99 8 (nI w)) 99 1 (nI m)) 99 9 nM_) := GF_tr (GF_sR (by simp)) (GF_tr (GF_sI (by simp)) (GF_tr (GF_sI (by simp)) (GF_tr (GF_sI (by simp)) (GF_sI (by simp)))))
  have loop : ∀ n r σ1, r + n = w → CXS_ σ1 b B m w → σ1.1 99 9 = nM_ → σ1.1 99 1 = nI m → (∀ q, q < r → σ1.1 102 q = nI (B 7 q)) → ∃ σ', Ev_ (P_X10_search KC) 31 [some (.ref 99), some (.ref b), some (.int (nI m)), some (.int (nI w)), some (.int (nI r))] [] σ1 (some (.int (bs0_ B m w).1), σ') ∧ σ'.1 99 1 = nI m ∧ (∀ k, k < m → σ'.1 100 k = tv_ w ((bs0_ B m w).2 k)) ∧ SHF_ σ1 σ' := by
    intro n
    induction n with
    | zero =>
      intro r σ1 hr hx h9 h1 hq
      obtain rfl : r = w := by omega
      obtain ⟨σ', q1, q2, q3⟩ := c_tryFrom hB hO hm hm6 hw hw4 m 0 80 (fun _ => 0) (nM_, fun _ => 0) σ1 (by omega) (by omega) (fun k hk => absurd hk (by omega)) ⟨hx, ⟨h9, Or.inl rfl⟩, hq, fun q d _ hd => absurd hd (by omega), fun k hk => absurd hk (by omega)⟩ (fun d hd => absurd hd (by omega))
      rw [show val_ B r (fun _ => 0) 0 = nI 0 from rfl] at q1
      refine ⟨σ', e_X10_search_31 hB ?_, by rw [q3.2 1 (by decide)]; exact h1, fun k hk => ?_, q3⟩
      · simp (disch := first | assumption | omega) only [hx.2.2.2, Nat.le_refl, q1, Option.some.injEq, Prod.mk.injEq, Value.int.injEq, exists_and_left, exists_eq_left', and_assoc, true_and, and_true, true_implies, false_implies, not_true_eq_false, not_false_eq_true, li_0, li_1, li_2, li_3, li_4, li_5, li_8, li_9, li_10, li_16, li_20, li_80, li_100, li_130, li_144, li_390, li_400, li_M, li_H, li_of, nI_add, pk_mul, cl_, vp_iff, nI_leI, nI_ltI, nI_eq, Nat.add_zero, Nat.zero_add, Nat.reduceEqDiff, Nat.reduceAdd, eq_self, reduceIte, Bool.false_eq_true, li_neg]
        exact q2.2.1.1.symm
      · exact (q2.2.1.2.elim (fun z => absurd z (bs0_found hO hw hm)) id) k hk
    | succ n ih =>
      intro r σ1 hr hx h9 h1 hq
      have hr1 : ¬ w ≤ r := by omega
      have hrB : r < B 0 1 := by omega
      have fr1 : SHF_ σ1 (sI_ σ1 102 r (nI (B 7 r))) := SHF_sI (by omega)
      obtain ⟨σ', q1, q2, q3, q4⟩ := ih (r + 1) (sI_ σ1 102 r (nI (B 7 r))) (by omega) (CXS_SHF hB hO hx fr1) (by rw [sI_row _ _ _ _ (by decide)]; exact h9) (by rw [sI_row _ _ _ _ (by decide)]; exact h1) (fun q hq2 => by
        rw [sI_at]
        by_cases e : q = r
        · rw [if_pos ⟨rfl, e⟩, e]
        · rw [if_neg (fun z => e z.2)]
          exact hq q (by omega))
      refine ⟨σ', e_X10_search_31 hB ?_, q2, q3, SHF_tr fr1 q4⟩
      simp (disch := first | assumption | omega) only [hx.2.2.2, hr1, hx.2.1, hB, (hx.1.2.2 r hrB).2.2.2.2.1, Option.some.injEq, Prod.mk.injEq, Value.int.injEq, exists_and_left, exists_eq_left', and_assoc, true_and, and_true, true_implies, false_implies, not_true_eq_false, not_false_eq_true, li_0, li_1, li_2, li_3, li_4, li_5, li_8, li_9, li_10, li_16, li_20, li_80, li_100, li_130, li_144, li_390, li_400, li_M, li_H, li_of, nI_add, pk_mul, cl_, vp_iff, nI_leI, nI_ltI, nI_eq, Nat.add_zero, Nat.zero_add, Nat.reduceEqDiff, Nat.reduceAdd, eq_self, reduceIte, Bool.false_eq_true, li_neg]
      (repeat' apply And.intro) <;> first | omega | rfl | assumption | exact q1
  obtain ⟨σ', q1, q2, q3, q4⟩ := loop w 0 (sI_ (sI_ (sI_ (sI_ (sR_ σ 99 6 (some b)) 99 7 (nI m)) 99 8 (nI w)) 99 1 (nI m)) 99 9 nM_) (by omega) ⟨CB_row (σ := σ) hB hC (fun o o1 o2 => by
    rw [sI_row _ _ _ _ (by omega), sI_row _ _ _ _ (by omega), sI_row _ _ _ _ (by omega), sI_row _ _ _ _ (by omega)]
    rfl) hO, by simp only [sI_2]; rw [sR_at, if_pos ⟨rfl, rfl⟩], by simp [sI_at], by simp [sI_at]⟩ (by simp [sI_at]) (by simp [sI_at]) (fun q hq => absurd hq (by omega))
  have e7 : (sI_ (sI_ (sR_ σ 99 6 (some b)) 99 7 (nI m)) 99 8 (nI w)).1 99 7 = nI m := by simp [sI_at]
  refine ⟨σ', z_X10_search (e_X10_search_0 hB ?_), q2, q3, GF_tr fr0 (GF_fr q4.1 (fun o ho => ho))⟩
  simp (disch := first | assumption | omega) only [e7, Option.some.injEq, Prod.mk.injEq, Value.int.injEq, exists_and_left, exists_eq_left', and_assoc, true_and, and_true, true_implies, false_implies, not_true_eq_false, not_false_eq_true, li_0, li_1, li_2, li_3, li_4, li_5, li_8, li_9, li_10, li_16, li_20, li_80, li_100, li_130, li_144, li_390, li_400, li_M, li_H, li_of, nI_add, pk_mul, cl_, vp_iff, nI_leI, nI_ltI, nI_eq, Nat.add_zero, Nat.zero_add, Nat.reduceEqDiff, Nat.reduceAdd, eq_self, reduceIte, Bool.false_eq_true, li_neg]
  exact q1
/-- the reference: reading, then telling, by the way v -/
def VR_ (μ : St_) (m w : Nat) (v : Nat → Nat) : Prop := (μ.1 219 38 = nI m ∧ μ.1 219 39 = nI w) ∧ (∀ k, k < m → μ.1 234 k = nI (v k)) ∧ ∀ k, k < m → v k ≤ w
theorem VR_KF {μ' : St_} (h : VR_ μ m w v) (hf : KF_ μ μ') : VR_ μ' m w v := ⟨⟨by rw [hf.1 219 (by decide)]; exact h.1.1, by rw [hf.1 219 (by decide)]; exact h.1.2⟩, fun k hk => by rw [hf.1 234 (by decide)]; exact h.2.1 k hk, h.2.2⟩
/-- behind reading the first c: what each of the w has left, and KNOWS -/
def K1_ (B : Nat → Nat → Nat) (m w : Nat) (v : Nat → Nat) (c : Nat) (k : K_) : Prop := (∀ r, r < w → k.1 r = (st_ B w v c).1 r) ∧ (∀ r d, r < w → d < c → k.2.2.2 (16 * r + d) = (st_ B w v c).2.1 (16 * r + d)) ∧ (∀ r d, d < 16 → (w ≤ r ∨ c ≤ d) → k.2.2.2 (16 * r + d) = nI 0) ∧ ∀ r d, r < w → d < c → v d = r → hb_ (k.2.1 r) d
theorem st_in1 {c u d r : Nat} {E : (Nat → Int32) × (Nat → Int32) × (Nat → Int32)} (hu : u < w) (hd : d < 16) : (es_ B w E c r).2.1 (16 * u + d) = if d = c then (if u = r then vR_ B E.2.1 r c else nI 0) else E.2.1 (16 * u + d) := by
  show (if (16 * u + d) % 16 = c ∧ (16 * u + d) / 16 < w then (if (16 * u + d) / 16 = r then vR_ B E.2.1 r c else nI 0) else E.2.1 (16 * u + d)) = _
  rw [show (16 * u + d) % 16 = d by omega, show (16 * u + d) / 16 = u by omega]
  by_cases e : d = c
  · rw [if_pos ⟨e, hu⟩, if_pos e]
  · rw [if_neg (fun z => e z.1), if_neg e]
theorem st_in2 {c u d r : Nat} {E : (Nat → Int32) × (Nat → Int32) × (Nat → Int32)} (hu : u < w) (hd : d < 16) : (es_ B w E c r).2.2 (16 * u + d) = if d = c then (if r = w then nI 0 else if u = r then vR_ B E.2.1 r c else oM_ (gv_ B r u 4 (vR_ B E.2.1 r c)) (nI 1000000 - lk_ B E.2.2 u c)) else E.2.2 (16 * u + d) := by
  show (if (16 * u + d) % 16 = c ∧ (16 * u + d) / 16 < w then (if r = w then nI 0 else if (16 * u + d) / 16 = r then vR_ B E.2.1 r c else oM_ (gv_ B r ((16 * u + d) / 16) 4 (vR_ B E.2.1 r c)) (nI 1000000 - lk_ B E.2.2 ((16 * u + d) / 16) c)) else E.2.2 (16 * u + d)) = _
  rw [show (16 * u + d) % 16 = d by omega, show (16 * u + d) / 16 = u by omega]
  by_cases e : d = c
  · rw [if_pos ⟨e, hu⟩, if_pos e]
  · rw [if_neg (fun z => e z.1), if_neg e]
/-- rows settled for d below c stay as they are -/
theorem st_keep1 {u d : Nat} (hu : u < w) (hd : d < 16) : ∀ n c, d < c → (st_ B w v (c + n)).2.1 (16 * u + d) = (st_ B w v c).2.1 (16 * u + d)
  | 0, _, _ => rfl
  | n + 1, c, h => by rw [show c + (n + 1) = c + n + 1 by omega, st_, st_in1 hu hd, if_neg (by omega), st_keep1 hu hd n c h]
theorem st_keep2 {u d : Nat} (hu : u < w) (hd : d < 16) : ∀ n c, d < c → (st_ B w v (c + n)).2.2 (16 * u + d) = (st_ B w v c).2.2 (16 * u + d)
  | 0, _, _ => rfl
  | n + 1, c, h => by rw [show c + (n + 1) = c + n + 1 by omega, st_, st_in2 hu hd, if_neg (by omega), st_keep2 hu hd n c h]
/-- the reference's first round: all is READ; 'no': there is no time -/
theorem m_read45 (hw : w ≤ B 0 1) (hm : m ≤ B 0 0) (hm6 : m ≤ 6) {rt : Fn_} {x1 : Int32} : ∀ n c k (μ : St_), c + n = m → RX_ μ B → MK_ μ B k → VR_ μ m w v → K1_ B m w v c k → okv_ B w v c → (okv_ B w v m ∧ ∃ μ' k', (∀ out, Ev_ (P_X12_tryReaders KC rt) 101 [some (.ref 219), some (.int x1), some (.int (nI 0)), none, none] [] μ' out → Ev_ (P_X12_tryReaders KC rt) 45 [some (.ref 219), some (.int x1), some (.int (nI c)), none, none] [] μ out) ∧ RX_ μ' B ∧ MK_ μ' B k' ∧ VR_ μ' m w v ∧ K1_ B m w v m k' ∧ KF_ μ μ') ∨ (¬ okv_ B w v m ∧ ∃ μ', Ev_ (P_X12_tryReaders KC rt) 45 [some (.ref 219), some (.int x1), some (.int (nI c)), none, none] [] μ (none, μ') ∧ KF_ μ μ') := by
  intro n
  induction n with
  | zero =>
    intro c k μ hc hx hk hv h1 hok
    obtain rfl : c = m := by omega
    refine Or.inl ⟨hok, μ, k, fun out q => e_X12_tryReaders_45 ?_, hx, hk, hv, h1, KF_rf⟩
    simp (disch := first | assumption | omega) only [hv.1.1, Nat.le_refl, Option.some.injEq, Prod.mk.injEq, Value.int.injEq, exists_and_left, exists_eq_left', and_assoc, true_and, and_true, true_implies, false_implies, not_true_eq_false, not_false_eq_true, li_0, li_1, li_2, li_3, li_4, li_5, li_8, li_9, li_10, li_16, li_20, li_80, li_100, li_130, li_144, li_390, li_400, li_M, li_H, li_of, nI_add, pk_mul, cl_, vp_iff, nI_leI, nI_ltI, nI_eq, Nat.add_zero, Nat.zero_add, Nat.reduceEqDiff, Nat.reduceAdd, eq_self, reduceIte, Bool.false_eq_true, li_neg]
    exact q
  | succ n ih =>
    intro c k μ hc hx hk hv h1 hok
    have hO := hx.2
    have h3 := BO_c hO
    have hcm : c < m := by omega
    have hcB : c < B 0 0 := by omega
    have hc16 : c < 16 := by omega
    have hc1 : ¬ m ≤ c := by omega
    have hvc := hv.2.1 c hcm
    have hvw := hv.2.2 c hcm
    by_cases e : v c = w
    · have h1' : K1_ B m w v (c + 1) k := by
        refine ⟨fun r hr => ?_, fun r d hr hd => ?_, fun r d hd hz => h1.2.2.1 r d hd (by omega), fun r d hr hd hvd => h1.2.2.2 r d hr ?_ hvd⟩
        · rw [st_]
          show _ = (if v c = w then (st_ B w v c).1 else _) r
          rw [if_pos e]
          exact h1.1 r hr
        · rw [st_, st_in1 hr (by omega)]
          by_cases e2 : d = c
          · rw [if_pos e2, if_neg (by omega), e2]
            exact h1.2.2.1 r c hc16 (Or.inr (Nat.le_refl _))
          · rw [if_neg e2]
            exact h1.2.1 r d hr (by omega)
        · by_cases e2 : d = c
          · rw [e2, e] at hvd
            omega
          · omega
      have hok' : okv_ B w v (c + 1) := fun d hd => by
        by_cases e2 : d = c
        · rw [e2]
          exact Or.inl e
        · exact hok d (by omega)
      rcases ih (c + 1) k μ (by omega) hx hk hv h1' hok' with ⟨q0, μ', k', q1, q2⟩ | ⟨q0, μ', q1, q2⟩
      · refine Or.inl ⟨q0, μ', k', fun out q => e_X12_tryReaders_45 ?_, q2⟩
        have q1' := q1 out q
        simp (disch := first | assumption | omega) only [hv.1.1, hc1, hvc, hv.1.2, e, Option.some.injEq, Prod.mk.injEq, Value.int.injEq, exists_and_left, exists_eq_left', and_assoc, true_and, and_true, true_implies, false_implies, not_true_eq_false, not_false_eq_true, li_0, li_1, li_2, li_3, li_4, li_5, li_8, li_9, li_10, li_16, li_20, li_80, li_100, li_130, li_144, li_390, li_400, li_M, li_H, li_of, nI_add, pk_mul, cl_, vp_iff, nI_leI, nI_ltI, nI_eq, Nat.add_zero, Nat.zero_add, Nat.reduceEqDiff, Nat.reduceAdd, eq_self, reduceIte, Bool.false_eq_true, li_neg]
        (repeat' apply And.intro) <;> first | omega | rfl | assumption | exact q1'
      · refine Or.inr ⟨q0, μ', e_X12_tryReaders_45 ?_, q2⟩
        simp (disch := first | assumption | omega) only [hv.1.1, hc1, hvc, hv.1.2, e, Option.some.injEq, Prod.mk.injEq, Value.int.injEq, exists_and_left, exists_eq_left', and_assoc, true_and, and_true, true_implies, false_implies, not_true_eq_false, not_false_eq_true, li_0, li_1, li_2, li_3, li_4, li_5, li_8, li_9, li_10, li_16, li_20, li_80, li_100, li_130, li_144, li_390, li_400, li_M, li_H, li_of, nI_add, pk_mul, cl_, vp_iff, nI_leI, nI_ltI, nI_eq, Nat.add_zero, Nat.zero_add, Nat.reduceEqDiff, Nat.reduceAdd, eq_self, reduceIte, Bool.false_eq_true, li_neg]
        (repeat' apply And.intro) <;> first | omega | rfl | assumption | exact q1
    · have hvr : v c < w := by omega
      have hvB : v c < B 0 1 := by omega
      have hlk := h1.1 (v c) hvr
      by_cases ht : (st_ B w v c).1 (v c) < nI (tR_ B (v c) c)
      · have ht2 := Int32.not_le.mpr ht
        have hno : ¬ okv_ B w v m := fun z => (z c hcm).elim e (fun y => y ht)
        refine Or.inr ⟨hno, μ, e_X12_tryReaders_45 ?_, KF_rf⟩
        simp (disch := first | assumption | omega) only [hv.1.1, hc1, hvc, hv.1.2, e, m_ttr hx hvB hcB, MK_l hk hvB, hlk, ht2, Option.some.injEq, Prod.mk.injEq, Value.int.injEq, exists_and_left, exists_eq_left', and_assoc, true_and, and_true, true_implies, false_implies, not_true_eq_false, not_false_eq_true, li_0, li_1, li_2, li_3, li_4, li_5, li_8, li_9, li_10, li_16, li_20, li_80, li_100, li_130, li_144, li_390, li_400, li_M, li_H, li_of, nI_add, pk_mul, cl_, vp_iff, nI_leI, nI_ltI, nI_eq, Nat.add_zero, Nat.zero_add, Nat.reduceEqDiff, Nat.reduceAdd, eq_self, reduceIte, Bool.false_eq_true, li_neg]
        (repeat' apply And.intro) <;> first | omega | rfl | assumption
      · have ht2 := Int32.not_lt.mp ht
        obtain ⟨μ2, g1, g2, g3⟩ := m_reads hx hk hvB hcB
        have hz := h1.2.2.1 (v c) c hc16 (Or.inr (Nat.le_refl _))
        have hp : ∀ i, ∃ n, n ≤ 1000000 ∧ (st_ B w (fun d => if d < c then v d else 0) c).2.1 i = nI n := (st_n (v := fun d => if d < c then v d else 0) hO hw c (by omega) (fun d hd => by rw [if_pos hd]; exact hv.2.2 d (by omega))).1
        have hst0 : st_ B w (fun d => if d < c then v d else 0) c = st_ B w v c := st_cg c (fun d hd => if_pos hd)
        rw [hst0] at hp
        have hvv : vR_ B k.2.2.2 (v c) c = vR_ B (st_ B w v c).2.1 (v c) c := by
          unfold vR_ lk_
          rw [lkS_cg c (fun d hd => h1.2.1 (v c) d hvr hd)]
        obtain ⟨q, hq1, hq2⟩ := vR_n (r := v c) hO _ hp hvB hcB
        have hmx : mx_ (k.2.2.2 (16 * v c + c)) (vR_ B k.2.2.2 (v c) c) = vR_ B (st_ B w v c).2.1 (v c) c := by
          rw [hz, hvv, hq2]
          unfold mx_
          by_cases hq0 : 0 < q
          · rw [if_pos (nI_lt hq0 (by omega))]
          · rw [if_neg (nI_nlt (by omega) (by omega)), show q = 0 by omega]
        have h1' : K1_ B m w v (c + 1) (rdK_ B k (v c) c) := by
          refine ⟨fun r hr => ?_, fun r d hr hd => ?_, fun r d hd hz2 => ?_, fun r d hr hd hvd => ?_⟩
          · rw [st_]
            show ud_ k.1 (v c) _ r = (if v c = w then (st_ B w v c).1 else ud_ (st_ B w v c).1 (v c) ((st_ B w v c).1 (v c) - nI (tR_ B (v c) c))) r
            rw [if_neg e]
            by_cases e2 : r = v c
            · rw [e2, ud_eq, ud_eq, hlk]
            · rw [ud_ne _ _ e2, ud_ne _ _ e2]
              exact h1.1 r hr
          · rw [st_, st_in1 hr (by omega)]
            show ud_ k.2.2.2 (16 * v c + c) _ (16 * r + d) = _
            by_cases e2 : d = c
            · rw [if_pos e2, e2]
              by_cases e3 : r = v c
              · rw [if_pos e3, e3, ud_eq, hmx]
              · rw [if_neg e3, ud_ne _ _ (by omega)]
                exact h1.2.2.1 r c hc16 (Or.inr (Nat.le_refl _))
            · rw [if_neg e2, ud_ne _ _ (by omega)]
              exact h1.2.1 r d hr (by omega)
          · show ud_ k.2.2.2 (16 * v c + c) _ (16 * r + d) = _
            rw [ud_ne _ _ (by omega)]
            exact h1.2.2.1 r d hd (by omega)
          · show hb_ (ud_ k.2.1 (v c) (ob_ (k.2.1 (v c)) c) r) d
            by_cases e3 : r = v c
            · rw [e3, ud_eq, hb_ob (by omega) (by omega)]
              by_cases e2 : d = c
              · exact Or.inr e2
              · exact Or.inl (h1.2.2.2 (v c) d hvr (by omega) (by rw [hvd, e3]))
            · rw [ud_ne _ _ e3]
              refine h1.2.2.2 r d hr ?_ hvd
              by_cases e2 : d = c
              · rw [e2] at hvd
                exact absurd hvd.symm e3
              · omega
        have hok' : okv_ B w v (c + 1) := fun d hd => by
          by_cases e2 : d = c
          · rw [e2]
            exact Or.inr ht
          · exact hok d (by omega)
        rcases ih (c + 1) _ μ2 (by omega) (RX_KF hx g3) g2 (VR_KF hv g3) h1' hok' with ⟨q0, μ', k', q1, q2, q3, q4, q5, q6⟩ | ⟨q0, μ', q1, q2⟩
        · refine Or.inl ⟨q0, μ', k', fun out q => e_X12_tryReaders_45 ?_, q2, q3, q4, q5, KF_tr g3 q6⟩
          have q1' := q1 out q
          simp (disch := first | assumption | omega) only [hv.1.1, hc1, hvc, hv.1.2, e, m_ttr hx hvB hcB, MK_l hk hvB, hlk, ht2, g1, Option.some.injEq, Prod.mk.injEq, Value.int.injEq, exists_and_left, exists_eq_left', and_assoc, true_and, and_true, true_implies, false_implies, not_true_eq_false, not_false_eq_true, li_0, li_1, li_2, li_3, li_4, li_5, li_8, li_9, li_10, li_16, li_20, li_80, li_100, li_130, li_144, li_390, li_400, li_M, li_H, li_of, nI_add, pk_mul, cl_, vp_iff, nI_leI, nI_ltI, nI_eq, Nat.add_zero, Nat.zero_add, Nat.reduceEqDiff, Nat.reduceAdd, eq_self, reduceIte, Bool.false_eq_true, li_neg]
          (repeat' apply And.intro) <;> first | omega | rfl | assumption | exact q1'
        · refine Or.inr ⟨q0, μ', e_X12_tryReaders_45 ?_, KF_tr g3 q2⟩
          simp (disch := first | assumption | omega) only [hv.1.1, hc1, hvc, hv.1.2, e, m_ttr hx hvB hcB, MK_l hk hvB, hlk, ht2, g1, Option.some.injEq, Prod.mk.injEq, Value.int.injEq, exists_and_left, exists_eq_left', and_assoc, true_and, and_true, true_implies, false_implies, not_true_eq_false, not_false_eq_true, li_0, li_1, li_2, li_3, li_4, li_5, li_8, li_9, li_10, li_16, li_20, li_80, li_100, li_130, li_144, li_390, li_400, li_M, li_H, li_of, nI_add, pk_mul, cl_, vp_iff, nI_leI, nI_ltI, nI_eq, Nat.add_zero, Nat.zero_add, Nat.reduceEqDiff, Nat.reduceAdd, eq_self, reduceIte, Bool.false_eq_true, li_neg]
          (repeat' apply And.intro) <;> first | omega | rfl | assumption | exact q1
end BM
