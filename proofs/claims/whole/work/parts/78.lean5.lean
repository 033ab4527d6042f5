section LE2
variable {σ μ : St_} {b p : Nat} {B : Nat → Nat → Nat} {T : T_} {f : Nat} {q : Nat → Nat}
/-- the class reads a part -/
theorem c_readPart {r s : Nat} (hr : r < B 0 1) : ∀ n c (T : T_) (σ : St_), c + n = B 0 0 → (∀ x, x < B 0 0 → σ.1 91 x = nI (q x) ∧ q x < 16) → s < 16 → CG_ σ b p B T → ∃ σ', Ev_ (P_X4_readPart KC) 2 [some (.ref 85), some (.int (nI r)), some (.int (nI s)), some (.int (nI c))] [] σ (none, σ') ∧ CG_ σ' b p B (lrp_ B q r s n c T) ∧ CFp_ p σ σ' := by
  intro n
  induction n with
  | zero =>
    intro c T σ hc hq hs h
    obtain rfl : c = B 0 0 := by omega
    have hB := h.1.1.1.2.1
    have h3 := BO_c h.1.1.2.2
    refine ⟨σ, e_X4_readPart_2 ?_, h, CFp_rf⟩
    simp (disch := first | assumption | omega) only [h.1.2.1, hB, h.1.1.2.1.1.1, Nat.le_refl, Option.some.injEq, Prod.mk.injEq, Value.int.injEq, exists_and_left, exists_eq_left', and_assoc, true_and, and_true, true_implies, false_implies, not_true_eq_false, not_false_eq_true, li_0, li_1, li_2, li_3, li_4, li_5, li_8, li_9, li_10, li_16, li_20, li_80, li_100, li_130, li_144, li_390, li_400, li_M, li_H, li_of, nI_add, pk_mul, cl_, vp_iff, nI_leI, nI_ltI, nI_eq, Nat.add_zero, Nat.zero_add, Nat.reduceEqDiff, Nat.reduceAdd, eq_self, reduceIte, Bool.false_eq_true, li_neg]
  | succ n ih =>
    intro c T σ hc hq hs h
    have hB := h.1.1.1.2.1
    have h3 := BO_c h.1.1.2.2
    have pn := p_no h.1.2.2.2
    have h1 : ¬ B 0 0 ≤ c := by omega
    have h2 : c < B 0 0 := by omega
    have hqc := hq c h2
    by_cases e : q c = s
    · obtain ⟨σ2, g1, g2, g3⟩ := c_tryAct (f := 0) (l := 0) h hr h2 (by omega) (Nat.two_pow_pos _)
      by_cases hok : (ta_ B T r c 0 0).1 = true
      · obtain ⟨σ', q1, q2, q3⟩ := ih (c + 1) _ σ2 (by omega) (fun x hx => by rw [g3.1 91 (by simp; omega)]; exact hq x hx) hs g2
        rw [if_pos hok] at g1
        refine ⟨σ', e_X4_readPart_2 ?_, by rw [lrp_, if_pos e, if_pos hok]; exact q2, CFp_tr g3 q3⟩
        simp (disch := first | assumption | omega) only [h.1.2.1, hB, h.1.1.2.1.1.1, h1, hqc.1, e, g1, Option.some.injEq, Prod.mk.injEq, Value.int.injEq, exists_and_left, exists_eq_left', and_assoc, true_and, and_true, true_implies, false_implies, not_true_eq_false, not_false_eq_true, li_0, li_1, li_2, li_3, li_4, li_5, li_8, li_9, li_10, li_16, li_20, li_80, li_100, li_130, li_144, li_390, li_400, li_M, li_H, li_of, nI_add, pk_mul, cl_, vp_iff, nI_leI, nI_ltI, nI_eq, Nat.add_zero, Nat.zero_add, Nat.reduceEqDiff, Nat.reduceAdd, eq_self, reduceIte, Bool.false_eq_true, li_neg]
        (repeat' apply And.intro) <;> first | omega | rfl | assumption | exact q1
      · rw [if_neg hok] at g1
        refine ⟨σ2, e_X4_readPart_2 ?_, by rw [lrp_, if_pos e, if_neg hok]; exact g2, g3⟩
        simp (disch := first | assumption | omega) only [h.1.2.1, hB, h.1.1.2.1.1.1, h1, hqc.1, e, g1, Option.some.injEq, Prod.mk.injEq, Value.int.injEq, exists_and_left, exists_eq_left', and_assoc, true_and, and_true, true_implies, false_implies, not_true_eq_false, not_false_eq_true, li_0, li_1, li_2, li_3, li_4, li_5, li_8, li_9, li_10, li_16, li_20, li_80, li_100, li_130, li_144, li_390, li_400, li_M, li_H, li_of, nI_add, pk_mul, cl_, vp_iff, nI_leI, nI_ltI, nI_eq, Nat.add_zero, Nat.zero_add, Nat.reduceEqDiff, Nat.reduceAdd, eq_self, reduceIte, Bool.false_eq_true, li_neg]
        (repeat' apply And.intro) <;> first | omega | rfl | assumption
    · obtain ⟨σ', q1, q2⟩ := ih (c + 1) T σ (by omega) hq hs h
      refine ⟨σ', e_X4_readPart_2 ?_, by rw [lrp_, if_neg e]; exact q2⟩
      have hq16 := hqc.2
      simp (disch := first | assumption | omega) only [h.1.2.1, hB, h.1.1.2.1.1.1, h1, hqc.1, e, Option.some.injEq, Prod.mk.injEq, Value.int.injEq, exists_and_left, exists_eq_left', and_assoc, true_and, and_true, true_implies, false_implies, not_true_eq_false, not_false_eq_true, li_0, li_1, li_2, li_3, li_4, li_5, li_8, li_9, li_10, li_16, li_20, li_80, li_100, li_130, li_144, li_390, li_400, li_M, li_H, li_of, nI_add, pk_mul, cl_, vp_iff, nI_leI, nI_ltI, nI_eq, Nat.add_zero, Nat.zero_add, Nat.reduceEqDiff, Nat.reduceAdd, eq_self, reduceIte, Bool.false_eq_true, li_neg]
      (repeat' apply And.intro) <;> first | omega | rfl | assumption | exact q1
theorem c_addParts7 : ∀ n s (T0 : T_) (σ : St_), s + n = B 0 0 → (∀ x, x < B 0 0 → σ.1 91 x = nI (q x) ∧ q x < 16) → CG_ σ b p B (lpa_ B q T0 s) → ∃ σ', Ev_ (P_X4_addParts KC) 7 [some (.ref 85), some (.int (nI f)), some (.int (nI s)), none] [] σ (none, σ') ∧ CG_ σ' b p B (lpa_ B q T0 (B 0 0)) ∧ CFp_ p σ σ' := by
  intro n
  induction n with
  | zero =>
    intro s T0 σ hs hq h
    obtain rfl : s = B 0 0 := by omega
    have hB := h.1.1.1.2.1
    have h3 := BO_c h.1.1.2.2
    refine ⟨σ, e_X4_addParts_7 ?_, h, CFp_rf⟩
    simp (disch := first | assumption | omega) only [h.1.2.1, hB, h.1.1.2.1.1.1, Nat.le_refl, Option.some.injEq, Prod.mk.injEq, Value.int.injEq, exists_and_left, exists_eq_left', and_assoc, true_and, and_true, true_implies, false_implies, not_true_eq_false, not_false_eq_true, li_0, li_1, li_2, li_3, li_4, li_5, li_8, li_9, li_10, li_16, li_20, li_80, li_100, li_130, li_144, li_390, li_400, li_M, li_H, li_of, nI_add, pk_mul, cl_, vp_iff, nI_leI, nI_ltI, nI_eq, Nat.add_zero, Nat.zero_add, Nat.reduceEqDiff, Nat.reduceAdd, eq_self, reduceIte, Bool.false_eq_true, li_neg]
  | succ n ih =>
    intro s T0 σ hs hq h
    have hB := h.1.1.1.2.1
    have h3 := BO_c h.1.1.2.2
    have pn := p_no h.1.2.2.2
    have h1 : ¬ B 0 0 ≤ s := by omega
    have h2 : s < B 0 0 := by omega
    have hqs := hq s h2
    have hq16 := hqs.2
    have g0 := c_mostLeft h (x := 0) (by decide)
    have g4 : ml_ (lpa_ B q T0 s).1 (fun r => (0 : Nat).testBit r = true) (B 0 1) = ml_ (lpa_ B q T0 s).1 (fun _ => False) (B 0 1) := ml_cg _ (fun r _ => by simp)
    rw [g4] at g0
    by_cases e : q s = s
    · cases hm : ml_ (lpa_ B q T0 s).1 (fun _ => False) (B 0 1) with
      | none =>
        have es : lpa_ B q T0 (s + 1) = lpa_ B q T0 s := by rw [lpa_]; unfold lps_; rw [if_pos e, hm]
        obtain ⟨σ', q1, q2⟩ := ih (s + 1) T0 σ (by omega) hq (by rw [es]; exact h)
        rw [hm] at g0
        refine ⟨σ', e_X4_addParts_7 ?_, q2⟩
        simp (disch := first | assumption | omega) only [h.1.2.1, hB, h.1.1.2.1.1.1, h1, g0, hqs.1, e, oN_, Option.some.injEq, Prod.mk.injEq, Value.int.injEq, exists_and_left, exists_eq_left', and_assoc, true_and, and_true, true_implies, false_implies, not_true_eq_false, not_false_eq_true, li_0, li_1, li_2, li_3, li_4, li_5, li_8, li_9, li_10, li_16, li_20, li_80, li_100, li_130, li_144, li_390, li_400, li_M, li_H, li_of, nI_add, pk_mul, cl_, vp_iff, nI_leI, nI_ltI, nI_eq, Nat.add_zero, Nat.zero_add, Nat.reduceEqDiff, Nat.reduceAdd, eq_self, reduceIte, Bool.false_eq_true, li_neg]
        (repeat' apply And.intro) <;> first | omega | rfl | assumption | exact q1
      | some r =>
        have hr := ml_lt _ _ hm
        have hrn : ¬ nI r = nM_ := nI_m1 (by omega)
        have es : lpa_ B q T0 (s + 1) = lrp_ B q r s (B 0 0 - s) s (lpa_ B q T0 s) := by rw [lpa_]; unfold lps_; rw [if_pos e, hm]
        obtain ⟨σ2, k1, k2, k3⟩ := c_readPart (q := q) (s := s) hr (B 0 0 - s) s (lpa_ B q T0 s) σ (by omega) hq (by omega) h
        obtain ⟨σ', q1, q2, q3⟩ := ih (s + 1) T0 σ2 (by omega) (fun x hx => by rw [k3.1 91 (by simp; omega)]; exact hq x hx) (by rw [es]; exact k2)
        have k1' : f_X4_readPart KC [.ref 85, .int (nI r), .int (nI s)] σ = some (none, σ2) := z_X4_readPart (e_X4_readPart_0 k1)
        rw [hm] at g0
        refine ⟨σ', e_X4_addParts_7 ?_, q2, CFp_tr k3 q3⟩
        simp (disch := first | assumption | omega) only [h.1.2.1, hB, h.1.1.2.1.1.1, h1, g0, hqs.1, e, oN_, hrn, k1', Option.some.injEq, Prod.mk.injEq, Value.int.injEq, exists_and_left, exists_eq_left', and_assoc, true_and, and_true, true_implies, false_implies, not_true_eq_false, not_false_eq_true, li_0, li_1, li_2, li_3, li_4, li_5, li_8, li_9, li_10, li_16, li_20, li_80, li_100, li_130, li_144, li_390, li_400, li_M, li_H, li_of, nI_add, pk_mul, cl_, vp_iff, nI_leI, nI_ltI, nI_eq, Nat.add_zero, Nat.zero_add, Nat.reduceEqDiff, Nat.reduceAdd, eq_self, reduceIte, Bool.false_eq_true, li_neg]
        (repeat' apply And.intro) <;> first | omega | rfl | assumption | exact q1
    · have es : lpa_ B q T0 (s + 1) = lpa_ B q T0 s := by rw [lpa_]; unfold lps_; rw [if_neg e]
      obtain ⟨σ', q1, q2⟩ := ih (s + 1) T0 σ (by omega) hq (by rw [es]; exact h)
      refine ⟨σ', e_X4_addParts_7 ?_, q2⟩
      simp (disch := first | assumption | omega) only [h.1.2.1, hB, h.1.1.2.1.1.1, h1, g0, hqs.1, e, Option.some.injEq, Prod.mk.injEq, Value.int.injEq, exists_and_left, exists_eq_left', and_assoc, true_and, and_true, true_implies, false_implies, not_true_eq_false, not_false_eq_true, li_0, li_1, li_2, li_3, li_4, li_5, li_8, li_9, li_10, li_16, li_20, li_80, li_100, li_130, li_144, li_390, li_400, li_M, li_H, li_of, nI_add, pk_mul, cl_, vp_iff, nI_leI, nI_ltI, nI_eq, Nat.add_zero, Nat.zero_add, Nat.reduceEqDiff, Nat.reduceAdd, eq_self, reduceIte, Bool.false_eq_true, li_neg]
      (repeat' apply And.intro) <;> first | omega | rfl | assumption | exact q1
/-- the reference's row 233 -/
theorem RG_233 (h : RG_ μ B T) (i : Nat) (x : Int32) : RG_ (sI_ μ 233 i x) B T := ⟨RX_sI h.1 (by decide), AM_cg h.2.1 (by rw [sI_row _ _ _ _ (by decide)]) (sI_row _ _ _ _ (by decide)), MK_cg h.2.2.1 (sI_row _ _ _ _ (by decide)) (sI_row _ _ _ _ (by decide)) (sI_row _ _ _ _ (by decide)) (sI_row _ _ _ _ (by decide)), h.2.2.2⟩
def QR_ (μ : St_) (B : Nat → Nat → Nat) (q : Nat → Nat) : Prop := ∀ x, x < B 0 0 → μ.1 233 x = nI (q x)
theorem pq_16 (h : pq_ B f q (B 0 0)) (h16 : B 0 0 ≤ 16) {x : Nat} (hx : x < B 0 0) : q x < 16 := by
  have := (h x hx).1
  omega
theorem m_pass44 (hf : 1 ≤ f ∧ f ≤ 10) {c : Nat} (hc : c < B 0 0) : ∀ n d v (q : Nat → Nat) (μ : St_), d + n = c → v < 2 → RG_ μ B T → QR_ μ B q → pq_ B f q (B 0 0) → ∃ v' q' μ', v' < 2 ∧ (∀ out, Ev_ (P_X12_makeLean KC) 33 [some (.ref 219), some (.int (nI f)), some (.int (nI v')), some (.int (nI (c + 1))), none, none, none] [] μ' out → Ev_ (P_X12_makeLean KC) 44 [some (.ref 219), some (.int (nI f)), some (.int (nI v)), some (.int (nI c)), some (.int (nI d)), none, none] [] μ out) ∧ RG_ μ' B T ∧ QR_ μ' B q' ∧ pq_ B f q' (B 0 0) ∧ fr_ [233] μ μ' ∧ ((v' = 1 ∧ fb_sm q' (B 0 0) < fb_sm q (B 0 0)) ∨ (v' = v ∧ q' = q ∧ ∀ y, d ≤ y → y < c → f ≤ B (16 + c) y → q c = q y)) := by
  intro n
  induction n with
  | zero =>
    intro d v q μ hd hv h hq hp
    obtain rfl : d = c := by omega
    have h3 := BO_c h.1.2
    refine ⟨v, q, μ, hv, fun out z => e_X12_makeLean_44 ?_, h, hq, hp, fr_rf _ _, Or.inr ⟨rfl, rfl, fun y h1 h2 => absurd h2 (by omega)⟩⟩
    simp (disch := first | assumption | omega) only [Nat.le_refl, Option.some.injEq, Prod.mk.injEq, Value.int.injEq, exists_and_left, exists_eq_left', and_assoc, true_and, and_true, true_implies, false_implies, not_true_eq_false, not_false_eq_true, li_0, li_1, li_2, li_3, li_4, li_5, li_8, li_9, li_10, li_16, li_20, li_80, li_100, li_130, li_144, li_390, li_400, li_M, li_H, li_of, nI_add, pk_mul, cl_, vp_iff, nI_leI, nI_ltI, nI_eq, Nat.add_zero, Nat.zero_add, Nat.reduceEqDiff, Nat.reduceAdd, eq_self, reduceIte, Bool.false_eq_true, li_neg]
    exact z
  | succ n ih =>
    intro d v q μ hd hv h hq hp
    have hx := h.1
    have hO := hx.2
    have h3 := BO_c hO
    have h1 : ¬ c ≤ d := by omega
    have hln := BO_ln hO hc (show d < 16 by omega)
    have hlean := m_leanOf hx hc (show d < 16 by omega)
    by_cases hl : B (16 + c) d < f
    · obtain ⟨v', q', μ', q0, q1, q2, q3, q4, q5, q6⟩ := ih (d + 1) v q μ (by omega) hv h hq hp
      refine ⟨v', q', μ', q0, fun out z => e_X12_makeLean_44 ?_, q2, q3, q4, q5, q6.imp id (fun z => ⟨z.1, z.2.1, fun y y1 y2 y3 => ?_⟩)⟩
      · have q1' := q1 out z
        simp (disch := first | assumption | omega) only [h1, hlean, hl, Option.some.injEq, Prod.mk.injEq, Value.int.injEq, exists_and_left, exists_eq_left', and_assoc, true_and, and_true, true_implies, false_implies, not_true_eq_false, not_false_eq_true, li_0, li_1, li_2, li_3, li_4, li_5, li_8, li_9, li_10, li_16, li_20, li_80, li_100, li_130, li_144, li_390, li_400, li_M, li_H, li_of, nI_add, pk_mul, cl_, vp_iff, nI_leI, nI_ltI, nI_eq, Nat.add_zero, Nat.zero_add, Nat.reduceEqDiff, Nat.reduceAdd, eq_self, reduceIte, Bool.false_eq_true, li_neg]
        exact q1'
      · by_cases e : y = d
        · subst e
          omega
        · exact z.2.2 y (by omega) y2 y3
    · have hqc := pq_16 hp h3.1 hc
      have hqd := pq_16 hp h3.1 (show d < B 0 0 by omega)
      have ec := hq c hc
      have ed := hq d (by omega)
      by_cases he : q c = q d
      · obtain ⟨v', q', μ', q0, q1, q2, q3, q4, q5, q6⟩ := ih (d + 1) v q μ (by omega) hv h hq hp
        refine ⟨v', q', μ', q0, fun out z => e_X12_makeLean_44 ?_, q2, q3, q4, q5, q6.imp id (fun z => ⟨z.1, z.2.1, fun y y1 y2 y3 => ?_⟩)⟩
        · have q1' := q1 out z
          simp (disch := first | assumption | omega) only [h1, hlean, hl, ec, ed, he, Option.some.injEq, Prod.mk.injEq, Value.int.injEq, exists_and_left, exists_eq_left', and_assoc, true_and, and_true, true_implies, false_implies, not_true_eq_false, not_false_eq_true, li_0, li_1, li_2, li_3, li_4, li_5, li_8, li_9, li_10, li_16, li_20, li_80, li_100, li_130, li_144, li_390, li_400, li_M, li_H, li_of, nI_add, pk_mul, cl_, vp_iff, nI_leI, nI_ltI, nI_eq, Nat.add_zero, Nat.zero_add, Nat.reduceEqDiff, Nat.reduceAdd, eq_self, reduceIte, Bool.false_eq_true, li_neg]
          (repeat' apply And.intro) <;> first | omega | rfl | assumption | exact q1'
        · by_cases e : y = d
          · rw [e]
            exact he
          · exact z.2.2 y (by omega) y2 y3
      · -- a change
        have hlf : f ≤ B (16 + c) d := by omega
        have hedge : ∀ h, ec_ B f h → h (q c) = h (q d) := fun h hh => by
          rw [(hp c hc).2 h hh, (hp d (by omega)).2 h hh]
          exact hh c d hc (by omega) hlf
        have hmin : min (q c) (q d) = q c ∨ min (q c) (q d) = q d := by omega
        have hpn : pq_ B f (fun x => if x = d then min (q c) (q d) else if x = c then min (q c) (q d) else q x) (B 0 0) := by
          intro x hxx
          have hpx := hp x hxx
          try dsimp only
          have pc := hp c hc
          have pd := hp d (by omega)
          by_cases e : x = d
          · rw [if_pos e]
            refine ⟨by omega, fun h hh => ?_⟩
            have e2 := hedge h hh
            have e3 := pd.2 h hh
            rw [e]
            rcases hmin with m1 | m1 <;> rw [m1]
            · rw [e2]; exact e3
            · exact e3
          · rw [if_neg e]
            by_cases e1 : x = c
            · rw [if_pos e1]
              refine ⟨by omega, fun h hh => ?_⟩
              have e2 := hedge h hh
              have e3 := pc.2 h hh
              rw [e1]
              rcases hmin with m1 | m1 <;> rw [m1]
              · exact e3
              · rw [← e2]; exact e3
            · rw [if_neg e1]
              exact hpx
        have hsum : fb_sm (fun x => if x = d then min (q c) (q d) else if x = c then min (q c) (q d) else q x) (B 0 0) < fb_sm q (B 0 0) := by
          have s1 := fb_sm_upd q (min (q c) (q d)) (i := c) (n := B 0 0) hc
          have s2 := fb_sm_upd (fun x => if x = c then min (q c) (q d) else q x) (min (q c) (q d)) (i := d) (n := B 0 0) (by omega)
          rw [if_neg (show ¬ d = c by omega)] at s2
          omega
        obtain ⟨v', q', μ', q0, q1, q2, q3, q4, q5, q6⟩ := ih (d + 1) 1 (fun x => if x = d then min (q c) (q d) else if x = c then min (q c) (q d) else q x) (sI_ (sI_ μ 233 c (nI (min (q c) (q d)))) 233 d (nI (min (q c) (q d)))) (by omega) (by omega) (RG_233 (RG_233 h _ _) _ _) (fun x hxx => by
          rw [sI_at, sI_at]
          try dsimp only
          by_cases e : x = d
          · rw [if_pos ⟨rfl, e⟩, if_pos e]
          · rw [if_neg (fun z => e z.2), if_neg e]
            by_cases e1 : x = c
            · rw [if_pos ⟨rfl, e1⟩, if_pos e1]
            · rw [if_neg (fun z => e1 z.2), if_neg e1]
              exact hq x hxx) hpn
        refine ⟨v', q', μ', q0, fun out z => e_X12_makeLean_44 ?_, q2, q3, q4, fr_tr (fr_sI (by simp)) (fr_tr (fr_sI (by simp)) q5), Or.inl ?_⟩
        · have q1' := q1 out z
          have t112 : Ev_ (P_X12_makeLean KC) 112 [some (.ref 219), some (.int (nI f)), none, some (.int (nI c)), some (.int (nI d)), none, none] [.int (nI (min (q c) (q d)))] μ out := by
            refine e_X12_makeLean_112 ?_
            simp (disch := first | assumption | omega) only [Option.some.injEq, Prod.mk.injEq, Value.int.injEq, exists_and_left, exists_eq_left', and_assoc, true_and, and_true, true_implies, false_implies, not_true_eq_false, not_false_eq_true, li_0, li_1, li_2, li_3, li_4, li_5, li_8, li_9, li_10, li_16, li_20, li_80, li_100, li_130, li_144, li_390, li_400, li_M, li_H, li_of, nI_add, pk_mul, cl_, vp_iff, nI_leI, nI_ltI, nI_eq, Nat.add_zero, Nat.zero_add, Nat.reduceEqDiff, Nat.reduceAdd, eq_self, reduceIte, Bool.false_eq_true, li_neg]
            (repeat' apply And.intro) <;> first | omega | rfl | assumption | exact q1'
          by_cases hle : q d ≤ q c
          · rw [Nat.min_eq_right hle] at t112
            simp (disch := first | assumption | omega) only [h1, hlean, hl, ec, ed, he, hle, Option.some.injEq, Prod.mk.injEq, Value.int.injEq, exists_and_left, exists_eq_left', and_assoc, true_and, and_true, true_implies, false_implies, not_true_eq_false, not_false_eq_true, li_0, li_1, li_2, li_3, li_4, li_5, li_8, li_9, li_10, li_16, li_20, li_80, li_100, li_130, li_144, li_390, li_400, li_M, li_H, li_of, nI_add, pk_mul, cl_, vp_iff, nI_leI, nI_ltI, nI_eq, Nat.add_zero, Nat.zero_add, Nat.reduceEqDiff, Nat.reduceAdd, eq_self, reduceIte, Bool.false_eq_true, li_neg]
            (repeat' apply And.intro) <;> first | omega | rfl | assumption | exact t112
          · rw [Nat.min_eq_left (by omega)] at t112
            simp (disch := first | assumption | omega) only [h1, hlean, hl, ec, ed, he, hle, Option.some.injEq, Prod.mk.injEq, Value.int.injEq, exists_and_left, exists_eq_left', and_assoc, true_and, and_true, true_implies, false_implies, not_true_eq_false, not_false_eq_true, li_0, li_1, li_2, li_3, li_4, li_5, li_8, li_9, li_10, li_16, li_20, li_80, li_100, li_130, li_144, li_390, li_400, li_M, li_H, li_of, nI_add, pk_mul, cl_, vp_iff, nI_leI, nI_ltI, nI_eq, Nat.add_zero, Nat.zero_add, Nat.reduceEqDiff, Nat.reduceAdd, eq_self, reduceIte, Bool.false_eq_true, li_neg]
            (repeat' apply And.intro) <;> first | omega | rfl | assumption | exact t112
        · rcases q6 with ⟨w1, w2⟩ | ⟨w1, w2, -⟩
          · exact ⟨w1, by omega⟩
          · exact ⟨w1, by rw [w2]; exact hsum⟩
theorem m_pass33 (hf : 1 ≤ f ∧ f ≤ 10) : ∀ n c v (q : Nat → Nat) (μ : St_), c + n = B 0 0 → v < 2 → RG_ μ B T → QR_ μ B q → pq_ B f q (B 0 0) → ∃ v' q' μ', v' < 2 ∧ (∀ out, Ev_ (P_X12_makeLean KC) 25 [some (.ref 219), some (.int (nI f)), some (.int (nI v')), none, none, none, none] [] μ' out → Ev_ (P_X12_makeLean KC) 33 [some (.ref 219), some (.int (nI f)), some (.int (nI v)), some (.int (nI c)), none, none, none] [] μ out) ∧ RG_ μ' B T ∧ QR_ μ' B q' ∧ pq_ B f q' (B 0 0) ∧ fr_ [233] μ μ' ∧ ((v' = 1 ∧ fb_sm q' (B 0 0) < fb_sm q (B 0 0)) ∨ (v' = v ∧ q' = q ∧ ∀ x y, c ≤ x → x < B 0 0 → y < x → f ≤ B (16 + x) y → q x = q y)) := by
  intro n
  induction n with
  | zero =>
    intro c v q μ hc hv h hq hp
    obtain rfl : c = B 0 0 := by omega
    have h3 := BO_c h.1.2
    refine ⟨v, q, μ, hv, fun out z => e_X12_makeLean_33 ?_, h, hq, hp, fr_rf _ _, Or.inr ⟨rfl, rfl, fun x y h1 h2 => absurd h2 (by omega)⟩⟩
    simp (disch := first | assumption | omega) only [m_chaps h.1, Nat.le_refl, Option.some.injEq, Prod.mk.injEq, Value.int.injEq, exists_and_left, exists_eq_left', and_assoc, true_and, and_true, true_implies, false_implies, not_true_eq_false, not_false_eq_true, li_0, li_1, li_2, li_3, li_4, li_5, li_8, li_9, li_10, li_16, li_20, li_80, li_100, li_130, li_144, li_390, li_400, li_M, li_H, li_of, nI_add, pk_mul, cl_, vp_iff, nI_leI, nI_ltI, nI_eq, Nat.add_zero, Nat.zero_add, Nat.reduceEqDiff, Nat.reduceAdd, eq_self, reduceIte, Bool.false_eq_true, li_neg]
    exact z
  | succ n ih =>
    intro c v q μ hc hv h hq hp
    have h3 := BO_c h.1.2
    have h1 : ¬ B 0 0 ≤ c := by omega
    obtain ⟨v2, q2, μ2, g0, g1, g2, g3, g4, g5, g6⟩ := m_pass44 hf (show c < B 0 0 by omega) c 0 v q μ (by omega) hv h hq hp
    obtain ⟨v', q', μ', k0, k1, k2, k3, k4, k5, k6⟩ := ih (c + 1) v2 q2 μ2 (by omega) g0 g2 g3 g4
    refine ⟨v', q', μ', k0, fun out z => e_X12_makeLean_33 ?_, k2, k3, k4, fr_tr g5 k5, ?_⟩
    · have g1' := g1 out (k1 out z)
      simp (disch := first | assumption | omega) only [m_chaps h.1, h1, Option.some.injEq, Prod.mk.injEq, Value.int.injEq, exists_and_left, exists_eq_left', and_assoc, true_and, and_true, true_implies, false_implies, not_true_eq_false, not_false_eq_true, li_0, li_1, li_2, li_3, li_4, li_5, li_8, li_9, li_10, li_16, li_20, li_80, li_100, li_130, li_144, li_390, li_400, li_M, li_H, li_of, nI_add, pk_mul, cl_, vp_iff, nI_leI, nI_ltI, nI_eq, Nat.add_zero, Nat.zero_add, Nat.reduceEqDiff, Nat.reduceAdd, eq_self, reduceIte, Bool.false_eq_true, li_neg]
      exact g1'
    · rcases g6 with ⟨w1, w2⟩ | ⟨w1, w2, w3⟩
      · rcases k6 with ⟨u1, u2⟩ | ⟨u1, u2, -⟩
        · exact Or.inl ⟨u1, by omega⟩
        · exact Or.inl ⟨by omega, by rw [u2]; exact w2⟩
      · subst w2
        rcases k6 with ⟨u1, u2⟩ | ⟨u1, u2, u3⟩
        · exact Or.inl ⟨u1, u2⟩
        · refine Or.inr ⟨by omega, u2, fun x y h5 h6 h7 h8 => ?_⟩
          by_cases e : x = c
          · subst e
            exact w3 y (by omega) h7 h8
          · exact u3 x y (by omega) h6 h7 h8
theorem m_fix (hf : 1 ≤ f ∧ f ≤ 10) : ∀ m (q : Nat → Nat) (μ : St_), fb_sm q (B 0 0) < m → RG_ μ B T → QR_ μ B q → pq_ B f q (B 0 0) → ∃ q' μ', (∀ out, Ev_ (P_X12_makeLean KC) 150 [some (.ref 219), some (.int (nI f)), none, some (.int (nI 0)), none, none, none] [] μ' out → Ev_ (P_X12_makeLean KC) 25 [some (.ref 219), some (.int (nI f)), some (.int (nI 1)), none, none, none, none] [] μ out) ∧ RG_ μ' B T ∧ QR_ μ' B q' ∧ pq_ B f q' (B 0 0) ∧ ec_ B f q' ∧ fr_ [233] μ μ' := by
  intro m
  induction m with
  | zero => exact fun q μ h => absurd h (by omega)
  | succ m ih =>
    intro q μ hm h hq hp
    obtain ⟨v', q', μ', k0, k1, k2, k3, k4, k5, k6⟩ := m_pass33 hf (B 0 0) 0 0 q μ (by omega) (by omega) h hq hp
    rcases k6 with ⟨w1, w2⟩ | ⟨w1, w2, w3⟩
    · obtain ⟨q2, μ2, g1, g2, g3, g4, g5, g6⟩ := ih q' μ' (by omega) k2 k3 k4
      refine ⟨q2, μ2, fun out z => e_X12_makeLean_25 ?_, g2, g3, g4, g5, fr_tr k5 g6⟩
      rw [w1] at k1
      have k1' := k1 out (g1 out z)
      simp (disch := first | assumption | omega) only [Option.some.injEq, Prod.mk.injEq, Value.int.injEq, exists_and_left, exists_eq_left', and_assoc, true_and, and_true, true_implies, false_implies, not_true_eq_false, not_false_eq_true, li_0, li_1, li_2, li_3, li_4, li_5, li_8, li_9, li_10, li_16, li_20, li_80, li_100, li_130, li_144, li_390, li_400, li_M, li_H, li_of, nI_add, pk_mul, cl_, vp_iff, nI_leI, nI_ltI, nI_eq, Nat.add_zero, Nat.zero_add, Nat.reduceEqDiff, Nat.reduceAdd, eq_self, reduceIte, Bool.false_eq_true, li_neg]
      exact k1'
    · subst w2
      refine ⟨q', μ', fun out z => e_X12_makeLean_25 ?_, k2, k3, k4, fun c d h1 h2 h3 => w3 c d (by omega) h1 h2 h3, k5⟩
      rw [w1] at k1
      have k1' := k1 out (by
        refine e_X12_makeLean_25 ?_
        simp (disch := first | assumption | omega) only [Option.some.injEq, Prod.mk.injEq, Value.int.injEq, exists_and_left, exists_eq_left', and_assoc, true_and, and_true, true_implies, false_implies, not_true_eq_false, not_false_eq_true, li_0, li_1, li_2, li_3, li_4, li_5, li_8, li_9, li_10, li_16, li_20, li_80, li_100, li_130, li_144, li_390, li_400, li_M, li_H, li_of, nI_add, pk_mul, cl_, vp_iff, nI_leI, nI_ltI, nI_eq, Nat.add_zero, Nat.zero_add, Nat.reduceEqDiff, Nat.reduceAdd, eq_self, reduceIte, Bool.false_eq_true, li_neg]
        exact z)
      simp (disch := first | assumption | omega) only [Option.some.injEq, Prod.mk.injEq, Value.int.injEq, exists_and_left, exists_eq_left', and_assoc, true_and, and_true, true_implies, false_implies, not_true_eq_false, not_false_eq_true, li_0, li_1, li_2, li_3, li_4, li_5, li_8, li_9, li_10, li_16, li_20, li_80, li_100, li_130, li_144, li_390, li_400, li_M, li_H, li_of, nI_add, pk_mul, cl_, vp_iff, nI_leI, nI_ltI, nI_eq, Nat.add_zero, Nat.zero_add, Nat.reduceEqDiff, Nat.reduceAdd, eq_self, reduceIte, Bool.false_eq_true, li_neg]
      exact k1'
/-- the reference reads a part -/
theorem m_part191 {r s : Nat} (hr : r < B 0 1) (hs : s < 16) : ∀ n c (T : T_) (μ : St_), c + n = B 0 0 → QR_ μ B q → (∀ x, x < B 0 0 → q x < 16) → RG_ μ B T → ∃ μ', (∀ out, Ev_ (P_X12_makeLean KC) 150 [some (.ref 219), some (.int (nI f)), none, some (.int (nI (s + 1))), none, none, none] [] μ' out → Ev_ (P_X12_makeLean KC) 191 [some (.ref 219), some (.int (nI f)), none, some (.int (nI s)), some (.int (nI r)), some (.int (nI 1)), some (.int (nI c))] [] μ out) ∧ RG_ μ' B (lrp_ B q r s n c T) ∧ RFp_ μ μ' := by
  intro n
  induction n with
  | zero =>
    intro c T μ hc hq h16 h
    obtain rfl : c = B 0 0 := by omega
    have h3 := BO_c h.1.2
    refine ⟨μ, fun out z => e_X12_makeLean_191 ?_, h, RFp_rf⟩
    simp (disch := first | assumption | omega) only [m_chaps h.1, Nat.le_refl, Option.some.injEq, Prod.mk.injEq, Value.int.injEq, exists_and_left, exists_eq_left', and_assoc, true_and, and_true, true_implies, false_implies, not_true_eq_false, not_false_eq_true, li_0, li_1, li_2, li_3, li_4, li_5, li_8, li_9, li_10, li_16, li_20, li_80, li_100, li_130, li_144, li_390, li_400, li_M, li_H, li_of, nI_add, pk_mul, cl_, vp_iff, nI_leI, nI_ltI, nI_eq, Nat.add_zero, Nat.zero_add, Nat.reduceEqDiff, Nat.reduceAdd, eq_self, reduceIte, Bool.false_eq_true, li_neg]
    exact z
  | succ n ih =>
    intro c T μ hc hq h16 h
    have hx := h.1
    have h3 := BO_c hx.2
    have h1 : ¬ B 0 0 ≤ c := by omega
    have h2 : c < B 0 0 := by omega
    have hqc := hq c h2
    have hq16 := h16 c h2
    by_cases e : q c = s
    · obtain ⟨μ2, g1, g2, g3⟩ := m_tries (f := 0) (l := 0) h hr h2 (by omega) (Nat.two_pow_pos _)
      by_cases hok : (ta_ B T r c 0 0).1 = true
      · obtain ⟨μ', q1, q2, q3⟩ := ih (c + 1) _ μ2 (by omega) (fun x hxx => by rw [g3.1.1 233 (by decide)]; exact hq x hxx) h16 g2
        rw [if_pos hok] at g1
        refine ⟨μ', fun out z => e_X12_makeLean_191 ?_, by rw [lrp_, if_pos e, if_pos hok]; exact q2, RFp_tr g3 q3⟩
        have q1' := q1 out z
        simp (disch := first | assumption | omega) only [m_chaps hx, h1, hqc, e, g1, Option.some.injEq, Prod.mk.injEq, Value.int.injEq, exists_and_left, exists_eq_left', and_assoc, true_and, and_true, true_implies, false_implies, not_true_eq_false, not_false_eq_true, li_0, li_1, li_2, li_3, li_4, li_5, li_8, li_9, li_10, li_16, li_20, li_80, li_100, li_130, li_144, li_390, li_400, li_M, li_H, li_of, nI_add, pk_mul, cl_, vp_iff, nI_leI, nI_ltI, nI_eq, Nat.add_zero, Nat.zero_add, Nat.reduceEqDiff, Nat.reduceAdd, eq_self, reduceIte, Bool.false_eq_true, li_neg]
        (repeat' apply And.intro) <;> first | omega | rfl | assumption | exact q1'
      · rw [if_neg hok] at g1
        refine ⟨μ2, fun out z => e_X12_makeLean_191 ?_, by rw [lrp_, if_pos e, if_neg hok]; exact g2, g3⟩
        have q1' : Ev_ (P_X12_makeLean KC) 191 [some (.ref 219), some (.int (nI f)), none, some (.int (nI s)), some (.int (nI r)), some (.int (nI 0)), some (.int (nI (c + 1)))] [] μ2 out := by
          refine e_X12_makeLean_191 ?_
          by_cases h5 : B 0 0 ≤ c + 1
          · simp (disch := first | assumption | omega) only [m_chaps g2.1, h5, Option.some.injEq, Prod.mk.injEq, Value.int.injEq, exists_and_left, exists_eq_left', and_assoc, true_and, and_true, true_implies, false_implies, not_true_eq_false, not_false_eq_true, li_0, li_1, li_2, li_3, li_4, li_5, li_8, li_9, li_10, li_16, li_20, li_80, li_100, li_130, li_144, li_390, li_400, li_M, li_H, li_of, nI_add, pk_mul, cl_, vp_iff, nI_leI, nI_ltI, nI_eq, Nat.add_zero, Nat.zero_add, Nat.reduceEqDiff, Nat.reduceAdd, eq_self, reduceIte, Bool.false_eq_true, li_neg]
            exact z
          · simp (disch := first | assumption | omega) only [m_chaps g2.1, h5, Option.some.injEq, Prod.mk.injEq, Value.int.injEq, exists_and_left, exists_eq_left', and_assoc, true_and, and_true, true_implies, false_implies, not_true_eq_false, not_false_eq_true, li_0, li_1, li_2, li_3, li_4, li_5, li_8, li_9, li_10, li_16, li_20, li_80, li_100, li_130, li_144, li_390, li_400, li_M, li_H, li_of, nI_add, pk_mul, cl_, vp_iff, nI_leI, nI_ltI, nI_eq, Nat.add_zero, Nat.zero_add, Nat.reduceEqDiff, Nat.reduceAdd, eq_self, reduceIte, Bool.false_eq_true, li_neg]
            exact z
        simp (disch := first | assumption | omega) only [m_chaps hx, h1, hqc, e, g1, Option.some.injEq, Prod.mk.injEq, Value.int.injEq, exists_and_left, exists_eq_left', and_assoc, true_and, and_true, true_implies, false_implies, not_true_eq_false, not_false_eq_true, li_0, li_1, li_2, li_3, li_4, li_5, li_8, li_9, li_10, li_16, li_20, li_80, li_100, li_130, li_144, li_390, li_400, li_M, li_H, li_of, nI_add, pk_mul, cl_, vp_iff, nI_leI, nI_ltI, nI_eq, Nat.add_zero, Nat.zero_add, Nat.reduceEqDiff, Nat.reduceAdd, eq_self, reduceIte, Bool.false_eq_true, li_neg]
        (repeat' apply And.intro) <;> first | omega | rfl | assumption | exact q1'
    · obtain ⟨μ', q1, q2⟩ := ih (c + 1) T μ (by omega) hq h16 h
      refine ⟨μ', fun out z => e_X12_makeLean_191 ?_, by rw [lrp_, if_neg e]; exact q2⟩
      have q1' := q1 out z
      simp (disch := first | assumption | omega) only [m_chaps hx, h1, hqc, e, Option.some.injEq, Prod.mk.injEq, Value.int.injEq, exists_and_left, exists_eq_left', and_assoc, true_and, and_true, true_implies, false_implies, not_true_eq_false, not_false_eq_true, li_0, li_1, li_2, li_3, li_4, li_5, li_8, li_9, li_10, li_16, li_20, li_80, li_100, li_130, li_144, li_390, li_400, li_M, li_H, li_of, nI_add, pk_mul, cl_, vp_iff, nI_leI, nI_ltI, nI_eq, Nat.add_zero, Nat.zero_add, Nat.reduceEqDiff, Nat.reduceAdd, eq_self, reduceIte, Bool.false_eq_true, li_neg]
      (repeat' apply And.intro) <;> first | omega | rfl | assumption | exact q1'
theorem ml_some (k : K_) : ∀ n, 0 < n → ∃ i, ml_ k (fun _ => False) n = some i
  | 0, h => absurd h (by omega)
  | n + 1, _ => by
    rw [ml_, if_neg id]
    split
    · exact ⟨_, rfl⟩
    · split
      · exact ⟨_, rfl⟩
      · exact ⟨_, rfl⟩
theorem lpa_none (h : B 0 1 = 0) (T0 : T_) : ∀ n, lpa_ B q T0 n = T0
  | 0 => rfl
  | n + 1 => by
    rw [lpa_, lpa_none h T0 n]
    unfold lps_
    rw [h]
    split
    · rfl
    · rfl
theorem m_part150 (h16 : ∀ x, x < B 0 0 → q x < 16) (hR : 0 < B 0 1) : ∀ n s (T0 : T_) (μ : St_), s + n = B 0 0 → QR_ μ B q → RG_ μ B (lpa_ B q T0 s) → ∃ μ', Ev_ (P_X12_makeLean KC) 150 [some (.ref 219), some (.int (nI f)), none, some (.int (nI s)), none, none, none] [] μ (none, μ') ∧ RG_ μ' B (lpa_ B q T0 (B 0 0)) ∧ RFp_ μ μ' := by
  intro n
  induction n with
  | zero =>
    intro s T0 μ hs hq h
    obtain rfl : s = B 0 0 := by omega
    have h3 := BO_c h.1.2
    refine ⟨μ, e_X12_makeLean_150 ?_, h, RFp_rf⟩
    simp (disch := first | assumption | omega) only [m_chaps h.1, Nat.le_refl, Option.some.injEq, Prod.mk.injEq, Value.int.injEq, exists_and_left, exists_eq_left', and_assoc, true_and, and_true, true_implies, false_implies, not_true_eq_false, not_false_eq_true, li_0, li_1, li_2, li_3, li_4, li_5, li_8, li_9, li_10, li_16, li_20, li_80, li_100, li_130, li_144, li_390, li_400, li_M, li_H, li_of, nI_add, pk_mul, cl_, vp_iff, nI_leI, nI_ltI, nI_eq, Nat.add_zero, Nat.zero_add, Nat.reduceEqDiff, Nat.reduceAdd, eq_self, reduceIte, Bool.false_eq_true, li_neg]
  | succ n ih =>
    intro s T0 μ hs hq h
    have hx := h.1
    have h3 := BO_c hx.2
    have h1 : ¬ B 0 0 ≤ s := by omega
    have h2 : s < B 0 0 := by omega
    have hR2 : ¬ B 0 1 ≤ 0 := by omega
    have hqs := hq s h2
    have hq16 := h16 s h2
    by_cases e : q s = s
    · obtain ⟨r, hm⟩ := ml_some (lpa_ B q T0 s).1 (B 0 1) hR
      have hr := ml_lt _ _ hm
      have g0 := m_idlest h nM_ (fun _ => False) (Or.inl ⟨rfl, fun _ _ z => z⟩)
      rw [hm] at g0
      have es : lpa_ B q T0 (s + 1) = lrp_ B q r s (B 0 0 - s) s (lpa_ B q T0 s) := by rw [lpa_]; unfold lps_; rw [if_pos e, hm]
      obtain ⟨μ2, k1, k2, k3⟩ := m_part191 (f := f) (q := q) hr (show s < 16 by omega) (B 0 0 - s) s (lpa_ B q T0 s) μ (by omega) hq h16 h
      obtain ⟨μ', q1, q2, q3⟩ := ih (s + 1) T0 μ2 (by omega) (fun x hxx => by rw [k3.1.1 233 (by decide)]; exact hq x hxx) (by rw [es]; exact k2)
      have k1' := k1 _ q1
      refine ⟨μ', e_X12_makeLean_150 ?_, q2, RFp_tr k3 q3⟩
      simp (disch := first | assumption | omega) only [m_chaps hx, h1, m_readers hx, hR2, hqs, e, g0, oN_, Option.some.injEq, Prod.mk.injEq, Value.int.injEq, exists_and_left, exists_eq_left', and_assoc, true_and, and_true, true_implies, false_implies, not_true_eq_false, not_false_eq_true, li_0, li_1, li_2, li_3, li_4, li_5, li_8, li_9, li_10, li_16, li_20, li_80, li_100, li_130, li_144, li_390, li_400, li_M, li_H, li_of, nI_add, pk_mul, cl_, vp_iff, nI_leI, nI_ltI, nI_eq, Nat.add_zero, Nat.zero_add, Nat.reduceEqDiff, Nat.reduceAdd, eq_self, reduceIte, Bool.false_eq_true, li_neg]
      (repeat' apply And.intro) <;> first | omega | rfl | assumption | exact k1'
    · have es : lpa_ B q T0 (s + 1) = lpa_ B q T0 s := by rw [lpa_]; unfold lps_; rw [if_neg e]
      obtain ⟨μ', q1, q2⟩ := ih (s + 1) T0 μ (by omega) hq (by rw [es]; exact h)
      refine ⟨μ', e_X12_makeLean_150 ?_, q2⟩
      simp (disch := first | assumption | omega) only [m_chaps hx, h1, m_readers hx, hR2, hqs, e, Option.some.injEq, Prod.mk.injEq, Value.int.injEq, exists_and_left, exists_eq_left', and_assoc, true_and, and_true, true_implies, false_implies, not_true_eq_false, not_false_eq_true, li_0, li_1, li_2, li_3, li_4, li_5, li_8, li_9, li_10, li_16, li_20, li_80, li_100, li_130, li_144, li_390, li_400, li_M, li_H, li_of, nI_add, pk_mul, cl_, vp_iff, nI_leI, nI_ltI, nI_eq, Nat.add_zero, Nat.zero_add, Nat.reduceEqDiff, Nat.reduceAdd, eq_self, reduceIte, Bool.false_eq_true, li_neg]
      (repeat' apply And.intro) <;> first | omega | rfl | assumption | exact q1
/-- the reference's LEAN, whole; its parts are any that are settled -/
theorem m_makeLean (hf : 1 ≤ f ∧ f ≤ 10) (h : RG_ μ B T) : ∃ μ' q, f_X12_makeLean KC [.ref 219, .int (nI f)] μ = some (none, μ') ∧ RG_ μ' B (lpa_ B q T (B 0 0)) ∧ pq_ B f q (B 0 0) ∧ ec_ B f q ∧ fr_ [219, 228, 229, 230, 231, 232, 233] μ μ' ∧ NF2_ [24] 219 μ μ' := by
  have h3 := BO_c h.1.2
  have init : ∀ n c μ1, c + n = B 0 0 → RG_ μ1 B T → (∀ x, x < c → μ1.1 233 x = nI x) → ∃ μ2, (∀ out, Ev_ (P_X12_makeLean KC) 25 [some (.ref 219), some (.int (nI f)), some (.int (nI 1)), none, none, none, none] [] μ2 out → Ev_ (P_X12_makeLean KC) 2 [some (.ref 219), some (.int (nI f)), some (.int (nI c)), none, none, none, none] [] μ1 out) ∧ RG_ μ2 B T ∧ QR_ μ2 B id ∧ fr_ [233] μ1 μ2 := by
    intro n
    induction n with
    | zero =>
      intro c μ1 hc h1 hr
      obtain rfl : c = B 0 0 := by omega
      refine ⟨μ1, fun out z => e_X12_makeLean_2 ?_, h1, hr, fr_rf _ _⟩
      simp (disch := first | assumption | omega) only [m_chaps h1.1, Nat.le_refl, Option.some.injEq, Prod.mk.injEq, Value.int.injEq, exists_and_left, exists_eq_left', and_assoc, true_and, and_true, true_implies, false_implies, not_true_eq_false, not_false_eq_true, li_0, li_1, li_2, li_3, li_4, li_5, li_8, li_9, li_10, li_16, li_20, li_80, li_100, li_130, li_144, li_390, li_400, li_M, li_H, li_of, nI_add, pk_mul, cl_, vp_iff, nI_leI, nI_ltI, nI_eq, Nat.add_zero, Nat.zero_add, Nat.reduceEqDiff, Nat.reduceAdd, eq_self, reduceIte, Bool.false_eq_true, li_neg]
      exact z
    | succ n ih =>
      intro c μ1 hc h1 hr
      have h5 : ¬ B 0 0 ≤ c := by omega
      obtain ⟨μ2, g1, g2, g3, g4⟩ := ih (c + 1) (sI_ μ1 233 c (nI c)) (by omega) (RG_233 h1 _ _) (fun x hx => by
        rw [sI_at]
        by_cases e : x = c
        · rw [if_pos ⟨rfl, e⟩, e]
        · rw [if_neg (fun z => e z.2)]
          exact hr x (by omega))
      refine ⟨μ2, fun out z => e_X12_makeLean_2 ?_, g2, g3, fr_tr (fr_sI (by simp)) g4⟩
      have g1' := g1 out z
      simp (disch := first | assumption | omega) only [m_chaps h1.1, h5, Option.some.injEq, Prod.mk.injEq, Value.int.injEq, exists_and_left, exists_eq_left', and_assoc, true_and, and_true, true_implies, false_implies, not_true_eq_false, not_false_eq_true, li_0, li_1, li_2, li_3, li_4, li_5, li_8, li_9, li_10, li_16, li_20, li_80, li_100, li_130, li_144, li_390, li_400, li_M, li_H, li_of, nI_add, pk_mul, cl_, vp_iff, nI_leI, nI_ltI, nI_eq, Nat.add_zero, Nat.zero_add, Nat.reduceEqDiff, Nat.reduceAdd, eq_self, reduceIte, Bool.false_eq_true, li_neg]
      (repeat' apply And.intro) <;> first | omega | rfl | assumption | exact g1'
  obtain ⟨μ2, g1, g2, g3, g4⟩ := init (B 0 0) 0 μ (by omega) h (fun x hx => absurd hx (by omega))
  obtain ⟨q, μ3, k1, k2, k3, k4, k5, k6⟩ := m_fix (T := T) hf (fb_sm id (B 0 0) + 1) id μ2 (by omega) g2 g3 (fun c hc => ⟨Nat.le_refl _, fun _ _ => rfl⟩)
  have h16 : ∀ x, x < B 0 0 → q x < 16 := fun x hx => pq_16 k4 h3.1 hx
  by_cases hR : 0 < B 0 1
  · obtain ⟨μ', q1, q2, q3⟩ := m_part150 (f := f) h16 hR (B 0 0) 0 T μ3 (by omega) k3 k2
    refine ⟨μ', q, z_X12_makeLean (e_X12_makeLean_0 (g1 _ (k1 _ q1))), q2, k4, k5, fr_tr (fr_mono g4 (by simp)) (fr_tr (fr_mono k6 (by simp)) (fr_mono q3.1 (by simp))), NF2_tr (fun g _ => ?_) q3.2⟩
    rw [k6.1 219 (by decide), g4.1 219 (by decide)]
  · have hR0 : B 0 1 = 0 := by omega
    refine ⟨μ3, q, z_X12_makeLean (e_X12_makeLean_0 (g1 _ (k1 _ ?_))), by rw [lpa_none hR0]; exact k2, k4, k5, fr_tr (fr_mono g4 (by simp)) (fr_mono k6 (by simp)), fun g _ => by rw [k6.1 219 (by decide), g4.1 219 (by decide)]⟩
    refine e_X12_makeLean_150 ?_
    by_cases hc : B 0 0 ≤ 0
    · simp (disch := first | assumption | omega) only [m_chaps k2.1, hc, Option.some.injEq, Prod.mk.injEq, Value.int.injEq, exists_and_left, exists_eq_left', and_assoc, true_and, and_true, true_implies, false_implies, not_true_eq_false, not_false_eq_true, li_0, li_1, li_2, li_3, li_4, li_5, li_8, li_9, li_10, li_16, li_20, li_80, li_100, li_130, li_144, li_390, li_400, li_M, li_H, li_of, nI_add, pk_mul, cl_, vp_iff, nI_leI, nI_ltI, nI_eq, Nat.add_zero, Nat.zero_add, Nat.reduceEqDiff, Nat.reduceAdd, eq_self, reduceIte, Bool.false_eq_true, li_neg]
    · have hR2 : B 0 1 ≤ 0 := by omega
      simp (disch := first | assumption | omega) only [m_chaps k2.1, hc, m_readers k2.1, hR2, Option.some.injEq, Prod.mk.injEq, Value.int.injEq, exists_and_left, exists_eq_left', and_assoc, true_and, and_true, true_implies, false_implies, not_true_eq_false, not_false_eq_true, li_0, li_1, li_2, li_3, li_4, li_5, li_8, li_9, li_10, li_16, li_20, li_80, li_100, li_130, li_144, li_390, li_400, li_M, li_H, li_of, nI_add, pk_mul, cl_, vp_iff, nI_leI, nI_ltI, nI_eq, Nat.add_zero, Nat.zero_add, Nat.reduceEqDiff, Nat.reduceAdd, eq_self, reduceIte, Bool.false_eq_true, li_neg]
theorem c_addParts (hf : 1 ≤ f ∧ f ≤ 10) (h : CG_ σ b p B T) (h91 : ∀ x, x < 16 → ∃ y, y < 16 ∧ σ.1 91 x = nI y) : ∃ σ' q, f_X4_addParts KC [.ref 85, .int (nI f)] σ = some (none, σ') ∧ CG_ σ' b p B (lpa_ B q T (B 0 0)) ∧ pq_ B f q (B 0 0) ∧ ec_ B f q ∧ (∀ x, x < B 0 0 → σ'.1 91 x = nI (q x) ∧ q x < 16) ∧ (∀ x, B 0 0 ≤ x → σ'.1 91 x = σ.1 91 x) ∧ fr_ [p, p + 1, p + 2, p + 3, p + 4, 87, 88, 89, 90, 91] σ σ' := by
  have h3 := BO_c h.1.1.2.2
  have pn := p_no h.1.2.2.2
  obtain ⟨σ2, q, g1, g2, g3, g4, g5, g6⟩ := c_findParts (f := f) (T := T) hf (B 0 0) 0 σ id (by omega) h (fun x hx => h91 x (by omega)) (fun x hx => absurd hx (by omega)) (fun c hc => absurd hc (by omega)) (fun x y hx => absurd hx (by omega))
  have h16 : ∀ x, x < B 0 0 → q x < 16 := fun x hx => pq_16 g4 h3.1 hx
  obtain ⟨σ', k1, k2, k3⟩ := c_addParts7 (f := f) (q := q) (B 0 0) 0 T σ2 (by omega) (fun x hx => ⟨g3 x hx, h16 x hx⟩) g2
  have g1' : f_X4_findParts KC [.ref 85, .int (nI f)] σ = some (none, σ2) := z_X4_findParts (e_X4_findParts_0 g1)
  refine ⟨σ', q, z_X4_addParts (e_X4_addParts_0 ?_), k2, g4, g5, fun x hx => ⟨by rw [k3.1 91 (by simp; omega)]; exact g3 x hx, h16 x hx⟩, fun x hx => by rw [k3.1 91 (by simp; omega)]; exact g6.2 x hx, fr_tr (fr_mono g6.1 (by simp)) (fr_mono k3 (fun o ho => by simp at ho; simp; omega))⟩
  simp (disch := first | assumption | omega) only [g1', Option.some.injEq, Prod.mk.injEq, Value.int.injEq, exists_and_left, exists_eq_left', and_assoc, true_and, and_true, true_implies, false_implies, not_true_eq_false, not_false_eq_true, li_0, li_1, li_2, li_3, li_4, li_5, li_8, li_9, li_10, li_16, li_20, li_80, li_100, li_130, li_144, li_390, li_400, li_M, li_H, li_of, nI_add, pk_mul, cl_, vp_iff, nI_leI, nI_ltI, nI_eq, Nat.add_zero, Nat.zero_add, Nat.reduceEqDiff, Nat.reduceAdd, eq_self, reduceIte, Bool.false_eq_true, li_neg]
  exact k1
end LE2
