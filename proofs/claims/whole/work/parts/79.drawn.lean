/-! DRAWN -/
def dx_ (x : Int32) : Int32 := x * 1103515245 + 12345
def uv_ (x : Int32) : Nat := x.toBitVec.toNat / 256
def dv_ (x : Int32) (n : Nat) : Nat := uv_ (dx_ x) % n
theorem uv_lt (x : Int32) : uv_ x < 2 ^ 24 := by
  unfold uv_
  have := x.toBitVec.isLt
  omega
theorem nI_tn (y : Int32) : nI y.toBitVec.toNat = y := by
  refine Int32.toBitVec_inj.mp ?_
  show BitVec.ofNat 32 y.toBitVec.toNat = y.toBitVec
  refine BitVec.eq_of_toNat_eq ?_
  rw [BitVec.toNat_ofNat, Nat.mod_eq_of_lt y.toBitVec.isLt]
theorem uv_sh (x : Int32) : (Int32.toUInt32 x >>> (Int32.toUInt32 (nI 8) &&& Int32.toUInt32 31)).toInt32 = nI (uv_ x) := by
  rw [← nI_tn (Int32.toUInt32 x >>> (Int32.toUInt32 (nI 8) &&& Int32.toUInt32 31)).toInt32, pk_ushr x (nI 8) 8 (by decide)]
  rfl
noncomputable def dd_ (B : Nat → Nat → Nat) (x0 : Int32) : Nat → Int32 × (Nat → Nat → Nat)
  | 0 => (x0, fun _ _ => 0)
  | i + 1 => if dv_ (dx_ (dx_ (dd_ B x0 i).1)) 4 = 0 then (dx_ (dx_ (dx_ (dx_ (dd_ B x0 i).1))), pu_ (dd_ B x0 i).2 i (dv_ (dd_ B x0 i).1 (B 0 1)) (dv_ (dx_ (dd_ B x0 i).1) (B 0 0)) (1 + dv_ (dx_ (dx_ (dx_ (dd_ B x0 i).1))) 4) (cb_ (2 ^ B 0 1 - 1) (dv_ (dd_ B x0 i).1 (B 0 1)))) else (dx_ (dx_ (dx_ (dd_ B x0 i).1)), pu_ (dd_ B x0 i).2 i (dv_ (dd_ B x0 i).1 (B 0 1)) (dv_ (dx_ (dd_ B x0 i).1) (B 0 0)) 0 0)
section DR
variable {σ μ : St_} {b p : Nat} {B : Nat → Nat → Nat} {n : Nat} {x : Int32}
theorem dv_lt (h : 0 < n) : dv_ x n < n := Nat.mod_lt _ h
theorem c_draw (h1 : 1 ≤ n) (h2 : n < 2 ^ 20) (hx : σ.1 85 4 = x) : f_X4_draw KC [.ref 85, .int (nI n)] σ = some (some (.int (nI (dv_ x n))), sI_ σ 85 4 (dx_ x)) := by
  have e : ∀ y, (sI_ σ 85 4 y).1 85 4 = y := fun y => by rw [sI_at, if_pos ⟨rfl, rfl⟩]
  have hn : ¬ n = 0 := by omega
  have hu := uv_lt (dx_ x)
  refine z_X4_draw (e_X4_draw_0 ?_)
  rw [e, hx, show x * (1103515245 : Int32) + (12345 : Int32) = dx_ x from rfl]
  simp (disch := first | assumption | omega) only [h1, hn, uv_sh, pk_rem, not_false_eq_true, Option.some.injEq, Prod.mk.injEq, Value.int.injEq, exists_and_left, exists_eq_left', and_assoc, true_and, and_true, true_implies, false_implies, not_true_eq_false, not_false_eq_true, li_0, li_1, li_2, li_3, li_4, li_5, li_8, li_9, li_10, li_16, li_20, li_80, li_100, li_130, li_144, li_390, li_400, li_M, li_H, li_of, nI_add, pk_mul, cl_, vp_iff, nI_leI, nI_ltI, nI_eq, Nat.add_zero, Nat.zero_add, Nat.reduceEqDiff, Nat.reduceAdd, eq_self, reduceIte, Bool.false_eq_true, li_neg]
  rfl
theorem m_draw (h1 : 1 ≤ n) (h2 : n < 2 ^ 20) (hx : μ.1 219 33 = x) : f_X12_draw KC [.ref 219, .int (nI n)] μ = some (some (.int (nI (dv_ x n))), sI_ μ 219 33 (dx_ x)) := by
  have e : ∀ y, (sI_ μ 219 33 y).1 219 33 = y := fun y => by rw [sI_at, if_pos ⟨rfl, rfl⟩]
  have hn : ¬ n = 0 := by omega
  have hu := uv_lt (dx_ x)
  refine z_X12_draw (e_X12_draw_0 ?_)
  rw [e, hx, show x * (1103515245 : Int32) + (12345 : Int32) = dx_ x from rfl]
  simp (disch := first | assumption | omega) only [h1, hn, uv_sh, pk_rem, not_false_eq_true, Option.some.injEq, Prod.mk.injEq, Value.int.injEq, exists_and_left, exists_eq_left', and_assoc, true_and, and_true, true_implies, false_implies, not_true_eq_false, not_false_eq_true, li_0, li_1, li_2, li_3, li_4, li_5, li_8, li_9, li_10, li_16, li_20, li_80, li_100, li_130, li_144, li_390, li_400, li_M, li_H, li_of, nI_add, pk_mul, cl_, vp_iff, nI_leI, nI_ltI, nI_eq, Nat.add_zero, Nat.zero_add, Nat.reduceEqDiff, Nat.reduceAdd, eq_self, reduceIte, Bool.false_eq_true, li_neg]
  rfl
theorem dd_PO (hO : BO_ B) (hR : 2 ≤ B 0 1) (hC : 1 ≤ B 0 0) (x0 : Int32) : ∀ i, i ≤ 60 → PO_ B (dd_ B x0 i).2 i
  | 0, _ => ⟨by omega, fun j hj => absurd hj (by omega)⟩
  | i + 1, hi => by
    have ih := dd_PO hO hR hC x0 i (by omega)
    have h2 : 0 < 2 ^ B 0 1 := Nat.two_pow_pos _
    rw [dd_]
    split
    · have h4 : dv_ (dx_ (dx_ (dx_ (dd_ B x0 i).1))) 4 < 4 := dv_lt (by decide)
      exact PO_pu ih (by omega) (dv_lt (by omega)) (dv_lt (by omega)) (by omega) (by have := cb_le (2 ^ B 0 1 - 1) (dv_ (dd_ B x0 i).1 (B 0 1)); omega)
    · exact PO_pu ih (by omega) (dv_lt (by omega)) (dv_lt (by omega)) (by omega) h2
theorem c_drawActs (hB : isB b) (hP : isP p) (hO : BO_ B) (hR : 2 ≤ B 0 1) (hC : 1 ≤ B 0 0) {n : Nat} (hn : n ≤ 60) (x0 : Int32) : ∀ m i (σ : St_), i + m = n → CB_ σ b B → σ.2.2 85 2 = some b → σ.2.2 85 3 = some p → σ.1 85 4 = (dd_ B x0 i).1 → PC_ σ p (dd_ B x0 i).2 i → ∀ w : Int32, ∃ σ', Ev_ (P_X4_drawActs KC) 7 [some (.ref 85), some (.int (nI n)), some (.int w), some (.int (nI i)), none, none] [] σ (none, σ') ∧ PC_ σ' p (dd_ B x0 n).2 n ∧ fr_ [85, p, p + 1, p + 2, p + 3, p + 4] σ σ' ∧ NF2_ [4] 85 σ σ' := by
  have h3 := BO_c hO
  have pn := p_no hP
  have bn := b_no hB
  have hbp : p + 4 < b ∨ b + 27 < p := by
    have hP2 := hP
    have hB2 := hB
    unfold isP at hP2
    unfold isB at hB2
    omega
  intro m
  induction m with
  | zero =>
    intro i σ hi hb h2 h4 hx hp w
    obtain rfl : i = n := by omega
    refine ⟨σ, e_X4_drawActs_7 ?_, hp, fr_rf _ _, fun _ _ => rfl⟩
    simp (disch := first | assumption | omega) only [Nat.le_refl, Option.some.injEq, Prod.mk.injEq, Value.int.injEq, exists_and_left, exists_eq_left', and_assoc, true_and, and_true, true_implies, false_implies, not_true_eq_false, not_false_eq_true, li_0, li_1, li_2, li_3, li_4, li_5, li_8, li_9, li_10, li_16, li_20, li_80, li_100, li_130, li_144, li_390, li_400, li_M, li_H, li_of, nI_add, pk_mul, cl_, vp_iff, nI_leI, nI_ltI, nI_eq, Nat.add_zero, Nat.zero_add, Nat.reduceEqDiff, Nat.reduceAdd, eq_self, reduceIte, Bool.false_eq_true, li_neg]
  | succ m ih =>
    intro i σ hi hb h2 h4 hx hp w
    have h1 : ¬ n ≤ i := by omega
    have h60 : ¬ 60 ≤ i := by omega
    have l60 : (60 : Int32) = nI 60 := rfl
    have e85 : ∀ (s : St_) y, (sI_ s 85 4 y).2.2 = s.2.2 := fun _ _ => rfl
    have eb : ∀ (s : St_) y, (sI_ s 85 4 y).1 b = s.1 b := fun s y => sI_row _ _ _ _ (by omega)
    have d1 := c_draw (σ := σ) (n := B 0 1) (by omega) (by omega) hx
    have d2 := c_draw (σ := sI_ σ 85 4 (dx_ (dd_ B x0 i).1)) (n := B 0 0) (x := dx_ (dd_ B x0 i).1) (by omega) (by omega) (by rw [sI_at, if_pos ⟨rfl, rfl⟩])
    have d3 := c_draw (σ := sI_ (sI_ σ 85 4 (dx_ (dd_ B x0 i).1)) 85 4 (dx_ (dx_ (dd_ B x0 i).1))) (n := 4) (x := dx_ (dx_ (dd_ B x0 i).1)) (by omega) (by omega) (by rw [sI_at, if_pos ⟨rfl, rfl⟩])
    rw [sI_twice] at d2 d3
    rw [sI_twice] at d3
    have hv4 : dv_ (dx_ (dx_ (dd_ B x0 i).1)) 4 < 4 := dv_lt (by decide)
    have hvr : dv_ (dd_ B x0 i).1 (B 0 1) < B 0 1 := dv_lt (by omega)
    -- an ACT more, and on
    have on : ∀ (r c f l : Nat) (y : Int32), pu_ (dd_ B x0 i).2 i r c f l = (dd_ B x0 (i + 1)).2 → y = (dd_ B x0 (i + 1)).1 → ∃ σ2 σ', f_X6_add KC [.ref p, .int (nI r), .int (nI c), .int (nI f), .int (nI l)] (sI_ σ 85 4 y) = some (none, σ2) ∧ Ev_ (P_X4_drawActs KC) 7 [some (.ref 85), some (.int (nI n)), some (.int w), some (.int (nI (i + 1))), none, none] [] σ2 (none, σ') ∧ PC_ σ' p (dd_ B x0 n).2 n ∧ fr_ [85, p, p + 1, p + 2, p + 3, p + 4] σ σ' ∧ NF2_ [4] 85 σ σ' := by
      intro r c f l y he hy
      obtain ⟨σ2, a1, a2, a3⟩ := c_add (σ := sI_ σ 85 4 y) (r := r) (c := c) (f := f) (l := l) hP (PC_cg hp (fun o o1 o2 => sI_row _ _ _ _ (by omega))) (by omega)
      have f85 : σ2.1 85 = (sI_ σ 85 4 y).1 85 := a3.1 85 (by simp; omega)
      obtain ⟨σ', q1, q2, q3, q4⟩ := ih (i + 1) σ2 (by omega) (CB_row hB hb (fun o o1 o2 => (a3.1 o (by simp; omega)).trans (sI_row _ _ _ _ (by omega))) hO) (by rw [a3.2]; exact h2) (by rw [a3.2]; exact h4) (by rw [f85, sI_at, if_pos ⟨rfl, rfl⟩]; exact hy) (by rw [← he]; exact a2) w
      exact ⟨σ2, σ', a1, q1, q2, fr_tr (fr_sI (by simp)) (fr_tr (fr_mono a3 (by simp)) q3), fun g hg => by rw [q4 g hg, f85, sI_at, if_neg (fun z => hg (by rw [z.2]; simp))]⟩
    by_cases hz : dv_ (dx_ (dx_ (dd_ B x0 i).1)) 4 = 0
    · have hd4 := c_draw (σ := sI_ σ 85 4 (dx_ (dx_ (dx_ (dd_ B x0 i).1)))) (n := 4) (x := dx_ (dx_ (dx_ (dd_ B x0 i).1))) (by omega) (by omega) (by rw [sI_at, if_pos ⟨rfl, rfl⟩])
      rw [sI_twice] at hd4
      have hR1 : 1 ≤ 2 ^ B 0 1 := Nat.two_pow_pos _
      have hR2 : 2 ^ B 0 1 ≤ 2 ^ 9 := Nat.pow_le_pow_right (by decide) h3.2
      have hcb := cb_nI (l := 2 ^ B 0 1 - 1) (s := dv_ (dd_ B x0 i).1 (B 0 1)) (by omega) (by omega)
      obtain ⟨σ2, σ', a1, a2, a3⟩ := on (dv_ (dd_ B x0 i).1 (B 0 1)) (dv_ (dx_ (dd_ B x0 i).1) (B 0 0)) (1 + dv_ (dx_ (dx_ (dx_ (dd_ B x0 i).1))) 4) (cb_ (2 ^ B 0 1 - 1) (dv_ (dd_ B x0 i).1 (B 0 1))) (dx_ (dx_ (dx_ (dx_ (dd_ B x0 i).1)))) (by rw [dd_, if_pos hz]) (by rw [dd_, if_pos hz])
      refine ⟨σ', e_X4_drawActs_7 ?_, a3⟩
      rw [hz] at d3
      simp (disch := first | assumption | omega) only [h1, l60, h60, h2, h4, hB, hP, hb.1.2.1, hb.1.1, d1, d2, d3, e85, eb, hd4, sh_1, pk_sub, hcb, a1, Option.some.injEq, Prod.mk.injEq, Value.int.injEq, exists_and_left, exists_eq_left', and_assoc, true_and, and_true, true_implies, false_implies, not_true_eq_false, not_false_eq_true, li_0, li_1, li_2, li_3, li_4, li_5, li_8, li_9, li_10, li_16, li_20, li_80, li_100, li_130, li_144, li_390, li_400, li_M, li_H, li_of, nI_add, pk_mul, cl_, vp_iff, nI_leI, nI_ltI, nI_eq, Nat.add_zero, Nat.zero_add, Nat.reduceEqDiff, Nat.reduceAdd, eq_self, reduceIte, Bool.false_eq_true, li_neg]
      exact a2
    · obtain ⟨σ2, σ', a1, a2, a3⟩ := on (dv_ (dd_ B x0 i).1 (B 0 1)) (dv_ (dx_ (dd_ B x0 i).1) (B 0 0)) 0 0 (dx_ (dx_ (dx_ (dd_ B x0 i).1))) (by rw [dd_, if_neg hz]) (by rw [dd_, if_neg hz])
      refine ⟨σ', e_X4_drawActs_7 ?_, a3⟩
      simp (disch := first | assumption | omega) only [h1, l60, h60, h2, h4, hB, hP, hb.1.2.1, hb.1.1, d1, d2, d3, e85, eb, hz, a1, Option.some.injEq, Prod.mk.injEq, Value.int.injEq, exists_and_left, exists_eq_left', and_assoc, true_and, and_true, true_implies, false_implies, not_true_eq_false, not_false_eq_true, li_0, li_1, li_2, li_3, li_4, li_5, li_8, li_9, li_10, li_16, li_20, li_80, li_100, li_130, li_144, li_390, li_400, li_M, li_H, li_of, nI_add, pk_mul, cl_, vp_iff, nI_leI, nI_ltI, nI_eq, Nat.add_zero, Nat.zero_add, Nat.reduceEqDiff, Nat.reduceAdd, eq_self, reduceIte, Bool.false_eq_true, li_neg]
      exact a2
theorem c_mbegin (hB : isB b) (hP : isP p) (hC : CB_ σ b B) (hO : BO_ B) : ∃ σ', f_X4_begin KC [.ref 85, .ref b, .ref p] σ = some (none, σ') ∧ CG_ σ' b p B (k0_ B, fun _ _ => 0, 0) ∧ GF_ [85, 86, 87, 88, 89, 90, p] σ σ' ∧ σ'.1 91 = σ.1 91 ∧ σ'.1 85 = σ.1 85 ∧ (∀ o i, ¬ (o = 85 ∧ (i = 2 ∨ i = 3)) → ¬ (o = 86 ∧ i = 9) → σ'.2.2 o i = σ.2.2 o i) := by
  have pn := p_no hP
  have bn := b_no hB
  have hbp : p + 4 < b ∨ b + 27 < p := by
    have hP2 := hP
    have hB2 := hB
    unfold isP at hP2
    unfold isB at hB2
    omega
  have hc : f_X6_clear KC [.ref p] (sR_ (sR_ σ 85 2 (some b)) 85 3 (some p)) = some (none, sI_ (sR_ (sR_ σ 85 2 (some b)) 85 3 (some p)) p 4 (nI 0)) := by
    refine z_X6_clear (e_X6_clear_0 hP ?_)
    simp (disch := first | assumption | omega) only [Option.some.injEq, Prod.mk.injEq, Value.int.injEq, exists_and_left, exists_eq_left', and_assoc, true_and, and_true, true_implies, false_implies, not_true_eq_false, not_false_eq_true, li_0, li_1, li_2, li_3, li_4, li_5, li_8, li_9, li_10, li_16, li_20, li_80, li_100, li_130, li_144, li_390, li_400, li_M, li_H, li_of, nI_add, pk_mul, cl_, vp_iff, nI_leI, nI_ltI, nI_eq, Nat.add_zero, Nat.zero_add, Nat.reduceEqDiff, Nat.reduceAdd, eq_self, reduceIte, Bool.false_eq_true, li_neg]
  have hC1 : CB_ (sI_ (sR_ (sR_ σ 85 2 (some b)) 85 3 (some p)) p 4 (nI 0)) b B := CB_row (σ := σ) hB hC (fun o o1 o2 => sI_row (sR_ (sR_ σ 85 2 (some b)) 85 3 (some p)) _ _ _ (by omega)) hO
  obtain ⟨σ', g1, g2, g3, g4, g5, g6, g7, g8⟩ := c_begin isM86 hB hC1 hO
  have e2 : (sI_ (sR_ (sR_ σ 85 2 (some b)) 85 3 (some p)) p 4 (nI 0)).2.2 85 2 = some b := by
    rw [sI_2, sR_at, if_neg (by decide), sR_at, if_pos ⟨rfl, rfl⟩]
  have e3 : (sI_ (sR_ (sR_ σ 85 2 (some b)) 85 3 (some p)) p 4 (nI 0)).2.2 85 3 = some p := by
    rw [sI_2, sR_at, if_pos ⟨rfl, rfl⟩]
  refine ⟨σ', z_X4_begin (e_X4_begin_0 hB hP ?_), ⟨⟨g2, by rw [g8 85 2 (by decide)]; exact e2, by rw [g8 85 3 (by decide)]; exact e3, hP⟩, ⟨?_, fun i hi => absurd hi (Nat.not_lt_zero i)⟩, g3, ⟨Nat.zero_le _, fun i hi => absurd hi (Nat.not_lt_zero i)⟩⟩, ⟨fun o ho => ⟨?_, ?_⟩, ?_⟩, ?_, ?_, fun o i h1 h2 => ?_⟩
  · simp (disch := first | assumption | omega) only [hc, e2, hB, g1, Option.some.injEq, Prod.mk.injEq, Value.int.injEq, exists_and_left, exists_eq_left', and_assoc, true_and, and_true, true_implies, false_implies, not_true_eq_false, not_false_eq_true, li_0, li_1, li_2, li_3, li_4, li_5, li_8, li_9, li_10, li_16, li_20, li_80, li_100, li_130, li_144, li_390, li_400, li_M, li_H, li_of, nI_add, pk_mul, cl_, vp_iff, nI_leI, nI_ltI, nI_eq, Nat.add_zero, Nat.zero_add, Nat.reduceEqDiff, Nat.reduceAdd, eq_self, reduceIte, Bool.false_eq_true, li_neg]
  · rw [(g7.1 p (by simp; omega)).1, sI_at, if_pos ⟨rfl, rfl⟩]
  · simp only [List.mem_cons, List.not_mem_nil, or_false, not_or] at ho
    rw [(g7.1 o (by simp; omega)).1, sI_row _ _ _ _ (by omega)]
    rfl
  · simp only [List.mem_cons, List.not_mem_nil, or_false, not_or] at ho
    rw [(g7.1 o (by simp; omega)).2, sI_2, sR_row _ _ _ _ (by omega), sR_row _ _ _ _ (by omega)]
  · rw [g7.2]
    rfl
  · rw [(g7.1 91 (by decide)).1, sI_row _ _ _ _ (by omega)]
    rfl
  · rw [(g7.1 85 (by decide)).1, sI_row _ _ _ _ (by omega)]
    rfl
  · rw [g8 o i h2, sI_2, sR_at, if_neg (fun z => h1 ⟨z.1, Or.inr z.2⟩), sR_at, if_neg (fun z => h1 ⟨z.1, Or.inl z.2⟩)]
/-- the reference lays its ACTS down -/
theorem m_plans {P : Nat → Nat → Nat} {a : Nat} (h : AM_ μ P a) (ha : a ≤ 100) : ∃ μ', f_X12_plans KC [.ref 219] μ = some (some (.int (nI a)), μ') ∧ PM_ μ' P a ∧ fr_ [221] μ μ' ∧ (∀ i, i < 390 ∨ 800 ≤ i → μ'.1 221 i = μ.1 221 i) := by
  have row : ∀ j, j < 4 * a → ∃ y, μ.1 228 j = nI y ∧ (∀ i w, i < a → w < 4 → j = 4 * i + w → y = P i w) := by
    intro j hj
    have hq := h.2 (j / 4) (by omega)
    refine ⟨P (j / 4) (j % 4), ?_, fun i w h1 h2 h3 => by rw [show j / 4 = i by omega, show j % 4 = w by omega]⟩
    rcases (show j % 4 = 0 ∨ j % 4 = 1 ∨ j % 4 = 2 ∨ j % 4 = 3 by omega) with e | e | e | e
    · have : j = 4 * (j / 4) := by omega
      rw [e, ← hq.1, ← this]
    · have : j = 4 * (j / 4) + 1 := by omega
      rw [e, ← hq.2.1, ← this]
    · have : j = 4 * (j / 4) + 2 := by omega
      rw [e, ← hq.2.2.1, ← this]
    · have : j = 4 * (j / 4) + 3 := by omega
      rw [e, ← hq.2.2.2, ← this]
  have loop : ∀ n j μ1, j + n = 4 * a → AM_ μ1 P a → μ1.1 228 = μ.1 228 → (∀ i, i < j → μ1.1 221 (400 + i) = μ.1 228 i) → (∀ i, i < 390 ∨ 800 ≤ i → μ1.1 221 i = μ.1 221 i) → ∃ μ', Ev_ (P_X12_plans KC) 2 [some (.ref 219), some (.int (nI j))] [] μ1 (some (.int (nI a)), μ') ∧ μ'.1 221 390 = nI a ∧ (∀ i, i < 4 * a → μ'.1 221 (400 + i) = μ.1 228 i) ∧ fr_ [221] μ1 μ' ∧ (∀ i, i < 390 ∨ 800 ≤ i → μ'.1 221 i = μ.1 221 i) := by
    intro n
    induction n with
    | zero =>
      intro j μ1 hj h1 h2 h4 h5
      obtain rfl : j = 4 * a := by omega
      have e219 : ∀ y, (sI_ μ1 221 390 y).1 219 = μ1.1 219 := fun y => sI_row _ _ _ _ (by decide)
      refine ⟨sI_ μ1 221 390 (nI a), e_X12_plans_2 ?_, by rw [sI_at, if_pos ⟨rfl, rfl⟩], fun i hi => ?_, fr_sI (by simp), fun i hi => ?_⟩
      · simp (disch := first | assumption | omega) only [h1.1, Nat.le_refl, e219, Option.some.injEq, Prod.mk.injEq, Value.int.injEq, exists_and_left, exists_eq_left', and_assoc, true_and, and_true, true_implies, false_implies, not_true_eq_false, not_false_eq_true, li_0, li_1, li_2, li_3, li_4, li_5, li_8, li_9, li_10, li_16, li_20, li_80, li_100, li_130, li_144, li_390, li_400, li_M, li_H, li_of, nI_add, pk_mul, cl_, vp_iff, nI_leI, nI_ltI, nI_eq, Nat.add_zero, Nat.zero_add, Nat.reduceEqDiff, Nat.reduceAdd, eq_self, reduceIte, Bool.false_eq_true, li_neg]
        (repeat' apply And.intro) <;> first | omega | rfl | assumption
      · rw [sI_at, if_neg (by omega)]
        exact h4 i hi
      · rw [sI_at, if_neg (by omega)]
        exact h5 i hi
    | succ n ih =>
      intro j μ1 hj h1 h2 h4 h5
      have hj2 : ¬ 4 * a ≤ j := by omega
      obtain ⟨μ', q1, q2, q3, q4, q5⟩ := ih (j + 1) (sI_ μ1 221 (400 + j) (μ.1 228 j)) (by omega) (AM_cg h1 (by rw [sI_row _ _ _ _ (by decide)]) (sI_row _ _ _ _ (by decide))) ((sI_row _ _ _ _ (by decide)).trans h2) (fun i hi => by
        rw [sI_at]
        by_cases e : i = j
        · rw [if_pos ⟨rfl, by omega⟩, e]
        · rw [if_neg (by omega)]
          exact h4 i (by omega)) (fun i hi => by
        rw [sI_at, if_neg (by omega)]
        exact h5 i hi)
      refine ⟨μ', e_X12_plans_2 ?_, q2, q3, fr_tr (fr_sI (by simp)) q4, q5⟩
      simp (disch := first | assumption | omega) only [h1.1, hj2, h2, Option.some.injEq, Prod.mk.injEq, Value.int.injEq, exists_and_left, exists_eq_left', and_assoc, true_and, and_true, true_implies, false_implies, not_true_eq_false, not_false_eq_true, li_0, li_1, li_2, li_3, li_4, li_5, li_8, li_9, li_10, li_16, li_20, li_80, li_100, li_130, li_144, li_390, li_400, li_M, li_H, li_of, nI_add, pk_mul, cl_, vp_iff, nI_leI, nI_ltI, nI_eq, Nat.add_zero, Nat.zero_add, Nat.reduceEqDiff, Nat.reduceAdd, eq_self, reduceIte, Bool.false_eq_true, li_neg]
      (repeat' apply And.intro) <;> first | omega | rfl | assumption | exact q1
  obtain ⟨μ', q1, q2, q3, q4, q5⟩ := loop (4 * a) 0 μ (by omega) h rfl (fun i hi => absurd hi (by omega)) (fun _ _ => rfl)
  refine ⟨μ', z_X12_plans (e_X12_plans_0 q1), ⟨q2, fun i hi => ?_⟩, q4, q5⟩
  have hq := h.2 i hi
  refine ⟨by rw [q3 _ (by omega)]; exact hq.1, ?_, ?_, ?_⟩
  · rw [show 400 + 4 * i + 1 = 400 + (4 * i + 1) by omega, q3 _ (by omega)]; exact hq.2.1
  · rw [show 400 + 4 * i + 2 = 400 + (4 * i + 2) by omega, q3 _ (by omega)]; exact hq.2.2.1
  · rw [show 400 + 4 * i + 3 = 400 + (4 * i + 3) by omega, q3 _ (by omega)]; exact hq.2.2.2
theorem m_drawn48 (hx : RX_ μ B) (hR : 2 ≤ B 0 1) (hC : 1 ≤ B 0 0) {n : Nat} (hn : n ≤ 60) (x0 : Int32) : ∀ m i (μ : St_), i + m = n → RX_ μ B → μ.1 219 33 = (dd_ B x0 i).1 → AM_ μ (dd_ B x0 i).2 i → ∀ w : Int32, ∃ μ', Ev_ (P_X12_drawn KC) 48 [some (.ref 219), some (.int (nI n)), some (.int w), some (.int (nI i)), none, none] [] μ (some (.int (nI n)), μ') ∧ PM_ μ' (dd_ B x0 n).2 n ∧ fr_ [219, 221, 228] μ μ' ∧ (∀ i, i < 390 ∨ 800 ≤ i → μ'.1 221 i = μ.1 221 i) ∧ NF2_ [24, 33] 219 μ μ' := by
  have hO := hx.2
  have h3 := BO_c hO
  intro m
  induction m with
  | zero =>
    intro i μ hi hx hs hp w
    obtain rfl : i = n := by omega
    obtain ⟨μ', q1, q2, q3, q4⟩ := m_plans hp (by omega)
    refine ⟨μ', e_X12_drawn_48 ?_, q2, fr_mono q3 (by simp), q4, fun g _ => by rw [q3.1 219 (by decide)]⟩
    simp (disch := first | assumption | omega) only [Nat.le_refl, q1, Option.some.injEq, Prod.mk.injEq, Value.int.injEq, exists_and_left, exists_eq_left', and_assoc, true_and, and_true, true_implies, false_implies, not_true_eq_false, not_false_eq_true, li_0, li_1, li_2, li_3, li_4, li_5, li_8, li_9, li_10, li_16, li_20, li_80, li_100, li_130, li_144, li_390, li_400, li_M, li_H, li_of, nI_add, pk_mul, cl_, vp_iff, nI_leI, nI_ltI, nI_eq, Nat.add_zero, Nat.zero_add, Nat.reduceEqDiff, Nat.reduceAdd, eq_self, reduceIte, Bool.false_eq_true, li_neg]
  | succ m ih =>
    intro i μ hi hx hs hp w
    have h1 : ¬ n ≤ i := by omega
    have d1 := m_draw (μ := μ) (n := B 0 1) (by omega) (by omega) hs
    have d2 := m_draw (μ := sI_ μ 219 33 (dx_ (dd_ B x0 i).1)) (n := B 0 0) (x := dx_ (dd_ B x0 i).1) (by omega) (by omega) (by rw [sI_at, if_pos ⟨rfl, rfl⟩])
    have d3 := m_draw (μ := sI_ (sI_ μ 219 33 (dx_ (dd_ B x0 i).1)) 219 33 (dx_ (dx_ (dd_ B x0 i).1))) (n := 4) (x := dx_ (dx_ (dd_ B x0 i).1)) (by omega) (by omega) (by rw [sI_at, if_pos ⟨rfl, rfl⟩])
    rw [sI_twice] at d2 d3
    rw [sI_twice] at d3
    have rx : ∀ y, RX_ (sI_ μ 219 33 y) B := fun y => RX_sI hx (by decide)
    have hv4 : dv_ (dx_ (dx_ (dd_ B x0 i).1)) 4 < 4 := dv_lt (by decide)
    have hvr : dv_ (dd_ B x0 i).1 (B 0 1) < B 0 1 := dv_lt (by omega)
    have on : ∀ (r c f l : Nat) (y : Int32), pu_ (dd_ B x0 i).2 i r c f l = (dd_ B x0 (i + 1)).2 → y = (dd_ B x0 (i + 1)).1 → ∃ μ2 μ', f_X12_addAct KC [.ref 219, .int (nI r), .int (nI c), .int (nI f), .int (nI l)] (sI_ μ 219 33 y) = some (some (.int (nI 1)), μ2) ∧ Ev_ (P_X12_drawn KC) 48 [some (.ref 219), some (.int (nI n)), some (.int w), some (.int (nI (i + 1))), none, none] [] μ2 (some (.int (nI n)), μ') ∧ PM_ μ' (dd_ B x0 n).2 n ∧ fr_ [219, 221, 228] μ μ' ∧ (∀ i, i < 390 ∨ 800 ≤ i → μ'.1 221 i = μ.1 221 i) ∧ NF2_ [24, 33] 219 μ μ' := by
      intro r c f l y he hy
      obtain ⟨μ2, a1, a2, a3, a4⟩ := m_addAct (μ := sI_ μ 219 33 y) (r := r) (c := c) (f := f) (l := l) (AM_cg hp (by rw [sI_at, if_neg (by decide)]) (sI_row _ _ _ _ (by decide))) (by omega)
      obtain ⟨μ', q1, q2, q3, q4, q5⟩ := ih (i + 1) μ2 (by omega) (RX_fr (rx y) a3 (by decide)) (by rw [a4 33 (by decide), sI_at, if_pos ⟨rfl, rfl⟩]; exact hy) (by rw [← he]; exact a2) w
      refine ⟨μ2, μ', a1, q1, q2, fr_tr (fr_sI (by simp)) (fr_tr (fr_mono a3 (by simp)) q3), fun j hj => ?_, fun g hg => ?_⟩
      · rw [q4 j hj, a3.1 221 (by decide), sI_row _ _ _ _ (by decide)]
      · simp only [List.mem_cons, List.not_mem_nil, or_false, not_or] at hg
        rw [q5 g (by simp; omega), a4 g (by simp; omega), sI_at, if_neg (by omega)]
    by_cases hz : dv_ (dx_ (dx_ (dd_ B x0 i).1)) 4 = 0
    · have hd4 := m_draw (μ := sI_ μ 219 33 (dx_ (dx_ (dx_ (dd_ B x0 i).1)))) (n := 4) (x := dx_ (dx_ (dx_ (dd_ B x0 i).1))) (by omega) (by omega) (by rw [sI_at, if_pos ⟨rfl, rfl⟩])
      rw [sI_twice] at hd4
      have hR1 : 1 ≤ 2 ^ B 0 1 := Nat.two_pow_pos _
      have hR2 : 2 ^ B 0 1 ≤ 2 ^ 9 := Nat.pow_le_pow_right (by decide) h3.2
      have hcb := cb_nI (l := 2 ^ B 0 1 - 1) (s := dv_ (dd_ B x0 i).1 (B 0 1)) (by omega) (by omega)
      obtain ⟨μ2, μ', a1, a2, a3⟩ := on (dv_ (dd_ B x0 i).1 (B 0 1)) (dv_ (dx_ (dd_ B x0 i).1) (B 0 0)) (1 + dv_ (dx_ (dx_ (dx_ (dd_ B x0 i).1))) 4) (cb_ (2 ^ B 0 1 - 1) (dv_ (dd_ B x0 i).1 (B 0 1))) (dx_ (dx_ (dx_ (dx_ (dd_ B x0 i).1)))) (by rw [dd_, if_pos hz]) (by rw [dd_, if_pos hz])
      refine ⟨μ', e_X12_drawn_48 ?_, a3⟩
      rw [hz] at d3
      simp (disch := first | assumption | omega) only [h1, m_readers hx, m_readers (rx _), m_chaps (rx _), d1, d2, d3, hd4, sh_1, pk_sub, hcb, a1, Option.some.injEq, Prod.mk.injEq, Value.int.injEq, exists_and_left, exists_eq_left', and_assoc, true_and, and_true, true_implies, false_implies, not_true_eq_false, not_false_eq_true, li_0, li_1, li_2, li_3, li_4, li_5, li_8, li_9, li_10, li_16, li_20, li_80, li_100, li_130, li_144, li_390, li_400, li_M, li_H, li_of, nI_add, pk_mul, cl_, vp_iff, nI_leI, nI_ltI, nI_eq, Nat.add_zero, Nat.zero_add, Nat.reduceEqDiff, Nat.reduceAdd, eq_self, reduceIte, Bool.false_eq_true, li_neg]
      exact a2
    · obtain ⟨μ2, μ', a1, a2, a3⟩ := on (dv_ (dd_ B x0 i).1 (B 0 1)) (dv_ (dx_ (dd_ B x0 i).1) (B 0 0)) 0 0 (dx_ (dx_ (dx_ (dd_ B x0 i).1))) (by rw [dd_, if_neg hz]) (by rw [dd_, if_neg hz])
      refine ⟨μ', e_X12_drawn_48 ?_, a3⟩
      simp (disch := first | assumption | omega) only [h1, m_readers hx, m_readers (rx _), m_chaps (rx _), d1, d2, d3, hz, a1, Option.some.injEq, Prod.mk.injEq, Value.int.injEq, exists_and_left, exists_eq_left', and_assoc, true_and, and_true, true_implies, false_implies, not_true_eq_false, not_false_eq_true, li_0, li_1, li_2, li_3, li_4, li_5, li_8, li_9, li_10, li_16, li_20, li_80, li_100, li_130, li_144, li_390, li_400, li_M, li_H, li_of, nI_add, pk_mul, cl_, vp_iff, nI_leI, nI_ltI, nI_eq, Nat.add_zero, Nat.zero_add, Nat.reduceEqDiff, Nat.reduceAdd, eq_self, reduceIte, Bool.false_eq_true, li_neg]
      exact a2
end DR
