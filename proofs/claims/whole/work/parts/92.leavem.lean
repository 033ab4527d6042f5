/-! LEAVE: the reference -/
noncomputable def lw_ (B : Nat → Nat → Nat) (T : Nat → Nat) (n Q : Nat) : Nat → Option (Nat × Nat)
  | 0 => none
  | s + 1 => @ite _ (ks_ T s n ≤ Q ∧ shok_ B s n) (Classical.propDecidable _) (match lw_ B T n Q s with
      | none => some (xs_ (B 2) s n, s)
      | some (v, q) => if xs_ (B 2) s n < v then some (xs_ (B 2) s n, s) else some (v, q)) (lw_ B T n Q s)
section LM
variable {μ : St_} {B : Nat → Nat → Nat} {T : Nat → Nat}
theorem xs_tot {f : Nat → Nat} {s : Nat} : ∀ n, xs_ f s n ≤ fb_sm f n
  | 0 => Nat.le_refl _
  | n + 1 => by
    have := xs_tot (f := f) (s := s) n
    rw [xs_, fb_sm_succ]
    split <;> omega
theorem ks_tot {f : Nat → Nat} {s : Nat} : ∀ n, ks_ f s n ≤ fb_sm f n
  | 0 => Nat.le_refl _
  | n + 1 => by
    have := ks_tot (f := f) (s := s) n
    rw [ks_, fb_sm_succ]
    split <;> omega
theorem adm_0 {n Q s : Nat} : adm_ B T n Q 0 s ↔ ks_ T s n ≤ Q ∧ shok_ B s n := ⟨fun h => ⟨h.1, h.2.2⟩, fun h => ⟨h.1, fun d _ _ => Nat.zero_testBit d, h.2⟩⟩
theorem lw_fl {n Q : Nat} : ∀ s, fl_ B T n Q 0 0 0 (fb_sm (B 2) n + 1, 0) s = match lw_ B T n Q s with | none => (fb_sm (B 2) n + 1, 0) | some p => p
  | 0 => rfl
  | s + 1 => by
    have ih := lw_fl (n := n) (Q := Q) s
    have ht := xs_tot (f := B 2) (s := s) n
    have ha := adm_0 (B := B) (T := T) (n := n) (Q := Q) (s := s)
    rw [fl_, lw_, ih, Nat.zero_add, Nat.zero_or]
    by_cases h : ks_ T s n ≤ Q ∧ shok_ B s n
    · rw [if_pos h]
      cases e : lw_ B T n Q s with
      | none =>
        show @ite _ (adm_ B T n Q 0 s ∧ xs_ (B 2) s n < fb_sm (B 2) n + 1) (Classical.propDecidable _) _ _ = _
        rw [if_pos ⟨ha.2 h, by omega⟩]
      | some p =>
        obtain ⟨v, q⟩ := p
        show @ite _ (adm_ B T n Q 0 s ∧ xs_ (B 2) s n < v) (Classical.propDecidable _) _ _ = match (if xs_ (B 2) s n < v then some (xs_ (B 2) s n, s) else some (v, q)) with | none => (fb_sm (B 2) n + 1, 0) | some p => p
        by_cases h2 : xs_ (B 2) s n < v
        · rw [if_pos h2, if_pos ⟨ha.2 h, h2⟩]
        · rw [if_neg h2, if_neg (fun z => h2 z.2)]
    · rw [if_neg h, if_neg (fun z => h (ha.1 z.1))]
theorem lw_full {n Q : Nat} : lw_ B T n Q (2 ^ n) ≠ none := by
  obtain ⟨p, hp⟩ : ∃ p, 2 ^ n = p + 1 := ⟨2 ^ n - 1, by have := Nat.two_pow_pos n; omega⟩
  have hb : ∀ i, i < n → p.testBit i = true := fun i hi => by
    rw [show p = 2 ^ n - 1 by omega, Nat.testBit_two_pow_sub_one]
    exact decide_eq_true hi
  have hk : ∀ i, i ≤ n → ks_ T p i = 0 := by
    intro i
    induction i with
    | zero => exact fun _ => rfl
    | succ i ih =>
      intro hi
      rw [ks_, if_pos (hb i (by omega)), ih (by omega)]
  have hs : shok_ B p n := fun c hc hcb => by
    rw [hb c hc] at hcb
    cases hcb
  rw [hp, lw_, if_pos ⟨by rw [hk n (Nat.le_refl _)]; omega, hs⟩]
  split
  · exact fun z => by cases z
  · split <;> exact fun z => by cases z
theorem lw_lt {n Q : Nat} : ∀ s v q, lw_ B T n Q s = some (v, q) → v ≤ fb_sm (B 2) n ∧ q < s
  | 0, v, q, h => by
    rw [lw_] at h
    cases h
  | s + 1, v, q, h => by
    have ih := lw_lt (n := n) (Q := Q) s
    have ht := xs_tot (f := B 2) (s := s) n
    rw [lw_] at h
    split at h
    · split at h
      · cases h
        exact ⟨ht, Nat.lt_succ_self s⟩
      · rename_i v' q' hm
        have := ih v' q' hm
        split at h
        · cases h
          exact ⟨ht, Nat.lt_succ_self s⟩
        · cases h
          exact ⟨this.1, by omega⟩
    · have := ih v q h
      exact ⟨this.1, by omega⟩
theorem m_isShut12 (hx : RX_ μ B) {s c : Nat} (hs : s < 2 ^ 16) (hc : c < B 0 0) {out : Out_} : ∀ n d, d + n = c → ((∀ e, d ≤ e → e < c → ¬ (s.testBit e = true ∧ s.testBit c = false ∧ 5 ≤ B (16 + c) e)) → Ev_ (P_X12_isShut KC) 2 [some (.ref 219), some (.int (nI s)), some (.int (nI (c + 1))), none] [] μ out) → ((∃ e, d ≤ e ∧ e < c ∧ (s.testBit e = true ∧ s.testBit c = false ∧ 5 ≤ B (16 + c) e)) → out = (some (.int (nI 0)), μ)) → Ev_ (P_X12_isShut KC) 12 [some (.ref 219), some (.int (nI s)), some (.int (nI c)), some (.int (nI d))] [] μ out := by
  have hO := hx.2
  have h16 := hO.1.1
  have hbc := hb_n (x := s) (i := c) (by omega) (by omega)
  intro n
  induction n with
  | zero =>
    intro d hd h1 h2
    obtain rfl : d = c := by omega
    have t := h1 (fun e e1 e2 => absurd e1 (by omega))
    refine e_X12_isShut_12 ?_
    simp (disch := first | assumption | omega) only [Nat.le_refl, Option.some.injEq, Prod.mk.injEq, Value.int.injEq, exists_and_left, exists_eq_left', and_assoc, true_and, and_true, true_implies, false_implies, not_true_eq_false, not_false_eq_true, li_0, li_1, li_2, li_3, li_4, li_5, li_8, li_9, li_10, li_16, li_20, li_80, li_100, li_130, li_144, li_390, li_400, li_M, li_H, li_of, nI_add, pk_mul, cl_, vp_iff, nI_leI, nI_ltI, nI_eq, Nat.add_zero, Nat.zero_add, Nat.reduceEqDiff, Nat.reduceAdd, eq_self, reduceIte, Bool.false_eq_true, li_neg]
    exact t
  | succ n ih =>
    intro d hd h1 h2
    have hd1 : ¬ c ≤ d := by omega
    have hd2 : d < 16 := by omega
    have hbd := hb_n (x := s) (i := d) (by omega) (by omega)
    have hln := BO_ln hO hc hd2
    have hlo := m_leanOf hx hc hd2
    have step : ¬ (s.testBit d = true ∧ s.testBit c = false ∧ 5 ≤ B (16 + c) d) → Ev_ (P_X12_isShut KC) 12 [some (.ref 219), some (.int (nI s)), some (.int (nI c)), some (.int (nI (d + 1)))] [] μ out := fun hP => ih (d + 1) (by omega) (fun h => h1 (fun e e1 e2 => by
      by_cases ed : e = d
      · rw [ed]
        exact hP
      · exact h e (by omega) e2)) (fun ⟨e, e1, e2, e3⟩ => h2 ⟨e, by omega, e2, e3⟩)
    refine e_X12_isShut_12 ?_
    by_cases b1 : s.testBit d = true
    · by_cases b2 : s.testBit c = true
      · have st := step (fun z => by rw [b2] at z; exact absurd z.2.1 (by decide))
        simp (disch := first | assumption | omega) only [hd1, m_hasK, hbd, hbc, b1, b2, if_true, if_pos, Option.some.injEq, Prod.mk.injEq, Value.int.injEq, exists_and_left, exists_eq_left', and_assoc, true_and, and_true, true_implies, false_implies, not_true_eq_false, not_false_eq_true, li_0, li_1, li_2, li_3, li_4, li_5, li_8, li_9, li_10, li_16, li_20, li_80, li_100, li_130, li_144, li_390, li_400, li_M, li_H, li_of, nI_add, pk_mul, cl_, vp_iff, nI_leI, nI_ltI, nI_eq, Nat.add_zero, Nat.zero_add, Nat.reduceEqDiff, Nat.reduceAdd, eq_self, reduceIte, Bool.false_eq_true, li_neg]
        exact st
      · have b2' : s.testBit c = false := by simpa using b2
        by_cases b3 : 5 ≤ B (16 + c) d
        · have b3' : ¬ B (16 + c) d ≤ 4 := by omega
          have ho := h2 ⟨d, Nat.le_refl _, by omega, b1, b2', b3⟩
          subst ho
          have l4 : (4 : Int32) = nI 4 := rfl
          simp (disch := first | assumption | omega) only [hd1, m_hasK, hbd, hbc, b1, b2, if_true, if_pos, if_false, if_neg, hlo, l4, b3', Option.some.injEq, Prod.mk.injEq, Value.int.injEq, exists_and_left, exists_eq_left', and_assoc, true_and, and_true, true_implies, false_implies, not_true_eq_false, not_false_eq_true, li_0, li_1, li_2, li_3, li_4, li_5, li_8, li_9, li_10, li_16, li_20, li_80, li_100, li_130, li_144, li_390, li_400, li_M, li_H, li_of, nI_add, pk_mul, cl_, vp_iff, nI_leI, nI_ltI, nI_eq, Nat.add_zero, Nat.zero_add, Nat.reduceEqDiff, Nat.reduceAdd, eq_self, reduceIte, Bool.false_eq_true, li_neg]
        · have b3' : B (16 + c) d ≤ 4 := by omega
          have st := step (fun z => b3 z.2.2)
          have l4 : (4 : Int32) = nI 4 := rfl
          simp (disch := first | assumption | omega) only [hd1, m_hasK, hbd, hbc, b1, b2, if_true, if_pos, if_false, if_neg, hlo, l4, b3', Option.some.injEq, Prod.mk.injEq, Value.int.injEq, exists_and_left, exists_eq_left', and_assoc, true_and, and_true, true_implies, false_implies, not_true_eq_false, not_false_eq_true, li_0, li_1, li_2, li_3, li_4, li_5, li_8, li_9, li_10, li_16, li_20, li_80, li_100, li_130, li_144, li_390, li_400, li_M, li_H, li_of, nI_add, pk_mul, cl_, vp_iff, nI_leI, nI_ltI, nI_eq, Nat.add_zero, Nat.zero_add, Nat.reduceEqDiff, Nat.reduceAdd, eq_self, reduceIte, Bool.false_eq_true, li_neg]
          exact st
    · have st := step (fun z => b1 z.1)
      simp (disch := first | assumption | omega) only [hd1, m_hasK, hbd, b1, if_false, if_neg, Option.some.injEq, Prod.mk.injEq, Value.int.injEq, exists_and_left, exists_eq_left', and_assoc, true_and, and_true, true_implies, false_implies, not_true_eq_false, not_false_eq_true, li_0, li_1, li_2, li_3, li_4, li_5, li_8, li_9, li_10, li_16, li_20, li_80, li_100, li_130, li_144, li_390, li_400, li_M, li_H, li_of, nI_add, pk_mul, cl_, vp_iff, nI_leI, nI_ltI, nI_eq, Nat.add_zero, Nat.zero_add, Nat.reduceEqDiff, Nat.reduceAdd, eq_self, reduceIte, Bool.false_eq_true, li_neg]
      exact st
theorem m_isShut (hx : RX_ μ B) {s : Nat} (hs : s < 2 ^ 16) : f_X12_isShut KC [.ref 219, .int (nI s)] μ = some (some (.int (@ite _ (shok_ B s (B 0 0)) (Classical.propDecidable _) (nI 1) (nI 0))), μ) := by
  have h16 := hx.2.1.1
  have loop : ∀ n c, c + n = B 0 0 → (∀ x, x < c → s.testBit x = false → ∀ d, d < x → s.testBit d = true → B (16 + x) d < 5) → Ev_ (P_X12_isShut KC) 2 [some (.ref 219), some (.int (nI s)), some (.int (nI c)), none] [] μ (some (.int (@ite _ (shok_ B s (B 0 0)) (Classical.propDecidable _) (nI 1) (nI 0))), μ) := by
    intro n
    induction n with
    | zero =>
      intro c hc h
      obtain rfl : c = B 0 0 := by omega
      rw [if_pos (show shok_ B s (B 0 0) from h)]
      refine e_X12_isShut_2 ?_
      simp (disch := first | assumption | omega) only [m_chaps hx, Nat.le_refl, Option.some.injEq, Prod.mk.injEq, Value.int.injEq, exists_and_left, exists_eq_left', and_assoc, true_and, and_true, true_implies, false_implies, not_true_eq_false, not_false_eq_true, li_0, li_1, li_2, li_3, li_4, li_5, li_8, li_9, li_10, li_16, li_20, li_80, li_100, li_130, li_144, li_390, li_400, li_M, li_H, li_of, nI_add, pk_mul, cl_, vp_iff, nI_leI, nI_ltI, nI_eq, Nat.add_zero, Nat.zero_add, Nat.reduceEqDiff, Nat.reduceAdd, eq_self, reduceIte, Bool.false_eq_true, li_neg]
    | succ n ih =>
      intro c hc h
      have hc1 : ¬ B 0 0 ≤ c := by omega
      have t := m_isShut12 hx hs (show c < B 0 0 by omega) (out := (some (.int (@ite _ (shok_ B s (B 0 0)) (Classical.propDecidable _) (nI 1) (nI 0))), μ)) c 0 (by omega) (fun h1 => ih (c + 1) (by omega) (fun x hxc hb d hd hdb => by
        by_cases e : x = c
        · subst e
          have := h1 d (by omega) hd
          by_cases e5 : B (16 + x) d < 5
          · exact e5
          · exact absurd ⟨hdb, hb, by omega⟩ this
        · exact h x (by omega) hb d hd hdb)) (fun ⟨e, e1, e2, e3, e4, e5⟩ => by
        rw [if_neg (fun z => by
          have := z c (by omega) e4 e e2 e3
          omega)])
      refine e_X12_isShut_2 ?_
      simp (disch := first | assumption | omega) only [m_chaps hx, hc1, Option.some.injEq, Prod.mk.injEq, Value.int.injEq, exists_and_left, exists_eq_left', and_assoc, true_and, and_true, true_implies, false_implies, not_true_eq_false, not_false_eq_true, li_0, li_1, li_2, li_3, li_4, li_5, li_8, li_9, li_10, li_16, li_20, li_80, li_100, li_130, li_144, li_390, li_400, li_M, li_H, li_of, nI_add, pk_mul, cl_, vp_iff, nI_leI, nI_ltI, nI_eq, Nat.add_zero, Nat.zero_add, Nat.reduceEqDiff, Nat.reduceAdd, eq_self, reduceIte, Bool.false_eq_true, li_neg]
      exact t
  exact z_X12_isShut (e_X12_isShut_0 (loop (B 0 0) 0 (by omega) (fun x hx => absurd hx (by omega))))
theorem qk_bd (hO : BO_ B) {c : Nat} (hc : c < B 0 0) (hR : 1 ≤ B 0 1) : ∀ j, j ≤ B 0 1 → qk_ B c j ≤ 999
  | 0, _ => tR_lt hO hc (by omega)
  | j + 1, hj => by
    have := qk_bd hO hc hR j (by omega)
    have := tR_lt hO hc (show j < B 0 1 by omega)
    rw [qk_]
    split <;> omega
theorem m_quickest (hx : RX_ μ B) {c : Nat} (hc : c < B 0 0) (hR : 1 ≤ B 0 1) : f_X12_quickest KC [.ref 219, .int (nI c)] μ = some (some (.int (nI (qk_ B c (B 0 1)))), μ) := by
  have hO := hx.2
  have h9 := hO.1.2.1
  have loop : ∀ n j, j + n = B 0 1 → Ev_ (P_X12_quickest KC) 9 [some (.ref 219), some (.int (nI c)), some (.int (nI (qk_ B c j))), some (.int (nI j))] [] μ (some (.int (nI (qk_ B c (B 0 1)))), μ) := by
    intro n
    induction n with
    | zero =>
      intro j hj
      obtain rfl : j = B 0 1 := by omega
      refine e_X12_quickest_9 ?_
      simp (disch := first | assumption | omega) only [m_readers hx, Nat.le_refl, Option.some.injEq, Prod.mk.injEq, Value.int.injEq, exists_and_left, exists_eq_left', and_assoc, true_and, and_true, true_implies, false_implies, not_true_eq_false, not_false_eq_true, li_0, li_1, li_2, li_3, li_4, li_5, li_8, li_9, li_10, li_16, li_20, li_80, li_100, li_130, li_144, li_390, li_400, li_M, li_H, li_of, nI_add, pk_mul, cl_, vp_iff, nI_leI, nI_ltI, nI_eq, Nat.add_zero, Nat.zero_add, Nat.reduceEqDiff, Nat.reduceAdd, eq_self, reduceIte, Bool.false_eq_true, li_neg]
    | succ n ih =>
      intro j hj
      have hj1 : ¬ B 0 1 ≤ j := by omega
      have hj2 : j < B 0 1 := by omega
      have b1 := qk_bd hO hc hR j (by omega)
      have b2 := tR_lt hO hc hj2
      have ih1 := ih (j + 1) (by omega)
      rw [qk_] at ih1
      refine e_X12_quickest_9 ?_
      by_cases e : tR_ B j c < qk_ B c j
      · have e' : ¬ qk_ B c j ≤ tR_ B j c := by omega
        rw [if_pos e] at ih1
        simp (disch := first | assumption | omega) only [m_readers hx, hj1, m_ttr hx hj2 hc, e', Option.some.injEq, Prod.mk.injEq, Value.int.injEq, exists_and_left, exists_eq_left', and_assoc, true_and, and_true, true_implies, false_implies, not_true_eq_false, not_false_eq_true, li_0, li_1, li_2, li_3, li_4, li_5, li_8, li_9, li_10, li_16, li_20, li_80, li_100, li_130, li_144, li_390, li_400, li_M, li_H, li_of, nI_add, pk_mul, cl_, vp_iff, nI_leI, nI_ltI, nI_eq, Nat.add_zero, Nat.zero_add, Nat.reduceEqDiff, Nat.reduceAdd, eq_self, reduceIte, Bool.false_eq_true, li_neg]
        exact ih1
      · have e' : qk_ B c j ≤ tR_ B j c := by omega
        rw [if_neg e] at ih1
        simp (disch := first | assumption | omega) only [m_readers hx, hj1, m_ttr hx hj2 hc, e', Option.some.injEq, Prod.mk.injEq, Value.int.injEq, exists_and_left, exists_eq_left', and_assoc, true_and, and_true, true_implies, false_implies, not_true_eq_false, not_false_eq_true, li_0, li_1, li_2, li_3, li_4, li_5, li_8, li_9, li_10, li_16, li_20, li_80, li_100, li_130, li_144, li_390, li_400, li_M, li_H, li_of, nI_add, pk_mul, cl_, vp_iff, nI_leI, nI_ltI, nI_eq, Nat.add_zero, Nat.zero_add, Nat.reduceEqDiff, Nat.reduceAdd, eq_self, reduceIte, Bool.false_eq_true, li_neg]
        exact ih1
  have l1 := loop (B 0 1 - 1) 1 (by omega)
  have e1 : qk_ B c 1 = tR_ B 0 c := by
    show (if tR_ B 0 c < tR_ B 0 c then tR_ B 0 c else tR_ B 0 c) = _
    split <;> rfl
  rw [e1] at l1
  refine z_X12_quickest (e_X12_quickest_0 ?_)
  simp (disch := first | assumption | omega) only [m_ttr hx (show 0 < B 0 1 by omega) hc, Option.some.injEq, Prod.mk.injEq, Value.int.injEq, exists_and_left, exists_eq_left', and_assoc, true_and, and_true, true_implies, false_implies, not_true_eq_false, not_false_eq_true, li_0, li_1, li_2, li_3, li_4, li_5, li_8, li_9, li_10, li_16, li_20, li_80, li_100, li_130, li_144, li_390, li_400, li_M, li_H, li_of, nI_add, pk_mul, cl_, vp_iff, nI_leI, nI_ltI, nI_eq, Nat.add_zero, Nat.zero_add, Nat.reduceEqDiff, Nat.reduceAdd, eq_self, reduceIte, Bool.false_eq_true, li_neg]
  exact l1
def lwV_ (o : Option (Nat × Nat)) : Nat := match o with | none => 0 | some p => p.1
def lwS_ (o : Option (Nat × Nat)) : Int32 := match o with | none => nM_ | some p => nI p.2
theorem m_leave109 (hx : RX_ μ B) (hT : ∀ c, c < B 0 0 → μ.1 244 c = nI (T c) ∧ T c ≤ 999) {Q : Nat} (hQ : Q < 2 ^ 20) {s x1 : Nat} (hs : s < 2 ^ B 0 0) {out : Out_} (t89 : Ev_ (P_X12_leave KC) 89 [some (.ref 219), some (.int (nI x1)), some (.int (nI Q)), some (.int (lwS_ (lw_ B T (B 0 0) Q (s + 1)))), some (.int (nI (lwV_ (lw_ B T (B 0 0) Q (s + 1))))), some (.int (nI (s + 1))), none, none, none] [] μ out) : ∀ n c, c + n = B 0 0 → Ev_ (P_X12_leave KC) 109 [some (.ref 219), some (.int (nI x1)), some (.int (nI Q)), some (.int (lwS_ (lw_ B T (B 0 0) Q s))), some (.int (nI (lwV_ (lw_ B T (B 0 0) Q s)))), some (.int (nI s)), some (.int (nI (ks_ T s c))), some (.int (nI (xs_ (B 2) s c))), some (.int (nI c))] [] μ out := by
  have hO := hx.2
  have h16 := hO.1.1
  have hp : 2 ^ B 0 0 ≤ 2 ^ 16 := Nat.pow_le_pow_right (by omega) h16
  have hsh := m_isShut hx (show s < 2 ^ 16 by omega)
  have htot : fb_sm (B 2) (B 0 0) ≤ B 0 0 * 999 := fb_sm_bound (fun i hi => (BO_cc hO hi).2.2.1)
  have htoT : fb_sm T (B 0 0) ≤ B 0 0 * 999 := fb_sm_bound (fun i hi => (hT i hi).2)
  intro n
  induction n with
  | zero =>
    intro c hc
    obtain rfl : c = B 0 0 := by omega
    have b1 := ks_tot (f := T) (s := s) (B 0 0)
    have b2 := xs_tot (f := B 2) (s := s) (B 0 0)
    rw [lw_] at t89
    refine e_X12_leave_109 ?_
    by_cases h1 : ks_ T s (B 0 0) ≤ Q
    · have h1' : ¬ Q < ks_ T s (B 0 0) := by omega
      cases e : lw_ B T (B 0 0) Q s with
      | none =>
        have eS : lwS_ none = nM_ := rfl
        have eV : lwV_ none = 0 := rfl
        rw [e] at t89
        rw [eS, eV]
        by_cases h2 : shok_ B s (B 0 0)
        · rw [if_pos ⟨h1, h2⟩] at t89
          rw [if_pos h2] at hsh
          have t89' : Ev_ (P_X12_leave KC) 89 [some (.ref 219), some (.int (nI x1)), some (.int (nI Q)), some (.int (nI s)), some (.int (nI (xs_ (B 2) s (B 0 0)))), some (.int (nI (s + 1))), none, none, none] [] μ out := t89
          simp (disch := first | assumption | omega) only [m_chaps hx, Nat.le_refl, h1', hsh, Option.some.injEq, Prod.mk.injEq, Value.int.injEq, exists_and_left, exists_eq_left', and_assoc, true_and, and_true, true_implies, false_implies, not_true_eq_false, not_false_eq_true, li_0, li_1, li_2, li_3, li_4, li_5, li_8, li_9, li_10, li_16, li_20, li_80, li_100, li_130, li_144, li_390, li_400, li_M, li_H, li_of, nI_add, pk_mul, cl_, vp_iff, nI_leI, nI_ltI, nI_eq, Nat.add_zero, Nat.zero_add, Nat.reduceEqDiff, Nat.reduceAdd, eq_self, reduceIte, Bool.false_eq_true, li_neg]
          exact t89'
        · rw [if_neg (fun z => h2 z.2)] at t89
          rw [if_neg h2] at hsh
          rw [eS, eV] at t89
          simp (disch := first | assumption | omega) only [m_chaps hx, Nat.le_refl, h1', hsh, Option.some.injEq, Prod.mk.injEq, Value.int.injEq, exists_and_left, exists_eq_left', and_assoc, true_and, and_true, true_implies, false_implies, not_true_eq_false, not_false_eq_true, li_0, li_1, li_2, li_3, li_4, li_5, li_8, li_9, li_10, li_16, li_20, li_80, li_100, li_130, li_144, li_390, li_400, li_M, li_H, li_of, nI_add, pk_mul, cl_, vp_iff, nI_leI, nI_ltI, nI_eq, Nat.add_zero, Nat.zero_add, Nat.reduceEqDiff, Nat.reduceAdd, eq_self, reduceIte, Bool.false_eq_true, li_neg]
          exact t89
      | some p =>
        obtain ⟨v, q⟩ := p
        have hb := lw_lt s v q e
        have eS : lwS_ (some (v, q)) = nI q := rfl
        have eV : lwV_ (some (v, q)) = v := rfl
        have hqn : ¬ nI q = nM_ := nI_m1 (by omega)
        rw [e] at t89
        rw [eS, eV]
        by_cases h3 : xs_ (B 2) s (B 0 0) < v
        · have h3' : ¬ v ≤ xs_ (B 2) s (B 0 0) := by omega
          by_cases h2 : shok_ B s (B 0 0)
          · rw [if_pos ⟨h1, h2⟩] at t89
            have t89' : Ev_ (P_X12_leave KC) 89 [some (.ref 219), some (.int (nI x1)), some (.int (nI Q)), some (.int (lwS_ (if xs_ (B 2) s (B 0 0) < v then some (xs_ (B 2) s (B 0 0), s) else some (v, q)))), some (.int (nI (lwV_ (if xs_ (B 2) s (B 0 0) < v then some (xs_ (B 2) s (B 0 0), s) else some (v, q))))), some (.int (nI (s + 1))), none, none, none] [] μ out := t89
            rw [if_pos h3] at t89'
            have t89'' : Ev_ (P_X12_leave KC) 89 [some (.ref 219), some (.int (nI x1)), some (.int (nI Q)), some (.int (nI s)), some (.int (nI (xs_ (B 2) s (B 0 0)))), some (.int (nI (s + 1))), none, none, none] [] μ out := t89'
            rw [if_pos h2] at hsh
            simp (disch := first | assumption | omega) only [m_chaps hx, Nat.le_refl, h1', hqn, h3', hsh, Option.some.injEq, Prod.mk.injEq, Value.int.injEq, exists_and_left, exists_eq_left', and_assoc, true_and, and_true, true_implies, false_implies, not_true_eq_false, not_false_eq_true, li_0, li_1, li_2, li_3, li_4, li_5, li_8, li_9, li_10, li_16, li_20, li_80, li_100, li_130, li_144, li_390, li_400, li_M, li_H, li_of, nI_add, pk_mul, cl_, vp_iff, nI_leI, nI_ltI, nI_eq, Nat.add_zero, Nat.zero_add, Nat.reduceEqDiff, Nat.reduceAdd, eq_self, reduceIte, Bool.false_eq_true, li_neg]
            exact t89''
          · rw [if_neg (fun z => h2 z.2)] at t89
            rw [if_neg h2] at hsh
            rw [eS, eV] at t89
            simp (disch := first | assumption | omega) only [m_chaps hx, Nat.le_refl, h1', hqn, h3', hsh, Option.some.injEq, Prod.mk.injEq, Value.int.injEq, exists_and_left, exists_eq_left', and_assoc, true_and, and_true, true_implies, false_implies, not_true_eq_false, not_false_eq_true, li_0, li_1, li_2, li_3, li_4, li_5, li_8, li_9, li_10, li_16, li_20, li_80, li_100, li_130, li_144, li_390, li_400, li_M, li_H, li_of, nI_add, pk_mul, cl_, vp_iff, nI_leI, nI_ltI, nI_eq, Nat.add_zero, Nat.zero_add, Nat.reduceEqDiff, Nat.reduceAdd, eq_self, reduceIte, Bool.false_eq_true, li_neg]
            exact t89
        · have h3' : v ≤ xs_ (B 2) s (B 0 0) := by omega
          have t89' : Ev_ (P_X12_leave KC) 89 [some (.ref 219), some (.int (nI x1)), some (.int (nI Q)), some (.int (nI q)), some (.int (nI v)), some (.int (nI (s + 1))), none, none, none] [] μ out := by
            by_cases h2 : shok_ B s (B 0 0)
            · rw [if_pos ⟨h1, h2⟩] at t89
              have t89' : Ev_ (P_X12_leave KC) 89 [some (.ref 219), some (.int (nI x1)), some (.int (nI Q)), some (.int (lwS_ (if xs_ (B 2) s (B 0 0) < v then some (xs_ (B 2) s (B 0 0), s) else some (v, q)))), some (.int (nI (lwV_ (if xs_ (B 2) s (B 0 0) < v then some (xs_ (B 2) s (B 0 0), s) else some (v, q))))), some (.int (nI (s + 1))), none, none, none] [] μ out := t89
              rw [if_neg h3] at t89'
              exact t89'
            · rw [if_neg (fun z => h2 z.2)] at t89
              exact t89
          simp (disch := first | assumption | omega) only [m_chaps hx, Nat.le_refl, h1', hqn, h3', Option.some.injEq, Prod.mk.injEq, Value.int.injEq, exists_and_left, exists_eq_left', and_assoc, true_and, and_true, true_implies, false_implies, not_true_eq_false, not_false_eq_true, li_0, li_1, li_2, li_3, li_4, li_5, li_8, li_9, li_10, li_16, li_20, li_80, li_100, li_130, li_144, li_390, li_400, li_M, li_H, li_of, nI_add, pk_mul, cl_, vp_iff, nI_leI, nI_ltI, nI_eq, Nat.add_zero, Nat.zero_add, Nat.reduceEqDiff, Nat.reduceAdd, eq_self, reduceIte, Bool.false_eq_true, li_neg]
          exact t89'
    · have h1' : Q < ks_ T s (B 0 0) := by omega
      rw [if_neg (fun z => h1 z.1)] at t89
      simp (disch := first | assumption | omega) only [m_chaps hx, Nat.le_refl, h1', Option.some.injEq, Prod.mk.injEq, Value.int.injEq, exists_and_left, exists_eq_left', and_assoc, true_and, and_true, true_implies, false_implies, not_true_eq_false, not_false_eq_true, li_0, li_1, li_2, li_3, li_4, li_5, li_8, li_9, li_10, li_16, li_20, li_80, li_100, li_130, li_144, li_390, li_400, li_M, li_H, li_of, nI_add, pk_mul, cl_, vp_iff, nI_leI, nI_ltI, nI_eq, Nat.add_zero, Nat.zero_add, Nat.reduceEqDiff, Nat.reduceAdd, eq_self, reduceIte, Bool.false_eq_true, li_neg]
      exact t89
  | succ n ih =>
    intro c hc
    have hc1 : ¬ B 0 0 ≤ c := by omega
    have hc2 : c < B 0 0 := by omega
    have hc3 : c < 16 := by omega
    have ih1 := ih (c + 1) (by omega)
    have ew : f_X12_chapOf KC [.ref 219, .int (nI c), .int (nI 1)] μ = some (some (.int (nI (B 2 c))), μ) := m_chapOf (w := 1) hx hc2 (by omega)
    have ehb := hb_n (x := s) (i := c) (by omega) (by omega)
    have eT := (hT c hc2).1
    rw [xs_, ks_] at ih1
    refine e_X12_leave_109 ?_
    by_cases e : s.testBit c = true
    · rw [if_pos e, if_pos e] at ih1
      simp (disch := first | assumption | omega) only [m_chaps hx, hc1, m_hasK, ehb, e, ew, if_true, if_pos, Option.some.injEq, Prod.mk.injEq, Value.int.injEq, exists_and_left, exists_eq_left', and_assoc, true_and, and_true, true_implies, false_implies, not_true_eq_false, not_false_eq_true, li_0, li_1, li_2, li_3, li_4, li_5, li_8, li_9, li_10, li_16, li_20, li_80, li_100, li_130, li_144, li_390, li_400, li_M, li_H, li_of, nI_add, pk_mul, cl_, vp_iff, nI_leI, nI_ltI, nI_eq, Nat.add_zero, Nat.zero_add, Nat.reduceEqDiff, Nat.reduceAdd, eq_self, reduceIte, Bool.false_eq_true, li_neg]
      exact ih1
    · rw [if_neg e, if_neg e] at ih1
      simp (disch := first | assumption | omega) only [m_chaps hx, hc1, m_hasK, ehb, e, if_false, if_neg, eT, Option.some.injEq, Prod.mk.injEq, Value.int.injEq, exists_and_left, exists_eq_left', and_assoc, true_and, and_true, true_implies, false_implies, not_true_eq_false, not_false_eq_true, li_0, li_1, li_2, li_3, li_4, li_5, li_8, li_9, li_10, li_16, li_20, li_80, li_100, li_130, li_144, li_390, li_400, li_M, li_H, li_of, nI_add, pk_mul, cl_, vp_iff, nI_leI, nI_ltI, nI_eq, Nat.add_zero, Nat.zero_add, Nat.reduceEqDiff, Nat.reduceAdd, eq_self, reduceIte, Bool.false_eq_true, li_neg]
      (repeat' apply And.intro) <;> first | omega | rfl | assumption | exact ih1
theorem m_leave89 (hx : RX_ μ B) (hT : ∀ c, c < B 0 0 → μ.1 244 c = nI (T c) ∧ T c ≤ 999) {Q : Nat} (hQ : Q < 2 ^ 20) {x1 : Nat} (h2 : x1 < 2) : ∀ n s, s + n = 2 ^ B 0 0 → Ev_ (P_X12_leave KC) 89 [some (.ref 219), some (.int (nI x1)), some (.int (nI Q)), some (.int (lwS_ (lw_ B T (B 0 0) Q s))), some (.int (nI (lwV_ (lw_ B T (B 0 0) Q s)))), some (.int (nI s)), none, none, none] [] μ (some (.int (if x1 = 0 then nI (lwV_ (lw_ B T (B 0 0) Q (2 ^ B 0 0))) else lwS_ (lw_ B T (B 0 0) Q (2 ^ B 0 0)))), μ) := by
  have hO := hx.2
  have h16 := hO.1.1
  have hp : 2 ^ B 0 0 ≤ 2 ^ 16 := Nat.pow_le_pow_right (by omega) h16
  have h31 : B 0 0 < 31 := by omega
  intro n
  induction n with
  | zero =>
    intro s hs
    obtain rfl : s = 2 ^ B 0 0 := by omega
    refine e_X12_leave_89 ?_
    by_cases e : x1 = 0
    · simp (disch := first | assumption | omega) only [m_chaps hx, sh_1, Nat.le_refl, e, Option.some.injEq, Prod.mk.injEq, Value.int.injEq, exists_and_left, exists_eq_left', and_assoc, true_and, and_true, true_implies, false_implies, not_true_eq_false, not_false_eq_true, li_0, li_1, li_2, li_3, li_4, li_5, li_8, li_9, li_10, li_16, li_20, li_80, li_100, li_130, li_144, li_390, li_400, li_M, li_H, li_of, nI_add, pk_mul, cl_, vp_iff, nI_leI, nI_ltI, nI_eq, Nat.add_zero, Nat.zero_add, Nat.reduceEqDiff, Nat.reduceAdd, eq_self, reduceIte, Bool.false_eq_true, li_neg]
    · simp (disch := first | assumption | omega) only [m_chaps hx, sh_1, Nat.le_refl, e, Option.some.injEq, Prod.mk.injEq, Value.int.injEq, exists_and_left, exists_eq_left', and_assoc, true_and, and_true, true_implies, false_implies, not_true_eq_false, not_false_eq_true, li_0, li_1, li_2, li_3, li_4, li_5, li_8, li_9, li_10, li_16, li_20, li_80, li_100, li_130, li_144, li_390, li_400, li_M, li_H, li_of, nI_add, pk_mul, cl_, vp_iff, nI_leI, nI_ltI, nI_eq, Nat.add_zero, Nat.zero_add, Nat.reduceEqDiff, Nat.reduceAdd, eq_self, reduceIte, Bool.false_eq_true, li_neg]
  | succ n ih =>
    intro s hs
    have hs1 : ¬ 2 ^ B 0 0 ≤ s := by omega
    have t := m_leave109 hx hT hQ (show s < 2 ^ B 0 0 by omega) (ih (s + 1) (by omega)) (B 0 0) 0 (by omega)
    refine e_X12_leave_89 ?_
    simp (disch := first | assumption | omega) only [m_chaps hx, sh_1, hs1, Option.some.injEq, Prod.mk.injEq, Value.int.injEq, exists_and_left, exists_eq_left', and_assoc, true_and, and_true, true_implies, false_implies, not_true_eq_false, not_false_eq_true, li_0, li_1, li_2, li_3, li_4, li_5, li_8, li_9, li_10, li_16, li_20, li_80, li_100, li_130, li_144, li_390, li_400, li_M, li_H, li_of, nI_add, pk_mul, cl_, vp_iff, nI_leI, nI_ltI, nI_eq, Nat.add_zero, Nat.zero_add, Nat.reduceEqDiff, Nat.reduceAdd, eq_self, reduceIte, Bool.false_eq_true, li_neg]
    exact t
theorem m_leave56 (hR : 1 ≤ B 0 1) {Q : Nat} (hQ : Q < 2 ^ 20) {x1 : Nat} (h2 : x1 < 2) : ∀ n c (μ : St_), c + n = B 0 0 → RX_ μ B → (∀ d, d < c → μ.1 244 d = nI (qk_ B d (B 0 1))) → ∃ μ', Ev_ (P_X12_leave KC) 56 [some (.ref 219), some (.int (nI x1)), some (.int (nI Q)), some (.int (nI c)), none, none, none, none, none] [] μ (some (.int (if x1 = 0 then nI (lwV_ (lw_ B (fun c => qk_ B c (B 0 1)) (B 0 0) Q (2 ^ B 0 0))) else lwS_ (lw_ B (fun c => qk_ B c (B 0 1)) (B 0 0) Q (2 ^ B 0 0)))), μ') ∧ fr_ [244] μ μ' := by
  intro n
  induction n with
  | zero =>
    intro c μ hc hx hT
    obtain rfl : c = B 0 0 := by omega
    have t := m_leave89 (T := fun c => qk_ B c (B 0 1)) hx (fun c hc => ⟨hT c hc, qk_bd hx.2 hc hR _ (Nat.le_refl _)⟩) hQ h2 (2 ^ B 0 0) 0 (by omega)
    refine ⟨μ, e_X12_leave_56 ?_, fr_rf _ _⟩
    have h16 := hx.2.1.1
    simp (disch := first | assumption | omega) only [m_chaps hx, Nat.le_refl, Option.some.injEq, Prod.mk.injEq, Value.int.injEq, exists_and_left, exists_eq_left', and_assoc, true_and, and_true, true_implies, false_implies, not_true_eq_false, not_false_eq_true, li_0, li_1, li_2, li_3, li_4, li_5, li_8, li_9, li_10, li_16, li_20, li_80, li_100, li_130, li_144, li_390, li_400, li_M, li_H, li_of, nI_add, pk_mul, cl_, vp_iff, nI_leI, nI_ltI, nI_eq, Nat.add_zero, Nat.zero_add, Nat.reduceEqDiff, Nat.reduceAdd, eq_self, reduceIte, Bool.false_eq_true, li_neg]
    exact t
  | succ n ih =>
    intro c μ hc hx hT
    have h16 := hx.2.1.1
    have hc1 : ¬ B 0 0 ≤ c := by omega
    have hc3 : c < 16 := by omega
    obtain ⟨μ', q1, q2⟩ := ih (c + 1) (sI_ μ 244 c (nI (qk_ B c (B 0 1)))) (by omega) (RX_sI hx (by decide)) (fun d hd => by
      rw [sI_at]
      by_cases e : d = c
      · rw [if_pos ⟨rfl, e⟩, e]
      · rw [if_neg (fun z => e z.2)]
        exact hT d (by omega))
    refine ⟨μ', e_X12_leave_56 ?_, fr_tr (fr_sI (by simp)) q2⟩
    simp (disch := first | assumption | omega) only [m_chaps hx, hc1, m_quickest hx (show c < B 0 0 by omega) hR, Option.some.injEq, Prod.mk.injEq, Value.int.injEq, exists_and_left, exists_eq_left', and_assoc, true_and, and_true, true_implies, false_implies, not_true_eq_false, not_false_eq_true, li_0, li_1, li_2, li_3, li_4, li_5, li_8, li_9, li_10, li_16, li_20, li_80, li_100, li_130, li_144, li_390, li_400, li_M, li_H, li_of, nI_add, pk_mul, cl_, vp_iff, nI_leI, nI_ltI, nI_eq, Nat.add_zero, Nat.zero_add, Nat.reduceEqDiff, Nat.reduceAdd, eq_self, reduceIte, Bool.false_eq_true, li_neg]
    (repeat' apply And.intro) <;> first | omega | rfl | assumption | exact q1
theorem m_leave31 (hx : RX_ μ B) (hR : 1 ≤ B 0 1) {x1 : Nat} (h2 : x1 < 2) : ∃ μ', Ev_ (P_X12_leave KC) 31 [some (.ref 219), some (.int (nI x1)), some (.int (nI 0)), some (.int (nI 0)), none, none, none, none, none] [] μ (some (.int (if x1 = 0 then nI (lwV_ (lw_ B (fun c => qk_ B c (B 0 1)) (B 0 0) (fb_sm (B 7) (B 0 1)) (2 ^ B 0 0))) else lwS_ (lw_ B (fun c => qk_ B c (B 0 1)) (B 0 0) (fb_sm (B 7) (B 0 1)) (2 ^ B 0 0)))), μ') ∧ fr_ [244] μ μ' := by
  have hO := hx.2
  have h9 := hO.1.2.1
  have hs7 : ∀ r, r ≤ B 0 1 → fb_sm (B 7) r ≤ r * 240 := fun r hr => fb_sm_bound (fun i hi => by have := BO_rr hO (show i < B 0 1 by omega); omega)
  have hQ := hs7 (B 0 1) (Nat.le_refl _)
  obtain ⟨μ', q1, q2⟩ := m_leave56 hR (show fb_sm (B 7) (B 0 1) < 2 ^ 20 by omega) h2 (B 0 0) 0 μ (by omega) hx (fun d hd => absurd hd (by omega))
  refine ⟨μ', ?_, q2⟩
  have loop : ∀ n r, r + n = B 0 1 → Ev_ (P_X12_leave KC) 31 [some (.ref 219), some (.int (nI x1)), some (.int (nI (fb_sm (B 7) r))), some (.int (nI r)), none, none, none, none, none] [] μ (some (.int (if x1 = 0 then nI (lwV_ (lw_ B (fun c => qk_ B c (B 0 1)) (B 0 0) (fb_sm (B 7) (B 0 1)) (2 ^ B 0 0))) else lwS_ (lw_ B (fun c => qk_ B c (B 0 1)) (B 0 0) (fb_sm (B 7) (B 0 1)) (2 ^ B 0 0)))), μ') := by
    intro n
    induction n with
    | zero =>
      intro r hr
      obtain rfl : r = B 0 1 := by omega
      refine e_X12_leave_31 ?_
      simp (disch := first | assumption | omega) only [m_readers hx, Nat.le_refl, Option.some.injEq, Prod.mk.injEq, Value.int.injEq, exists_and_left, exists_eq_left', and_assoc, true_and, and_true, true_implies, false_implies, not_true_eq_false, not_false_eq_true, li_0, li_1, li_2, li_3, li_4, li_5, li_8, li_9, li_10, li_16, li_20, li_80, li_100, li_130, li_144, li_390, li_400, li_M, li_H, li_of, nI_add, pk_mul, cl_, vp_iff, nI_leI, nI_ltI, nI_eq, Nat.add_zero, Nat.zero_add, Nat.reduceEqDiff, Nat.reduceAdd, eq_self, reduceIte, Bool.false_eq_true, li_neg]
      exact q1
    | succ n ih =>
      intro r hr
      have hr1 : ¬ B 0 1 ≤ r := by omega
      have hr2 : r < B 0 1 := by omega
      have etm : f_X12_readerOf KC [.ref 219, .int (nI r), .int (nI 3)] μ = some (some (.int (nI (B 7 r))), μ) := m_readerOf (w := 3) hx hr2 (by omega)
      have ih1 := ih (r + 1) (by omega)
      rw [fb_sm_succ] at ih1
      refine e_X12_leave_31 ?_
      simp (disch := first | assumption | omega) only [m_readers hx, hr1, etm, Option.some.injEq, Prod.mk.injEq, Value.int.injEq, exists_and_left, exists_eq_left', and_assoc, true_and, and_true, true_implies, false_implies, not_true_eq_false, not_false_eq_true, li_0, li_1, li_2, li_3, li_4, li_5, li_8, li_9, li_10, li_16, li_20, li_80, li_100, li_130, li_144, li_390, li_400, li_M, li_H, li_of, nI_add, pk_mul, cl_, vp_iff, nI_leI, nI_ltI, nI_eq, Nat.add_zero, Nat.zero_add, Nat.reduceEqDiff, Nat.reduceAdd, eq_self, reduceIte, Bool.false_eq_true, li_neg]
      exact ih1
  exact loop (B 0 1) 0 (by omega)
/-- both find the same -/
theorem leave_eq (hO : BO_ B) (hR : 1 ≤ B 0 1) : ∃ v q, lw_ B (fun c => qk_ B c (B 0 1)) (B 0 0) (fb_sm (B 7) (B 0 1)) (2 ^ B 0 0) = some (v, q) ∧ tv9_ B (tR_ B (qi_ B (B 0 1))) (B 0 0) (fb_sm (B 7) (B 0 1)) 0 0 0 (fb_sm (B 2) (B 0 0) + 1, 0) = (v, q) := by
  have e : (fun c => qk_ B c (B 0 1)) = tR_ B (qi_ B (B 0 1)) := funext fun c => qk_eq hO hR
  rw [e, tv9_fl, lw_fl]
  cases h : lw_ B (tR_ B (qi_ B (B 0 1))) (B 0 0) (fb_sm (B 7) (B 0 1)) (2 ^ B 0 0) with
  | none => exact absurd h lw_full
  | some p => exact ⟨p.1, p.2, rfl, rfl⟩
end LM
