/-! LEAVE: the class -/
def ks_ (f : Nat → Nat) (s : Nat) : Nat → Nat
  | 0 => 0
  | i + 1 => if s.testBit i = true then ks_ f s i else ks_ f s i + f i
def shok_ (B : Nat → Nat → Nat) (s k : Nat) : Prop := ∀ c, c < k → s.testBit c = false → ∀ d, d < c → s.testBit d = true → B (16 + c) d < 5
def adm_ (B : Nat → Nat → Nat) (T : Nat → Nat) (k left need m : Nat) : Prop := ks_ T m k ≤ left ∧ (∀ d, d < k → m.testBit d = true → need.testBit d = false) ∧ shok_ B m k
def nl_ (B : Nat → Nat → Nat) (c : Nat) : Nat → Nat
  | 0 => 0
  | j + 1 => if 5 ≤ B (16 + c) j then nl_ B c j ||| 2 ^ j else nl_ B c j
theorem nl_bit {B : Nat → Nat → Nat} {c : Nat} : ∀ j d, (nl_ B c j).testBit d = true ↔ d < j ∧ 5 ≤ B (16 + c) d
  | 0, d => by
    rw [nl_, Nat.zero_testBit]
    exact ⟨fun z => absurd z (by decide), fun z => absurd z.1 (by omega)⟩
  | j + 1, d => by
    have ih := nl_bit (B := B) (c := c) j d
    rw [nl_]
    split
    · rename_i h
      rw [Nat.testBit_or, Bool.or_eq_true, ih, Nat.testBit_two_pow]
      constructor
      · rintro (z | z)
        · exact ⟨by omega, z.2⟩
        · have := of_decide_eq_true z
          subst this
          exact ⟨by omega, h⟩
      · intro z
        by_cases e : j = d
        · exact .inr (decide_eq_true e)
        · exact .inl ⟨by omega, z.2⟩
    · rename_i h
      rw [ih]
      constructor
      · exact fun z => ⟨by omega, z.2⟩
      · intro z
        by_cases e : j = d
        · subst e
          exact absurd z.2 h
        · exact ⟨by omega, z.2⟩
theorem nl_lt {B : Nat → Nat → Nat} {c : Nat} : ∀ j, j ≤ 16 → nl_ B c j < 2 ^ 16
  | 0, _ => by rw [nl_]; decide
  | j + 1, hj => by
    have ih := nl_lt (B := B) (c := c) j (by omega)
    rw [nl_]
    split
    · exact Nat.or_lt_two_pow ih (Nat.pow_lt_pow_right (by omega) (by omega))
    · exact ih
def tv9_ (B : Nat → Nat → Nat) (T : Nat → Nat) : Nat → Nat → Nat → Nat → Nat → Nat × Nat → Nat × Nat
  | 0, _, _, out, ow, s => if ow < s.1 then (ow, out) else s
  | k + 1, left, need, out, ow, s => if ow < s.1 then (
      if need.testBit k = true then (if T k ≤ left then tv9_ B T k (left - T k) (need ||| nl_ B k k) out ow s else s)
      else tv9_ B T k left need (out ||| 2 ^ k) (ow + B 2 k) (if T k ≤ left then tv9_ B T k (left - T k) (need ||| nl_ B k k) out ow s else s)) else s
noncomputable def fl_ (B : Nat → Nat → Nat) (T : Nat → Nat) (k left need out ow : Nat) (s : Nat × Nat) : Nat → Nat × Nat
  | 0 => s
  | m + 1 => @ite _ (adm_ B T k left need m ∧ ow + xs_ (B 2) m k < (fl_ B T k left need out ow s m).1) (Classical.propDecidable _) (ow + xs_ (B 2) m k, out ||| m) (fl_ B T k left need out ow s m)
section LV
variable {B : Nat → Nat → Nat} {T : Nat → Nat}
theorem ks_top {c m n : Nat} (hm : m < 2 ^ c) : ks_ T m c + T c = ks_ T m (c + 1) := by
  rw [ks_, Nat.testBit_lt_two_pow hm, if_neg Bool.false_ne_true]
theorem bit_top {c m i : Nat} (hi : i < c) : (2 ^ c + m).testBit i = m.testBit i := Nat.testBit_two_pow_add_gt hi m
theorem ks_cg {m m' : Nat} : ∀ n, (∀ i, i < n → m.testBit i = m'.testBit i) → ks_ T m n = ks_ T m' n
  | 0, _ => rfl
  | n + 1, h => by rw [ks_, ks_, h n (by omega), ks_cg n (fun i hi => h i (by omega))]
theorem ks_in {c m : Nat} (hm : m < 2 ^ c) : ks_ T (2 ^ c + m) (c + 1) = ks_ T m c := by
  rw [ks_, Nat.testBit_two_pow_add_eq, Nat.testBit_lt_two_pow hm, if_pos (show (!false) = true from rfl), ks_cg c (fun i hi => bit_top hi)]
theorem xs_kept {f : Nat → Nat} {c m : Nat} (hm : m < 2 ^ c) : xs_ f m (c + 1) = xs_ f m c := by
  rw [xs_, Nat.testBit_lt_two_pow hm, if_neg Bool.false_ne_true]
theorem adm_keep {k left need m : Nat} (hm : m < 2 ^ k) : adm_ B T (k + 1) left need m ↔ T k ≤ left ∧ adm_ B T k (left - T k) (need ||| nl_ B k k) m := by
  unfold adm_ shok_
  rw [← ks_top (n := 0) hm]
  constructor
  · rintro ⟨h1, h2, h3⟩
    refine ⟨by omega, by omega, fun d hd hb => ?_, fun c hc hcb d hd hb => h3 c (by omega) hcb d hd hb⟩
    have h4 := h2 d (by omega) hb
    have h5 := h3 k (by omega) (Nat.testBit_lt_two_pow hm) d hd hb
    rw [Nat.testBit_or, h4, Bool.false_or]
    cases e : (nl_ B k k).testBit d with
    | false => rfl
    | true =>
      have := ((nl_bit k d).1 e).2
      omega
  · rintro ⟨h0, h1, h2, h3⟩
    refine ⟨by omega, fun d hd hb => ?_, fun c hc hcb d hd hb => ?_⟩
    · have hdk : d < k := by
        by_cases e : d = k
        · rw [e, Nat.testBit_lt_two_pow hm] at hb
          cases hb
        · omega
      have h4 := h2 d hdk hb
      rw [Nat.testBit_or, Bool.or_eq_false_iff] at h4
      exact h4.1
    · by_cases e : c = k
      · subst e
        have h4 := h2 d hd hb
        rw [Nat.testBit_or, Bool.or_eq_false_iff] at h4
        by_cases e5 : 5 ≤ B (16 + c) d
        · have := (nl_bit (B := B) (c := c) c d).2 ⟨hd, e5⟩
          rw [h4.2] at this
          cases this
        · omega
      · exact h3 c (by omega) hcb d hd hb
theorem adm_out {k left need m : Nat} (hm : m < 2 ^ k) : adm_ B T (k + 1) left need (2 ^ k + m) ↔ need.testBit k = false ∧ adm_ B T k left need m := by
  have bk : (2 ^ k + m).testBit k = true := by rw [Nat.testBit_two_pow_add_eq, Nat.testBit_lt_two_pow hm]; rfl
  unfold adm_ shok_
  rw [ks_in hm]
  constructor
  · rintro ⟨h1, h2, h3⟩
    refine ⟨h2 k (by omega) bk, h1, fun d hd hb => h2 d (by omega) (by rw [bit_top hd]; exact hb), fun c hc hcb d hd hb => h3 c (by omega) (by rw [bit_top hc]; exact hcb) d hd (by rw [bit_top (by omega)]; exact hb)⟩
  · rintro ⟨h0, h1, h2, h3⟩
    refine ⟨h1, fun d hd hb => ?_, fun c hc hcb d hd hb => ?_⟩
    · by_cases e : d = k
      · rw [e]
        exact h0
      · rw [bit_top (by omega)] at hb
        exact h2 d (by omega) hb
    · by_cases e : c = k
      · rw [e, bk] at hcb
        cases hcb
      · rw [bit_top (by omega)] at hcb hb
        exact h3 c (by omega) hcb d hd hb
theorem fl_no {k left need out ow : Nat} {s : Nat × Nat} (h : ¬ ow < s.1) : ∀ m, fl_ B T k left need out ow s m = s
  | 0 => rfl
  | m + 1 => by
    rw [fl_, fl_no h m, if_neg]
    intro z
    have := z.2
    omega
theorem fl_keep {k left need out ow : Nat} {s : Nat × Nat} : ∀ m, m ≤ 2 ^ k → fl_ B T (k + 1) left need out ow s m = if T k ≤ left then fl_ B T k (left - T k) (need ||| nl_ B k k) out ow s m else s
  | 0, _ => by
    rw [fl_, fl_]
    split <;> rfl
  | m + 1, hm => by
    have ih := fl_keep (k := k) (left := left) (need := need) (out := out) (ow := ow) (s := s) m (by omega)
    have ha := adm_keep (B := B) (T := T) (left := left) (need := need) (show m < 2 ^ k by omega)
    rw [fl_, ih, xs_kept (show m < 2 ^ k by omega)]
    by_cases h1 : T k ≤ left
    · rw [if_pos h1, if_pos h1, fl_]
      by_cases h2 : adm_ B T k (left - T k) (need ||| nl_ B k k) m ∧ ow + xs_ (B 2) m k < (fl_ B T k (left - T k) (need ||| nl_ B k k) out ow s m).1
      · rw [if_pos h2, if_pos ⟨ha.2 ⟨h1, h2.1⟩, h2.2⟩]
      · rw [if_neg h2, if_neg (fun z => h2 ⟨(ha.1 z.1).2, z.2⟩)]
    · rw [if_neg h1, if_neg h1, if_neg (fun z => h1 (ha.1 z.1).1)]
theorem fl_out {k left need out ow : Nat} {s : Nat × Nat} : ∀ m, m ≤ 2 ^ k → fl_ B T (k + 1) left need out ow s (2 ^ k + m) = if need.testBit k = true then fl_ B T (k + 1) left need out ow s (2 ^ k) else fl_ B T k left need (out ||| 2 ^ k) (ow + B 2 k) (fl_ B T (k + 1) left need out ow s (2 ^ k)) m
  | 0, _ => by
    rw [fl_]
    split <;> rfl
  | m + 1, hm => by
    have ih := fl_out (k := k) (left := left) (need := need) (out := out) (ow := ow) (s := s) m (by omega)
    have ha := adm_out (B := B) (T := T) (left := left) (need := need) (show m < 2 ^ k by omega)
    have hx := xs_top (f := B 2) (show m < 2 ^ k by omega) (Nat.lt_succ_self k)
    rw [xs_kept (show m < 2 ^ k by omega)] at hx
    have hor : out ||| (2 ^ k + m) = out ||| 2 ^ k ||| m := by
      have := Nat.two_pow_add_eq_or_of_lt (show m < 2 ^ k by omega) 1
      rw [Nat.mul_one] at this
      rw [this, Nat.or_assoc]
    rw [show 2 ^ k + (m + 1) = (2 ^ k + m) + 1 by omega, fl_, ih, hx, hor, ← Nat.add_assoc]
    by_cases h1 : need.testBit k = true
    · rw [if_pos h1, if_pos h1, if_neg]
      intro z
      rw [(ha.1 z.1).1] at h1
      cases h1
    · have h1' : need.testBit k = false := by simpa using h1
      rw [if_neg h1, if_neg h1, fl_]
      generalize fl_ B T k left need (out ||| 2 ^ k) (ow + B 2 k) (fl_ B T (k + 1) left need out ow s (2 ^ k)) m = w
      by_cases h2 : adm_ B T k left need m ∧ ow + B 2 k + xs_ (B 2) m k < w.1
      · rw [if_pos h2, if_pos ⟨ha.2 ⟨h1', h2.1⟩, h2.2⟩]
      · rw [if_neg h2, if_neg (fun z => h2 ⟨(ha.1 z.1).2, z.2⟩)]
theorem tv9_fl : ∀ k left need out ow (s : Nat × Nat), tv9_ B T k left need out ow s = fl_ B T k left need out ow s (2 ^ k) := by
  intro k
  induction k with
  | zero =>
    intro left need out ow s
    show (if ow < s.1 then (ow, out) else s) = @ite _ (adm_ B T 0 left need 0 ∧ ow + 0 < s.1) (Classical.propDecidable _) (ow + 0, out ||| 0) s
    have ha : adm_ B T 0 left need 0 := ⟨Nat.zero_le _, fun d hd => absurd hd (by omega), fun c hc => absurd hc (by omega)⟩
    by_cases h : ow < s.1
    · rw [if_pos h, if_pos ⟨ha, h⟩, Nat.or_zero]
      rfl
    · rw [if_neg h, if_neg (fun z => h z.2)]
  | succ k ih =>
    intro left need out ow s
    by_cases h : ow < s.1
    · rw [tv9_, if_pos h, show 2 ^ (k + 1) = 2 ^ k + 2 ^ k by omega, fl_out _ (Nat.le_refl _), fl_keep _ (Nat.le_refl _)]
      rw [ih, ih]
    · rw [fl_no h, tv9_, if_neg h]
theorem tv9_bd : ∀ k left need out ow (s : Nat × Nat), k ≤ 16 → ow < 2 ^ 20 → s.1 < 2 ^ 20 → s.2 < 2 ^ 16 → out < 2 ^ 16 → (tv9_ B T k left need out ow s).1 ≤ s.1 ∧ (tv9_ B T k left need out ow s).2 < 2 ^ 16 := by
  intro k
  induction k with
  | zero =>
    intro left need out ow s hk h1 h2 h3 h4
    rw [tv9_]
    split
    · exact ⟨by show ow ≤ s.1; omega, h4⟩
    · exact ⟨Nat.le_refl _, h3⟩
  | succ k ih =>
    intro left need out ow s hk h1 h2 h3 h4
    rw [tv9_]
    by_cases h : ow < s.1
    · rw [if_pos h]
      have b1 : (if T k ≤ left then tv9_ B T k (left - T k) (need ||| nl_ B k k) out ow s else s).1 ≤ s.1 ∧ (if T k ≤ left then tv9_ B T k (left - T k) (need ||| nl_ B k k) out ow s else s).2 < 2 ^ 16 := by
        split
        · exact ih _ _ _ _ _ (by omega) h1 h2 h3 h4
        · exact ⟨Nat.le_refl _, h3⟩
      generalize (if T k ≤ left then tv9_ B T k (left - T k) (need ||| nl_ B k k) out ow s else s) = w at b1
      split
      · exact b1
      · by_cases h5 : ow + B 2 k < 2 ^ 20
        · have b2 := ih left need (out ||| 2 ^ k) (ow + B 2 k) w (by omega) h5 (by omega) b1.2 (Nat.or_lt_two_pow h4 (Nat.pow_lt_pow_right (by omega) (by omega)))
          exact ⟨by omega, b2.2⟩
        · rw [tv9_fl, fl_no (by omega)]
          exact b1
    · rw [if_neg h]
      exact ⟨Nat.le_refl _, h3⟩
end LV
section LC
variable {σ : St_} {b : Nat} {B : Nat → Nat → Nat} {T : Nat → Nat}
def LV_ (σ : St_) (b : Nat) (B : Nat → Nat → Nat) (T : Nat → Nat) : Prop := CB_ σ b B ∧ σ.2.2 133 8 = some b ∧ ∀ c, c < B 0 0 → σ.1 137 c = nI (T c) ∧ σ.1 138 c = nI (nl_ B c c)
theorem LV_fr {σ' : St_} (hB : isB b) (hO : BO_ B) (h : LV_ σ b B T) (hf : fr_ [133] σ σ') : LV_ σ' b B T := ⟨CB_row hB h.1 (fun o h5 h6 => hf.1 o (by unfold isB at hB; simp; omega)) hO, by rw [hf.2]; exact h.2.1, fun c hc => by rw [hf.1 137 (by decide), hf.1 138 (by decide)]; exact h.2.2 c hc⟩
theorem c_tryLeaving (hB : isB b) (hO : BO_ B) (hT : ∀ c, c < B 0 0 → T c ≤ 999) : ∀ k d left need out ow (s : Nat × Nat) (σ : St_), k ≤ B 0 0 → k < d → left < 2 ^ 20 → need < 2 ^ 16 → out < 2 ^ 16 → ow + 999 * k < 2 ^ 20 → s.1 < 2 ^ 20 → s.2 < 2 ^ 16 → LV_ σ b B T → σ.1 133 0 = nI s.1 → σ.1 133 1 = nI s.2 → ∃ σ', f_X1_tryLeaving KC d [.ref 133, .int (nI k - nI 1), .int (nI left), .int (nI need), .int (nI out), .int (nI ow)] σ = some (none, σ') ∧ σ'.1 133 0 = nI (tv9_ B T k left need out ow s).1 ∧ σ'.1 133 1 = nI (tv9_ B T k left need out ow s).2 ∧ fr_ [133] σ σ' ∧ NF2_ [0, 1] 133 σ σ' := by
  have h16 := hO.1.1
  have hend : nI 0 - nI 1 = nM_ := by decide
  have hm0 : ¬ nI 0 ≤ nM_ := by decide
  intro k
  induction k with
  | zero =>
    intro d left need out ow s σ hk hd hl hn ho how hs1 hs2 hV e0 e1
    obtain ⟨d, rfl⟩ : ∃ d', d = d' + 1 := ⟨d - 1, by omega⟩
    rw [hend, tv9_]
    by_cases h : ow < s.1
    · rw [if_pos h]
      refine ⟨sI_ (sI_ σ 133 0 (nI ow)) 133 1 (nI out), z_X1_tryLeaving (e_X1_tryLeaving_0 ?_), rfl, rfl, fr_tr (fr_sI (by simp)) (fr_sI (by simp)), fun f hf => ?_⟩
      · simp (disch := first | assumption | omega) only [e0, h, hm0, Option.some.injEq, Prod.mk.injEq, Value.int.injEq, exists_and_left, exists_eq_left', and_assoc, true_and, and_true, true_implies, false_implies, not_true_eq_false, not_false_eq_true, li_0, li_1, li_2, li_3, li_4, li_5, li_8, li_9, li_10, li_16, li_20, li_80, li_100, li_130, li_144, li_390, li_400, li_M, li_H, li_of, nI_add, pk_mul, cl_, vp_iff, nI_leI, nI_ltI, nI_eq, Nat.add_zero, Nat.zero_add, Nat.reduceEqDiff, Nat.reduceAdd, eq_self, reduceIte, Bool.false_eq_true, li_neg]
      · rw [sI_at, if_neg (fun z => hf (by rw [z.2]; simp)), sI_at, if_neg (fun z => hf (by rw [z.2]; simp))]
    · rw [if_neg h]
      refine ⟨σ, z_X1_tryLeaving (e_X1_tryLeaving_0 ?_), e0, e1, fr_rf _ _, fun _ _ => rfl⟩
      simp (disch := first | assumption | omega) only [e0, h, Option.some.injEq, Prod.mk.injEq, Value.int.injEq, exists_and_left, exists_eq_left', and_assoc, true_and, and_true, true_implies, false_implies, not_true_eq_false, not_false_eq_true, li_0, li_1, li_2, li_3, li_4, li_5, li_8, li_9, li_10, li_16, li_20, li_80, li_100, li_130, li_144, li_390, li_400, li_M, li_H, li_of, nI_add, pk_mul, cl_, vp_iff, nI_leI, nI_ltI, nI_eq, Nat.add_zero, Nat.zero_add, Nat.reduceEqDiff, Nat.reduceAdd, eq_self, reduceIte, Bool.false_eq_true, li_neg]
  | succ k ih =>
    intro d left need out ow s σ hk hd hl hn ho how hs1 hs2 hV e0 e1
    obtain ⟨d, rfl⟩ : ∃ d', d = d' + 1 := ⟨d - 1, by omega⟩
    have hkb : k < B 0 0 := by omega
    have hk1 : nI (k + 1) - nI 1 = nI k := by rw [pk_sub (by omega)]; rfl
    have h0k : 0 ≤ k := Nat.zero_le _
    have hTk := hT k hkb
    have hW := BO_cc hO hkb
    have hnl := nl_lt (B := B) (c := k) k (by omega)
    have ehb := hb_n (x := need) (i := k) (by omega) (by omega)
    rw [hk1, tv9_]
    by_cases h : ow < s.1
    · rw [if_pos h]
      have second : ∀ (w : Nat × Nat) (σ1 : St_), w.1 < 2 ^ 20 → w.2 < 2 ^ 16 → fr_ [133] σ σ1 → NF2_ [0, 1] 133 σ σ1 → σ1.1 133 0 = nI w.1 → σ1.1 133 1 = nI w.2 → ∃ σ', Ev_ (P_X1_tryLeaving KC (f_X1_tryLeaving KC d)) 64 [some (.ref 133), some (.int (nI k)), some (.int (nI left)), some (.int (nI need)), some (.int (nI out)), some (.int (nI ow))] [] σ1 (none, σ') ∧ σ'.1 133 0 = nI (if need.testBit k = true then w else tv9_ B T k left need (out ||| 2 ^ k) (ow + B 2 k) w).1 ∧ σ'.1 133 1 = nI (if need.testBit k = true then w else tv9_ B T k left need (out ||| 2 ^ k) (ow + B 2 k) w).2 ∧ fr_ [133] σ σ' ∧ NF2_ [0, 1] 133 σ σ' := by
        intro w σ1 w1 w2 f1 f2 g0 g1
        have hV1 := LV_fr hB hO hV f1
        by_cases e : need.testBit k = true
        · rw [if_pos e]
          refine ⟨σ1, e_X1_tryLeaving_64 ?_, g0, g1, f1, f2⟩
          simp (disch := first | assumption | omega) only [hb_0, ehb, e, Option.some.injEq, Prod.mk.injEq, Value.int.injEq, exists_and_left, exists_eq_left', and_assoc, true_and, and_true, true_implies, false_implies, not_true_eq_false, not_false_eq_true, li_0, li_1, li_2, li_3, li_4, li_5, li_8, li_9, li_10, li_16, li_20, li_80, li_100, li_130, li_144, li_390, li_400, li_M, li_H, li_of, nI_add, pk_mul, cl_, vp_iff, nI_leI, nI_ltI, nI_eq, Nat.add_zero, Nat.zero_add, Nat.reduceEqDiff, Nat.reduceAdd, eq_self, reduceIte, Bool.false_eq_true, li_neg]
        · rw [if_neg e]
          obtain ⟨σ', q1, q2, q3, q4, q5⟩ := ih d left need (out ||| 2 ^ k) (ow + B 2 k) w σ1 (by omega) (by omega) hl hn (Nat.or_lt_two_pow ho (Nat.pow_lt_pow_right (by omega) (by omega))) (by omega) w1 w2 hV1 g0 g1
          have ewk := (hV1.1.2.1 k hkb).2.2.1
          refine ⟨σ', e_X1_tryLeaving_64 ?_, q2, q3, fr_tr f1 q4, NF2_tr f2 q5⟩
          simp (disch := first | assumption | omega) only [hb_0, ehb, e, hV1.2.1, hB, ewk, sh_1, fa_or, q1, Option.some.injEq, Prod.mk.injEq, Value.int.injEq, exists_and_left, exists_eq_left', and_assoc, true_and, and_true, true_implies, false_implies, not_true_eq_false, not_false_eq_true, li_0, li_1, li_2, li_3, li_4, li_5, li_8, li_9, li_10, li_16, li_20, li_80, li_100, li_130, li_144, li_390, li_400, li_M, li_H, li_of, nI_add, pk_mul, cl_, vp_iff, nI_leI, nI_ltI, nI_eq, Nat.add_zero, Nat.zero_add, Nat.reduceEqDiff, Nat.reduceAdd, eq_self, reduceIte, Bool.false_eq_true, li_neg]
          (repeat' apply And.intro) <;> first | omega | rfl | assumption
      obtain ⟨eT, eN⟩ := hV.2.2 k hkb
      by_cases h2 : T k ≤ left
      · rw [if_pos h2]
        have h2' : ¬ left < T k := by omega
        obtain ⟨σ1, q1, q2, q3, q4, q5⟩ := ih d (left - T k) (need ||| nl_ B k k) out ow s σ (by omega) (by omega) (by omega) (Nat.or_lt_two_pow hn hnl) ho (by omega) hs1 hs2 hV e0 e1
        have bb := tv9_bd (B := B) (T := T) k (left - T k) (need ||| nl_ B k k) out ow s (by omega) (by omega) hs1 hs2 ho
        obtain ⟨σ', p1, p2⟩ := second _ σ1 (by omega) bb.2 q4 q5 q2 q3
        refine ⟨σ', z_X1_tryLeaving (e_X1_tryLeaving_0 ?_), p2⟩
        simp (disch := first | assumption | omega) only [e0, h, h0k, eT, eN, h2', pk_sub, fa_or, q1, Option.some.injEq, Prod.mk.injEq, Value.int.injEq, exists_and_left, exists_eq_left', and_assoc, true_and, and_true, true_implies, false_implies, not_true_eq_false, not_false_eq_true, li_0, li_1, li_2, li_3, li_4, li_5, li_8, li_9, li_10, li_16, li_20, li_80, li_100, li_130, li_144, li_390, li_400, li_M, li_H, li_of, nI_add, pk_mul, cl_, vp_iff, nI_leI, nI_ltI, nI_eq, Nat.add_zero, Nat.zero_add, Nat.reduceEqDiff, Nat.reduceAdd, eq_self, reduceIte, Bool.false_eq_true, li_neg]
        (repeat' apply And.intro) <;> first | omega | rfl | assumption | exact p1
      · rw [if_neg h2]
        have h2' : left < T k := by omega
        obtain ⟨σ', p1, p2⟩ := second s σ hs1 hs2 (fr_rf _ _) (fun _ _ => rfl) e0 e1
        refine ⟨σ', z_X1_tryLeaving (e_X1_tryLeaving_0 ?_), p2⟩
        simp (disch := first | assumption | omega) only [e0, h, h0k, eT, h2', Option.some.injEq, Prod.mk.injEq, Value.int.injEq, exists_and_left, exists_eq_left', and_assoc, true_and, and_true, true_implies, false_implies, not_true_eq_false, not_false_eq_true, li_0, li_1, li_2, li_3, li_4, li_5, li_8, li_9, li_10, li_16, li_20, li_80, li_100, li_130, li_144, li_390, li_400, li_M, li_H, li_of, nI_add, pk_mul, cl_, vp_iff, nI_leI, nI_ltI, nI_eq, Nat.add_zero, Nat.zero_add, Nat.reduceEqDiff, Nat.reduceAdd, eq_self, reduceIte, Bool.false_eq_true, li_neg]
        (repeat' apply And.intro) <;> first | omega | rfl | assumption | exact p1
    · rw [if_neg h]
      refine ⟨σ, z_X1_tryLeaving (e_X1_tryLeaving_0 ?_), e0, e1, fr_rf _ _, fun _ _ => rfl⟩
      simp (disch := first | assumption | omega) only [e0, h, Option.some.injEq, Prod.mk.injEq, Value.int.injEq, exists_and_left, exists_eq_left', and_assoc, true_and, and_true, true_implies, false_implies, not_true_eq_false, not_false_eq_true, li_0, li_1, li_2, li_3, li_4, li_5, li_8, li_9, li_10, li_16, li_20, li_80, li_100, li_130, li_144, li_390, li_400, li_M, li_H, li_of, nI_add, pk_mul, cl_, vp_iff, nI_leI, nI_ltI, nI_eq, Nat.add_zero, Nat.zero_add, Nat.reduceEqDiff, Nat.reduceAdd, eq_self, reduceIte, Bool.false_eq_true, li_neg]
end LC
