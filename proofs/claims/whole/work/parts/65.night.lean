/-! a PLAN: P i 0 who, P i 1 the CHAP, P i 2 F, P i 3 who listens; a ACTS -/
def PO_ (B P : Nat → Nat → Nat) (a : Nat) : Prop := a ≤ 100 ∧ ∀ i, i < a → P i 0 < B 0 1 ∧ P i 1 < B 0 0 ∧ P i 2 ≤ 4 ∧ P i 3 < 2 ^ B 0 1
def PC_ (σ : St_) (p : Nat) (P : Nat → Nat → Nat) (a : Nat) : Prop := σ.1 p 4 = nI a ∧ ∀ i, i < a → σ.1 (p + 1) i = nI (P i 0) ∧ σ.1 (p + 2) i = nI (P i 1) ∧ σ.1 (p + 3) i = nI (P i 2) ∧ σ.1 (p + 4) i = nI (P i 3)
def PM_ (μ : St_) (P : Nat → Nat → Nat) (a : Nat) : Prop := μ.1 221 390 = nI a ∧ ∀ i, i < a → μ.1 221 (400 + 4 * i) = nI (P i 0) ∧ μ.1 221 (400 + 4 * i + 1) = nI (P i 1) ∧ μ.1 221 (400 + 4 * i + 2) = nI (P i 2) ∧ μ.1 221 (400 + 4 * i + 3) = nI (P i 3)
theorem PO_16 {B P : Nat → Nat → Nat} {a i : Nat} (h : PO_ B P a) (hO : BO_ B) (hi : i < a) : P i 3 < 2 ^ 16 := Nat.lt_of_lt_of_le (h.2 i hi).2.2.2 (Nat.pow_le_pow_right (by decide) (by have := hO.1.2.1; omega))
theorem wr_lt (B : Nat → Nat → Nat) (k : K_) (t c f l : Nat) : wr_ B k t c f l ≤ 2 := by
  unfold wr_
  repeat' split
  all_goals omega
noncomputable def ru_ (B P : Nat → Nat → Nat) (a : Nat) : K_ × Int32 × Int32 := fo_ B P a 0 (k0_ B)
/-- what rows and references may have changed -/
def GF_ (S : List Nat) (σ σ' : St_) : Prop := (∀ o, o ∉ S → σ'.1 o = σ.1 o ∧ σ'.2.2 o = σ.2.2 o) ∧ σ'.2.1 = σ.2.1
theorem GF_fr {S T : List Nat} {σ σ' : St_} (h : fr_ S σ σ') (hs : ∀ o, o ∈ S → o ∈ T) : GF_ T σ σ' := ⟨fun o ho => ⟨h.1 o (fun z => ho (hs o z)), by rw [h.2]⟩, by rw [h.2]⟩
theorem GF_tr {S : List Nat} {a b c : St_} (h : GF_ S a b) (h2 : GF_ S b c) : GF_ S a c := ⟨fun o ho => ⟨(h2.1 o ho).1.trans (h.1 o ho).1, (h2.1 o ho).2.trans (h.1 o ho).2⟩, h2.2.trans h.2⟩
theorem GF_rf (S : List Nat) (a : St_) : GF_ S a a := ⟨fun _ _ => ⟨rfl, rfl⟩, rfl⟩
theorem GF_mono {S T : List Nat} {a b : St_} (h : GF_ S a b) (hs : ∀ o, o ∈ S → o ∈ T) : GF_ T a b := ⟨fun o ho => h.1 o (fun z => ho (hs o z)), h.2⟩
theorem GF_sI {S : List Nat} {σ : St_} {o i : Nat} {x : Int32} (h : o ∈ S) : GF_ S σ (sI_ σ o i x) := GF_fr (fr_sI (S := [o]) (by simp)) (by simpa using h)
theorem sR_at (σ : St_) (o i : Nat) (x : Option Nat) (a j : Nat) : (sR_ σ o i x).2.2 a j = if a = o ∧ j = i then x else σ.2.2 a j := rfl
theorem sR_1 (σ : St_) (o i : Nat) (x : Option Nat) : (sR_ σ o i x).1 = σ.1 := rfl
theorem sR_J (σ : St_) (o i : Nat) (x : Option Nat) : (sR_ σ o i x).2.1 = σ.2.1 := rfl
theorem sR_row (σ : St_) (o i : Nat) (x : Option Nat) {a : Nat} (h : a ≠ o) : (sR_ σ o i x).2.2 a = σ.2.2 a := u2_row _ _ _ _ h
theorem GF_sR {S : List Nat} {σ : St_} {o i : Nat} {x : Option Nat} (h : o ∈ S) : GF_ S σ (sR_ σ o i x) := ⟨fun _ ha => ⟨rfl, sR_row _ _ _ _ (fun z => ha (z ▸ h))⟩, rfl⟩
theorem ud_eq {α : Type} (f : Nat → α) (i : Nat) (x : α) : ud_ f i x i = x := if_pos rfl
theorem ud_ne {α : Type} (f : Nat → α) {i j : Nat} (x : α) (h : j ≠ i) : ud_ f i x j = f j := if_neg h
section NI
variable {μ : St_} {B P : Nat → Nat → Nat} {a : Nat} {k : K_}
theorem m_dawn (h : RX_ μ B) : ∃ μ', f_X12_dawn KC [.ref 219] μ = some (none, μ') ∧ MK_ μ' B (k0_ B) ∧ KF_ μ μ' := by
  have h3 := BO_c h.2
  have l2 : ∀ n i μ1, i + n = B 0 1 → RX_ μ1 B → (∀ r, r < i → μ1.1 230 r = nI (B 7 r) ∧ μ1.1 231 r = nI 0 ∧ μ1.1 232 r = nI 0) → (∀ j, j < 144 → μ1.1 229 j = nI 0) → ∃ μ', Ev_ (P_X12_dawn KC) 24 [some (.ref 219), some (.int (nI i))] [] μ1 (none, μ') ∧ MK_ μ' B (k0_ B) ∧ KF_ μ1 μ' := by
    intro n
    induction n with
    | zero =>
      intro i μ1 hi hx g1 g2
      obtain rfl : i = B 0 1 := by omega
      refine ⟨μ1, e_X12_dawn_24 ?_, ⟨fun r hr => g1 r hr, g2⟩, KF_rf⟩
      simp (disch := first | assumption | omega) only [m_readers hx, Nat.le_refl, Option.some.injEq, Prod.mk.injEq, Value.int.injEq, exists_and_left, exists_eq_left', and_assoc, true_and, and_true, true_implies, false_implies, not_true_eq_false, not_false_eq_true, li_0, li_1, li_2, li_3, li_4, li_5, li_8, li_9, li_10, li_16, li_20, li_80, li_100, li_130, li_144, li_390, li_400, li_M, li_H, li_of, nI_add, pk_mul, cl_, vp_iff, nI_leI, nI_ltI, nI_eq, Nat.add_zero, Nat.zero_add, Nat.reduceEqDiff, Nat.reduceAdd, eq_self, reduceIte, Bool.false_eq_true, li_neg]
    | succ n ih =>
      intro i μ1 hi hx g1 g2
      have hi2 : ¬ B 0 1 ≤ i := by omega
      have hi3 : i < B 0 1 := by omega
      obtain ⟨μ', q1, q2, q3⟩ := ih (i + 1) (sI_ (sI_ (sI_ μ1 230 i (nI (B 7 i))) 231 i (nI 0)) 232 i (nI 0)) (by omega) (RX_sI (RX_sI (RX_sI hx (by decide)) (by decide)) (by decide)) (by
        intro r hr
        by_cases e : r = i
        · subst e
          simp [sI_at]
        · have := g1 r (by omega)
          simp [sI_at, e, this]) (fun j hj => by simp [sI_at, g2 j hj])
      refine ⟨μ', e_X12_dawn_24 ?_, q2, KF_tr (KF_sI (by omega)) (KF_tr (KF_sI (by omega)) (KF_tr (KF_sI (by omega)) q3))⟩
      simp (disch := first | assumption | omega) only [m_readers hx, hi2, m_readerOf hx hi3, Option.some.injEq, Prod.mk.injEq, Value.int.injEq, exists_and_left, exists_eq_left', and_assoc, true_and, and_true, true_implies, false_implies, not_true_eq_false, not_false_eq_true, li_0, li_1, li_2, li_3, li_4, li_5, li_8, li_9, li_10, li_16, li_20, li_80, li_100, li_130, li_144, li_390, li_400, li_M, li_H, li_of, nI_add, pk_mul, cl_, vp_iff, nI_leI, nI_ltI, nI_eq, Nat.add_zero, Nat.zero_add, Nat.reduceEqDiff, Nat.reduceAdd, eq_self, reduceIte, Bool.false_eq_true, li_neg]
      (repeat' apply And.intro) <;> first | omega | rfl | assumption | exact q1
  have l1 : ∀ n i μ1, i + n = 144 → RX_ μ1 B → (∀ j, j < i → μ1.1 229 j = nI 0) → ∃ μ', Ev_ (P_X12_dawn KC) 2 [some (.ref 219), some (.int (nI i))] [] μ1 (none, μ') ∧ MK_ μ' B (k0_ B) ∧ KF_ μ1 μ' := by
    intro n
    induction n with
    | zero =>
      intro i μ1 hi hx g1
      obtain rfl : i = 144 := by omega
      obtain ⟨μ', q1, q2, q3⟩ := l2 (B 0 1) 0 μ1 (by omega) hx (fun r hr => absurd hr (by omega)) g1
      refine ⟨μ', e_X12_dawn_2 ?_, q2, q3⟩
      simp (disch := first | assumption | omega) only [Nat.le_refl, Option.some.injEq, Prod.mk.injEq, Value.int.injEq, exists_and_left, exists_eq_left', and_assoc, true_and, and_true, true_implies, false_implies, not_true_eq_false, not_false_eq_true, li_0, li_1, li_2, li_3, li_4, li_5, li_8, li_9, li_10, li_16, li_20, li_80, li_100, li_130, li_144, li_390, li_400, li_M, li_H, li_of, nI_add, pk_mul, cl_, vp_iff, nI_leI, nI_ltI, nI_eq, Nat.add_zero, Nat.zero_add, Nat.reduceEqDiff, Nat.reduceAdd, eq_self, reduceIte, Bool.false_eq_true, li_neg]
      exact q1
    | succ n ih =>
      intro i μ1 hi hx g1
      have hi2 : ¬ 144 ≤ i := by omega
      obtain ⟨μ', q1, q2, q3⟩ := ih (i + 1) (sI_ μ1 229 i (nI 0)) (by omega) (RX_sI hx (by decide)) (by
        intro j hj
        by_cases e : j = i
        · subst e
          simp [sI_at]
        · have := g1 j (by omega)
          simp [sI_at, e, this])
      refine ⟨μ', e_X12_dawn_2 ?_, q2, KF_tr (KF_sI (by omega)) q3⟩
      simp (disch := first | assumption | omega) only [hi2, Option.some.injEq, Prod.mk.injEq, Value.int.injEq, exists_and_left, exists_eq_left', and_assoc, true_and, and_true, true_implies, false_implies, not_true_eq_false, not_false_eq_true, li_0, li_1, li_2, li_3, li_4, li_5, li_8, li_9, li_10, li_16, li_20, li_80, li_100, li_130, li_144, li_390, li_400, li_M, li_H, li_of, nI_add, pk_mul, cl_, vp_iff, nI_leI, nI_ltI, nI_eq, Nat.add_zero, Nat.zero_add, Nat.reduceEqDiff, Nat.reduceAdd, eq_self, reduceIte, Bool.false_eq_true, li_neg]
      (repeat' apply And.intro) <;> first | omega | rfl | assumption | exact q1
  obtain ⟨μ', q1, q2, q3⟩ := l1 144 0 μ (by omega) h (fun j hj => absurd hj (by omega))
  exact ⟨μ', z_X12_dawn (e_X12_dawn_0 q1), q2, q3⟩
/-- the object's own fields but these -/
def NF2_ (ff : List Nat) (o : Nat) (μ μ' : St_) : Prop := ∀ f, f ∉ ff → μ'.1 o f = μ.1 o f
theorem NF2_tr {ff : List Nat} {o : Nat} {x y z : St_} (h : NF2_ ff o x y) (h2 : NF2_ ff o y z) : NF2_ ff o x z := fun f hf => (h2 f hf).trans (h f hf)
theorem PM_cg {μ μ' : St_} (h : PM_ μ P a) (h1 : μ'.1 221 = μ.1 221) : PM_ μ' P a := by
  unfold PM_
  rw [h1]
  exact h
/-- the RUN's ACTS -/
theorem m_follow (h : RX_ μ B) (hp : PM_ μ P a) (ho : PO_ B P a) (hk : MK_ μ B k) (h29 : μ.1 219 29 = nM_) (h30 : μ.1 219 30 = nI 0) : ∀ n i, i + n = a → ∃ μ', Ev_ (P_X12_night KC) 20 [some (.ref 219), some (.int (nI i)), none] [] μ (none, μ') ∧ MK_ μ' B (fo_ B P n i k).1 ∧ μ'.1 219 29 = (fo_ B P n i k).2.1 ∧ μ'.1 219 30 = (fo_ B P n i k).2.2 ∧ fr_ [219, 229, 230, 231, 232] μ μ' ∧ NF2_ [29, 30] 219 μ μ' := by
  intro n
  have ha := ho.1
  induction n generalizing μ k with
  | zero =>
    intro i hi
    obtain rfl : i = a := by omega
    refine ⟨μ, e_X12_night_20 ?_, hk, h29, h30, fr_rf _ _, fun _ _ => rfl⟩
    simp (disch := first | assumption | omega) only [hp.1, Nat.le_refl, Option.some.injEq, Prod.mk.injEq, Value.int.injEq, exists_and_left, exists_eq_left', and_assoc, true_and, and_true, true_implies, false_implies, not_true_eq_false, not_false_eq_true, li_0, li_1, li_2, li_3, li_4, li_5, li_8, li_9, li_10, li_16, li_20, li_80, li_100, li_130, li_144, li_390, li_400, li_M, li_H, li_of, nI_add, pk_mul, cl_, vp_iff, nI_leI, nI_ltI, nI_eq, Nat.add_zero, Nat.zero_add, Nat.reduceEqDiff, Nat.reduceAdd, eq_self, reduceIte, Bool.false_eq_true, li_neg]
    (repeat' apply And.intro) <;> first | omega | rfl | assumption
  | succ n ih =>
    intro i hi
    have hi2 : ¬ a ≤ i := by omega
    have hi3 : i < a := by omega
    obtain ⟨p1, p2, p3, p4⟩ := hp.2 i hi3
    obtain ⟨o1, o2, o3, -⟩ := ho.2 i hi3
    have o4 := PO_16 ho h.2 hi3
    have hw := m_wrong h hk o1 o2 o3 o4
    have hwl := wr_lt B k (P i 0) (P i 1) (P i 2) (P i 3)
    have e221 : ∀ x, (sI_ μ 219 30 x).1 221 = μ.1 221 := fun x => sI_row _ _ _ _ (by decide)
    have e30 : ∀ x, (sI_ μ 219 30 x).1 219 30 = x := fun x => by rw [sI_at, if_pos ⟨rfl, rfl⟩]
    by_cases hw0 : wr_ B k (P i 0) (P i 1) (P i 2) (P i 3) = 0
    · have hx1 : RX_ (sI_ μ 219 30 (nI 0)) B := RX_sI h (by decide)
      have hk1 : MK_ (sI_ μ 219 30 (nI 0)) B k := MK_cg hk (sI_row _ _ _ _ (by decide)) (sI_row _ _ _ _ (by decide)) (sI_row _ _ _ _ (by decide)) (sI_row _ _ _ _ (by decide))
      obtain ⟨μ2, g1, g2, g3⟩ := m_does hx1 hk1 o1 o2 o3 o4
      have e2 : μ2.1 219 = (sI_ μ 219 30 (nI 0)).1 219 := g3.1 219 (by decide)
      obtain ⟨μ', q1, q2, q3, q4, q5, q6⟩ := ih (RX_KF hx1 g3) (PM_cg hp ((g3.1 221 (by decide)).trans (e221 _))) g2 (by rw [e2, sI_at, if_neg (by decide)]; exact h29) (by rw [e2, e30]) (i + 1) (by omega)
      refine ⟨μ', e_X12_night_20 ?_, by rw [fo_, if_pos hw0]; exact q2, by rw [fo_, if_pos hw0]; exact q3, by rw [fo_, if_pos hw0]; exact q4, fr_tr (fr_sI (by simp)) (fr_tr (fr_mono g3 (by simp)) q5), fun f hf => ?_⟩
      · simp (disch := first | assumption | omega) only [hp.1, hi2, p1, p2, p3, p4, hw, e30, e221, hw0, g1, Option.some.injEq, Prod.mk.injEq, Value.int.injEq, exists_and_left, exists_eq_left', and_assoc, true_and, and_true, true_implies, false_implies, not_true_eq_false, not_false_eq_true, li_0, li_1, li_2, li_3, li_4, li_5, li_8, li_9, li_10, li_16, li_20, li_80, li_100, li_130, li_144, li_390, li_400, li_M, li_H, li_of, nI_add, pk_mul, cl_, vp_iff, nI_leI, nI_ltI, nI_eq, Nat.add_zero, Nat.zero_add, Nat.reduceEqDiff, Nat.reduceAdd, eq_self, reduceIte, Bool.false_eq_true, li_neg]
        (repeat' apply And.intro) <;> first | omega | rfl | assumption | exact q1
      · rw [q6 f hf, e2, sI_at, if_neg (fun z => hf (by rw [z.2]; simp))]
    · refine ⟨_, e_X12_night_20 ?_, by rw [fo_, if_neg hw0]; exact MK_cg hk ((sI_row (sI_ μ 219 30 (nI (wr_ B k (P i 0) (P i 1) (P i 2) (P i 3)))) 219 29 (nI i) (by decide)).trans (sI_row _ _ _ _ (by decide))) ((sI_row _ _ _ _ (by decide)).trans (sI_row _ _ _ _ (by decide))) ((sI_row _ _ _ _ (by decide)).trans (sI_row _ _ _ _ (by decide))) ((sI_row _ _ _ _ (by decide)).trans (sI_row _ _ _ _ (by decide))), by rw [fo_, if_neg hw0]; simp [sI_at], by rw [fo_, if_neg hw0]; simp [sI_at], fr_tr (fr_sI (by simp)) (fr_sI (by simp)), fun f hf => ?_⟩
      · simp (disch := first | assumption | omega) only [hp.1, hi2, p1, p2, p3, p4, hw, e30, e221, hw0, Option.some.injEq, Prod.mk.injEq, Value.int.injEq, exists_and_left, exists_eq_left', and_assoc, true_and, and_true, true_implies, false_implies, not_true_eq_false, not_false_eq_true, li_0, li_1, li_2, li_3, li_4, li_5, li_8, li_9, li_10, li_16, li_20, li_80, li_100, li_130, li_144, li_390, li_400, li_M, li_H, li_of, nI_add, pk_mul, cl_, vp_iff, nI_leI, nI_ltI, nI_eq, Nat.add_zero, Nat.zero_add, Nat.reduceEqDiff, Nat.reduceAdd, eq_self, reduceIte, Bool.false_eq_true, li_neg]
        (repeat' apply And.intro) <;> first | omega | rfl | assumption
      · rw [sI_at, if_neg (fun z => hf (by rw [z.2]; simp)), sI_at, if_neg (fun z => hf (by rw [z.2]; simp))]
/-- the reference has begun: now holds B and P -/
theorem m_night (h : RX_ μ B) (hb : ¬ μ.1 219 21 = nI 0) (hp : PM_ μ P a) (ho : PO_ B P a) : ∃ μ', f_X12_night KC [.ref 219] μ = some (none, μ') ∧ MK_ μ' B (ru_ B P a).1 ∧ μ'.1 219 29 = (ru_ B P a).2.1 ∧ μ'.1 219 30 = (ru_ B P a).2.2 ∧ fr_ [219, 229, 230, 231, 232] μ μ' ∧ NF2_ [29, 30] 219 μ μ' := by
  have hl : f_X12_lay KC [.ref 219] μ = some (none, μ) := by
    refine z_X12_lay (e_X12_lay_0 ?_)
    simp (disch := first | assumption | omega) only [hb, Option.some.injEq, Prod.mk.injEq, Value.int.injEq, exists_and_left, exists_eq_left', and_assoc, true_and, and_true, true_implies, false_implies, not_true_eq_false, not_false_eq_true, li_0, li_1, li_2, li_3, li_4, li_5, li_8, li_9, li_10, li_16, li_20, li_80, li_100, li_130, li_144, li_390, li_400, li_M, li_H, li_of, nI_add, pk_mul, cl_, vp_iff, nI_leI, nI_ltI, nI_eq, Nat.add_zero, Nat.zero_add, Nat.reduceEqDiff, Nat.reduceAdd, eq_self, reduceIte, Bool.false_eq_true, li_neg]
  obtain ⟨μ1, g1, g2, g3⟩ := m_dawn h
  have e1 : μ1.1 219 = μ.1 219 := g3.1 219 (by decide)
  have hx2 : RX_ (sI_ (sI_ μ1 219 29 nM_) 219 30 (nI 0)) B := RX_sI (RX_sI (RX_KF h g3) (by decide)) (by decide)
  obtain ⟨μ', q1, q2, q3, q4, q5, q6⟩ := m_follow hx2 (PM_cg hp ((sI_row _ _ _ _ (by decide)).trans ((sI_row _ _ _ _ (by decide)).trans (g3.1 221 (by decide))))) ho (MK_cg g2 ((sI_row _ _ _ _ (by decide)).trans (sI_row _ _ _ _ (by decide))) ((sI_row _ _ _ _ (by decide)).trans (sI_row _ _ _ _ (by decide))) ((sI_row _ _ _ _ (by decide)).trans (sI_row _ _ _ _ (by decide))) ((sI_row _ _ _ _ (by decide)).trans (sI_row _ _ _ _ (by decide)))) (by simp [sI_at]) (by simp [sI_at]) a 0 (by omega)
  refine ⟨μ', z_X12_night (e_X12_night_0 ?_), q2, q3, q4, fr_tr (fr_mono g3 (by simp)) (fr_tr (fr_sI (by simp)) (fr_tr (fr_sI (by simp)) q5)), fun f hf => ?_⟩
  · simp (disch := first | assumption | omega) only [hl, g1, Option.some.injEq, Prod.mk.injEq, Value.int.injEq, exists_and_left, exists_eq_left', and_assoc, true_and, and_true, true_implies, false_implies, not_true_eq_false, not_false_eq_true, li_0, li_1, li_2, li_3, li_4, li_5, li_8, li_9, li_10, li_16, li_20, li_80, li_100, li_130, li_144, li_390, li_400, li_M, li_H, li_of, nI_add, pk_mul, cl_, vp_iff, nI_leI, nI_ltI, nI_eq, Nat.add_zero, Nat.zero_add, Nat.reduceEqDiff, Nat.reduceAdd, eq_self, reduceIte, Bool.false_eq_true, li_neg]
    exact q1
  · rw [q6 f hf, sI_at, if_neg (fun z => hf (by rw [z.2]; simp)), sI_at, if_neg (fun z => hf (by rw [z.2]; simp)), e1]
end NI
