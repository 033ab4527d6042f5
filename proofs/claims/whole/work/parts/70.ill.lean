/-! ILL: the ACTS with one gone -/
def cb_ (l s : Nat) : Nat := l &&& (65535 ^^^ 2 ^ s)
theorem cb_nI {l s : Nat} (hl : l < 2 ^ 16) (hs : s < 16) : nI l &&& (nI (2 ^ s) ^^^ nM_) = nI (cb_ l s) := by
  refine Int32.toBitVec_inj.mp (BitVec.eq_of_getLsbD_eq fun i hi => ?_)
  have e1 : ∀ x : Nat, (nI x).toBitVec = BitVec.ofNat 32 x := fun x => rfl
  have e2 : (nM_ : Int32).toBitVec = BitVec.allOnes 32 := by decide
  have e3 : (65535 : Nat).testBit i = decide (i < 16) := by
    rw [show (65535 : Nat) = 2 ^ 16 - 1 from rfl, Nat.testBit_two_pow_sub_one]
  unfold cb_
  simp only [Int32.toBitVec_and, Int32.toBitVec_xor, e1, e2, BitVec.getLsbD_and, BitVec.getLsbD_xor, BitVec.getLsbD_ofNat, BitVec.getLsbD_allOnes, hi, decide_true, Bool.true_and, Nat.testBit_and, Nat.testBit_xor, e3]
  by_cases h : i < 16
  · simp [h, Bool.xor_comm]
  · rw [Nat.testBit_lt_two_pow (Nat.lt_of_lt_of_le hl (Nat.pow_le_pow_right (by decide) (by omega)))]
    simp
theorem cb_le (l s : Nat) : cb_ l s ≤ l := Nat.and_le_left
section IL
variable (B P : Nat → Nat → Nat) (s f : Nat)
def il_ (i : Nat) : Nat := if f ≤ i then cb_ (P i 3) s else P i 3
def ig_ (k : K_) (i : Nat) : Prop := (f ≤ i ∧ P i 0 = s) ∨ (¬ P i 2 = 0 ∧ il_ P s f i = 0) ∨ ¬ wr_ B k (P i 0) (P i 1) (P i 2) (il_ P s f i) = 0
noncomputable def iN_ : Nat → K_ × Nat
  | 0 => (k0_ B, 0)
  | i + 1 => @ite _ (ig_ B P s f (iN_ i).1 i) (Classical.propDecidable _) ((iN_ i).1, (iN_ i).2 + 1) (doK_ B (iN_ i).1 (P i 0) (P i 1) (P i 2) (il_ P s f i), (iN_ i).2)
def ms_ : Nat → List Nat
  | 0 => []
  | i + 1 => ms_ i ++ (if f ≤ i ∧ P i 0 = s ∧ P i 2 = 0 then [P i 1] else [])
def sf_ : Nat → Nat → List Nat
  | 0, _ => []
  | n + 1, i => (if P i 0 = s ∧ P i 2 = 0 then [P i 1] else []) ++ sf_ n (i + 1)
noncomputable def hel_ (h : Nat) : List Nat → K_ → K_
  | [], k => k
  | c :: t, k => @ite _ (hb_ (k.2.1 h) c) (Classical.propDecidable _) (hel_ h t k) (if k.1 h < nI (tR_ B h c) then k else hel_ h t (rdK_ B k h c))
noncomputable def hv_ (a h : Nat) : Int32 := smK_ B (hel_ B h (ms_ P s f a) (iN_ B P s f a).1) (B 0 1)
noncomputable def hs_ (a : Nat) : Nat → Int32 × Int32
  | 0 => (nM_, nM_)
  | h + 1 => if h = s then hs_ a h else if (hs_ a h).2 < hv_ B P s f a h then (nI h, hv_ B P s f a h) else hs_ a h
end IL
section IL2
variable {B P : Nat → Nat → Nat} {s f a : Nat}
theorem ms_sf (h : ∀ i, i < f → ms_ P s f i = []) : ∀ n i, f ≤ i → ms_ P s f (i + n) = ms_ P s f i ++ sf_ P s n i
  | 0, i, _ => by simp [sf_]
  | n + 1, i, hi => by
    rw [show i + (n + 1) = (i + 1) + n by omega, ms_sf h n (i + 1) (by omega), ms_, sf_, List.append_assoc]
    congr 2
    simp [hi]
theorem ms_nil : ∀ i, i ≤ f → ms_ P s f i = []
  | 0, _ => rfl
  | i + 1, h => by
    rw [ms_, ms_nil i (by omega), if_neg (by omega)]
    rfl
theorem ms_all (h : f ≤ a) : ms_ P s f a = sf_ P s (a - f) f := by
  have := ms_sf (P := P) (s := s) (f := f) (fun i hi => ms_nil i (by omega)) (a - f) f (Nat.le_refl _)
  rw [show f + (a - f) = a by omega, ms_nil f (Nat.le_refl _)] at this
  exact this
theorem ms_mem (ho : PO_ B P a) : ∀ i, i ≤ a → ∀ c, c ∈ ms_ P s f i → c < B 0 0
  | 0, _, c, h => by simp [ms_] at h
  | i + 1, hi, c, h => by
    rw [ms_, List.mem_append] at h
    rcases h with h | h
    · exact ms_mem ho i (by omega) c h
    · split at h
      · rw [List.mem_singleton] at h
        rw [h]
        exact (ho.2 i (by omega)).2.1
      · simp at h
theorem ms_len : ∀ i, (ms_ P s f i).length ≤ i
  | 0 => Nat.le_refl _
  | i + 1 => by
    have := ms_len i
    rw [ms_, List.length_append]
    split <;> simp <;> omega
theorem il_lt (ho : PO_ B P a) {i : Nat} (hi : i < a) : il_ P s f i < 2 ^ B 0 1 := by
  have h1 := (ho.2 i hi).2.2.2
  have h2 := cb_le (P i 3) s
  unfold il_
  split <;> omega
/-- equal as to READER h -/
def RE_ (h : Nat) (k k' : K_) : Prop := k.1 h = k'.1 h ∧ k.2.1 h = k'.2.1 h ∧ ∀ c, c < 16 → k.2.2.2 (16 * h + c) = k'.2.2.2 (16 * h + c)
theorem lkS_cg {p p' : Nat → Int32} {h c : Nat} : ∀ n, (∀ d, d < n → p (16 * h + d) = p' (16 * h + d)) → lkS_ B p h c n = lkS_ B p' h c n
  | 0, _ => rfl
  | n + 1, hp => by rw [lkS_, lkS_, lkS_cg n (fun d hd => hp d (by omega)), hp n (by omega)]
theorem RE_rf (h : Nat) (k : K_) : RE_ h k k := ⟨rfl, rfl, fun _ _ => rfl⟩
theorem RE_tr {h : Nat} {x y z : K_} (h1 : RE_ h x y) (h2 : RE_ h y z) : RE_ h x z := ⟨h1.1.trans h2.1, h1.2.1.trans h2.2.1, fun c hc => (h1.2.2 c hc).trans (h2.2.2 c hc)⟩
theorem RE_rd {h c : Nat} {k k' : K_} (hc : c < 16) (hr : RE_ h k k') : RE_ h (rdK_ B k h c) (rdK_ B k' h c) := by
  obtain ⟨h1, h2, h3⟩ := hr
  refine ⟨?_, ?_, fun d hd => ?_⟩
  · show ud_ k.1 h _ h = ud_ k'.1 h _ h
    rw [ud_eq, ud_eq, h1]
  · show ud_ k.2.1 h _ h = ud_ k'.2.1 h _ h
    rw [ud_eq, ud_eq, h2]
  · show ud_ k.2.2.2 _ _ _ = ud_ k'.2.2.2 _ _ _
    by_cases e : d = c
    · subst e
      rw [ud_eq, ud_eq, h3 d hd]
      unfold vR_ lk_
      rw [lkS_cg d (fun j hj => h3 j (by omega))]
    · rw [ud_ne _ _ (by omega), ud_ne _ _ (by omega)]
      exact h3 d hd
theorem RE_o {h q c : Nat} {k : K_} (hc : c < 16) (hq : q ≠ h) : RE_ q (rdK_ B k h c) k := ⟨ud_ne _ _ hq, ud_ne _ _ hq, fun d hd => ud_ne _ _ (by omega)⟩
theorem hel_RE {h : Nat} : ∀ (M : List Nat) (k k' : K_), (∀ c, c ∈ M → c < 16) → RE_ h k k' → RE_ h (hel_ B h M k) (hel_ B h M k')
  | [], _, _, _, hr => hr
  | c :: t, k, k', hm, hr => by
    have hc := hm c List.mem_cons_self
    have ht := fun d hd => hm d (List.mem_cons_of_mem _ hd)
    rw [hel_, hel_, hr.2.1, hr.1]
    by_cases h1 : hb_ (k'.2.1 h) c
    · rw [if_pos h1, if_pos h1]
      exact hel_RE t k k' ht hr
    · rw [if_neg h1, if_neg h1]
      by_cases h2 : k'.1 h < nI (tR_ B h c)
      · rw [if_pos h2, if_pos h2]
        exact hr
      · rw [if_neg h2, if_neg h2]
        exact hel_RE t _ _ ht (RE_rd hc hr)
theorem hel_o {h q : Nat} (hq : q ≠ h) : ∀ (M : List Nat) (k : K_), (∀ c, c ∈ M → c < 16) → RE_ q (hel_ B h M k) k
  | [], k, _ => RE_rf _ _
  | c :: t, k, hm => by
    have hc := hm c List.mem_cons_self
    have ht := fun d hd => hm d (List.mem_cons_of_mem _ hd)
    rw [hel_]
    split
    · exact hel_o hq t k ht
    · split
      · exact RE_rf _ _
      · exact RE_tr (hel_o hq t _ ht) (RE_o hc hq)
end IL2
section ILC
variable {σ μ : St_} {b p : Nat} {B P : Nat → Nat → Nat} {k : K_} {s f a i : Nat}
theorem isM93 : isM 93 := Or.inr (Or.inr rfl)
theorem p_no {p : Nat} (hp : isP p) : p + 4 < 80 ∨ 100 < p := by
  unfold isP at hp
  omega
theorem c_illAct (h : CX_ σ 93 b B) (hP : isP p) (hp : PC_ σ p P a) (ho : PO_ B P a) (hk : CK_ σ 93 B k) (hi : i < a) (hs : s < B 0 1) (y : Int32) (hy : y = if f ≤ i then nI s else nM_) : ∃ σ', f_X3_tryAct KC [.ref 92, .ref p, .int (nI i), .int y] σ = some (some (.int (@ite _ (ig_ B P s f k i) (Classical.propDecidable _) (nI 0) (nI 1))), σ') ∧ CK_ σ' 93 B (@ite _ (ig_ B P s f k i) (Classical.propDecidable _) k (doK_ B k (P i 0) (P i 1) (P i 2) (il_ P s f i))) ∧ CF_ 93 σ σ' := by
  have h3 := BO_c h.2.2
  have ha := ho.1
  have hi2 : i < 100 := by omega
  obtain ⟨p1, p2, p3, p4⟩ := hp.2 i hi
  obtain ⟨o1, o2, o3, o4⟩ := ho.2 i hi
  have o5 := PO_16 ho h.2.2 hi
  have hl := il_lt (s := s) (f := f) ho hi
  have hl16 : il_ P s f i < 2 ^ 16 := Nat.lt_of_lt_of_le hl (Nat.pow_le_pow_right (by decide) (by omega))
  have hw := c_wrongOf h hk o1 o2 o3 hl
  have hwl := wr_lt B k (P i 0) (P i 1) (P i 2) (il_ P s f i)
  obtain ⟨σ2, g1, g2, g3⟩ := c_perform h hk o1 o2 o3 hl16
  have nm : ∀ x, x < 2 ^ 31 → ¬ nI x = nM_ := fun x hx => nI_m1 hx
  -- from the place 49 on
  have t49 : ¬ ((f ≤ i ∧ P i 0 = s) ∨ (¬ P i 2 = 0 ∧ il_ P s f i = 0)) → ∃ σ', Ev_ (P_X3_tryAct KC) 49 [some (.ref 92), some (.ref p), some (.int (nI i)), some (.int y), some (.int (nI (il_ P s f i)))] [] σ (some (.int (@ite _ (ig_ B P s f k i) (Classical.propDecidable _) (nI 0) (nI 1))), σ') ∧ CK_ σ' 93 B (@ite _ (ig_ B P s f k i) (Classical.propDecidable _) k (doK_ B k (P i 0) (P i 1) (P i 2) (il_ P s f i))) ∧ CF_ 93 σ σ' := by
    intro hn
    by_cases hw0 : wr_ B k (P i 0) (P i 1) (P i 2) (il_ P s f i) = 0
    · have hg : ¬ ig_ B P s f k i := fun z => z.elim (fun z => hn (Or.inl z)) (fun z => z.elim (fun z => hn (Or.inr z)) (fun z => z hw0))
      rw [if_neg hg, if_neg hg]
      refine ⟨σ2, e_X3_tryAct_49 hP ?_, g2, g3⟩
      simp (disch := first | assumption | omega) only [p1, p2, p3, hw, hw0, g1, Option.some.injEq, Prod.mk.injEq, Value.int.injEq, exists_and_left, exists_eq_left', and_assoc, true_and, and_true, true_implies, false_implies, not_true_eq_false, not_false_eq_true, li_0, li_1, li_2, li_3, li_4, li_5, li_8, li_9, li_10, li_16, li_20, li_80, li_100, li_130, li_144, li_390, li_400, li_M, li_H, li_of, nI_add, pk_mul, cl_, vp_iff, nI_leI, nI_ltI, nI_eq, Nat.add_zero, Nat.zero_add, Nat.reduceEqDiff, Nat.reduceAdd, eq_self, reduceIte, Bool.false_eq_true, li_neg]
      (repeat' apply And.intro) <;> first | omega | rfl | assumption
    · have hg : ig_ B P s f k i := Or.inr (Or.inr hw0)
      rw [if_pos hg, if_pos hg]
      refine ⟨σ, e_X3_tryAct_49 hP ?_, hk, CF_rf⟩
      simp (disch := first | assumption | omega) only [p1, p2, p3, hw, hw0, Option.some.injEq, Prod.mk.injEq, Value.int.injEq, exists_and_left, exists_eq_left', and_assoc, true_and, and_true, true_implies, false_implies, not_true_eq_false, not_false_eq_true, li_0, li_1, li_2, li_3, li_4, li_5, li_8, li_9, li_10, li_16, li_20, li_80, li_100, li_130, li_144, li_390, li_400, li_M, li_H, li_of, nI_add, pk_mul, cl_, vp_iff, nI_leI, nI_ltI, nI_eq, Nat.add_zero, Nat.zero_add, Nat.reduceEqDiff, Nat.reduceAdd, eq_self, reduceIte, Bool.false_eq_true, li_neg]
      (repeat' apply And.intro) <;> first | omega | rfl | assumption
  have t23 : ∃ σ', Ev_ (P_X3_tryAct KC) 23 [some (.ref 92), some (.ref p), some (.int (nI i)), some (.int y), some (.int (nI (il_ P s f i)))] [] σ (some (.int (@ite _ (ig_ B P s f k i) (Classical.propDecidable _) (nI 0) (nI 1))), σ') ∧ CK_ σ' 93 B (@ite _ (ig_ B P s f k i) (Classical.propDecidable _) k (doK_ B k (P i 0) (P i 1) (P i 2) (il_ P s f i))) ∧ CF_ 93 σ σ' := by
    by_cases hA : f ≤ i ∧ P i 0 = s
    · have hg : ig_ B P s f k i := Or.inl hA
      rw [if_pos hg, if_pos hg]
      refine ⟨σ, e_X3_tryAct_23 hP ?_, hk, CF_rf⟩
      rw [if_pos hA.1] at hy
      simp (disch := first | assumption | omega) only [p1, hy, hA.2, Option.some.injEq, Prod.mk.injEq, Value.int.injEq, exists_and_left, exists_eq_left', and_assoc, true_and, and_true, true_implies, false_implies, not_true_eq_false, not_false_eq_true, li_0, li_1, li_2, li_3, li_4, li_5, li_8, li_9, li_10, li_16, li_20, li_80, li_100, li_130, li_144, li_390, li_400, li_M, li_H, li_of, nI_add, pk_mul, cl_, vp_iff, nI_leI, nI_ltI, nI_eq, Nat.add_zero, Nat.zero_add, Nat.reduceEqDiff, Nat.reduceAdd, eq_self, reduceIte, Bool.false_eq_true, li_neg]
      (repeat' apply And.intro) <;> first | omega | rfl | assumption
    · have hne : ¬ nI (P i 0) = y := by
        rw [hy]
        split
        · rename_i h1
          rw [nI_eq (by omega) (by omega)]
          exact fun z => hA ⟨h1, z⟩
        · exact nm _ (by omega)
      by_cases hF : P i 2 = 0
      · obtain ⟨σ', q1, q2⟩ := t49 (fun z => z.elim hA (fun z => z.1 hF))
        refine ⟨σ', e_X3_tryAct_23 hP ?_, q2⟩
        simp (disch := first | assumption | omega) only [p1, hne, p3, hF, Option.some.injEq, Prod.mk.injEq, Value.int.injEq, exists_and_left, exists_eq_left', and_assoc, true_and, and_true, true_implies, false_implies, not_true_eq_false, not_false_eq_true, li_0, li_1, li_2, li_3, li_4, li_5, li_8, li_9, li_10, li_16, li_20, li_80, li_100, li_130, li_144, li_390, li_400, li_M, li_H, li_of, nI_add, pk_mul, cl_, vp_iff, nI_leI, nI_ltI, nI_eq, Nat.add_zero, Nat.zero_add, Nat.reduceEqDiff, Nat.reduceAdd, eq_self, reduceIte, Bool.false_eq_true, li_neg]
        (repeat' apply And.intro) <;> first | omega | rfl | assumption | exact q1
      · by_cases hL : il_ P s f i = 0
        · have hg : ig_ B P s f k i := Or.inr (Or.inl ⟨hF, hL⟩)
          rw [if_pos hg, if_pos hg]
          refine ⟨σ, e_X3_tryAct_23 hP ?_, hk, CF_rf⟩
          simp (disch := first | assumption | omega) only [p1, hne, p3, hF, hL, Option.some.injEq, Prod.mk.injEq, Value.int.injEq, exists_and_left, exists_eq_left', and_assoc, true_and, and_true, true_implies, false_implies, not_true_eq_false, not_false_eq_true, li_0, li_1, li_2, li_3, li_4, li_5, li_8, li_9, li_10, li_16, li_20, li_80, li_100, li_130, li_144, li_390, li_400, li_M, li_H, li_of, nI_add, pk_mul, cl_, vp_iff, nI_leI, nI_ltI, nI_eq, Nat.add_zero, Nat.zero_add, Nat.reduceEqDiff, Nat.reduceAdd, eq_self, reduceIte, Bool.false_eq_true, li_neg]
          (repeat' apply And.intro) <;> first | omega | rfl | assumption
        · obtain ⟨σ', q1, q2⟩ := t49 (fun z => z.elim hA (fun z => hL z.2))
          refine ⟨σ', e_X3_tryAct_23 hP ?_, q2⟩
          simp (disch := first | assumption | omega) only [p1, hne, p3, hF, hL, Option.some.injEq, Prod.mk.injEq, Value.int.injEq, exists_and_left, exists_eq_left', and_assoc, true_and, and_true, true_implies, false_implies, not_true_eq_false, not_false_eq_true, li_0, li_1, li_2, li_3, li_4, li_5, li_8, li_9, li_10, li_16, li_20, li_80, li_100, li_130, li_144, li_390, li_400, li_M, li_H, li_of, nI_add, pk_mul, cl_, vp_iff, nI_leI, nI_ltI, nI_eq, Nat.add_zero, Nat.zero_add, Nat.reduceEqDiff, Nat.reduceAdd, eq_self, reduceIte, Bool.false_eq_true, li_neg]
          (repeat' apply And.intro) <;> first | omega | rfl | assumption | exact q1
  obtain ⟨σ', q1, q2, q3⟩ := t23
  refine ⟨σ', z_X3_tryAct (e_X3_tryAct_0 hP ?_), q2, q3⟩
  by_cases hfi : f ≤ i
  · rw [if_pos hfi] at hy
    have hyn : ¬ nI s = nM_ := nm _ (by omega)
    rw [show il_ P s f i = cb_ (P i 3) s from if_pos hfi, hy] at q1
    simp (disch := first | assumption | omega) only [hy, hyn, p4, sh_1, cb_nI, Option.some.injEq, Prod.mk.injEq, Value.int.injEq, exists_and_left, exists_eq_left', and_assoc, true_and, and_true, true_implies, false_implies, not_true_eq_false, not_false_eq_true, li_0, li_1, li_2, li_3, li_4, li_5, li_8, li_9, li_10, li_16, li_20, li_80, li_100, li_130, li_144, li_390, li_400, li_M, li_H, li_of, nI_add, pk_mul, cl_, vp_iff, nI_leI, nI_ltI, nI_eq, Nat.add_zero, Nat.zero_add, Nat.reduceEqDiff, Nat.reduceAdd, eq_self, reduceIte, Bool.false_eq_true, li_neg]
    (repeat' apply And.intro) <;> first | omega | rfl | assumption | exact q1
  · rw [if_neg hfi] at hy
    rw [show il_ P s f i = P i 3 from if_neg hfi, hy] at q1
    simp (disch := first | assumption | omega) only [hy, p4, Option.some.injEq, Prod.mk.injEq, Value.int.injEq, exists_and_left, exists_eq_left', and_assoc, true_and, and_true, true_implies, false_implies, not_true_eq_false, not_false_eq_true, li_0, li_1, li_2, li_3, li_4, li_5, li_8, li_9, li_10, li_16, li_20, li_80, li_100, li_130, li_144, li_390, li_400, li_M, li_H, li_of, nI_add, pk_mul, cl_, vp_iff, nI_leI, nI_ltI, nI_eq, Nat.add_zero, Nat.zero_add, Nat.reduceEqDiff, Nat.reduceAdd, eq_self, reduceIte, Bool.false_eq_true, li_neg]
    (repeat' apply And.intro) <;> first | omega | rfl | assumption | exact q1
/-- the reference's: one ACT -/
theorem m_illNight (h : RX_ μ B) (hp : PM_ μ P a) (ho : PO_ B P a) (hs : s < B 0 1) (hf : f ≤ a) : ∃ μ', f_X12_illNight KC [.ref 219, .int (nI s), .int (nI f)] μ = some (none, μ') ∧ MK_ μ' B (iN_ B P s f a).1 ∧ μ'.1 219 57 = nI (iN_ B P s f a).2 ∧ fr_ [219, 229, 230, 231, 232] μ μ' ∧ NF2_ [57] 219 μ μ' := by
  have h3 := BO_c h.2
  have ha := ho.1
  have loop : ∀ n i μ1, i + n = a → RX_ μ1 B → PM_ μ1 P a → MK_ μ1 B (iN_ B P s f i).1 → μ1.1 219 57 = nI (iN_ B P s f i).2 → ∃ μ', Ev_ (P_X12_illNight KC) 11 [some (.ref 219), some (.int (nI s)), some (.int (nI f)), some (.int (nI i)), none, none, none, none] [] μ1 (none, μ') ∧ MK_ μ' B (iN_ B P s f a).1 ∧ μ'.1 219 57 = nI (iN_ B P s f a).2 ∧ fr_ [219, 229, 230, 231, 232] μ1 μ' ∧ NF2_ [57] 219 μ1 μ' := by
    intro n
    induction n with
    | zero =>
      intro i μ1 hi hx hp1 hk1 hd
      obtain rfl : i = a := by omega
      refine ⟨μ1, e_X12_illNight_11 ?_, hk1, hd, fr_rf _ _, fun _ _ => rfl⟩
      simp (disch := first | assumption | omega) only [hp1.1, Nat.le_refl, Option.some.injEq, Prod.mk.injEq, Value.int.injEq, exists_and_left, exists_eq_left', and_assoc, true_and, and_true, true_implies, false_implies, not_true_eq_false, not_false_eq_true, li_0, li_1, li_2, li_3, li_4, li_5, li_8, li_9, li_10, li_16, li_20, li_80, li_100, li_130, li_144, li_390, li_400, li_M, li_H, li_of, nI_add, pk_mul, cl_, vp_iff, nI_leI, nI_ltI, nI_eq, Nat.add_zero, Nat.zero_add, Nat.reduceEqDiff, Nat.reduceAdd, eq_self, reduceIte, Bool.false_eq_true, li_neg]
      (repeat' apply And.intro) <;> first | omega | rfl | assumption
    | succ n ih =>
      intro i μ1 hi hx hp1 hk1 hd
      have hi2 : ¬ a ≤ i := by omega
      have hi3 : i < a := by omega
      obtain ⟨p1, p2, p3, p4⟩ := hp1.2 i hi3
      obtain ⟨o1, o2, o3, o4⟩ := ho.2 i hi3
      have o5 := PO_16 ho h.2 hi3
      have hl := il_lt (s := s) (f := f) ho hi3
      have hl16 : il_ P s f i < 2 ^ 16 := Nat.lt_of_lt_of_le hl (Nat.pow_le_pow_right (by decide) (by omega))
      have hw := m_wrong hx hk1 o1 o2 o3 hl16
      have hwl := wr_lt B (iN_ B P s f i).1 (P i 0) (P i 1) (P i 2) (il_ P s f i)
      -- dropped
      have dr : ig_ B P s f (iN_ B P s f i).1 i → ∃ μ', Ev_ (P_X12_illNight KC) 11 [some (.ref 219), some (.int (nI s)), some (.int (nI f)), some (.int (nI (i + 1))), none, none, none, none] [] (sI_ μ1 219 57 (nI ((iN_ B P s f i).2 + 1))) (none, μ') ∧ MK_ μ' B (iN_ B P s f a).1 ∧ μ'.1 219 57 = nI (iN_ B P s f a).2 ∧ fr_ [219, 229, 230, 231, 232] μ1 μ' ∧ NF2_ [57] 219 μ1 μ' := by
        intro hg
        have e : iN_ B P s f (i + 1) = ((iN_ B P s f i).1, (iN_ B P s f i).2 + 1) := by rw [iN_, if_pos hg]
        obtain ⟨μ', q1, q2, q3, q4, q5⟩ := ih (i + 1) (sI_ μ1 219 57 (nI ((iN_ B P s f i).2 + 1))) (by omega) (RX_sI hx (by decide)) (PM_cg hp1 (sI_row _ _ _ _ (by decide))) (by rw [e]; exact MK_cg hk1 (sI_row _ _ _ _ (by decide)) (sI_row _ _ _ _ (by decide)) (sI_row _ _ _ _ (by decide)) (sI_row _ _ _ _ (by decide))) (by rw [e, sI_at, if_pos ⟨rfl, rfl⟩])
        exact ⟨μ', q1, q2, q3, fr_tr (fr_sI (by simp)) q4, fun g hg2 => by rw [q5 g hg2, sI_at, if_neg (fun z => hg2 (by rw [z.2]; simp))]⟩
      have t102 : ∀ y0 : Nat, y0 < 2 → (y0 = 1 ↔ ((f ≤ i ∧ P i 0 = s) ∨ (¬ P i 2 = 0 ∧ il_ P s f i = 0))) → ∃ μ', Ev_ (P_X12_illNight KC) 102 [some (.ref 219), some (.int (nI s)), some (.int (nI f)), some (.int (nI i)), some (.int (nI (400 + 4 * i))), some (.int (nI (P i 0))), some (.int (nI (il_ P s f i))), none] [.int (nI y0)] μ1 (none, μ') ∧ MK_ μ' B (iN_ B P s f a).1 ∧ μ'.1 219 57 = nI (iN_ B P s f a).2 ∧ fr_ [219, 229, 230, 231, 232] μ1 μ' ∧ NF2_ [57] 219 μ1 μ' := by
        intro y0 hy hyi
        by_cases hy1 : y0 = 1
        · obtain ⟨μ', q1, q2⟩ := dr ((hyi.mp hy1).elim Or.inl (fun z => Or.inr (Or.inl z)))
          refine ⟨μ', e_X12_illNight_102 ?_, q2⟩
          simp (disch := first | assumption | omega) only [hy1, hd, Option.some.injEq, Prod.mk.injEq, Value.int.injEq, exists_and_left, exists_eq_left', and_assoc, true_and, and_true, true_implies, false_implies, not_true_eq_false, not_false_eq_true, li_0, li_1, li_2, li_3, li_4, li_5, li_8, li_9, li_10, li_16, li_20, li_80, li_100, li_130, li_144, li_390, li_400, li_M, li_H, li_of, nI_add, pk_mul, cl_, vp_iff, nI_leI, nI_ltI, nI_eq, Nat.add_zero, Nat.zero_add, Nat.reduceEqDiff, Nat.reduceAdd, eq_self, reduceIte, Bool.false_eq_true, li_neg]
          exact q1
        · have hy0 : y0 = 0 := by omega
          have hn : ¬ ((f ≤ i ∧ P i 0 = s) ∨ (¬ P i 2 = 0 ∧ il_ P s f i = 0)) := fun z => hy1 (hyi.mpr z)
          by_cases hw0 : wr_ B (iN_ B P s f i).1 (P i 0) (P i 1) (P i 2) (il_ P s f i) = 0
          · have hg : ¬ ig_ B P s f (iN_ B P s f i).1 i := fun z => z.elim (fun z => hn (Or.inl z)) (fun z => z.elim (fun z => hn (Or.inr z)) (fun z => z hw0))
            have e : iN_ B P s f (i + 1) = (doK_ B (iN_ B P s f i).1 (P i 0) (P i 1) (P i 2) (il_ P s f i), (iN_ B P s f i).2) := by rw [iN_, if_neg hg]
            obtain ⟨μ2, g1, g2, g3⟩ := m_does hx hk1 o1 o2 o3 hl16
            obtain ⟨μ', q1, q2, q3, q4, q5⟩ := ih (i + 1) μ2 (by omega) (RX_KF hx g3) (PM_cg hp1 (g3.1 221 (by decide))) (by rw [e]; exact g2) (by rw [e, g3.1 219 (by decide)]; exact hd)
            refine ⟨μ', e_X12_illNight_102 ?_, q2, q3, fr_tr (fr_mono g3 (by simp)) q4, fun g hg2 => by rw [q5 g hg2, g3.1 219 (by decide)]⟩
            simp (disch := first | assumption | omega) only [hy0, p2, p3, hw, hw0, g1, Option.some.injEq, Prod.mk.injEq, Value.int.injEq, exists_and_left, exists_eq_left', and_assoc, true_and, and_true, true_implies, false_implies, not_true_eq_false, not_false_eq_true, li_0, li_1, li_2, li_3, li_4, li_5, li_8, li_9, li_10, li_16, li_20, li_80, li_100, li_130, li_144, li_390, li_400, li_M, li_H, li_of, nI_add, pk_mul, cl_, vp_iff, nI_leI, nI_ltI, nI_eq, Nat.add_zero, Nat.zero_add, Nat.reduceEqDiff, Nat.reduceAdd, eq_self, reduceIte, Bool.false_eq_true, li_neg]
            (repeat' apply And.intro) <;> first | omega | rfl | assumption | exact q1
          · obtain ⟨μ', q1, q2⟩ := dr (Or.inr (Or.inr hw0))
            refine ⟨μ', e_X12_illNight_102 ?_, q2⟩
            simp (disch := first | assumption | omega) only [hy0, p2, p3, hw, hw0, hd, Option.some.injEq, Prod.mk.injEq, Value.int.injEq, exists_and_left, exists_eq_left', and_assoc, true_and, and_true, true_implies, false_implies, not_true_eq_false, not_false_eq_true, li_0, li_1, li_2, li_3, li_4, li_5, li_8, li_9, li_10, li_16, li_20, li_80, li_100, li_130, li_144, li_390, li_400, li_M, li_H, li_of, nI_add, pk_mul, cl_, vp_iff, nI_leI, nI_ltI, nI_eq, Nat.add_zero, Nat.zero_add, Nat.reduceEqDiff, Nat.reduceAdd, eq_self, reduceIte, Bool.false_eq_true, li_neg]
            (repeat' apply And.intro) <;> first | omega | rfl | assumption | exact q1
      have t69 : ∃ μ', Ev_ (P_X12_illNight KC) 69 [some (.ref 219), some (.int (nI s)), some (.int (nI f)), some (.int (nI i)), some (.int (nI (400 + 4 * i))), some (.int (nI (P i 0))), some (.int (nI (il_ P s f i))), none] [] μ1 (none, μ') ∧ MK_ μ' B (iN_ B P s f a).1 ∧ μ'.1 219 57 = nI (iN_ B P s f a).2 ∧ fr_ [219, 229, 230, 231, 232] μ1 μ' ∧ NF2_ [57] 219 μ1 μ' := by
        by_cases hA : f ≤ i ∧ P i 0 = s
        · obtain ⟨μ', q1, q2⟩ := t102 1 (by omega) ⟨fun _ => Or.inl hA, fun _ => rfl⟩
          have hfi : ¬ i < f := by omega
          refine ⟨μ', e_X12_illNight_69 ?_, q2⟩
          have hA2 := hA.2
          simp (disch := first | assumption | omega) only [hfi, hA2, Option.some.injEq, Prod.mk.injEq, Value.int.injEq, exists_and_left, exists_eq_left', and_assoc, true_and, and_true, true_implies, false_implies, not_true_eq_false, not_false_eq_true, li_0, li_1, li_2, li_3, li_4, li_5, li_8, li_9, li_10, li_16, li_20, li_80, li_100, li_130, li_144, li_390, li_400, li_M, li_H, li_of, nI_add, pk_mul, cl_, vp_iff, nI_leI, nI_ltI, nI_eq, Nat.add_zero, Nat.zero_add, Nat.reduceEqDiff, Nat.reduceAdd, eq_self, reduceIte, Bool.false_eq_true, li_neg]
          rw [hA2] at q1
          exact q1
        · have hq : ∀ (z : Nat), (z = 1 ↔ (¬ P i 2 = 0 ∧ il_ P s f i = 0)) → (z = 1 ↔ ((f ≤ i ∧ P i 0 = s) ∨ (¬ P i 2 = 0 ∧ il_ P s f i = 0))) := fun z hz => hz.trans ⟨Or.inr, fun y => y.elim (fun y => absurd y hA) id⟩
          by_cases hB : ¬ P i 2 = 0 ∧ il_ P s f i = 0
          · obtain ⟨μ', q1, q2⟩ := t102 1 (by omega) (hq 1 ⟨fun _ => hB, fun _ => rfl⟩)
            have hF : ¬ P i 2 ≤ 0 := by omega
            have hL := hB.2
            rw [hL] at q1 ⊢
            refine ⟨μ', e_X12_illNight_69 ?_, q2⟩
            by_cases hfi : i < f
            · simp (disch := first | assumption | omega) only [hfi, p3, hF, Option.some.injEq, Prod.mk.injEq, Value.int.injEq, exists_and_left, exists_eq_left', and_assoc, true_and, and_true, true_implies, false_implies, not_true_eq_false, not_false_eq_true, li_0, li_1, li_2, li_3, li_4, li_5, li_8, li_9, li_10, li_16, li_20, li_80, li_100, li_130, li_144, li_390, li_400, li_M, li_H, li_of, nI_add, pk_mul, cl_, vp_iff, nI_leI, nI_ltI, nI_eq, Nat.add_zero, Nat.zero_add, Nat.reduceEqDiff, Nat.reduceAdd, eq_self, reduceIte, Bool.false_eq_true, li_neg]
              (repeat' apply And.intro) <;> first | omega | rfl | assumption | exact q1
            · have hs2 : ¬ P i 0 = s := fun z => hA ⟨by omega, z⟩
              simp (disch := first | assumption | omega) only [hfi, hs2, p3, hF, Option.some.injEq, Prod.mk.injEq, Value.int.injEq, exists_and_left, exists_eq_left', and_assoc, true_and, and_true, true_implies, false_implies, not_true_eq_false, not_false_eq_true, li_0, li_1, li_2, li_3, li_4, li_5, li_8, li_9, li_10, li_16, li_20, li_80, li_100, li_130, li_144, li_390, li_400, li_M, li_H, li_of, nI_add, pk_mul, cl_, vp_iff, nI_leI, nI_ltI, nI_eq, Nat.add_zero, Nat.zero_add, Nat.reduceEqDiff, Nat.reduceAdd, eq_self, reduceIte, Bool.false_eq_true, li_neg]
              (repeat' apply And.intro) <;> first | omega | rfl | assumption | exact q1
          · obtain ⟨μ', q1, q2⟩ := t102 0 (by omega) (hq 0 ⟨fun z => absurd z (by omega), fun z => absurd z hB⟩)
            refine ⟨μ', e_X12_illNight_69 ?_, q2⟩
            by_cases hfi : i < f
            · by_cases hF : P i 2 ≤ 0
              · simp (disch := first | assumption | omega) only [hfi, p3, hF, Option.some.injEq, Prod.mk.injEq, Value.int.injEq, exists_and_left, exists_eq_left', and_assoc, true_and, and_true, true_implies, false_implies, not_true_eq_false, not_false_eq_true, li_0, li_1, li_2, li_3, li_4, li_5, li_8, li_9, li_10, li_16, li_20, li_80, li_100, li_130, li_144, li_390, li_400, li_M, li_H, li_of, nI_add, pk_mul, cl_, vp_iff, nI_leI, nI_ltI, nI_eq, Nat.add_zero, Nat.zero_add, Nat.reduceEqDiff, Nat.reduceAdd, eq_self, reduceIte, Bool.false_eq_true, li_neg]
                (repeat' apply And.intro) <;> first | omega | rfl | assumption | exact q1
              · have hL : ¬ il_ P s f i = 0 := fun z => hB ⟨by omega, z⟩
                simp (disch := first | assumption | omega) only [hfi, p3, hF, hL, Option.some.injEq, Prod.mk.injEq, Value.int.injEq, exists_and_left, exists_eq_left', and_assoc, true_and, and_true, true_implies, false_implies, not_true_eq_false, not_false_eq_true, li_0, li_1, li_2, li_3, li_4, li_5, li_8, li_9, li_10, li_16, li_20, li_80, li_100, li_130, li_144, li_390, li_400, li_M, li_H, li_of, nI_add, pk_mul, cl_, vp_iff, nI_leI, nI_ltI, nI_eq, Nat.add_zero, Nat.zero_add, Nat.reduceEqDiff, Nat.reduceAdd, eq_self, reduceIte, Bool.false_eq_true, li_neg]
                (repeat' apply And.intro) <;> first | omega | rfl | assumption | exact q1
            · have hs2 : ¬ P i 0 = s := fun z => hA ⟨by omega, z⟩
              by_cases hF : P i 2 ≤ 0
              · simp (disch := first | assumption | omega) only [hfi, hs2, p3, hF, Option.some.injEq, Prod.mk.injEq, Value.int.injEq, exists_and_left, exists_eq_left', and_assoc, true_and, and_true, true_implies, false_implies, not_true_eq_false, not_false_eq_true, li_0, li_1, li_2, li_3, li_4, li_5, li_8, li_9, li_10, li_16, li_20, li_80, li_100, li_130, li_144, li_390, li_400, li_M, li_H, li_of, nI_add, pk_mul, cl_, vp_iff, nI_leI, nI_ltI, nI_eq, Nat.add_zero, Nat.zero_add, Nat.reduceEqDiff, Nat.reduceAdd, eq_self, reduceIte, Bool.false_eq_true, li_neg]
                (repeat' apply And.intro) <;> first | omega | rfl | assumption | exact q1
              · have hL : ¬ il_ P s f i = 0 := fun z => hB ⟨by omega, z⟩
                simp (disch := first | assumption | omega) only [hfi, hs2, p3, hF, hL, Option.some.injEq, Prod.mk.injEq, Value.int.injEq, exists_and_left, exists_eq_left', and_assoc, true_and, and_true, true_implies, false_implies, not_true_eq_false, not_false_eq_true, li_0, li_1, li_2, li_3, li_4, li_5, li_8, li_9, li_10, li_16, li_20, li_80, li_100, li_130, li_144, li_390, li_400, li_M, li_H, li_of, nI_add, pk_mul, cl_, vp_iff, nI_leI, nI_ltI, nI_eq, Nat.add_zero, Nat.zero_add, Nat.reduceEqDiff, Nat.reduceAdd, eq_self, reduceIte, Bool.false_eq_true, li_neg]
                (repeat' apply And.intro) <;> first | omega | rfl | assumption | exact q1
      obtain ⟨μ', q1, q2⟩ := t69
      refine ⟨μ', e_X12_illNight_11 ?_, q2⟩
      by_cases hfi : i < f
      · rw [show il_ P s f i = P i 3 from if_neg (by omega)] at q1
        simp (disch := first | assumption | omega) only [hp1.1, hi2, p1, p4, hfi, Option.some.injEq, Prod.mk.injEq, Value.int.injEq, exists_and_left, exists_eq_left', and_assoc, true_and, and_true, true_implies, false_implies, not_true_eq_false, not_false_eq_true, li_0, li_1, li_2, li_3, li_4, li_5, li_8, li_9, li_10, li_16, li_20, li_80, li_100, li_130, li_144, li_390, li_400, li_M, li_H, li_of, nI_add, pk_mul, cl_, vp_iff, nI_leI, nI_ltI, nI_eq, Nat.add_zero, Nat.zero_add, Nat.reduceEqDiff, Nat.reduceAdd, eq_self, reduceIte, Bool.false_eq_true, li_neg]
        (repeat' apply And.intro) <;> first | omega | rfl | assumption | exact q1
      · rw [show il_ P s f i = cb_ (P i 3) s from if_pos (by omega)] at q1
        simp (disch := first | assumption | omega) only [hp1.1, hi2, p1, p4, hfi, sh_1, cb_nI, Option.some.injEq, Prod.mk.injEq, Value.int.injEq, exists_and_left, exists_eq_left', and_assoc, true_and, and_true, true_implies, false_implies, not_true_eq_false, not_false_eq_true, li_0, li_1, li_2, li_3, li_4, li_5, li_8, li_9, li_10, li_16, li_20, li_80, li_100, li_130, li_144, li_390, li_400, li_M, li_H, li_of, nI_add, pk_mul, cl_, vp_iff, nI_leI, nI_ltI, nI_eq, Nat.add_zero, Nat.zero_add, Nat.reduceEqDiff, Nat.reduceAdd, eq_self, reduceIte, Bool.false_eq_true, li_neg]
        (repeat' apply And.intro) <;> first | omega | rfl | assumption | exact q1
  obtain ⟨μ1, g1, g2, g3⟩ := m_dawn h
  obtain ⟨μ', q1, q2, q3, q4, q5⟩ := loop a 0 (sI_ μ1 219 57 (nI 0)) (by omega) (RX_sI (RX_KF h g3) (by decide)) (PM_cg hp ((sI_row _ _ _ _ (by decide)).trans (g3.1 221 (by decide)))) (MK_cg g2 (sI_row _ _ _ _ (by decide)) (sI_row _ _ _ _ (by decide)) (sI_row _ _ _ _ (by decide)) (sI_row _ _ _ _ (by decide))) (by rw [sI_at, if_pos ⟨rfl, rfl⟩]; rfl)
  refine ⟨μ', z_X12_illNight (e_X12_illNight_0 ?_), q2, q3, fr_tr (fr_mono g3 (by simp)) (fr_tr (fr_sI (by simp)) q4), fun g hg2 => by rw [q5 g hg2, sI_at, if_neg (fun z => hg2 (by rw [z.2]; simp)), g3.1 219 (by decide)]⟩
  simp (disch := first | assumption | omega) only [g1, Option.some.injEq, Prod.mk.injEq, Value.int.injEq, exists_and_left, exists_eq_left', and_assoc, true_and, and_true, true_implies, false_implies, not_true_eq_false, not_false_eq_true, li_0, li_1, li_2, li_3, li_4, li_5, li_8, li_9, li_10, li_16, li_20, li_80, li_100, li_130, li_144, li_390, li_400, li_M, li_H, li_of, nI_add, pk_mul, cl_, vp_iff, nI_leI, nI_ltI, nI_eq, Nat.add_zero, Nat.zero_add, Nat.reduceEqDiff, Nat.reduceAdd, eq_self, reduceIte, Bool.false_eq_true, li_neg]
  exact q1
end ILC
