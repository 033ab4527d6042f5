/-! the reference's READERS -/
def MK_ (μ : St_) (B : Nat → Nat → Nat) (k : K_) : Prop := AK_ (μ.1 230) (μ.1 231) (μ.1 232) (μ.1 229) (B 0 1) k
theorem ud_cg {f g : Nat → Int32} {i : Nat} (h : f i = g i) (r : Nat) (x : Int32) : ud_ f r x i = ud_ g r x i := by
  unfold ud_
  split
  · rfl
  · exact h
theorem AK_ud1 {l rd td pt : Nat → Int32} {R : Nat} {k : K_} (h : AK_ l rd td pt R k) (r : Nat) (x : Int32) : AK_ (ud_ l r x) rd td pt R (ud_ k.1 r x, k.2) := ⟨fun i hi => ⟨ud_cg (h.1 i hi).1 r x, (h.1 i hi).2.1, (h.1 i hi).2.2⟩, h.2⟩
theorem AK_ud2 {l rd td pt : Nat → Int32} {R : Nat} {k : K_} (h : AK_ l rd td pt R k) (r : Nat) (x : Int32) : AK_ l (ud_ rd r x) td pt R (k.1, ud_ k.2.1 r x, k.2.2) := ⟨fun i hi => ⟨(h.1 i hi).1, ud_cg (h.1 i hi).2.1 r x, (h.1 i hi).2.2⟩, h.2⟩
theorem AK_ud3 {l rd td pt : Nat → Int32} {R : Nat} {k : K_} (h : AK_ l rd td pt R k) (r : Nat) (x : Int32) : AK_ l rd (ud_ td r x) pt R (k.1, k.2.1, ud_ k.2.2.1 r x, k.2.2.2) := ⟨fun i hi => ⟨(h.1 i hi).1, (h.1 i hi).2.1, ud_cg (h.1 i hi).2.2 r x⟩, h.2⟩
theorem AK_ud4 {l rd td pt : Nat → Int32} {R : Nat} {k : K_} (h : AK_ l rd td pt R k) (j : Nat) (x : Int32) : AK_ l rd td (ud_ pt j x) R (k.1, k.2.1, k.2.2.1, ud_ k.2.2.2 j x) := ⟨h.1, fun i hi => ud_cg (h.2 i hi) j x⟩
theorem sI_ud (σ : St_) (o i : Nat) (x : Int32) : (sI_ σ o i x).1 o = ud_ (σ.1 o) i x := by
  funext j
  unfold ud_
  by_cases h : j = i
  · simp [sI_at, h]
  · simp [sI_at, h]
theorem ud_id {f : Nat → Int32} {i : Nat} : ud_ f i (f i) = f := by
  funext j
  unfold ud_
  by_cases h : j = i
  · rw [if_pos h, h]
  · rw [if_neg h]
section MR
variable {μ : St_} {B : Nat → Nat → Nat} {c r d : Nat} {k : K_}
theorem MK_cg {μ μ' : St_} (h : MK_ μ B k) (h1 : μ'.1 230 = μ.1 230) (h2 : μ'.1 231 = μ.1 231) (h3 : μ'.1 232 = μ.1 232) (h4 : μ'.1 229 = μ.1 229) : MK_ μ' B k := by
  unfold MK_
  rw [h1, h2, h3, h4]
  exact h
theorem MK_1 (h : MK_ μ B k) (i : Nat) (x : Int32) : MK_ (sI_ μ 230 i x) B (ud_ k.1 i x, k.2) := by
  unfold MK_
  rw [sI_ud, sI_row _ _ _ _ (by decide), sI_row _ _ _ _ (by decide), sI_row _ _ _ _ (by decide)]
  exact AK_ud1 h i x
theorem MK_2 (h : MK_ μ B k) (i : Nat) (x : Int32) : MK_ (sI_ μ 231 i x) B (k.1, ud_ k.2.1 i x, k.2.2) := by
  unfold MK_
  rw [sI_ud, sI_row _ _ _ _ (by decide), sI_row _ _ _ _ (by decide), sI_row _ _ _ _ (by decide)]
  exact AK_ud2 h i x
theorem MK_3 (h : MK_ μ B k) (i : Nat) (x : Int32) : MK_ (sI_ μ 232 i x) B (k.1, k.2.1, ud_ k.2.2.1 i x, k.2.2.2) := by
  unfold MK_
  rw [sI_ud, sI_row _ _ _ _ (by decide), sI_row _ _ _ _ (by decide), sI_row _ _ _ _ (by decide)]
  exact AK_ud3 h i x
theorem MK_4 (h : MK_ μ B k) (i : Nat) (x : Int32) : MK_ (sI_ μ 229 i x) B (k.1, k.2.1, k.2.2.1, ud_ k.2.2.2 i x) := by
  unfold MK_
  rw [sI_ud, sI_row _ _ _ _ (by decide), sI_row _ _ _ _ (by decide), sI_row _ _ _ _ (by decide)]
  exact AK_ud4 h i x
theorem MK_l (h : MK_ μ B k) (hr : r < B 0 1) : μ.1 230 r = k.1 r := (h.1 r hr).1
theorem MK_r (h : MK_ μ B k) (hr : r < B 0 1) : μ.1 231 r = k.2.1 r := (h.1 r hr).2.1
theorem MK_t (h : MK_ μ B k) (hr : r < B 0 1) : μ.1 232 r = k.2.2.1 r := (h.1 r hr).2.2
theorem MK_p (h : MK_ μ B k) (hr : r < 9) (hc : c < 16) : μ.1 229 (16 * r + c) = k.2.2.2 (16 * r + c) := h.2 _ (by omega)
theorem m_lackOf (h : RX_ μ B) (hk : MK_ μ B k) (hr : r < 9) (hc : c < B 0 0) : f_X12_lackOf KC [.ref 219, .int (nI r), .int (nI c)] μ = some (some (.int (lk_ B k.2.2.2 r c)), μ) := by
  have hb := BO_c h.2
  have loop : ∀ n d, d + n = c → Ev_ (P_X12_lackOf KC) 5 [some (.ref 219), some (.int (nI r)), some (.int (nI c)), some (.int (lkS_ B k.2.2.2 r c d)), some (.int (nI d))] [] μ (some (.int (lk_ B k.2.2.2 r c)), μ) := by
    intro n
    induction n with
    | zero =>
      intro d hd
      obtain rfl : d = c := by omega
      refine e_X12_lackOf_5 ?_
      simp (disch := first | assumption | omega) only [Nat.le_refl, Option.some.injEq, Prod.mk.injEq, Value.int.injEq, exists_and_left, exists_eq_left', and_assoc, true_and, and_true, true_implies, false_implies, not_true_eq_false, not_false_eq_true, li_0, li_1, li_2, li_3, li_4, li_5, li_8, li_9, li_10, li_16, li_20, li_80, li_100, li_130, li_144, li_390, li_400, li_M, li_H, li_of, nI_add, pk_mul, cl_, vp_iff, nI_leI, nI_ltI, nI_eq, Nat.add_zero, Nat.zero_add, Nat.reduceEqDiff, Nat.reduceAdd, eq_self, reduceIte, Bool.false_eq_true, li_neg]
      rfl
    | succ n ih =>
      intro d hd
      refine e_X12_lackOf_5 ?_
      have h1 : ¬ c ≤ d := by omega
      simp (disch := first | assumption | omega) only [h1, m_leanOf h hc, MK_p hk hr, Option.some.injEq, Prod.mk.injEq, Value.int.injEq, exists_and_left, exists_eq_left', and_assoc, true_and, and_true, true_implies, false_implies, not_true_eq_false, not_false_eq_true, li_0, li_1, li_2, li_3, li_4, li_5, li_8, li_9, li_10, li_16, li_20, li_80, li_100, li_130, li_144, li_390, li_400, li_M, li_H, li_of, nI_add, pk_mul, cl_, vp_iff, nI_leI, nI_ltI, nI_eq, Nat.add_zero, Nat.zero_add, Nat.reduceEqDiff, Nat.reduceAdd, eq_self, reduceIte, Bool.false_eq_true, li_neg]
      (repeat' apply And.intro) <;> first | omega | rfl | assumption | exact ih (d + 1) (by omega)
  exact z_X12_lackOf (e_X12_lackOf_0 (loop c 0 (by omega)))
/-- what READING and telling change -/
def KF_ (μ μ' : St_) : Prop := fr_ [229, 230, 231, 232] μ μ'
theorem KF_sI {o i : Nat} {x : Int32} (h : o = 229 ∨ o = 230 ∨ o = 231 ∨ o = 232) : KF_ μ (sI_ μ o i x) := fr_sI (by simp; omega)
theorem KF_rf : KF_ μ μ := fr_rf _ _
theorem KF_tr {a b c : St_} (h : KF_ a b) (h2 : KF_ b c) : KF_ a c := fr_tr h h2
theorem RX_KF {μ' : St_} (h : RX_ μ B) (hf : KF_ μ μ') : RX_ μ' B := RX_fr h hf (by decide)
theorem m_reads (h : RX_ μ B) (hk : MK_ μ B k) (hr : r < B 0 1) (hc : c < B 0 0) : ∃ μ', f_X12_reads KC [.ref 219, .int (nI r), .int (nI c)] μ = some (none, μ') ∧ MK_ μ' B (rdK_ B k r c) ∧ KF_ μ μ' := by
  have hb := BO_c h.2
  have hc16 : c < 16 := by omega
  have hr9 : r < 9 := by omega
  have hk1 := MK_1 hk r (k.1 r - nI (tR_ B r c))
  have hx1 : RX_ (sI_ μ 230 r (k.1 r - nI (tR_ B r c))) B := RX_sI h (by decide)
  have e1 : (sI_ μ 230 r (k.1 r - nI (tR_ B r c))).1 231 = μ.1 231 := sI_row _ _ _ _ (by decide)
  have e2 : (sI_ μ 230 r (k.1 r - nI (tR_ B r c))).1 229 = μ.1 229 := sI_row _ _ _ _ (by decide)
  by_cases hv : vR_ B k.2.2.2 r c ≤ k.2.2.2 (16 * r + c)
  · refine ⟨_, z_X12_reads (e_X12_reads_0 ?_), ?_, KF_tr (KF_sI (o := 230) (i := r) (x := k.1 r - nI (tR_ B r c)) (by omega)) (KF_sI (o := 231) (i := r) (x := ob_ (k.2.1 r) c) (by omega))⟩
    · have hv' := hv
      unfold vR_ at hv'
      simp (disch := first | assumption | omega) only [m_ttr h, MK_l hk hr, m_lackOf hx1 hk1 hr9 hc, m_readerOf hx1 hr, e1, e2, MK_p hk hr9 hc16, MK_r hk hr, hv', Option.some.injEq, Prod.mk.injEq, Value.int.injEq, exists_and_left, exists_eq_left', and_assoc, true_and, and_true, true_implies, false_implies, not_true_eq_false, not_false_eq_true, li_0, li_1, li_2, li_3, li_4, li_5, li_8, li_9, li_10, li_16, li_20, li_80, li_100, li_130, li_144, li_390, li_400, li_M, li_H, li_of, nI_add, pk_mul, cl_, vp_iff, nI_leI, nI_ltI, nI_eq, Nat.add_zero, Nat.zero_add, Nat.reduceEqDiff, Nat.reduceAdd, eq_self, reduceIte, Bool.false_eq_true, li_neg]
      (repeat' apply And.intro) <;> first | omega | rfl | assumption
    · have := MK_2 hk1 r (ob_ (k.2.1 r) c)
      have e3 : ud_ k.2.2.2 (16 * r + c) (mx_ (k.2.2.2 (16 * r + c)) (vR_ B k.2.2.2 r c)) = k.2.2.2 := by
        unfold mx_
        rw [if_neg (Int32.not_lt.mpr hv)]
        exact ud_id
      unfold rdK_
      rw [e3]
      exact this
  · refine ⟨_, z_X12_reads (e_X12_reads_0 ?_), ?_, KF_tr (KF_sI (o := 230) (i := r) (x := k.1 r - nI (tR_ B r c)) (by omega)) (KF_tr (KF_sI (o := 229) (i := 16 * r + c) (x := vR_ B k.2.2.2 r c) (by omega)) (KF_sI (o := 231) (i := r) (x := ob_ (k.2.1 r) c) (by omega)))⟩
    · have hv' := hv
      unfold vR_ at hv'
      have e4 : ∀ i x, (sI_ (sI_ μ 230 r (k.1 r - nI (tR_ B r c))) 229 i x).1 231 = μ.1 231 := fun i x => (sI_row _ _ _ _ (by decide)).trans e1
      simp (disch := first | assumption | omega) only [m_ttr h, MK_l hk hr, m_lackOf hx1 hk1 hr9 hc, m_readerOf hx1 hr, e1, e2, e4, MK_p hk hr9 hc16, MK_r hk hr, hv', Option.some.injEq, Prod.mk.injEq, Value.int.injEq, exists_and_left, exists_eq_left', and_assoc, true_and, and_true, true_implies, false_implies, not_true_eq_false, not_false_eq_true, li_0, li_1, li_2, li_3, li_4, li_5, li_8, li_9, li_10, li_16, li_20, li_80, li_100, li_130, li_144, li_390, li_400, li_M, li_H, li_of, nI_add, pk_mul, cl_, vp_iff, nI_leI, nI_ltI, nI_eq, Nat.add_zero, Nat.zero_add, Nat.reduceEqDiff, Nat.reduceAdd, eq_self, reduceIte, Bool.false_eq_true, li_neg]
      (repeat' apply And.intro) <;> first | omega | rfl | assumption
    · have := MK_2 (MK_4 hk1 (16 * r + c) (vR_ B k.2.2.2 r c)) r (ob_ (k.2.1 r) c)
      unfold rdK_ mx_
      rw [if_pos (Int32.not_le.mp hv)]
      exact this
theorem m_given (h : RX_ μ B) {t l f : Nat} (ht : t < B 0 1) (hl : l < B 0 1) (x : Int32) (p : Prop) [Decidable p] : f_X12_given KC [.ref 219, .int (nI t), .int x, .int (if p then nI 1 else nI 0), .int (nI l), .int (nI f)] μ = some (some (.int (if p then gv_ B t l f x else ga_ B (gv_ B t l f x))), μ) := by
  refine z_X12_given (e_X12_given_0 ?_)
  by_cases hp : p
  · simp (disch := first | assumption | omega) only [m_readerOf h, ht, hl, hp, m_again h, Option.some.injEq, Prod.mk.injEq, Value.int.injEq, exists_and_left, exists_eq_left', and_assoc, true_and, and_true, true_implies, false_implies, not_true_eq_false, not_false_eq_true, li_0, li_1, li_2, li_3, li_4, li_5, li_8, li_9, li_10, li_16, li_20, li_80, li_100, li_130, li_144, li_390, li_400, li_M, li_H, li_of, nI_add, pk_mul, cl_, vp_iff, nI_leI, nI_ltI, nI_eq, Nat.add_zero, Nat.zero_add, Nat.reduceEqDiff, Nat.reduceAdd, eq_self, reduceIte, Bool.false_eq_true, li_neg]
    rfl
  · simp (disch := first | assumption | omega) only [m_readerOf h, ht, hl, hp, m_again h, Option.some.injEq, Prod.mk.injEq, Value.int.injEq, exists_and_left, exists_eq_left', and_assoc, true_and, and_true, true_implies, false_implies, not_true_eq_false, not_false_eq_true, li_0, li_1, li_2, li_3, li_4, li_5, li_8, li_9, li_10, li_16, li_20, li_80, li_100, li_130, li_144, li_390, li_400, li_M, li_H, li_of, nI_add, pk_mul, cl_, vp_iff, nI_leI, nI_ltI, nI_eq, Nat.add_zero, Nat.zero_add, Nat.reduceEqDiff, Nat.reduceAdd, eq_self, reduceIte, Bool.false_eq_true, li_neg]
    (repeat' apply And.intro) <;> first | omega | rfl | assumption
theorem m_gets (h : RX_ μ B) (hk : MK_ μ B k) {t f : Nat} (ht : t < B 0 1) (hr : r < B 0 1) (hc : c < B 0 0) : ∃ μ', f_X12_gets KC [.ref 219, .int (nI t), .int (nI r), .int (nI c), .int (nI f)] μ = some (none, μ') ∧ MK_ μ' B (gtK_ B k t r c f) ∧ KF_ μ μ' := by
  have hb := BO_c h.2
  have hc16 : c < 16 := by omega
  have hr9 : r < 9 := by omega
  have ht9 : t < 9 := by omega
  have e4 : ∀ i x, (sI_ μ 229 i x).1 232 = μ.1 232 := fun i x => sI_row _ _ _ _ (by decide)
  refine ⟨_, z_X12_gets (e_X12_gets_0 ?_), MK_3 (MK_4 hk (16 * r + c) (k.2.2.2 (16 * r + c) + oM_ (nI 1000000 - k.2.2.2 (16 * r + c)) (oM_ (gw_ B k t r c f) (nI 1000000 - lk_ B k.2.2.2 r c)))) r (ob_ (k.2.2.1 r) c), KF_tr (KF_sI (by omega)) (KF_sI (by omega))⟩
  · simp (disch := first | assumption | omega) only [MK_r hk ht, MK_p hk ht9 hc16, MK_p hk hr9 hc16, m_hasK, m_given h ht hr, m_lackOf h hk hr9 hc, MK_t hk hr, e4, Option.some.injEq, Prod.mk.injEq, Value.int.injEq, exists_and_left, exists_eq_left', and_assoc, true_and, and_true, true_implies, false_implies, not_true_eq_false, not_false_eq_true, li_0, li_1, li_2, li_3, li_4, li_5, li_8, li_9, li_10, li_16, li_20, li_80, li_100, li_130, li_144, li_390, li_400, li_M, li_H, li_of, nI_add, pk_mul, cl_, vp_iff, nI_leI, nI_ltI, nI_eq, Nat.add_zero, Nat.zero_add, Nat.reduceEqDiff, Nat.reduceAdd, eq_self, reduceIte, Bool.false_eq_true, li_neg]
    (repeat' apply And.intro) <;> first | omega | rfl | assumption
end MR
