/-! CUT: the reference -/
def csg_ (E : Nat → Nat) (c : Nat) : Nat → Nat → Nat
  | 0, i => i
  | n + 1, i => if E i < c then csg_ E c n (i + 1) else i
def oc_ (B : Nat → Nat → Nat) (E : Nat → Nat) (k c : Nat) : Nat → Nat
  | 0 => 0
  | d + 1 => if csg_ E c (k - 1) 0 = csg_ E d (k - 1) 0 then oc_ B E k c d else oc_ B E k c d + B (16 + c) d
def ov_ (B : Nat → Nat → Nat) (E : Nat → Nat) (k : Nat) : Nat → Nat
  | 0 => 0
  | c + 1 => ov_ B E k c + oc_ B E k c c
def wg_ (B : Nat → Nat → Nat) (a n : Nat) : Nat := fb_sm (fun j => fb_sm (B (16 + (a + j))) a) n
def sa_ (E : Nat → Nat) (j : Nat) : Nat := if j = 0 then 0 else E (j - 1) + 1
def wE_ (B : Nat → Nat → Nat) (E : Nat → Nat) : Nat → Nat
  | 0 => 0
  | j + 1 => wE_ B E j + wg_ B (sa_ E j) (E j + 1 - sa_ E j)
section CE
variable {B : Nat → Nat → Nat} {E : Nat → Nat} {k : Nat}
theorem csg_le {m d : Nat} (h : d ≤ E m) : ∀ n i, i + n = k - 1 → i ≤ m → m ≤ k - 1 → csg_ E d n i ≤ m
  | 0, i, hi, h1, h2 => by rw [csg_]; exact h1
  | n + 1, i, hi, h1, h2 => by
    rw [csg_]
    split
    · rename_i h3
      refine csg_le h n (i + 1) (by omega) ?_ h2
      by_cases e : i = m
      · rw [e] at h3
        omega
      · omega
    · exact h1
theorem csg_eq {j c : Nat} (hE : ∀ i, i < k → sa_ E i ≤ E i) (h1 : sa_ E j ≤ c) (h2 : c ≤ E j) (hj : j < k) : csg_ E c (k - 1) 0 = j := by
  have mono : ∀ n i, i + n < k → E i ≤ E (i + n) := by
    intro n
    induction n with
    | zero => exact fun i _ => Nat.le_refl _
    | succ n ih =>
      intro i hi
      have := ih i (by omega)
      have h := hE (i + (n + 1)) (by omega)
      unfold sa_ at h
      rw [if_neg (by omega), show i + (n + 1) - 1 = i + n by omega] at h
      omega
  have key : ∀ n i, i + n = k - 1 → i ≤ j → csg_ E c n i = j := by
    intro n
    induction n with
    | zero =>
      intro i hi hij
      rw [csg_]
      omega
    | succ n ih =>
      intro i hi hij
      rw [csg_]
      by_cases e : i = j
      · rw [e, if_neg (by omega)]
      · have hlt : E i < c := by
          unfold sa_ at h1
          rw [if_neg (by omega)] at h1
          have := mono (j - 1 - i) i (by omega)
          rw [show i + (j - 1 - i) = j - 1 by omega] at this
          omega
        rw [if_pos hlt]
        exact ih (i + 1) (by omega) (by omega)
  exact key (k - 1) 0 (by omega) (by omega)
theorem oc_eq {j c : Nat} (hE : ∀ i, i < k → sa_ E i ≤ E i) (h1 : sa_ E j ≤ c) (h2 : c ≤ E j) (hj : j < k) : oc_ B E k c c = fb_sm (B (16 + c)) (sa_ E j) := by
  have hc := csg_eq hE h1 h2 hj
  have lo : ∀ d, d ≤ sa_ E j → oc_ B E k c d = fb_sm (B (16 + c)) d := by
    intro d
    induction d with
    | zero => exact fun _ => rfl
    | succ d ih =>
      intro hd
      have hne : ¬ csg_ E c (k - 1) 0 = csg_ E d (k - 1) 0 := by
        rw [hc]
        have hj0 : j ≠ 0 := fun z => by
          rw [z] at hd
          unfold sa_ at hd
          rw [if_pos rfl] at hd
          omega
        have hd2 : d ≤ E (j - 1) := by
          unfold sa_ at hd
          rw [if_neg hj0] at hd
          omega
        have := csg_le (k := k) hd2 (k - 1) 0 (by omega) (by omega) (by omega)
        omega
      rw [oc_, if_neg hne, ih (by omega), fb_sm_succ]
  have hi : ∀ n, sa_ E j + n ≤ c → oc_ B E k c (sa_ E j + n) = fb_sm (B (16 + c)) (sa_ E j) := by
    intro n
    induction n with
    | zero => exact fun _ => lo _ (Nat.le_refl _)
    | succ n ih =>
      intro hn
      have he : csg_ E c (k - 1) 0 = csg_ E (sa_ E j + n) (k - 1) 0 := by
        rw [hc, csg_eq hE (show sa_ E j ≤ sa_ E j + n by omega) (by omega) hj]
      rw [show sa_ E j + (n + 1) = sa_ E j + n + 1 by omega, oc_, if_pos he]
      exact ih (by omega)
  have := hi (c - sa_ E j) (by omega)
  rw [show sa_ E j + (c - sa_ E j) = c by omega] at this
  exact this
theorem ov_eq (hE : ∀ i, i < k → sa_ E i ≤ E i) : ∀ j, j ≤ k → ov_ B E k (sa_ E j) = wE_ B E j := by
  intro j
  induction j with
  | zero => exact fun _ => rfl
  | succ j ih =>
    intro hj
    have h1 := hE j (by omega)
    have e : sa_ E (j + 1) = sa_ E j + (E j + 1 - sa_ E j) := by
      rw [show sa_ E (j + 1) = E j + 1 from if_neg (by omega)]
      omega
    have key : ∀ n, n ≤ E j + 1 - sa_ E j → ov_ B E k (sa_ E j + n) = ov_ B E k (sa_ E j) + wg_ B (sa_ E j) n := by
      intro n
      induction n with
      | zero => exact fun _ => rfl
      | succ n ihn =>
        intro hn
        rw [show sa_ E j + (n + 1) = sa_ E j + n + 1 by omega, ov_, ihn (by omega), oc_eq (j := j) hE (by omega) (by omega) (by omega)]
        unfold wg_
        rw [fb_sm_succ, Nat.add_assoc]
    rw [e, key _ (Nat.le_refl _), ih (by omega), wE_]
end CE
def pm_ (pre : List Nat) (acc : Nat) (o : CU_) : CU_ := match o with
  | none => none
  | some (v, l) => some (acc + v, pre ++ l)
theorem pm_mg (pre : List Nat) (acc : Nat) (a b : CU_) : pm_ pre acc (mg_ a b) = mg_ (pm_ pre acc a) (pm_ pre acc b) := by
  cases b with
  | none => rfl
  | some y =>
    obtain ⟨v2, l2⟩ := y
    cases a with
    | none => rfl
    | some x =>
      obtain ⟨v1, l1⟩ := x
      show pm_ pre acc (if v2 < v1 then some (v2, l2) else some (v1, l1)) = (if acc + v2 < acc + v1 then some (acc + v2, pre ++ l2) else some (acc + v1, pre ++ l1))
      by_cases h : v2 < v1
      · rw [if_pos h, if_pos (by omega)]
        rfl
      · rw [if_neg h, if_neg (by omega)]
        rfl
theorem pm_mv (pre : List Nat) (acc w c : Nat) (o : CU_) : pm_ pre acc (mv_ w c o) = pm_ (pre ++ [c]) (acc + w) o := by
  cases o with
  | none => rfl
  | some x =>
    obtain ⟨v, l⟩ := x
    show some (acc + (w + v), pre ++ c :: l) = some (acc + w + v, pre ++ [c] ++ l)
    rw [Nat.add_assoc, List.append_assoc]
    rfl
def pE_ (pre : List Nat) (j : Nat) : Nat := pre.getD j 0
def SM_ (μ : St_) (B : Nat → Nat → Nat) (P k : Nat) (s : CU_) : Prop := (RX_ μ B ∧ μ.1 219 45 = nI P) ∧ match s with
  | none => μ.1 219 43 = nM_
  | some (v, l) => v ≤ 160 ∧ μ.1 219 43 = nI v ∧ l.length = k ∧ ∀ j, j < k → μ.1 239 j = nI (pE_ l j)
def SMF_ (μ μ' : St_) : Prop := fr_ [219, 237, 239] μ μ' ∧ NF2_ [43] 219 μ μ'
section CM
variable {μ : St_} {B : Nat → Nat → Nat} {P k : Nat}
theorem SMF_tr {x y z : St_} (h : SMF_ x y) (h2 : SMF_ y z) : SMF_ x z := ⟨fr_tr h.1 h2.1, NF2_tr h.2 h2.2⟩
theorem m_stretch {E : Nat → Nat} {c : Nat} (hk : 1 ≤ k ∧ k ≤ 9) (hc : c < 2 ^ 20) (hr : ∀ j, j < k → μ.1 237 j = nI (E j) ∧ E j < 2 ^ 20) : f_X12_stretch KC [.ref 219, .int (nI c), .int (nI k)] μ = some (some (.int (nI (csg_ E c (k - 1) 0))), μ) := by
  have loop : ∀ n i, i + n = k - 1 → Ev_ (P_X12_stretch KC) 2 [some (.ref 219), some (.int (nI c)), some (.int (nI k)), some (.int (nI i))] [] μ (some (.int (nI (csg_ E c n i))), μ) := by
    intro n
    induction n with
    | zero =>
      intro i hi
      have h1 : k - 1 ≤ i := by omega
      refine e_X12_stretch_2 ?_
      simp (disch := first | assumption | omega) only [pk_sub, h1, csg_, Option.some.injEq, Prod.mk.injEq, Value.int.injEq, exists_and_left, exists_eq_left', and_assoc, true_and, and_true, true_implies, false_implies, not_true_eq_false, not_false_eq_true, li_0, li_1, li_2, li_3, li_4, li_5, li_8, li_9, li_10, li_16, li_20, li_80, li_100, li_130, li_144, li_390, li_400, li_M, li_H, li_of, nI_add, pk_mul, cl_, vp_iff, nI_leI, nI_ltI, nI_eq, Nat.add_zero, Nat.zero_add, Nat.reduceEqDiff, Nat.reduceAdd, eq_self, reduceIte, Bool.false_eq_true, li_neg]
    | succ n ih =>
      intro i hi
      have h1 : ¬ k - 1 ≤ i := by omega
      obtain ⟨e1, e2⟩ := hr i (by omega)
      have ih1 := ih (i + 1) (by omega)
      refine e_X12_stretch_2 ?_
      rw [csg_]
      by_cases h2 : E i < c
      · have h3 : ¬ c ≤ E i := by omega
        rw [if_pos h2]
        simp (disch := first | assumption | omega) only [pk_sub, h1, e1, h3, Option.some.injEq, Prod.mk.injEq, Value.int.injEq, exists_and_left, exists_eq_left', and_assoc, true_and, and_true, true_implies, false_implies, not_true_eq_false, not_false_eq_true, li_0, li_1, li_2, li_3, li_4, li_5, li_8, li_9, li_10, li_16, li_20, li_80, li_100, li_130, li_144, li_390, li_400, li_M, li_H, li_of, nI_add, pk_mul, cl_, vp_iff, nI_leI, nI_ltI, nI_eq, Nat.add_zero, Nat.zero_add, Nat.reduceEqDiff, Nat.reduceAdd, eq_self, reduceIte, Bool.false_eq_true, li_neg]
        (repeat' apply And.intro) <;> first | omega | rfl | assumption | exact ih1
      · have h3 : c ≤ E i := by omega
        rw [if_neg h2]
        simp (disch := first | assumption | omega) only [pk_sub, h1, e1, h3, Option.some.injEq, Prod.mk.injEq, Value.int.injEq, exists_and_left, exists_eq_left', and_assoc, true_and, and_true, true_implies, false_implies, not_true_eq_false, not_false_eq_true, li_0, li_1, li_2, li_3, li_4, li_5, li_8, li_9, li_10, li_16, li_20, li_80, li_100, li_130, li_144, li_390, li_400, li_M, li_H, li_of, nI_add, pk_mul, cl_, vp_iff, nI_leI, nI_ltI, nI_eq, Nat.add_zero, Nat.zero_add, Nat.reduceEqDiff, Nat.reduceAdd, eq_self, reduceIte, Bool.false_eq_true, li_neg]
        (repeat' apply And.intro) <;> first | omega | rfl | assumption
  exact z_X12_stretch (e_X12_stretch_0 (loop (k - 1) 0 (by omega)))
theorem csg_bd {E : Nat → Nat} {c : Nat} : ∀ n i, csg_ E c n i ≤ i + n
  | 0, i => Nat.le_refl _
  | n + 1, i => by
    have := csg_bd (E := E) (c := c) n (i + 1)
    rw [csg_]
    split <;> omega
theorem m_over (hx : RX_ μ B) {E : Nat → Nat} (hk : 1 ≤ k ∧ k ≤ 9) (hr : ∀ j, j < k → μ.1 237 j = nI (E j) ∧ E j < 2 ^ 20) : f_X12_over KC [.ref 219, .int (nI k)] μ = some (some (.int (nI (ov_ B E k (B 0 0)))), μ) := by
  have hO := hx.2
  have h16 := hO.1.1
  have in_ : ∀ c, c < B 0 0 → ∀ out, Ev_ (P_X12_over KC) 4 [some (.ref 219), some (.int (nI k)), some (.int (nI (ov_ B E k (c + 1)))), some (.int (nI (c + 1))), none] [] μ out → ∀ n d, d + n = c → Ev_ (P_X12_over KC) 15 [some (.ref 219), some (.int (nI k)), some (.int (nI (ov_ B E k c + oc_ B E k c d))), some (.int (nI c)), some (.int (nI d))] [] μ out := by
    intro c hc out q n
    induction n with
    | zero =>
      intro d hd
      obtain rfl : d = c := by omega
      refine e_X12_over_15 ?_
      simp (disch := first | assumption | omega) only [Nat.le_refl, Option.some.injEq, Prod.mk.injEq, Value.int.injEq, exists_and_left, exists_eq_left', and_assoc, true_and, and_true, true_implies, false_implies, not_true_eq_false, not_false_eq_true, li_0, li_1, li_2, li_3, li_4, li_5, li_8, li_9, li_10, li_16, li_20, li_80, li_100, li_130, li_144, li_390, li_400, li_M, li_H, li_of, nI_add, pk_mul, cl_, vp_iff, nI_leI, nI_ltI, nI_eq, Nat.add_zero, Nat.zero_add, Nat.reduceEqDiff, Nat.reduceAdd, eq_self, reduceIte, Bool.false_eq_true, li_neg]
      exact q
    | succ n ih =>
      intro d hd
      have hd1 : ¬ c ≤ d := by omega
      have ih1 := ih (d + 1) (by omega)
      rw [oc_] at ih1
      have s1 := m_stretch (c := c) hk (by omega) hr
      have s2 := m_stretch (c := d) hk (by omega) hr
      have b1 := csg_bd (E := E) (c := c) (k - 1) 0
      have b2 := csg_bd (E := E) (c := d) (k - 1) 0
      refine e_X12_over_15 ?_
      by_cases e : csg_ E c (k - 1) 0 = csg_ E d (k - 1) 0
      · rw [if_pos e] at ih1
        rw [← e] at s2
        simp (disch := first | assumption | omega) only [hd1, s1, s2, Option.some.injEq, Prod.mk.injEq, Value.int.injEq, exists_and_left, exists_eq_left', and_assoc, true_and, and_true, true_implies, false_implies, not_true_eq_false, not_false_eq_true, li_0, li_1, li_2, li_3, li_4, li_5, li_8, li_9, li_10, li_16, li_20, li_80, li_100, li_130, li_144, li_390, li_400, li_M, li_H, li_of, nI_add, pk_mul, cl_, vp_iff, nI_leI, nI_ltI, nI_eq, Nat.add_zero, Nat.zero_add, Nat.reduceEqDiff, Nat.reduceAdd, eq_self, reduceIte, Bool.false_eq_true, li_neg]
        exact ih1
      · rw [if_neg e, ← Nat.add_assoc] at ih1
        simp (disch := first | assumption | omega) only [hd1, s1, s2, e, m_leanOf hx hc, Option.some.injEq, Prod.mk.injEq, Value.int.injEq, exists_and_left, exists_eq_left', and_assoc, true_and, and_true, true_implies, false_implies, not_true_eq_false, not_false_eq_true, li_0, li_1, li_2, li_3, li_4, li_5, li_8, li_9, li_10, li_16, li_20, li_80, li_100, li_130, li_144, li_390, li_400, li_M, li_H, li_of, nI_add, pk_mul, cl_, vp_iff, nI_leI, nI_ltI, nI_eq, Nat.add_zero, Nat.zero_add, Nat.reduceEqDiff, Nat.reduceAdd, eq_self, reduceIte, Bool.false_eq_true, li_neg]
        exact ih1
  have loop : ∀ n c, c + n = B 0 0 → Ev_ (P_X12_over KC) 4 [some (.ref 219), some (.int (nI k)), some (.int (nI (ov_ B E k c))), some (.int (nI c)), none] [] μ (some (.int (nI (ov_ B E k (B 0 0)))), μ) := by
    intro n
    induction n with
    | zero =>
      intro c hc
      obtain rfl : c = B 0 0 := by omega
      refine e_X12_over_4 ?_
      simp (disch := first | assumption | omega) only [m_chaps hx, Nat.le_refl, Option.some.injEq, Prod.mk.injEq, Value.int.injEq, exists_and_left, exists_eq_left', and_assoc, true_and, and_true, true_implies, false_implies, not_true_eq_false, not_false_eq_true, li_0, li_1, li_2, li_3, li_4, li_5, li_8, li_9, li_10, li_16, li_20, li_80, li_100, li_130, li_144, li_390, li_400, li_M, li_H, li_of, nI_add, pk_mul, cl_, vp_iff, nI_leI, nI_ltI, nI_eq, Nat.add_zero, Nat.zero_add, Nat.reduceEqDiff, Nat.reduceAdd, eq_self, reduceIte, Bool.false_eq_true, li_neg]
    | succ n ih =>
      intro c hc
      have hc1 : ¬ B 0 0 ≤ c := by omega
      have t := in_ c (by omega) _ (ih (c + 1) (by omega)) c 0 (by omega)
      rw [show oc_ B E k c 0 = 0 from rfl, Nat.add_zero] at t
      refine e_X12_over_4 ?_
      simp (disch := first | assumption | omega) only [m_chaps hx, hc1, Option.some.injEq, Prod.mk.injEq, Value.int.injEq, exists_and_left, exists_eq_left', and_assoc, true_and, and_true, true_implies, false_implies, not_true_eq_false, not_false_eq_true, li_0, li_1, li_2, li_3, li_4, li_5, li_8, li_9, li_10, li_16, li_20, li_80, li_100, li_130, li_144, li_390, li_400, li_M, li_H, li_of, nI_add, pk_mul, cl_, vp_iff, nI_leI, nI_ltI, nI_eq, Nat.add_zero, Nat.zero_add, Nat.reduceEqDiff, Nat.reduceAdd, eq_self, reduceIte, Bool.false_eq_true, li_neg]
      exact t
  exact z_X12_over (e_X12_over_0 (loop (B 0 0) 0 (by omega)))
theorem pE_lt {pre l : List Nat} {j : Nat} (h : j < pre.length) : pE_ (pre ++ l) j = pE_ pre j := by
  unfold pE_
  rw [List.getD_eq_getElem?_getD, List.getD_eq_getElem?_getD, List.getElem?_append_left h]
theorem pE_at {pre l : List Nat} {c : Nat} : pE_ (pre ++ c :: l) pre.length = c := by
  unfold pE_
  rw [List.getD_eq_getElem?_getD, List.getElem?_append_right (Nat.le_refl _)]
  simp
theorem sa_cg {E E' : Nat → Nat} {j : Nat} (h : ∀ i, i < j → E i = E' i) : sa_ E j = sa_ E' j := by
  unfold sa_
  split
  · rfl
  · rw [h (j - 1) (by omega)]
theorem wE_cg {E E' : Nat → Nat} : ∀ j, (∀ i, i < j → E i = E' i) → wE_ B E j = wE_ B E' j
  | 0, _ => rfl
  | j + 1, h => by rw [wE_, wE_, wE_cg j (fun i hi => h i (by omega)), sa_cg (fun i hi => h i (by omega)), h j (by omega)]
/-- what stands ahead: ends that grow, and what goes over them -/
def PRE_ (B : Nat → Nat → Nat) (pre : List Nat) (fr : Nat) : Prop := (∀ j, j < pre.length → sa_ (pE_ pre) j ≤ pE_ pre j) ∧ sa_ (pE_ pre) pre.length = fr ∧ fr ≤ B 0 0
theorem wE_le (hO : BO_ B) {E : Nat → Nat} : ∀ j, (∀ i, i < j → sa_ E i ≤ E i) → sa_ E j ≤ B 0 0 → wE_ B E j ≤ 10 * sa_ E j
  | 0, _, _ => Nat.zero_le _
  | j + 1, h, h2 => by
    have e : sa_ E (j + 1) = E j + 1 := if_neg (by omega)
    have h3 := h j (by omega)
    have ih := wE_le hO j (fun i hi => h i (by omega)) (by omega)
    have h16 := hO.1.1
    have : wg_ B (sa_ E j) (E j + 1 - sa_ E j) ≤ (E j + 1 - sa_ E j) * 10 := fb_sm_bound (fun i hi => Nat.le_trans (fb_pre _ (by omega)) ((hO.2.1 (sa_ E j + i) (by omega)).2.2.2.2.2))
    rw [wE_, e]
    omega
theorem PRE_snoc {pre : List Nat} {fr c : Nat} (h : PRE_ B pre fr) (hc : fr ≤ c) (hc2 : c < B 0 0) : PRE_ B (pre ++ [c]) (c + 1) ∧ wE_ B (pE_ (pre ++ [c])) (pre.length + 1) = wE_ B (pE_ pre) pre.length + wg_ B fr (c + 1 - fr) := by
  have e1 : ∀ i, i < pre.length → pE_ (pre ++ [c]) i = pE_ pre i := fun i hi => pE_lt hi
  have e2 : pE_ (pre ++ [c]) pre.length = c := pE_at
  have e3 : sa_ (pE_ (pre ++ [c])) pre.length = fr := by rw [sa_cg e1]; exact h.2.1
  refine ⟨⟨fun j hj => ?_, ?_, by omega⟩, ?_⟩
  · rw [List.length_append] at hj
    by_cases e : j = pre.length
    · rw [e, e3, e2]
      exact hc
    · have hj2 : j < pre.length := by simp at hj; omega
      rw [sa_cg (fun i hi => e1 i (by omega)), e1 j hj2]
      exact h.1 j hj2
  · rw [List.length_append]
    show sa_ (pE_ (pre ++ [c])) (pre.length + 1) = c + 1
    rw [show sa_ (pE_ (pre ++ [c])) (pre.length + 1) = pE_ (pre ++ [c]) pre.length + 1 from if_neg (by omega), e2]
  · rw [wE_, wE_cg _ e1, e3, e2]
theorem m_tryEnds (hO : BO_ B) (hk : 1 ≤ k ∧ k ≤ 9) (hP : 1 ≤ P ∧ P ≤ 999) : ∀ r d (pre : List Nat) fr s (μ : St_), pre.length + (r + 1) = k → r < d → PRE_ B pre fr → SM_ μ B P k s → (∀ j, j < pre.length → μ.1 237 j = nI (pE_ pre j)) → ∃ μ', f_X12_tryEnds KC d [.ref 219, .int (nI pre.length), .int (nI k), .int (nI fr)] μ = some (none, μ') ∧ SM_ μ' B P k (mg_ s (pm_ pre (wE_ B (pE_ pre) pre.length) (cu_ B P (r + 1) fr))) ∧ (∀ j, j < pre.length → μ'.1 237 j = nI (pE_ pre j)) ∧ SMF_ μ μ' := by
  have h16 := hO.1.1
  intro r
  induction r with
  | zero =>
    intro d pre fr s μ hl hd hp hs hr
    obtain ⟨d, rfl⟩ : ∃ d', d = d' + 1 := ⟨d - 1, by omega⟩
    have hi : pre.length = k - 1 := by omega
    have loop : ∀ n c len (s : CU_) (μ : St_), c + n = B 0 0 → fr ≤ c → len ≤ 999 → SM_ μ B P k s → (∀ j, j < pre.length → μ.1 237 j = nI (pE_ pre j)) → ∃ μ', Ev_ (P_X12_tryEnds KC (f_X12_tryEnds KC d)) 6 [some (.ref 219), some (.int (nI pre.length)), some (.int (nI k)), some (.int (nI fr)), some (.int (nI len)), some (.int (nI c)), none, none] [] μ (none, μ') ∧ SM_ μ' B P k (mg_ s (pm_ pre (wE_ B (pE_ pre) pre.length) (cuc_ B P (cu_ B P 0) fr n c len (wg_ B fr (c - fr))))) ∧ (∀ j, j < pre.length → μ'.1 237 j = nI (pE_ pre j)) ∧ SMF_ μ μ' := by
      intro n
      induction n with
      | zero =>
        intro c len s μ hc hfc hlen hs hr
        obtain rfl : c = B 0 0 := by omega
        refine ⟨μ, e_X12_tryEnds_6 ?_, hs, hr, fr_rf _ _, fun _ _ => rfl⟩
        simp (disch := first | assumption | omega) only [m_chaps hs.1.1, Nat.le_refl, Option.some.injEq, Prod.mk.injEq, Value.int.injEq, exists_and_left, exists_eq_left', and_assoc, true_and, and_true, true_implies, false_implies, not_true_eq_false, not_false_eq_true, li_0, li_1, li_2, li_3, li_4, li_5, li_8, li_9, li_10, li_16, li_20, li_80, li_100, li_130, li_144, li_390, li_400, li_M, li_H, li_of, nI_add, pk_mul, cl_, vp_iff, nI_leI, nI_ltI, nI_eq, Nat.add_zero, Nat.zero_add, Nat.reduceEqDiff, Nat.reduceAdd, eq_self, reduceIte, Bool.false_eq_true, li_neg]
      | succ n ih =>
        intro c len s μ hc hfc hlen hs hr
        have hx := hs.1.1
        have hc1 : ¬ B 0 0 ≤ c := by omega
        have hc2 : c < B 0 0 := by omega
        have hpg := BO_cc hO hc2
        have epg := m_chapOf (w := 0) hx hc2 (by omega)
        have hwg : wg_ B fr (c - fr) + fb_sm (B (16 + c)) fr = wg_ B fr (c + 1 - fr) := by
          unfold wg_
          rw [show c + 1 - fr = (c - fr) + 1 by omega, fb_sm_succ, show fr + (c - fr) = c by omega]
        rw [cuc_, hwg]
        by_cases hpp : len + B 1 c ≤ P
        · rw [if_neg (by omega), pm_mg, ← mg_ass, pm_mv]
          by_cases hlast : B 0 0 - 1 ≤ c
          · have hcl : c + 1 = B 0 0 := by omega
            -- all ends are there
            have hsn := PRE_snoc hp hfc hc2
            have hcu : cu_ B P 0 (c + 1) = some (0, []) := by rw [cu_, if_pos hcl]
            have hE237 : ∀ j, j < k → (sI_ μ 237 (k - 1) (nI c)).1 237 j = nI (pE_ (pre ++ [c]) j) ∧ pE_ (pre ++ [c]) j < 2 ^ 20 := by
              intro j hj
              rw [sI_at]
              by_cases e : j = k - 1
              · rw [if_pos ⟨rfl, e⟩, e, ← hi, pE_at]
                exact ⟨rfl, by omega⟩
              · rw [if_neg (fun z => e z.2), pE_lt (show j < pre.length by omega)]
                refine ⟨hr j (by omega), ?_⟩
                have hmono : ∀ m, j + m < pre.length → pE_ pre j ≤ pE_ pre (j + m) := by
                  intro m
                  induction m with
                  | zero => exact fun _ => Nat.le_refl _
                  | succ m ihm =>
                    intro hm
                    have h1 := ihm (by omega)
                    have h2 := hp.1 (j + (m + 1)) hm
                    unfold sa_ at h2
                    rw [if_neg (by omega), show j + (m + 1) - 1 = j + m by omega] at h2
                    omega
                have h1 := hmono (pre.length - 1 - j) (by omega)
                rw [show j + (pre.length - 1 - j) = pre.length - 1 by omega] at h1
                have h2 := hp.2.1
                unfold sa_ at h2
                rw [if_neg (by omega)] at h2
                omega
            have hx1 : RX_ (sI_ μ 237 (k - 1) (nI c)) B := RX_sI hx (by decide)
            have hov := m_over hx1 hk hE237
            have hval : ov_ B (pE_ (pre ++ [c])) k (B 0 0) = wE_ B (pE_ pre) pre.length + wg_ B fr (c + 1 - fr) := by
              have h1 := ov_eq (B := B) (k := k) (E := pE_ (pre ++ [c])) (fun i hi2 => hsn.1.1 i (by rw [List.length_append]; simp; omega)) k (Nat.le_refl _)
              have h2 := hsn.1.2.1
              rw [List.length_append, show pre.length + [c].length = k by simp; omega] at h2
              rw [h2, hcl] at h1
              rw [h1, ← hsn.2, show pre.length + 1 = k by omega]
            rw [hval] at hov
            have hbd : wE_ B (pE_ pre) pre.length + wg_ B fr (c + 1 - fr) ≤ 160 := by
              have h1 := wE_le hO (E := pE_ (pre ++ [c])) (pre.length + 1) (fun i hi2 => hsn.1.1 i (by rw [List.length_append]; simp; omega)) (by
                have h2 := hsn.1.2.1
                rw [List.length_append] at h2
                have h3 : sa_ (pE_ (pre ++ [c])) (pre.length + 1) = c + 1 := h2
                omega)
              have h2 := hsn.1.2.1
              rw [List.length_append] at h2
              have h3 : sa_ (pE_ (pre ++ [c])) (pre.length + 1) = c + 1 := h2
              rw [hsn.2, h3] at h1
              omega
            have hr1 : ∀ j, j < pre.length → (sI_ μ 237 (k - 1) (nI c)).1 237 j = nI (pE_ pre j) := fun j hj => by
              rw [sI_at, if_neg (by omega)]
              exact hr j hj
            -- the last is tried; then no more CHAPS
            have hnl : (pre ++ [c]).length = k := by rw [List.length_append]; simp; omega
            have keep : ∀ μ1 : St_, SM_ μ1 B P k none → True := fun _ _ => trivial
            have row : ∀ m j (μ4 : St_), j + m = k → (∀ i, i < k → μ4.1 237 i = nI (pE_ (pre ++ [c]) i)) → (∀ i, i < j → μ4.1 239 i = nI (pE_ (pre ++ [c]) i)) → ∃ μ5, (∀ out, Ev_ (P_X12_tryEnds KC (f_X12_tryEnds KC d)) 6 [some (.ref 219), some (.int (nI pre.length)), some (.int (nI k)), some (.int (nI fr)), some (.int (nI (len + B 1 c))), some (.int (nI (c + 1))), none, none] [] μ5 out → Ev_ (P_X12_tryEnds KC (f_X12_tryEnds KC d)) 144 [some (.ref 219), some (.int (nI pre.length)), some (.int (nI k)), some (.int (nI fr)), some (.int (nI (len + B 1 c))), some (.int (nI c)), none, some (.int (nI j))] [] μ4 out) ∧ (∀ i, i < k → μ5.1 239 i = nI (pE_ (pre ++ [c]) i)) ∧ fr_ [239] μ4 μ5 := by
              intro m
              induction m with
              | zero =>
                intro j μ4 hj a1 a2
                obtain rfl : j = k := by omega
                refine ⟨μ4, fun out q => e_X12_tryEnds_144 ?_, a2, fr_rf _ _⟩
                simp (disch := first | assumption | omega) only [Nat.le_refl, Option.some.injEq, Prod.mk.injEq, Value.int.injEq, exists_and_left, exists_eq_left', and_assoc, true_and, and_true, true_implies, false_implies, not_true_eq_false, not_false_eq_true, li_0, li_1, li_2, li_3, li_4, li_5, li_8, li_9, li_10, li_16, li_20, li_80, li_100, li_130, li_144, li_390, li_400, li_M, li_H, li_of, nI_add, pk_mul, cl_, vp_iff, nI_leI, nI_ltI, nI_eq, Nat.add_zero, Nat.zero_add, Nat.reduceEqDiff, Nat.reduceAdd, eq_self, reduceIte, Bool.false_eq_true, li_neg]
                exact q
              | succ m ihm =>
                intro j μ4 hj a1 a2
                have hj1 : ¬ k ≤ j := by omega
                obtain ⟨μ5, b1, b2, b3⟩ := ihm (j + 1) (sI_ μ4 239 j (nI (pE_ (pre ++ [c]) j))) (by omega) (fun i hi2 => by rw [sI_row _ _ _ _ (by decide)]; exact a1 i hi2) (fun i hi2 => by
                  rw [sI_at]
                  by_cases e : i = j
                  · rw [if_pos ⟨rfl, e⟩, e]
                  · rw [if_neg (fun z => e z.2)]
                    exact a2 i (by omega))
                refine ⟨μ5, fun out q => e_X12_tryEnds_144 ?_, b2, fr_tr (fr_sI (by simp)) b3⟩
                have b1' := b1 out q
                simp (disch := first | assumption | omega) only [hj1, a1 j (by omega), Option.some.injEq, Prod.mk.injEq, Value.int.injEq, exists_and_left, exists_eq_left', and_assoc, true_and, and_true, true_implies, false_implies, not_true_eq_false, not_false_eq_true, li_0, li_1, li_2, li_3, li_4, li_5, li_8, li_9, li_10, li_16, li_20, li_80, li_100, li_130, li_144, li_390, li_400, li_M, li_H, li_of, nI_add, pk_mul, cl_, vp_iff, nI_leI, nI_ltI, nI_eq, Nat.add_zero, Nat.zero_add, Nat.reduceEqDiff, Nat.reduceAdd, eq_self, reduceIte, Bool.false_eq_true, li_neg]
                (repeat' apply And.intro) <;> first | omega | rfl | assumption | exact b1'
            have n0 : n = 0 := by omega
            -- the end, where nothing is left
            have fin : ∀ (μ6 : St_), RX_ μ6 B → Ev_ (P_X12_tryEnds KC (f_X12_tryEnds KC d)) 6 [some (.ref 219), some (.int (nI pre.length)), some (.int (nI k)), some (.int (nI fr)), some (.int (nI (len + B 1 c))), some (.int (nI (c + 1))), none, none] [] μ6 (none, μ6) := fun μ6 h6 => by
              have hce : B 0 0 ≤ c + 1 := by omega
              refine e_X12_tryEnds_6 ?_
              simp (disch := first | assumption | omega) only [m_chaps h6, hce, Option.some.injEq, Prod.mk.injEq, Value.int.injEq, exists_and_left, exists_eq_left', and_assoc, true_and, and_true, true_implies, false_implies, not_true_eq_false, not_false_eq_true, li_0, li_1, li_2, li_3, li_4, li_5, li_8, li_9, li_10, li_16, li_20, li_80, li_100, li_130, li_144, li_390, li_400, li_M, li_H, li_of, nI_add, pk_mul, cl_, vp_iff, nI_leI, nI_ltI, nI_eq, Nat.add_zero, Nat.zero_add, Nat.reduceEqDiff, Nat.reduceAdd, eq_self, reduceIte, Bool.false_eq_true, li_neg]
            rw [hcu, n0]
            show ∃ μ', _ ∧ SM_ μ' B P k (mg_ (mg_ s (some (wE_ B (pE_ pre) pre.length + wg_ B fr (c + 1 - fr) + 0, pre ++ [c] ++ []))) none) ∧ _
            rw [Nat.add_zero, List.append_nil]
            show ∃ μ', _ ∧ SM_ μ' B P k (mg_ s (some (wE_ B (pE_ pre) pre.length + wg_ B fr (c + 1 - fr), pre ++ [c]))) ∧ _
            have hk1 : k - 1 ≤ k - 1 := Nat.le_refl _
            have upd : ∀ μ7 : St_, μ7 = sI_ (sI_ μ 237 (k - 1) (nI c)) 219 43 (nI (wE_ B (pE_ pre) pre.length + wg_ B fr (c + 1 - fr))) → ∃ μ', Ev_ (P_X12_tryEnds KC (f_X12_tryEnds KC d)) 144 [some (.ref 219), some (.int (nI pre.length)), some (.int (nI k)), some (.int (nI fr)), some (.int (nI (len + B 1 c))), some (.int (nI c)), none, some (.int (nI 0))] [] μ7 (none, μ') ∧ SM_ μ' B P k (some (wE_ B (pE_ pre) pre.length + wg_ B fr (c + 1 - fr), pre ++ [c])) ∧ (∀ j, j < pre.length → μ'.1 237 j = nI (pE_ pre j)) ∧ SMF_ μ μ' := by
              intro μ7 h7
              subst h7
              obtain ⟨μ5, b1, b2, b3⟩ := row k 0 (sI_ (sI_ μ 237 (k - 1) (nI c)) 219 43 (nI (wE_ B (pE_ pre) pre.length + wg_ B fr (c + 1 - fr)))) (by omega) (fun i hi2 => by rw [sI_row _ _ _ _ (by decide)]; exact (hE237 i hi2).1) (fun i hi2 => absurd hi2 (by omega))
              have hx5 : RX_ μ5 B := RX_fr (RX_sI hx1 (by decide)) b3 (by decide)
              refine ⟨μ5, b1 _ (fin μ5 hx5), ⟨⟨hx5, by rw [b3.1 219 (by decide), sI_at, if_neg (by decide), sI_row _ _ _ _ (by decide)]; exact hs.1.2⟩, hbd, by rw [b3.1 219 (by decide), sI_at, if_pos ⟨rfl, rfl⟩], hnl, b2⟩, fun j hj => by rw [b3.1 237 (by decide), sI_row _ _ _ _ (by decide)]; exact hr1 j hj, fr_tr (fr_sI (by simp)) (fr_tr (fr_sI (by simp)) (fr_mono b3 (by simp))), fun f hf => by rw [b3.1 219 (by decide), sI_at, if_neg (fun z => hf (by rw [z.2]; simp)), sI_row _ _ _ _ (by decide)]⟩
            have e43 : (sI_ μ 237 (k - 1) (nI c)).1 219 = μ.1 219 := sI_row _ _ _ _ (by decide)
            have h45 := hs.1.2
            cases hss : s with
            | none =>
              rw [hss] at hs
              have h43 : μ.1 219 43 = nM_ := hs.2
              obtain ⟨μ', u1, u2⟩ := upd _ rfl
              refine ⟨μ', e_X12_tryEnds_6 ?_, u2⟩
              have t78 : Ev_ (P_X12_tryEnds KC (f_X12_tryEnds KC d)) 78 [some (.ref 219), some (.int (nI pre.length)), some (.int (nI k)), some (.int (nI fr)), some (.int (nI (len + B 1 c))), some (.int (nI c)), none, none] [] μ (none, μ') := by
                refine e_X12_tryEnds_78 ?_
                rw [hi] at u1 hov ⊢
                simp (disch := first | assumption | omega) only [pk_sub, hk1, hov, e43, h43, Option.some.injEq, Prod.mk.injEq, Value.int.injEq, exists_and_left, exists_eq_left', and_assoc, true_and, and_true, true_implies, false_implies, not_true_eq_false, not_false_eq_true, li_0, li_1, li_2, li_3, li_4, li_5, li_8, li_9, li_10, li_16, li_20, li_80, li_100, li_130, li_144, li_390, li_400, li_M, li_H, li_of, nI_add, pk_mul, cl_, vp_iff, nI_leI, nI_ltI, nI_eq, Nat.add_zero, Nat.zero_add, Nat.reduceEqDiff, Nat.reduceAdd, eq_self, reduceIte, Bool.false_eq_true, li_neg]
                (repeat' apply And.intro) <;> first | omega | rfl | assumption | exact u1
              rw [hi] at t78 ⊢
              simp (disch := first | assumption | omega) only [m_chaps hx, hc1, epg, h45, hpp, pk_sub, hlast, Option.some.injEq, Prod.mk.injEq, Value.int.injEq, exists_and_left, exists_eq_left', and_assoc, true_and, and_true, true_implies, false_implies, not_true_eq_false, not_false_eq_true, li_0, li_1, li_2, li_3, li_4, li_5, li_8, li_9, li_10, li_16, li_20, li_80, li_100, li_130, li_144, li_390, li_400, li_M, li_H, li_of, nI_add, pk_mul, cl_, vp_iff, nI_leI, nI_ltI, nI_eq, Nat.add_zero, Nat.zero_add, Nat.reduceEqDiff, Nat.reduceAdd, eq_self, reduceIte, Bool.false_eq_true, li_neg]
              exact t78
            | some x =>
              obtain ⟨v0, l0⟩ := x
              rw [hss] at hs
              obtain ⟨v0b, h43, hl0, hrow⟩ := hs.2
              have hvn : ¬ nI v0 = nM_ := nI_m1 (by omega)
              by_cases hg : wE_ B (pE_ pre) pre.length + wg_ B fr (c + 1 - fr) < v0
              · obtain ⟨μ', u1, u2⟩ := upd _ rfl
                refine ⟨μ', e_X12_tryEnds_6 ?_, by
                  show SM_ μ' B P k (if wE_ B (pE_ pre) pre.length + wg_ B fr (c + 1 - fr) < v0 then some (wE_ B (pE_ pre) pre.length + wg_ B fr (c + 1 - fr), pre ++ [c]) else some (v0, l0)) ∧ _
                  rw [if_pos hg]
                  exact u2⟩
                have t78 : Ev_ (P_X12_tryEnds KC (f_X12_tryEnds KC d)) 78 [some (.ref 219), some (.int (nI pre.length)), some (.int (nI k)), some (.int (nI fr)), some (.int (nI (len + B 1 c))), some (.int (nI c)), none, none] [] μ (none, μ') := by
                  refine e_X12_tryEnds_78 ?_
                  rw [hi] at u1 hg hov ⊢
                  simp (disch := first | assumption | omega) only [pk_sub, hk1, hov, e43, h43, hvn, hg, Option.some.injEq, Prod.mk.injEq, Value.int.injEq, exists_and_left, exists_eq_left', and_assoc, true_and, and_true, true_implies, false_implies, not_true_eq_false, not_false_eq_true, li_0, li_1, li_2, li_3, li_4, li_5, li_8, li_9, li_10, li_16, li_20, li_80, li_100, li_130, li_144, li_390, li_400, li_M, li_H, li_of, nI_add, pk_mul, cl_, vp_iff, nI_leI, nI_ltI, nI_eq, Nat.add_zero, Nat.zero_add, Nat.reduceEqDiff, Nat.reduceAdd, eq_self, reduceIte, Bool.false_eq_true, li_neg]
                  (repeat' apply And.intro) <;> first | omega | rfl | assumption | exact u1
                rw [hi] at t78 ⊢
                simp (disch := first | assumption | omega) only [m_chaps hx, hc1, epg, h45, hpp, pk_sub, hlast, Option.some.injEq, Prod.mk.injEq, Value.int.injEq, exists_and_left, exists_eq_left', and_assoc, true_and, and_true, true_implies, false_implies, not_true_eq_false, not_false_eq_true, li_0, li_1, li_2, li_3, li_4, li_5, li_8, li_9, li_10, li_16, li_20, li_80, li_100, li_130, li_144, li_390, li_400, li_M, li_H, li_of, nI_add, pk_mul, cl_, vp_iff, nI_leI, nI_ltI, nI_eq, Nat.add_zero, Nat.zero_add, Nat.reduceEqDiff, Nat.reduceAdd, eq_self, reduceIte, Bool.false_eq_true, li_neg]
                exact t78
              · have f6 := fin (sI_ μ 237 (k - 1) (nI c)) hx1
                refine ⟨sI_ μ 237 (k - 1) (nI c), e_X12_tryEnds_6 ?_, by
                  show SM_ _ B P k (if wE_ B (pE_ pre) pre.length + wg_ B fr (c + 1 - fr) < v0 then some (wE_ B (pE_ pre) pre.length + wg_ B fr (c + 1 - fr), pre ++ [c]) else some (v0, l0))
                  rw [if_neg hg]
                  exact ⟨⟨hx1, by rw [e43]; exact h45⟩, v0b, by rw [e43]; exact h43, hl0, fun j hj => by rw [sI_row _ _ _ _ (by decide)]; exact hrow j hj⟩, hr1, fr_sI (by simp), fun f _ => by rw [e43]⟩
                have t78 : Ev_ (P_X12_tryEnds KC (f_X12_tryEnds KC d)) 78 [some (.ref 219), some (.int (nI pre.length)), some (.int (nI k)), some (.int (nI fr)), some (.int (nI (len + B 1 c))), some (.int (nI c)), none, none] [] μ (none, sI_ μ 237 (k - 1) (nI c)) := by
                  refine e_X12_tryEnds_78 ?_
                  rw [hi] at f6 hg hov hbd ⊢
                  simp (disch := first | assumption | omega) only [pk_sub, hk1, hov, e43, h43, hvn, hg, Option.some.injEq, Prod.mk.injEq, Value.int.injEq, exists_and_left, exists_eq_left', and_assoc, true_and, and_true, true_implies, false_implies, not_true_eq_false, not_false_eq_true, li_0, li_1, li_2, li_3, li_4, li_5, li_8, li_9, li_10, li_16, li_20, li_80, li_100, li_130, li_144, li_390, li_400, li_M, li_H, li_of, nI_add, pk_mul, cl_, vp_iff, nI_leI, nI_ltI, nI_eq, Nat.add_zero, Nat.zero_add, Nat.reduceEqDiff, Nat.reduceAdd, eq_self, reduceIte, Bool.false_eq_true, li_neg]
                  (repeat' apply And.intro) <;> first | omega | rfl | assumption | exact f6
                rw [hi] at t78 ⊢
                simp (disch := first | assumption | omega) only [m_chaps hx, hc1, epg, h45, hpp, pk_sub, hlast, Option.some.injEq, Prod.mk.injEq, Value.int.injEq, exists_and_left, exists_eq_left', and_assoc, true_and, and_true, true_implies, false_implies, not_true_eq_false, not_false_eq_true, li_0, li_1, li_2, li_3, li_4, li_5, li_8, li_9, li_10, li_16, li_20, li_80, li_100, li_130, li_144, li_390, li_400, li_M, li_H, li_of, nI_add, pk_mul, cl_, vp_iff, nI_leI, nI_ltI, nI_eq, Nat.add_zero, Nat.zero_add, Nat.reduceEqDiff, Nat.reduceAdd, eq_self, reduceIte, Bool.false_eq_true, li_neg]
                exact t78
          · have hcu : cu_ B P 0 (c + 1) = none := by rw [cu_, if_neg (by omega)]
            rw [hcu]
            show ∃ μ', _ ∧ SM_ μ' B P k (mg_ s _) ∧ _
            obtain ⟨μ', q1, q2⟩ := ih (c + 1) (len + B 1 c) s μ (by omega) (by omega) (by omega) hs hr
            refine ⟨μ', e_X12_tryEnds_6 ?_, q2⟩
            have h45 := hs.1.2
            rw [hi] at q1 ⊢
            simp (disch := first | assumption | omega) only [m_chaps hx, hc1, epg, h45, hpp, pk_sub, hlast, Option.some.injEq, Prod.mk.injEq, Value.int.injEq, exists_and_left, exists_eq_left', and_assoc, true_and, and_true, true_implies, false_implies, not_true_eq_false, not_false_eq_true, li_0, li_1, li_2, li_3, li_4, li_5, li_8, li_9, li_10, li_16, li_20, li_80, li_100, li_130, li_144, li_390, li_400, li_M, li_H, li_of, nI_add, pk_mul, cl_, vp_iff, nI_leI, nI_ltI, nI_eq, Nat.add_zero, Nat.zero_add, Nat.reduceEqDiff, Nat.reduceAdd, eq_self, reduceIte, Bool.false_eq_true, li_neg]
            exact q1
        · rw [if_pos (by omega)]
          refine ⟨μ, e_X12_tryEnds_6 ?_, hs, hr, fr_rf _ _, fun _ _ => rfl⟩
          have h45 := hs.1.2
          simp (disch := first | assumption | omega) only [m_chaps hx, hc1, epg, h45, hpp, Option.some.injEq, Prod.mk.injEq, Value.int.injEq, exists_and_left, exists_eq_left', and_assoc, true_and, and_true, true_implies, false_implies, not_true_eq_false, not_false_eq_true, li_0, li_1, li_2, li_3, li_4, li_5, li_8, li_9, li_10, li_16, li_20, li_80, li_100, li_130, li_144, li_390, li_400, li_M, li_H, li_of, nI_add, pk_mul, cl_, vp_iff, nI_leI, nI_ltI, nI_eq, Nat.add_zero, Nat.zero_add, Nat.reduceEqDiff, Nat.reduceAdd, eq_self, reduceIte, Bool.false_eq_true, li_neg]
    obtain ⟨μ', q1, q2⟩ := loop (B 0 0 - fr) fr 0 s μ (by have := hp.2.2; omega) (Nat.le_refl _) (by omega) hs hr
    rw [Nat.sub_self] at q2
    exact ⟨μ', z_X12_tryEnds (e_X12_tryEnds_0 q1), q2⟩
  | succ r ihr =>
    intro d pre fr s μ hl hd hp hs hr
    obtain ⟨d, rfl⟩ : ∃ d', d = d' + 1 := ⟨d - 1, by omega⟩
    have hik : ¬ pre.length = k - 1 := by omega
    have hik2 : ¬ k - 1 ≤ pre.length := by omega
    have loop : ∀ n c len (s : CU_) (μ : St_), c + n = B 0 0 → fr ≤ c → len ≤ 999 → SM_ μ B P k s → (∀ j, j < pre.length → μ.1 237 j = nI (pE_ pre j)) → ∃ μ', Ev_ (P_X12_tryEnds KC (f_X12_tryEnds KC d)) 6 [some (.ref 219), some (.int (nI pre.length)), some (.int (nI k)), some (.int (nI fr)), some (.int (nI len)), some (.int (nI c)), none, none] [] μ (none, μ') ∧ SM_ μ' B P k (mg_ s (pm_ pre (wE_ B (pE_ pre) pre.length) (cuc_ B P (cu_ B P (r + 1)) fr n c len (wg_ B fr (c - fr))))) ∧ (∀ j, j < pre.length → μ'.1 237 j = nI (pE_ pre j)) ∧ SMF_ μ μ' := by
      intro n
      induction n with
      | zero =>
        intro c len s μ hc hfc hlen hs hr
        obtain rfl : c = B 0 0 := by omega
        refine ⟨μ, e_X12_tryEnds_6 ?_, hs, hr, fr_rf _ _, fun _ _ => rfl⟩
        simp (disch := first | assumption | omega) only [m_chaps hs.1.1, Nat.le_refl, Option.some.injEq, Prod.mk.injEq, Value.int.injEq, exists_and_left, exists_eq_left', and_assoc, true_and, and_true, true_implies, false_implies, not_true_eq_false, not_false_eq_true, li_0, li_1, li_2, li_3, li_4, li_5, li_8, li_9, li_10, li_16, li_20, li_80, li_100, li_130, li_144, li_390, li_400, li_M, li_H, li_of, nI_add, pk_mul, cl_, vp_iff, nI_leI, nI_ltI, nI_eq, Nat.add_zero, Nat.zero_add, Nat.reduceEqDiff, Nat.reduceAdd, eq_self, reduceIte, Bool.false_eq_true, li_neg]
      | succ n ih =>
        intro c len s μ hc hfc hlen hs hr
        have hx := hs.1.1
        have h45 := hs.1.2
        have hc1 : ¬ B 0 0 ≤ c := by omega
        have hc2 : c < B 0 0 := by omega
        have hpg := BO_cc hO hc2
        have epg := m_chapOf (w := 0) hx hc2 (by omega)
        have hwg : wg_ B fr (c - fr) + fb_sm (B (16 + c)) fr = wg_ B fr (c + 1 - fr) := by
          unfold wg_
          rw [show c + 1 - fr = (c - fr) + 1 by omega, fb_sm_succ, show fr + (c - fr) = c by omega]
        rw [cuc_, hwg]
        by_cases hpp : len + B 1 c ≤ P
        · rw [if_neg (by omega), pm_mg, ← mg_ass, pm_mv]
          by_cases hroom : k - 1 - pre.length ≤ B 0 0 - 1 - c
          · have hsn := PRE_snoc hp hfc hc2
            have hnl : (pre ++ [c]).length = pre.length + 1 := by rw [List.length_append]; rfl
            have hs1 : SM_ (sI_ μ 237 pre.length (nI c)) B P k s := by
              refine ⟨⟨RX_sI hx (by decide), by rw [sI_row _ _ _ _ (by decide)]; exact h45⟩, ?_⟩
              cases s with
              | none =>
                show (sI_ μ 237 pre.length (nI c)).1 219 43 = nM_
                rw [sI_row _ _ _ _ (by decide)]
                exact hs.2
              | some x =>
                obtain ⟨v0, l0⟩ := x
                exact ⟨hs.2.1, by rw [sI_row _ _ _ _ (by decide)]; exact hs.2.2.1, hs.2.2.2.1, fun j hj => by rw [sI_row _ _ _ _ (by decide)]; exact hs.2.2.2.2 j hj⟩
            obtain ⟨μ2, g1, g2, g3, g4⟩ := ihr d (pre ++ [c]) (c + 1) s (sI_ μ 237 pre.length (nI c)) (by rw [hnl]; omega) (by omega) hsn.1 hs1 (fun j hj => by
              rw [hnl] at hj
              rw [sI_at]
              by_cases e : j = pre.length
              · rw [if_pos ⟨rfl, e⟩, e, pE_at]
              · rw [if_neg (fun z => e z.2), pE_lt (show j < pre.length by omega)]
                exact hr j (by omega))
            rw [hnl] at g1 g2 g3
            rw [hsn.2] at g2
            obtain ⟨μ', q1, q2, q3, q4⟩ := ih (c + 1) (len + B 1 c) _ μ2 (by omega) (by omega) (by omega) g2 (fun j hj => by
              rw [g3 j (by omega), pE_lt hj])
            refine ⟨μ', e_X12_tryEnds_6 ?_, q2, q3, SMF_tr ⟨fr_sI (by simp), fun f _ => by rw [sI_row _ _ _ _ (by decide)]⟩ (SMF_tr g4 q4)⟩
            have t78 : Ev_ (P_X12_tryEnds KC (f_X12_tryEnds KC d)) 78 [some (.ref 219), some (.int (nI pre.length)), some (.int (nI k)), some (.int (nI fr)), some (.int (nI (len + B 1 c))), some (.int (nI c)), none, none] [] μ (none, μ') := by
              refine e_X12_tryEnds_78 ?_
              simp (disch := first | assumption | omega) only [pk_sub, hik2, g1, Option.some.injEq, Prod.mk.injEq, Value.int.injEq, exists_and_left, exists_eq_left', and_assoc, true_and, and_true, true_implies, false_implies, not_true_eq_false, not_false_eq_true, li_0, li_1, li_2, li_3, li_4, li_5, li_8, li_9, li_10, li_16, li_20, li_80, li_100, li_130, li_144, li_390, li_400, li_M, li_H, li_of, nI_add, pk_mul, cl_, vp_iff, nI_leI, nI_ltI, nI_eq, Nat.add_zero, Nat.zero_add, Nat.reduceEqDiff, Nat.reduceAdd, eq_self, reduceIte, Bool.false_eq_true, li_neg]
              (repeat' apply And.intro) <;> first | omega | rfl | assumption | exact q1
            simp (disch := first | assumption | omega) only [m_chaps hx, hc1, epg, h45, hpp, pk_sub, hik, hroom, Option.some.injEq, Prod.mk.injEq, Value.int.injEq, exists_and_left, exists_eq_left', and_assoc, true_and, and_true, true_implies, false_implies, not_true_eq_false, not_false_eq_true, li_0, li_1, li_2, li_3, li_4, li_5, li_8, li_9, li_10, li_16, li_20, li_80, li_100, li_130, li_144, li_390, li_400, li_M, li_H, li_of, nI_add, pk_mul, cl_, vp_iff, nI_leI, nI_ltI, nI_eq, Nat.add_zero, Nat.zero_add, Nat.reduceEqDiff, Nat.reduceAdd, eq_self, reduceIte, Bool.false_eq_true, li_neg]
            exact t78
          · have hcu : cu_ B P (r + 1) (c + 1) = none := cu_few (r + 1) (c + 1) (by omega) (by omega)
            rw [hcu]
            show ∃ μ', _ ∧ SM_ μ' B P k (mg_ s _) ∧ _
            obtain ⟨μ', q1, q2⟩ := ih (c + 1) (len + B 1 c) s μ (by omega) (by omega) (by omega) hs hr
            refine ⟨μ', e_X12_tryEnds_6 ?_, q2⟩
            simp (disch := first | assumption | omega) only [m_chaps hx, hc1, epg, h45, hpp, pk_sub, hik, hroom, Option.some.injEq, Prod.mk.injEq, Value.int.injEq, exists_and_left, exists_eq_left', and_assoc, true_and, and_true, true_implies, false_implies, not_true_eq_false, not_false_eq_true, li_0, li_1, li_2, li_3, li_4, li_5, li_8, li_9, li_10, li_16, li_20, li_80, li_100, li_130, li_144, li_390, li_400, li_M, li_H, li_of, nI_add, pk_mul, cl_, vp_iff, nI_leI, nI_ltI, nI_eq, Nat.add_zero, Nat.zero_add, Nat.reduceEqDiff, Nat.reduceAdd, eq_self, reduceIte, Bool.false_eq_true, li_neg]
            exact q1
        · rw [if_pos (by omega)]
          refine ⟨μ, e_X12_tryEnds_6 ?_, hs, hr, fr_rf _ _, fun _ _ => rfl⟩
          simp (disch := first | assumption | omega) only [m_chaps hx, hc1, epg, h45, hpp, Option.some.injEq, Prod.mk.injEq, Value.int.injEq, exists_and_left, exists_eq_left', and_assoc, true_and, and_true, true_implies, false_implies, not_true_eq_false, not_false_eq_true, li_0, li_1, li_2, li_3, li_4, li_5, li_8, li_9, li_10, li_16, li_20, li_80, li_100, li_130, li_144, li_390, li_400, li_M, li_H, li_of, nI_add, pk_mul, cl_, vp_iff, nI_leI, nI_ltI, nI_eq, Nat.add_zero, Nat.zero_add, Nat.reduceEqDiff, Nat.reduceAdd, eq_self, reduceIte, Bool.false_eq_true, li_neg]
    obtain ⟨μ', q1, q2⟩ := loop (B 0 0 - fr) fr 0 s μ (by have := hp.2.2; omega) (Nat.le_refl _) (by omega) hs hr
    rw [Nat.sub_self] at q2
    exact ⟨μ', z_X12_tryEnds (e_X12_tryEnds_0 q1), q2⟩
end CM
