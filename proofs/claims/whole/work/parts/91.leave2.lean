/-! LEAVE: the class's tables; the reference -/
def qi_ (B : Nat → Nat → Nat) : Nat → Nat
  | 0 => 0
  | j + 1 => if B 4 (qi_ B j) < B 4 j then j else qi_ B j
theorem qi_lt {B : Nat → Nat → Nat} : ∀ j, qi_ B j < j ∨ (qi_ B j = 0)
  | 0 => .inr rfl
  | j + 1 => by
    have ih := qi_lt (B := B) j
    rw [qi_]
    split
    · exact .inl (Nat.lt_succ_self j)
    · omega
theorem qi_max {B : Nat → Nat → Nat} : ∀ j i, i < j → B 4 i ≤ B 4 (qi_ B j)
  | 0, i, h => absurd h (by omega)
  | j + 1, i, h => by
    have ih := qi_max (B := B) j i
    rw [qi_]
    split
    · rename_i h2
      by_cases e : i = j
      · rw [e]
        exact Nat.le_refl _
      · have := ih (by omega)
        omega
    · rename_i h2
      by_cases e : i = j
      · rw [e]
        omega
      · exact ih (by omega)
def qk_ (B : Nat → Nat → Nat) (c : Nat) : Nat → Nat
  | 0 => tR_ B 0 c
  | j + 1 => if tR_ B j c < qk_ B c j then tR_ B j c else qk_ B c j
section L2
variable {σ μ : St_} {b : Nat} {B : Nat → Nat → Nat}
theorem tR_anti (hO : BO_ B) {r q c : Nat} (hr : r < B 0 1) (hq : q < B 0 1) (h : B 4 r ≤ B 4 q) : tR_ B q c ≤ tR_ B r c := by
  have h1 := BO_rr hO hr
  have h2 := BO_rr hO hq
  unfold tR_
  have h3 : B 1 c ≤ B 4 r * ((B 1 c + B 4 r - 1) / B 4 r) := by
    have := Nat.div_add_mod (B 1 c + B 4 r - 1) (B 4 r)
    have h4 := Nat.mod_lt (B 1 c + B 4 r - 1) (show 0 < B 4 r by omega)
    omega
  have h5 : B 4 r * ((B 1 c + B 4 r - 1) / B 4 r) ≤ B 4 q * ((B 1 c + B 4 r - 1) / B 4 r) := Nat.mul_le_mul_right _ h
  generalize (B 1 c + B 4 r - 1) / B 4 r = z at *
  have h6 : (B 1 c + B 4 q - 1) < B 4 q * (z + 1) := by rw [Nat.mul_add]; omega
  have := (Nat.div_lt_iff_lt_mul (show 0 < B 4 q by omega)).2 (show B 1 c + B 4 q - 1 < (z + 1) * B 4 q by rw [Nat.mul_comm]; exact h6)
  omega
theorem qk_le {c : Nat} : ∀ j i, i < j → qk_ B c j ≤ tR_ B i c
  | 0, i, h => absurd h (by omega)
  | j + 1, i, h => by
    have ih := qk_le (c := c) j i
    rw [qk_]
    split
    · by_cases e : i = j
      · rw [e]
        exact Nat.le_refl _
      · have := ih (by omega)
        omega
    · by_cases e : i = j
      · rw [e]
        omega
      · exact ih (by omega)
theorem qk_ge {c v : Nat} : ∀ j, (∀ i, i < max 1 j → v ≤ tR_ B i c) → v ≤ qk_ B c j
  | 0, h => h 0 (by omega)
  | j + 1, h => by
    rw [qk_]
    split
    · exact h j (by omega)
    · exact qk_ge j (fun i hi => h i (by omega))
theorem qk_eq (hO : BO_ B) {c : Nat} (hR : 1 ≤ B 0 1) : qk_ B c (B 0 1) = tR_ B (qi_ B (B 0 1)) c := by
  have hq : qi_ B (B 0 1) < B 0 1 := by
    have := qi_lt (B := B) (B 0 1)
    omega
  refine Nat.le_antisymm (qk_le _ _ hq) (qk_ge _ (fun i hi => ?_))
  have hi1 : i < B 0 1 := by omega
  exact tR_anti hO hi1 hq (qi_max _ _ hi1)
def LU_ (σ σ' : St_) (b : Nat) (B : Nat → Nat → Nat) : Prop := CB_ σ' b B ∧ σ'.2.2 133 8 = some b ∧ GF_ [133, 137, 138] σ σ' ∧ NF2_ [0, 1, 9] 133 σ σ' ∧ ∀ f, f ≠ 8 → σ'.2.2 133 f = σ.2.2 133 f
theorem LU_fr {σ1 σ2 : St_} (hB : isB b) (hO : BO_ B) (h : LU_ σ σ1 b B) (hf : fr_ [133, 137, 138] σ1 σ2) (hn : NF2_ [0, 1, 9] 133 σ1 σ2) : LU_ σ σ2 b B := ⟨CB_row hB h.1 (fun o h5 h6 => hf.1 o (by unfold isB at hB; simp; omega)) hO, by rw [hf.2]; exact h.2.1, GF_tr h.2.2.1 (GF_fr hf (fun _ z => z)), NF2_tr h.2.2.2.1 hn, fun f hf2 => by rw [hf.2]; exact h.2.2.2.2 f hf2⟩
theorem LU_1 {σ1 : St_} (hB : isB b) (hO : BO_ B) (h : LU_ σ σ1 b B) {o i : Nat} {x : Int32} (ho : o = 137 ∨ o = 138) : LU_ σ (sI_ σ1 o i x) b B := LU_fr hB hO h (fr_sI (by simp; omega)) (fun f _ => by rw [sI_row _ _ _ _ (by omega)])
theorem LU_2 {σ1 : St_} (hB : isB b) (hO : BO_ B) (h : LU_ σ σ1 b B) {i : Nat} {x : Int32} (hi : i = 0 ∨ i = 1 ∨ i = 9) : LU_ σ (sI_ σ1 133 i x) b B := LU_fr hB hO h (fr_sI (by simp)) (fun f hf => by rw [sI_at, if_neg (fun z => hf (by rw [z.2]; simp; omega))])
theorem c_leave14 (hB : isB b) (hO : BO_ B) (hR : 1 ≤ B 0 1) : ∀ n r (σ1 : St_), r + n = B 0 1 → LU_ σ σ1 b B → σ1.1 133 9 = nI (fb_sm (B 7) r) → ∃ σ2, LU_ σ σ2 b B ∧ σ2.1 133 9 = nI (fb_sm (B 7) (B 0 1)) ∧ ∀ out, Ev_ (P_X1_leaveOut KC) 79 [some (.ref 133), some (.ref b), some (.int (nI (qi_ B (B 0 1)))), some (.int (nI 0)), none] [] (sI_ σ2 133 0 (nI 0)) out → Ev_ (P_X1_leaveOut KC) 14 [some (.ref 133), some (.ref b), some (.int (nI (qi_ B r))), some (.int (nI r)), none] [] σ1 out := by
  have bn := b_no hB
  have h9 := hO.1.2.1
  intro n
  induction n with
  | zero =>
    intro r σ1 hr h e9
    obtain rfl : r = B 0 1 := by omega
    refine ⟨σ1, h, e9, fun out q => e_X1_leaveOut_14 hB ?_⟩
    simp (disch := first | assumption | omega) only [h.2.1, hB, h.1.1.2.1, Nat.le_refl, Option.some.injEq, Prod.mk.injEq, Value.int.injEq, exists_and_left, exists_eq_left', and_assoc, true_and, and_true, true_implies, false_implies, not_true_eq_false, not_false_eq_true, li_0, li_1, li_2, li_3, li_4, li_5, li_8, li_9, li_10, li_16, li_20, li_80, li_100, li_130, li_144, li_390, li_400, li_M, li_H, li_of, nI_add, pk_mul, cl_, vp_iff, nI_leI, nI_ltI, nI_eq, Nat.add_zero, Nat.zero_add, Nat.reduceEqDiff, Nat.reduceAdd, eq_self, reduceIte, Bool.false_eq_true, li_neg]
    exact q
  | succ n ih =>
    intro r σ1 hr h e9
    have hr1 : ¬ B 0 1 ≤ r := by omega
    have hr2 : r < B 0 1 := by omega
    have hbr := BO_rr hO hr2
    have hq : qi_ B r < B 0 1 := by
      have := qi_lt (B := B) r
      omega
    have hbq := BO_rr hO hq
    have et := (h.1.2.2 r hr2).2.2.2.2.1
    have ep := (h.1.2.2 r hr2).2.1
    have eq := (h.1.2.2 (qi_ B r) hq).2.1
    have hs : fb_sm (B 7) r ≤ r * 240 := fb_sm_bound (fun i hi => by have := BO_rr hO (show i < B 0 1 by omega); omega)
    have hp133 : b + 23 ≠ 133 := by omega
    obtain ⟨σ2, q1, q2, q3⟩ := ih (r + 1) (sI_ σ1 133 9 (nI (fb_sm (B 7) r + B 7 r))) (by omega) (LU_2 hB hO h (by omega)) (by rw [sI_at, if_pos ⟨rfl, rfl⟩, fb_sm_succ])
    refine ⟨σ2, q1, q2, fun out q => e_X1_leaveOut_14 hB ?_⟩
    have q3' := q3 out q
    rw [qi_] at q3'
    by_cases e : B 4 (qi_ B r) < B 4 r
    · have e2 : ¬ B 4 r ≤ B 4 (qi_ B r) := by omega
      rw [if_pos e] at q3'
      simp (disch := first | assumption | omega) only [h.2.1, hB, h.1.1.2.1, hr1, e9, et, sI_row, hp133, ep, eq, e2, Option.some.injEq, Prod.mk.injEq, Value.int.injEq, exists_and_left, exists_eq_left', and_assoc, true_and, and_true, true_implies, false_implies, not_true_eq_false, not_false_eq_true, li_0, li_1, li_2, li_3, li_4, li_5, li_8, li_9, li_10, li_16, li_20, li_80, li_100, li_130, li_144, li_390, li_400, li_M, li_H, li_of, nI_add, pk_mul, cl_, vp_iff, nI_leI, nI_ltI, nI_eq, Nat.add_zero, Nat.zero_add, Nat.reduceEqDiff, Nat.reduceAdd, eq_self, reduceIte, Bool.false_eq_true, li_neg]
      (repeat' apply And.intro) <;> first | omega | rfl | assumption | exact q3'
    · have e2 : B 4 r ≤ B 4 (qi_ B r) := by omega
      rw [if_neg e] at q3'
      simp (disch := first | assumption | omega) only [h.2.1, hB, h.1.1.2.1, hr1, e9, et, sI_row, hp133, ep, eq, e2, Option.some.injEq, Prod.mk.injEq, Value.int.injEq, exists_and_left, exists_eq_left', and_assoc, true_and, and_true, true_implies, false_implies, not_true_eq_false, not_false_eq_true, li_0, li_1, li_2, li_3, li_4, li_5, li_8, li_9, li_10, li_16, li_20, li_80, li_100, li_130, li_144, li_390, li_400, li_M, li_H, li_of, nI_add, pk_mul, cl_, vp_iff, nI_leI, nI_ltI, nI_eq, Nat.add_zero, Nat.zero_add, Nat.reduceEqDiff, Nat.reduceAdd, eq_self, reduceIte, Bool.false_eq_true, li_neg]
      (repeat' apply And.intro) <;> first | omega | rfl | assumption | exact q3'
theorem c_leave133 (hB : isB b) (hO : BO_ B) {q c : Nat} (hc : c < B 0 0) : ∀ n d (σ1 : St_), d + n = c → LU_ σ σ1 b B → σ1.1 138 c = nI (nl_ B c d) → ∃ σ2, LU_ σ σ2 b B ∧ σ2.1 138 c = nI (nl_ B c c) ∧ fr_ [138] σ1 σ2 ∧ NF2_ [c] 138 σ1 σ2 ∧ ∀ out, Ev_ (P_X1_leaveOut KC) 79 [some (.ref 133), some (.ref b), some (.int (nI q)), some (.int (nI (c + 1))), none] [] σ2 out → Ev_ (P_X1_leaveOut KC) 133 [some (.ref 133), some (.ref b), some (.int (nI q)), some (.int (nI c)), some (.int (nI d))] [] σ1 out := by
  have bn := b_no hB
  have h16 := hO.1.1
  intro n
  induction n with
  | zero =>
    intro d σ1 hd h e
    obtain rfl : d = c := by omega
    refine ⟨σ1, h, e, fr_rf _ _, fun _ _ => rfl, fun out q => e_X1_leaveOut_133 hB ?_⟩
    simp (disch := first | assumption | omega) only [Nat.le_refl, Option.some.injEq, Prod.mk.injEq, Value.int.injEq, exists_and_left, exists_eq_left', and_assoc, true_and, and_true, true_implies, false_implies, not_true_eq_false, not_false_eq_true, li_0, li_1, li_2, li_3, li_4, li_5, li_8, li_9, li_10, li_16, li_20, li_80, li_100, li_130, li_144, li_390, li_400, li_M, li_H, li_of, nI_add, pk_mul, cl_, vp_iff, nI_leI, nI_ltI, nI_eq, Nat.add_zero, Nat.zero_add, Nat.reduceEqDiff, Nat.reduceAdd, eq_self, reduceIte, Bool.false_eq_true, li_neg]
    exact q
  | succ n ih =>
    intro d σ1 hd h e
    have hd1 : ¬ c ≤ d := by omega
    have hd2 : d < 16 := by omega
    have hc2 : c < 16 := by omega
    have el := (h.1.2.1 c hc).2.2.2.2 d hd2
    have hln := BO_ln hO hc hd2
    by_cases h5 : 5 ≤ B (16 + c) d
    · have h5' : ¬ B (16 + c) d < 5 := by omega
      obtain ⟨σ2, q1, q2, q3, q4, q5⟩ := ih (d + 1) (sI_ σ1 138 c (nI (nl_ B c d ||| 2 ^ d))) (by omega) (LU_1 hB hO h (by omega)) (by rw [sI_at, if_pos ⟨rfl, rfl⟩, nl_, if_pos h5])
      refine ⟨σ2, q1, q2, fr_tr (fr_sI (by simp)) q3, fun f hf => by rw [q4 f hf, sI_at, if_neg (fun z => hf (by rw [z.2]; simp))], fun out q => e_X1_leaveOut_133 hB ?_⟩
      have q5' := q5 out q
      simp (disch := first | assumption | omega) only [hd1, h.2.1, hB, el, h5', e, sh_1, fa_or, Option.some.injEq, Prod.mk.injEq, Value.int.injEq, exists_and_left, exists_eq_left', and_assoc, true_and, and_true, true_implies, false_implies, not_true_eq_false, not_false_eq_true, li_0, li_1, li_2, li_3, li_4, li_5, li_8, li_9, li_10, li_16, li_20, li_80, li_100, li_130, li_144, li_390, li_400, li_M, li_H, li_of, nI_add, pk_mul, cl_, vp_iff, nI_leI, nI_ltI, nI_eq, Nat.add_zero, Nat.zero_add, Nat.reduceEqDiff, Nat.reduceAdd, eq_self, reduceIte, Bool.false_eq_true, li_neg]
      (repeat' apply And.intro) <;> first | omega | rfl | assumption | exact q5'
    · have h5' : B (16 + c) d < 5 := by omega
      obtain ⟨σ2, q1, q2, q3, q4, q5⟩ := ih (d + 1) σ1 (by omega) h (by rw [nl_, if_neg h5]; exact e)
      refine ⟨σ2, q1, q2, q3, q4, fun out q => e_X1_leaveOut_133 hB ?_⟩
      have q5' := q5 out q
      simp (disch := first | assumption | omega) only [hd1, h.2.1, hB, el, h5', Option.some.injEq, Prod.mk.injEq, Value.int.injEq, exists_and_left, exists_eq_left', and_assoc, true_and, and_true, true_implies, false_implies, not_true_eq_false, not_false_eq_true, li_0, li_1, li_2, li_3, li_4, li_5, li_8, li_9, li_10, li_16, li_20, li_80, li_100, li_130, li_144, li_390, li_400, li_M, li_H, li_of, nI_add, pk_mul, cl_, vp_iff, nI_leI, nI_ltI, nI_eq, Nat.add_zero, Nat.zero_add, Nat.reduceEqDiff, Nat.reduceAdd, eq_self, reduceIte, Bool.false_eq_true, li_neg]
      (repeat' apply And.intro) <;> first | omega | rfl | assumption | exact q5'
theorem c_leave79 (hB : isB b) (hO : BO_ B) {q : Nat} (hq : q < B 0 1) : ∀ n c (σ1 : St_), c + n = B 0 0 → LU_ σ σ1 b B → σ1.1 133 0 = nI (fb_sm (B 2) c) → σ1.1 133 9 = nI (fb_sm (B 7) (B 0 1)) → (∀ d, d < c → σ1.1 137 d = nI (tR_ B q d) ∧ σ1.1 138 d = nI (nl_ B d d)) → ∃ σ2, LU_ σ σ2 b B ∧ σ2.1 133 0 = nI (tv9_ B (tR_ B q) (B 0 0) (fb_sm (B 7) (B 0 1)) 0 0 0 (fb_sm (B 2) (B 0 0) + 1, 0)).1 ∧ σ2.1 133 1 = nI (tv9_ B (tR_ B q) (B 0 0) (fb_sm (B 7) (B 0 1)) 0 0 0 (fb_sm (B 2) (B 0 0) + 1, 0)).2 ∧ Ev_ (P_X1_leaveOut KC) 79 [some (.ref 133), some (.ref b), some (.int (nI q)), some (.int (nI c)), none] [] σ1 (none, σ2) := by
  have bn := b_no hB
  have h16 := hO.1.1
  have h9 := hO.1.2.1
  intro n
  induction n with
  | zero =>
    intro c σ1 hc h e0 e9 hT
    obtain rfl : c = B 0 0 := by omega
    have hs : fb_sm (B 2) (B 0 0) ≤ B 0 0 * 999 := fb_sm_bound (fun i hi => (BO_cc hO hi).2.2.1)
    have hs7 : fb_sm (B 7) (B 0 1) ≤ B 0 1 * 240 := fb_sm_bound (fun i hi => by have := BO_rr hO hi; omega)
    have hL := LU_2 (i := 1) (x := nI 0) hB hO (LU_2 (i := 0) (x := nI (fb_sm (B 2) (B 0 0) + 1)) hB hO h (by omega)) (by omega)
    obtain ⟨σ', p1, p2, p3, p4, p5⟩ := c_tryLeaving (T := tR_ B q) hB hO (fun c hc => tR_lt hO hc hq) (B 0 0) 80 (fb_sm (B 7) (B 0 1)) 0 0 0 (fb_sm (B 2) (B 0 0) + 1, 0) (sI_ (sI_ σ1 133 0 (nI (fb_sm (B 2) (B 0 0) + 1))) 133 1 (nI 0)) (Nat.le_refl _) (by omega) (by omega) (by omega) (by omega) (by omega) (by show fb_sm (B 2) (B 0 0) + 1 < 2 ^ 20; omega) (by show 0 < 2 ^ 16; omega) ⟨hL.1, hL.2.1, fun c hc => by rw [sI_row _ _ _ _ (by decide), sI_row _ _ _ _ (by decide), sI_row _ _ _ _ (by decide), sI_row _ _ _ _ (by decide)]; exact hT c hc⟩ rfl rfl
    refine ⟨σ', LU_fr hB hO hL (fr_mono p4 (by simp)) (fun f hf => p5 f (fun z => hf (by simp at z ⊢; omega))), p2, p3, e_X1_leaveOut_79 hB ?_⟩
    have e11 : (sI_ (sI_ σ1 133 0 (nI (fb_sm (B 2) (B 0 0) + 1))) 133 1 (nI 0)).1 b 11 = nI (B 0 0) := hL.1.1.1
    have e9' : (sI_ (sI_ σ1 133 0 (nI (fb_sm (B 2) (B 0 0) + 1))) 133 1 (nI 0)).1 133 9 = nI (fb_sm (B 7) (B 0 1)) := by
      rw [sI_at, if_neg (by omega), sI_at, if_neg (by omega)]
      exact e9
    simp (disch := first | assumption | omega) only [h.2.1, hB, h.1.1.1, Nat.le_refl, e0, e11, e9', p1, Option.some.injEq, Prod.mk.injEq, Value.int.injEq, exists_and_left, exists_eq_left', and_assoc, true_and, and_true, true_implies, false_implies, not_true_eq_false, not_false_eq_true, li_0, li_1, li_2, li_3, li_4, li_5, li_8, li_9, li_10, li_16, li_20, li_80, li_100, li_130, li_144, li_390, li_400, li_M, li_H, li_of, nI_add, pk_mul, cl_, vp_iff, nI_leI, nI_ltI, nI_eq, Nat.add_zero, Nat.zero_add, Nat.reduceEqDiff, Nat.reduceAdd, eq_self, reduceIte, Bool.false_eq_true, li_neg]
  | succ n ih =>
    intro c σ1 hc h e0 e9 hT
    have hc1 : ¬ B 0 0 ≤ c := by omega
    have hc2 : c < B 0 0 := by omega
    have hc3 : c < 16 := by omega
    have hb := BO_cc hO hc2
    have hs : fb_sm (B 2) c ≤ c * 999 := fb_sm_bound (fun i hi => (BO_cc hO (show i < B 0 0 by omega)).2.2.1)
    have ew := (h.1.2.1 c hc2).2.2.1
    have h0 : LU_ σ (sI_ (sI_ (sI_ σ1 137 c (nI (tR_ B q c))) 133 0 (nI (fb_sm (B 2) c + B 2 c))) 138 c (nI 0)) b B := LU_1 hB hO (LU_2 hB hO (LU_1 hB hO h (by omega)) (by omega)) (by omega)
    obtain ⟨σ3, q1, q2, q3, q4, q5⟩ := c_leave133 (q := q) hB hO hc2 c 0 _ (by omega) h0 (by rw [sI_at, if_pos ⟨rfl, rfl⟩]; rfl)
    obtain ⟨σ2, p1, p2, p3, p4⟩ := ih (c + 1) σ3 (by omega) q1 (by rw [q3.1 133 (by decide), sI_row _ _ _ _ (by decide), sI_at, if_pos ⟨rfl, rfl⟩, fb_sm_succ]) (by rw [q3.1 133 (by decide), sI_row _ _ _ _ (by decide), sI_at, if_neg (by omega), sI_row _ _ _ _ (by decide)]; exact e9) (fun d hd => by
      rw [q3.1 137 (by decide), sI_row _ _ _ _ (by decide), sI_row _ _ _ _ (by decide), sI_at]
      by_cases e : d = c
      · rw [if_pos ⟨rfl, e⟩, e]
        exact ⟨rfl, q2⟩
      · rw [if_neg (fun z => e z.2), q4 d (by simp; exact e), sI_at, if_neg (fun z => e z.2), sI_row _ _ _ _ (by decide), sI_row _ _ _ _ (by decide)]
        exact hT d (by omega))
    refine ⟨σ2, p1, p2, p3, e_X1_leaveOut_79 hB ?_⟩
    have q5' := q5 _ p4
    have hp3 : b + 3 ≠ 137 := by omega
    simp (disch := first | assumption | omega) only [h.2.1, hB, h.1.1.1, hc1, c_readTime hB h.1 hO hq hc2, sI_2, sI_row, hp3, ew, e0, Option.some.injEq, Prod.mk.injEq, Value.int.injEq, exists_and_left, exists_eq_left', and_assoc, true_and, and_true, true_implies, false_implies, not_true_eq_false, not_false_eq_true, li_0, li_1, li_2, li_3, li_4, li_5, li_8, li_9, li_10, li_16, li_20, li_80, li_100, li_130, li_144, li_390, li_400, li_M, li_H, li_of, nI_add, pk_mul, cl_, vp_iff, nI_leI, nI_ltI, nI_eq, Nat.add_zero, Nat.zero_add, Nat.reduceEqDiff, Nat.reduceAdd, eq_self, reduceIte, Bool.false_eq_true, li_neg]
    (repeat' apply And.intro) <;> first | omega | rfl | assumption | exact q5'
theorem c_leaveOut (hB : isB b) (hO : BO_ B) (hR : 1 ≤ B 0 1) (hC : CB_ σ b B) : ∃ σ', f_X1_leaveOut KC [.ref 133, .ref b] σ = some (none, σ') ∧ LU_ σ σ' b B ∧ σ'.1 133 0 = nI (tv9_ B (tR_ B (qi_ B (B 0 1))) (B 0 0) (fb_sm (B 7) (B 0 1)) 0 0 0 (fb_sm (B 2) (B 0 0) + 1, 0)).1 ∧ σ'.1 133 1 = nI (tv9_ B (tR_ B (qi_ B (B 0 1))) (B 0 0) (fb_sm (B 7) (B 0 1)) 0 0 0 (fb_sm (B 2) (B 0 0) + 1, 0)).2 := by
  have bn := b_no hB
  have hq : qi_ B (B 0 1) < B 0 1 := by
    have := qi_lt (B := B) (B 0 1)
    omega
  have h0 : LU_ σ (sI_ (sR_ σ 133 8 (some b)) 133 9 (nI 0)) b B := by
    refine ⟨CB_row hB hC (fun o h5 h6 => by rw [sI_row _ _ _ _ (by omega), sR_1]) hO, by rw [sI_R, sR_at, if_pos ⟨rfl, rfl⟩], ⟨fun o ho => ⟨by rw [sI_row _ _ _ _ (fun z => ho (by rw [z]; simp)), sR_1], ?_⟩, rfl⟩, fun f hf => by rw [sI_at, if_neg (fun z => hf (by rw [z.2]; simp)), sR_1], fun f hf => by rw [sI_R, sR_at, if_neg (fun z => hf z.2)]⟩
    funext f
    rw [sI_R, sR_at, if_neg (fun z => ho (by rw [z.1]; simp))]
  obtain ⟨σ2, q1, q2, q3⟩ := c_leave14 hB hO hR (B 0 1) 0 _ (by omega) h0 (by rw [sI_at, if_pos ⟨rfl, rfl⟩]; rfl)
  obtain ⟨σ3, p1, p2, p3, p4⟩ := c_leave79 hB hO hq (B 0 0) 0 (sI_ σ2 133 0 (nI 0)) (by omega) (LU_2 hB hO q1 (by omega)) (by rw [sI_at, if_pos ⟨rfl, rfl⟩]; rfl) (by rw [sI_at, if_neg (by omega)]; exact q2) (fun d hd => absurd hd (by omega))
  exact ⟨σ3, z_X1_leaveOut (e_X1_leaveOut_0 hB (q3 _ p4)), p1, p2, p3⟩
end L2
