/-! literals as numbers; rows for walking a tree by simp -/
theorem li_0 : (0 : Int32) = nI 0 := rfl
theorem li_1 : (1 : Int32) = nI 1 := rfl
theorem li_2 : (2 : Int32) = nI 2 := rfl
theorem li_3 : (3 : Int32) = nI 3 := rfl
theorem li_4 : (4 : Int32) = nI 4 := rfl
theorem li_5 : (5 : Int32) = nI 5 := rfl
theorem li_8 : (8 : Int32) = nI 8 := rfl
theorem li_9 : (9 : Int32) = nI 9 := rfl
theorem li_10 : (10 : Int32) = nI 10 := rfl
theorem li_16 : (16 : Int32) = nI 16 := rfl
theorem li_20 : (20 : Int32) = nI 20 := rfl
theorem li_80 : (80 : Int32) = nI 80 := rfl
theorem li_100 : (100 : Int32) = nI 100 := rfl
theorem li_130 : (130 : Int32) = nI 130 := rfl
theorem li_144 : (144 : Int32) = nI 144 := rfl
theorem li_390 : (390 : Int32) = nI 390 := rfl
theorem li_400 : (400 : Int32) = nI 400 := rfl
theorem li_M : (1000000 : Int32) = nI 1000000 := rfl
theorem li_H : (500000 : Int32) = nI 500000 := rfl
def nM_ : Int32 := -1
theorem li_neg : -nI 1 = nM_ := by decide
theorem li_of (n : Nat) : Int32.ofNat n = nI n := rfl
theorem vp_iff {n N : Nat} (h : n < 2 ^ 31) (hN : N < 2 ^ 31) : (vpin_ (nI n) N = true) = (n < N) := by
  refine propext ⟨fun z => ?_, fun z => vpin_n z hN⟩
  have := vpin_lt z
  rwa [cl_ h] at this
/-! what reading and telling give. A state of all READERS: (QUARTERS left, READ, TOLD, PARTS that are KNOWN, 16 a READER) -/
abbrev K_ : Type := (Nat → Int32) × (Nat → Int32) × (Nat → Int32) × (Nat → Int32)
def ud_ {α : Type} (f : Nat → α) (i : Nat) (x : α) : Nat → α := fun j => if j = i then x else f j
def tR_ (B : Nat → Nat → Nat) (r c : Nat) : Nat := (B 1 c + B 4 r - 1) / B 4 r
def tT_ (B : Nat → Nat → Nat) (c f : Nat) : Nat := (B 1 c * f + 4 * B 0 2 - 1) / (4 * B 0 2)
def lkS_ (B : Nat → Nat → Nat) (p : Nat → Int32) (r c : Nat) : Nat → Int32
  | 0 => nI 0
  | d + 1 => lkS_ B p r c d + nI (B (16 + c) d) * (nI 1000000 - p (16 * r + d))
def lk_ (B : Nat → Nat → Nat) (p : Nat → Int32) (r c : Nat) : Int32 := lkS_ B p r c c / nI 10
def vR_ (B : Nat → Nat → Nat) (p : Nat → Int32) (r c : Nat) : Int32 := ((nI 1000000 - lk_ B p r c / nI 2) * (nI 10 - nI (B 8 r))) / nI 10
def oM_ (x y : Int32) : Int32 := Int64.toInt32 ((Int32.toInt64 x * Int32.toInt64 y) / (1000000 : Int64))
/-- a bit more -/
def ob_ (x : Int32) (c : Nat) : Int32 := x ||| (nI 1 <<< (nI c &&& 31))
/-- is there the bit? -/
def hb_ (x : Int32) (c : Nat) : Prop := (x >>> (nI c &&& 31)) &&& 1 = 1
theorem hb_0 (x : Int32) (c : Nat) : ((x >>> (nI c &&& 31)) &&& nI 1 = nI 0) = ¬ hb_ x c := by
  obtain ⟨j, h1, h2⟩ := pk_andE (x >>> (nI c &&& 31)) (m := 1) 1 (by decide)
  unfold hb_
  rw [show nI 1 = (1 : Int32) from rfl, h2, show (1 : Int32) = nI 1 from rfl, nI_eq (by omega) (by omega), nI_eq (by omega) (by omega)]
  exact propext (by omega)
theorem hb_1 (x : Int32) (c : Nat) : ((x >>> (nI c &&& 31)) &&& nI 1 = nI 1) = hb_ x c := rfl
def mx_ (x y : Int32) : Int32 := if x < y then y else x
/-- r READS c -/
def rdK_ (B : Nat → Nat → Nat) (k : K_) (r c : Nat) : K_ := (ud_ k.1 r (k.1 r - nI (tR_ B r c)), ud_ k.2.1 r (ob_ (k.2.1 r) c), k.2.2.1, ud_ k.2.2.2 (16 * r + c) (mx_ (k.2.2.2 (16 * r + c)) (vR_ B k.2.2.2 r c)))
/-- x PARTS that t, who has READ it or not (h), tells l with F f -/
def gv_ (B : Nat → Nat → Nat) (t l f : Nat) (x : Int32) : Int32 := ((((x * nI (B 5 t)) / nI 10) * nI f) / nI 4) * nI (B 6 l) / nI 10
def ga_ (B : Nat → Nat → Nat) (x : Int32) : Int32 := (x * nI (B 0 3)) / nI 10
noncomputable def gw_ (B : Nat → Nat → Nat) (k : K_) (t l c f : Nat) : Int32 := @ite _ (hb_ (k.2.1 t) c) (Classical.propDecidable _) (gv_ B t l f (k.2.2.2 (16 * t + c))) (ga_ B (gv_ B t l f (k.2.2.2 (16 * t + c))))
noncomputable def gtK_ (B : Nat → Nat → Nat) (k : K_) (t r c f : Nat) : K_ := (k.1, k.2.1, ud_ k.2.2.1 r (ob_ (k.2.2.1 r) c), ud_ k.2.2.2 (16 * r + c) (k.2.2.2 (16 * r + c) + oM_ (nI 1000000 - k.2.2.2 (16 * r + c)) (oM_ (gw_ B k t r c f) (nI 1000000 - lk_ B k.2.2.2 r c))))
def lfK_ (k : K_) (r T : Nat) : K_ := (ud_ k.1 r (k.1 r - nI T), k.2)
/-- the first n READERS listen -/
noncomputable def dsK_ (B : Nat → Nat → Nat) (t c f l : Nat) : Nat → K_ → K_
  | 0, k => k
  | n + 1, k => if l.testBit n then gtK_ B (lfK_ (dsK_ B t c f l n k) n (tT_ B c f)) t n c f else dsK_ B t c f l n k
noncomputable def doK_ (B : Nat → Nat → Nat) (k : K_) (t c f l : Nat) : K_ := if f = 0 then rdK_ B k t c else dsK_ B t c f l (B 0 1) (lfK_ k t (tT_ B c f))
/-- why it is WRONG -/
noncomputable def wr_ (B : Nat → Nat → Nat) (k : K_) (t c f l : Nat) : Nat :=
  if f = 0 then (if k.1 t < nI (tR_ B t c) then 1 else 0)
  else if k.1 t < nI (tT_ B c f) then 1
  else @ite _ (∃ r, r < B 0 1 ∧ l.testBit r = true ∧ k.1 r < nI (tT_ B c f)) (Classical.propDecidable _) 1 (if k.2.2.2 (16 * t + c) = nI 0 then 2 else 0)
def k0_ (B : Nat → Nat → Nat) : K_ := (fun r => nI (B 7 r), fun _ => nI 0, fun _ => nI 0, fun _ => nI 0)
/-- ACTS from i on, n at most -/
noncomputable def fo_ (B P : Nat → Nat → Nat) : Nat → Nat → K_ → K_ × Int32 × Int32
  | 0, _, k => (k, nM_, nI 0)
  | n + 1, i, k => if wr_ B k (P i 0) (P i 1) (P i 2) (P i 3) = 0 then fo_ B P n (i + 1) (doK_ B k (P i 0) (P i 1) (P i 2) (P i 3)) else (k, nI i, nI (wr_ B k (P i 0) (P i 1) (P i 2) (P i 3)))
def iaS_ (B : Nat → Nat → Nat) (k : K_) (r : Nat) : Nat → Int32
  | 0 => nI 0
  | c + 1 => iaS_ B k r c + oM_ (nI (B 2 c)) (k.2.2.2 (16 * r + c))
def ia_ (B : Nat → Nat → Nat) (k : K_) (r : Nat) : Int32 := iaS_ B k r (B 0 0)
def smK_ (B : Nat → Nat → Nat) (k : K_) : Nat → Int32
  | 0 => nI 0
  | r + 1 => smK_ B k r + ia_ B k r
/-- rows that hold a state -/
def AK_ (l rd td pt : Nat → Int32) (R : Nat) (k : K_) : Prop := (∀ r, r < R → l r = k.1 r ∧ rd r = k.2.1 r ∧ td r = k.2.2.1 r) ∧ ∀ i, i < 144 → pt i = k.2.2.2 i
/-! the reference's BOOK -/
def RX_ (μ : St_) (B : Nat → Nat → Nat) : Prop := MB_ μ 221 0 224 0 B ∧ BO_ B
theorem RX_fm {μ μ' : St_} {B : Nat → Nat → Nat} {S SJ : List Nat} (h : RX_ μ B) (hf : fm_ S SJ μ μ') (h1 : 221 ∉ S) (h2 : 224 ∉ SJ) : RX_ μ' B := ⟨MB_cg h.1 (fun i _ => by rw [hf.1 221 h1]) (fun i _ => by rw [hf.2.1 224 h2]), h.2⟩
theorem RX_fr {μ μ' : St_} {B : Nat → Nat → Nat} {S : List Nat} (h : RX_ μ B) (hf : fr_ S μ μ') (h1 : 221 ∉ S) : RX_ μ' B := RX_fm h (fr_fm (SJ := []) hf) h1 (by simp)
theorem RX_sI {μ : St_} {B : Nat → Nat → Nat} {o i : Nat} {x : Int32} (h : RX_ μ B) (h1 : 221 ≠ o) : RX_ (sI_ μ o i x) B := RX_fr (S := [o]) h (fr_sI (by simp)) (by simp; omega)
section RX
variable {μ : St_} {B : Nat → Nat → Nat} {c r d : Nat}
theorem BO_c (h : BO_ B) : B 0 0 ≤ 16 ∧ B 0 1 ≤ 9 := ⟨h.1.1, h.1.2.1⟩
theorem BO_cc (h : BO_ B) (hc : c < B 0 0) : 1 ≤ B 1 c ∧ B 1 c ≤ 999 ∧ B 2 c ≤ 999 ∧ B 3 c ≤ 1 := by
  obtain ⟨-, q, q3, q4, -⟩ := h.2.1 c hc
  exact ⟨q.1, q.2, q3, q4⟩
theorem BO_rr (h : BO_ B) (hr : r < B 0 1) : 1 ≤ B 4 r ∧ B 4 r ≤ 99 ∧ B 5 r ≤ 10 ∧ B 6 r ≤ 10 ∧ B 7 r ≤ 240 ∧ B 8 r ≤ 10 := by
  obtain ⟨-, q, q3, q4, q5, q6⟩ := h.2.2 r hr
  exact ⟨q.1, q.2, q3, q4, q5, q6⟩
theorem BO_ln (h : BO_ B) (hc : c < B 0 0) (hd : d < 16) : B (16 + c) d ≤ 10 := (h.2.1 c hc).2.2.2.2.1 d hd |>.1
theorem tR_lt (h : BO_ B) (hc : c < B 0 0) (hr : r < B 0 1) : tR_ B r c ≤ 999 := by
  have h1 := BO_cc h hc
  have h2 := BO_rr h hr
  unfold tR_
  refine Nat.div_le_of_le_mul ?_
  have : B 4 r * 999 ≥ 999 + (B 4 r - 1) := by
    obtain ⟨q, hq⟩ : ∃ q, B 4 r = q + 1 := ⟨B 4 r - 1, by omega⟩
    rw [hq, Nat.add_mul]
    omega
  omega
theorem tT_lt (h : BO_ B) (hc : c < B 0 0) {f : Nat} (hf : f ≤ 4) : tT_ B c f ≤ 1000 := by
  have h1 := BO_cc h hc
  have h2 := h.1.2.2.1
  unfold tT_
  refine Nat.div_le_of_le_mul ?_
  have h3 : B 1 c * f ≤ B 1 c * 4 := Nat.mul_le_mul_left _ hf
  have h4 : 4 * B 0 2 * 1000 = 4000 * B 0 2 := by omega
  omega
theorem m_chaps (h : RX_ μ B) : f_X12_chaps KC [.ref 219] μ = some (some (.int (nI (B 0 0))), μ) := z_X12_chaps (e_X12_chaps_0 ⟨by decide, by rw [show μ.1 221 (Int32.toNatClampNeg 0) = nI (B 0 0) from h.1.1.1]⟩)
theorem m_readers (h : RX_ μ B) : f_X12_readers KC [.ref 219] μ = some (some (.int (nI (B 0 1))), μ) := z_X12_readers (e_X12_readers_0 ⟨by decide, by rw [show μ.1 221 (Int32.toNatClampNeg 1) = nI (B 0 1) from h.1.1.2.1]⟩)
theorem m_speed (h : RX_ μ B) : μ.1 221 2 = nI (B 0 2) := h.1.1.2.2.1
theorem m_again (h : RX_ μ B) : μ.1 221 3 = nI (B 0 3) := h.1.1.2.2.2
theorem m_chapOf (h : RX_ μ B) (hc : c < B 0 0) {w : Nat} (hw : w < 3) : f_X12_chapOf KC [.ref 219, .int (nI c), .int (nI w)] μ = some (some (.int (nI (B (1 + w) c))), μ) := by
  have hb := BO_c h.2
  refine z_X12_chapOf (e_X12_chapOf_0 ?_)
  have e : μ.1 221 (10 + 4 * c + w) = nI (B (1 + w) c) := by
    obtain ⟨-, q1, q2, q3, -⟩ := h.1.2.1 c hc
    rw [Nat.zero_add] at q1 q2 q3
    rcases (show w = 0 ∨ w = 1 ∨ w = 2 by omega) with rfl | rfl | rfl
    · exact q1
    · exact q2
    · exact q3
  simp (disch := first | assumption | omega) only [e, Option.some.injEq, Prod.mk.injEq, Value.int.injEq, exists_and_left, exists_eq_left', and_assoc, true_and, and_true, true_implies, false_implies, not_true_eq_false, not_false_eq_true, li_0, li_1, li_2, li_3, li_4, li_5, li_8, li_9, li_10, li_16, li_20, li_80, li_100, li_130, li_144, li_390, li_400, li_M, li_H, li_of, nI_add, pk_mul, cl_, vp_iff, nI_leI, nI_ltI, nI_eq, Nat.add_zero, Nat.zero_add, Nat.reduceEqDiff, Nat.reduceAdd, eq_self, reduceIte, Bool.false_eq_true, li_neg]
  omega
theorem m_readerOf (h : RX_ μ B) (hr : r < B 0 1) {w : Nat} (hw : w < 5) : f_X12_readerOf KC [.ref 219, .int (nI r), .int (nI w)] μ = some (some (.int (nI (B (4 + w) r))), μ) := by
  have hb := BO_c h.2
  refine z_X12_readerOf (e_X12_readerOf_0 ?_)
  have e : μ.1 221 (80 + 5 * r + w) = nI (B (4 + w) r) := by
    obtain ⟨-, q1, q2, q3, q4, q5⟩ := h.1.2.2 r hr
    rw [Nat.zero_add] at q1 q2 q3 q4 q5
    rcases (show w = 0 ∨ w = 1 ∨ w = 2 ∨ w = 3 ∨ w = 4 by omega) with rfl | rfl | rfl | rfl | rfl
    · exact q1
    · exact q2
    · exact q3
    · exact q4
    · exact q5
  simp (disch := first | assumption | omega) only [e, Option.some.injEq, Prod.mk.injEq, Value.int.injEq, exists_and_left, exists_eq_left', and_assoc, true_and, and_true, true_implies, false_implies, not_true_eq_false, not_false_eq_true, li_0, li_1, li_2, li_3, li_4, li_5, li_8, li_9, li_10, li_16, li_20, li_80, li_100, li_130, li_144, li_390, li_400, li_M, li_H, li_of, nI_add, pk_mul, cl_, vp_iff, nI_leI, nI_ltI, nI_eq, Nat.add_zero, Nat.zero_add, Nat.reduceEqDiff, Nat.reduceAdd, eq_self, reduceIte, Bool.false_eq_true, li_neg]
  omega
theorem m_leanOf (h : RX_ μ B) (hc : c < B 0 0) (hd : d < 16) : f_X12_leanOf KC [.ref 219, .int (nI c), .int (nI d)] μ = some (some (.int (nI (B (16 + c) d))), μ) := by
  have hb := BO_c h.2
  refine z_X12_leanOf (e_X12_leanOf_0 ?_)
  have e : μ.1 221 (130 + 16 * c + d) = nI (B (16 + c) d) := by
    have q := (h.1.2.1 c hc).2.2.2.2 d hd
    rwa [Nat.zero_add] at q
  simp (disch := first | assumption | omega) only [e, Option.some.injEq, Prod.mk.injEq, Value.int.injEq, exists_and_left, exists_eq_left', and_assoc, true_and, and_true, true_implies, false_implies, not_true_eq_false, not_false_eq_true, li_0, li_1, li_2, li_3, li_4, li_5, li_8, li_9, li_10, li_16, li_20, li_80, li_100, li_130, li_144, li_390, li_400, li_M, li_H, li_of, nI_add, pk_mul, cl_, vp_iff, nI_leI, nI_ltI, nI_eq, Nat.add_zero, Nat.zero_add, Nat.reduceEqDiff, Nat.reduceAdd, eq_self, reduceIte, Bool.false_eq_true, li_neg]
  omega
theorem m_up {a b : Nat} (ha : a < 2 ^ 20) (hb : b < 2 ^ 20) (h : 1 ≤ b) (σ : St_) : f_X12_up KC [.int (nI a), .int (nI b)] σ = some (some (.int (nI ((a + b - 1) / b))), σ) := by
  refine z_X12_up (e_X12_up_0 ?_)
  rw [nI_add, show (1 : Int32) = nI 1 from rfl, pk_sub (by omega), pk_div (by omega) (by omega) (by omega)]
  exact ⟨nI_ne0 (by omega) (by omega), rfl⟩
theorem m_ttr (h : RX_ μ B) (hr : r < B 0 1) (hc : c < B 0 0) : f_X12_timeToRead KC [.ref 219, .int (nI r), .int (nI c)] μ = some (some (.int (nI (tR_ B r c))), μ) := by
  have h1 := BO_cc h.2 hc
  have h2 := BO_rr h.2 hr
  refine z_X12_timeToRead (e_X12_timeToRead_0 ?_)
  simp (disch := first | assumption | omega) only [m_chapOf h hc, m_readerOf h hr, m_up, Option.some.injEq, Prod.mk.injEq, Value.int.injEq, exists_and_left, exists_eq_left', and_assoc, true_and, and_true, true_implies, false_implies, not_true_eq_false, not_false_eq_true, li_0, li_1, li_2, li_3, li_4, li_5, li_8, li_9, li_10, li_16, li_20, li_80, li_100, li_130, li_144, li_390, li_400, li_M, li_H, li_of, nI_add, pk_mul, cl_, vp_iff, nI_leI, nI_ltI, nI_eq, Nat.add_zero, Nat.zero_add, Nat.reduceEqDiff, Nat.reduceAdd, eq_self, reduceIte, Bool.false_eq_true, li_neg]
  rfl
theorem m_ttt (h : RX_ μ B) (hc : c < B 0 0) {f : Nat} (hf : f ≤ 4) : f_X12_timeToTell KC [.ref 219, .int (nI c), .int (nI f)] μ = some (some (.int (nI (tT_ B c f))), μ) := by
  have h1 := BO_cc h.2 hc
  have h2 := h.2.1.2.2
  have h3 : B 1 c * f ≤ B 1 c * 4 := Nat.mul_le_mul_left _ hf
  refine z_X12_timeToTell (e_X12_timeToTell_0 ?_)
  simp (disch := first | assumption | omega) only [m_chapOf h hc, m_speed h, m_up, Option.some.injEq, Prod.mk.injEq, Value.int.injEq, exists_and_left, exists_eq_left', and_assoc, true_and, and_true, true_implies, false_implies, not_true_eq_false, not_false_eq_true, li_0, li_1, li_2, li_3, li_4, li_5, li_8, li_9, li_10, li_16, li_20, li_80, li_100, li_130, li_144, li_390, li_400, li_M, li_H, li_of, nI_add, pk_mul, cl_, vp_iff, nI_leI, nI_ltI, nI_eq, Nat.add_zero, Nat.zero_add, Nat.reduceEqDiff, Nat.reduceAdd, eq_self, reduceIte, Bool.false_eq_true, li_neg]
  (repeat' apply And.intro) <;> first | omega | rfl | assumption
theorem m_hasK (x : Int32) (c : Nat) (σ : St_) : f_X12_has KC [.int x, .int (nI c)] σ = some (some (.int (@ite _ (hb_ x c) (Classical.propDecidable _) (nI 1) (nI 0))), σ) := by
  refine z_X12_has (e_X12_has_0 ?_)
  by_cases hh : hb_ x c
  · simp (disch := first | assumption | omega) only [hb_1, hh, Option.some.injEq, Prod.mk.injEq, Value.int.injEq, exists_and_left, exists_eq_left', and_assoc, true_and, and_true, true_implies, false_implies, not_true_eq_false, not_false_eq_true, li_0, li_1, li_2, li_3, li_4, li_5, li_8, li_9, li_10, li_16, li_20, li_80, li_100, li_130, li_144, li_390, li_400, li_M, li_H, li_of, nI_add, pk_mul, cl_, vp_iff, nI_leI, nI_ltI, nI_eq, Nat.add_zero, Nat.zero_add, Nat.reduceEqDiff, Nat.reduceAdd, eq_self, reduceIte, Bool.false_eq_true, li_neg]
  · simp (disch := first | assumption | omega) only [hb_1, hh, Option.some.injEq, Prod.mk.injEq, Value.int.injEq, exists_and_left, exists_eq_left', and_assoc, true_and, and_true, true_implies, false_implies, not_true_eq_false, not_false_eq_true, li_0, li_1, li_2, li_3, li_4, li_5, li_8, li_9, li_10, li_16, li_20, li_80, li_100, li_130, li_144, li_390, li_400, li_M, li_H, li_of, nI_add, pk_mul, cl_, vp_iff, nI_leI, nI_ltI, nI_eq, Nat.add_zero, Nat.zero_add, Nat.reduceEqDiff, Nat.reduceAdd, eq_self, reduceIte, Bool.false_eq_true, li_neg]
end RX
