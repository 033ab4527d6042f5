/-! ASK -/
def pc_ (s : Nat) : Nat → Nat
  | 0 => 0
  | i + 1 => if s.testBit i = true then pc_ s i + 1 else pc_ s i
def un_ (q : Nat → Nat) (s : Nat) : Nat → Nat
  | 0 => 0
  | i + 1 => if s.testBit i = true then un_ q s i ||| q i else un_ q s i
def lc_ (s : Nat) : Nat := s &&& (s - 1)
def bc_ (x0 : Int32) : Int32 := ((((((((x0 - ((Int32.toUInt32 x0 >>> (Int32.toUInt32 (1 : Int32) &&& Int32.toUInt32 31)).toInt32 &&& (1431655765 : Int32))) &&& (858993459 : Int32)) + ((Int32.toUInt32 (x0 - ((Int32.toUInt32 x0 >>> (Int32.toUInt32 (1 : Int32) &&& Int32.toUInt32 31)).toInt32 &&& (1431655765 : Int32))) >>> (Int32.toUInt32 (2 : Int32) &&& Int32.toUInt32 31)).toInt32 &&& (858993459 : Int32))) + (Int32.toUInt32 (((x0 - ((Int32.toUInt32 x0 >>> (Int32.toUInt32 (1 : Int32) &&& Int32.toUInt32 31)).toInt32 &&& (1431655765 : Int32))) &&& (858993459 : Int32)) + ((Int32.toUInt32 (x0 - ((Int32.toUInt32 x0 >>> (Int32.toUInt32 (1 : Int32) &&& Int32.toUInt32 31)).toInt32 &&& (1431655765 : Int32))) >>> (Int32.toUInt32 (2 : Int32) &&& Int32.toUInt32 31)).toInt32 &&& (858993459 : Int32))) >>> (Int32.toUInt32 (4 : Int32) &&& Int32.toUInt32 31)).toInt32) &&& (252645135 : Int32)) + (Int32.toUInt32 (((((x0 - ((Int32.toUInt32 x0 >>> (Int32.toUInt32 (1 : Int32) &&& Int32.toUInt32 31)).toInt32 &&& (1431655765 : Int32))) &&& (858993459 : Int32)) + ((Int32.toUInt32 (x0 - ((Int32.toUInt32 x0 >>> (Int32.toUInt32 (1 : Int32) &&& Int32.toUInt32 31)).toInt32 &&& (1431655765 : Int32))) >>> (Int32.toUInt32 (2 : Int32) &&& Int32.toUInt32 31)).toInt32 &&& (858993459 : Int32))) + (Int32.toUInt32 (((x0 - ((Int32.toUInt32 x0 >>> (Int32.toUInt32 (1 : Int32) &&& Int32.toUInt32 31)).toInt32 &&& (1431655765 : Int32))) &&& (858993459 : Int32)) + ((Int32.toUInt32 (x0 - ((Int32.toUInt32 x0 >>> (Int32.toUInt32 (1 : Int32) &&& Int32.toUInt32 31)).toInt32 &&& (1431655765 : Int32))) >>> (Int32.toUInt32 (2 : Int32) &&& Int32.toUInt32 31)).toInt32 &&& (858993459 : Int32))) >>> (Int32.toUInt32 (4 : Int32) &&& Int32.toUInt32 31)).toInt32) &&& (252645135 : Int32)) >>> (Int32.toUInt32 (8 : Int32) &&& Int32.toUInt32 31)).toInt32) + (Int32.toUInt32 ((((((x0 - ((Int32.toUInt32 x0 >>> (Int32.toUInt32 (1 : Int32) &&& Int32.toUInt32 31)).toInt32 &&& (1431655765 : Int32))) &&& (858993459 : Int32)) + ((Int32.toUInt32 (x0 - ((Int32.toUInt32 x0 >>> (Int32.toUInt32 (1 : Int32) &&& Int32.toUInt32 31)).toInt32 &&& (1431655765 : Int32))) >>> (Int32.toUInt32 (2 : Int32) &&& Int32.toUInt32 31)).toInt32 &&& (858993459 : Int32))) + (Int32.toUInt32 (((x0 - ((Int32.toUInt32 x0 >>> (Int32.toUInt32 (1 : Int32) &&& Int32.toUInt32 31)).toInt32 &&& (1431655765 : Int32))) &&& (858993459 : Int32)) + ((Int32.toUInt32 (x0 - ((Int32.toUInt32 x0 >>> (Int32.toUInt32 (1 : Int32) &&& Int32.toUInt32 31)).toInt32 &&& (1431655765 : Int32))) >>> (Int32.toUInt32 (2 : Int32) &&& Int32.toUInt32 31)).toInt32 &&& (858993459 : Int32))) >>> (Int32.toUInt32 (4 : Int32) &&& Int32.toUInt32 31)).toInt32) &&& (252645135 : Int32)) + (Int32.toUInt32 (((((x0 - ((Int32.toUInt32 x0 >>> (Int32.toUInt32 (1 : Int32) &&& Int32.toUInt32 31)).toInt32 &&& (1431655765 : Int32))) &&& (858993459 : Int32)) + ((Int32.toUInt32 (x0 - ((Int32.toUInt32 x0 >>> (Int32.toUInt32 (1 : Int32) &&& Int32.toUInt32 31)).toInt32 &&& (1431655765 : Int32))) >>> (Int32.toUInt32 (2 : Int32) &&& Int32.toUInt32 31)).toInt32 &&& (858993459 : Int32))) + (Int32.toUInt32 (((x0 - ((Int32.toUInt32 x0 >>> (Int32.toUInt32 (1 : Int32) &&& Int32.toUInt32 31)).toInt32 &&& (1431655765 : Int32))) &&& (858993459 : Int32)) + ((Int32.toUInt32 (x0 - ((Int32.toUInt32 x0 >>> (Int32.toUInt32 (1 : Int32) &&& Int32.toUInt32 31)).toInt32 &&& (1431655765 : Int32))) >>> (Int32.toUInt32 (2 : Int32) &&& Int32.toUInt32 31)).toInt32 &&& (858993459 : Int32))) >>> (Int32.toUInt32 (4 : Int32) &&& Int32.toUInt32 31)).toInt32) &&& (252645135 : Int32)) >>> (Int32.toUInt32 (8 : Int32) &&& Int32.toUInt32 31)).toInt32) >>> (Int32.toUInt32 (16 : Int32) &&& Int32.toUInt32 31)).toInt32) &&& (63 : Int32))
theorem bc_eq : ∀ s : Fin 1024, bc_ (nI s.val) = nI (pc_ s.val 10) := by decide +kernel
theorem lc_eq : ∀ s : Fin 1024, s.val ≠ 0 → nI s.val &&& (nI s.val - nI 1) = nI (lc_ s.val) ∧ nI s.val &&& -nI s.val = nI (s.val - lc_ s.val) ∧ lc_ s.val ||| (s.val - lc_ s.val) = s.val ∧ lc_ s.val < s.val ∧ pc_ (lc_ s.val) 10 + 1 = pc_ s.val 10 := by decide +kernel
theorem lc_two : ∀ s : Fin 1024, s.val ≠ 0 → ∃ j : Fin 10, s.val - lc_ s.val = 2 ^ j.val := by decide +kernel
theorem pc_le : ∀ n s, pc_ s n ≤ n
  | 0, _ => Nat.le_refl _
  | n + 1, s => by
    have := pc_le n s
    rw [pc_]
    split <;> omega
theorem un_bit {q : Nat → Nat} {s j : Nat} : ∀ n, (un_ q s n).testBit j = true ↔ ∃ i, i < n ∧ s.testBit i = true ∧ (q i).testBit j = true
  | 0 => by
    rw [un_, Nat.zero_testBit]
    exact ⟨fun z => absurd z (by decide), fun ⟨i, h, _⟩ => absurd h (by omega)⟩
  | n + 1 => by
    have ih := un_bit (q := q) (s := s) (j := j) n
    rw [un_]
    split
    · rename_i h
      rw [Nat.testBit_or, Bool.or_eq_true, ih]
      constructor
      · rintro (⟨i, h1, h2⟩ | h3)
        · exact ⟨i, by omega, h2⟩
        · exact ⟨n, by omega, h, h3⟩
      · rintro ⟨i, h1, h2, h3⟩
        by_cases e : i = n
        · subst e
          exact .inr h3
        · exact .inl ⟨i, by omega, h2, h3⟩
    · rename_i h
      rw [ih]
      constructor
      · rintro ⟨i, h1, h2⟩
        exact ⟨i, by omega, h2⟩
      · rintro ⟨i, h1, h2, h3⟩
        by_cases e : i = n
        · subst e
          exact absurd h2 h
        · exact ⟨i, by omega, h2, h3⟩
theorem nat_ext {a c : Nat} (h : ∀ j, a.testBit j = true ↔ c.testBit j = true) : a = c := Nat.eq_of_testBit_eq fun j => Bool.eq_iff_iff.2 (h j)
theorem un_or {q : Nat → Nat} {a c n : Nat} : un_ q (a ||| c) n = un_ q a n ||| un_ q c n := nat_ext fun j => by
  rw [Nat.testBit_or, Bool.or_eq_true, un_bit, un_bit, un_bit]
  constructor
  · rintro ⟨i, h1, h2, h3⟩
    rw [Nat.testBit_or, Bool.or_eq_true] at h2
    exact h2.elim (fun z => .inl ⟨i, h1, z, h3⟩) (fun z => .inr ⟨i, h1, z, h3⟩)
  · rintro (⟨i, h1, h2, h3⟩ | ⟨i, h1, h2, h3⟩)
    · exact ⟨i, h1, by rw [Nat.testBit_or, h2]; rfl, h3⟩
    · exact ⟨i, h1, by rw [Nat.testBit_or, h2, Bool.or_true], h3⟩
theorem un_two {q : Nat → Nat} {i n : Nat} (hi : i < n) : un_ q (2 ^ i) n = q i := nat_ext fun j => by
  rw [un_bit]
  constructor
  · rintro ⟨k, h1, h2, h3⟩
    rw [Nat.testBit_two_pow] at h2
    rw [of_decide_eq_true h2]
    exact h3
  · exact fun h => ⟨i, hi, by rw [Nat.testBit_two_pow]; exact decide_eq_true rfl, h⟩
theorem un_lt {q : Nat → Nat} {s : Nat} : ∀ n, (∀ i, i < n → q i < 2 ^ 16) → un_ q s n < 2 ^ 16
  | 0, _ => by rw [un_]; decide
  | n + 1, h => by
    have ih := un_lt (s := s) n (fun i hi => h i (by omega))
    rw [un_]
    split
    · exact Nat.or_lt_two_pow ih (h n (by omega))
    · exact ih
theorem pc_cap {s N : Nat} (hs : s < 2 ^ N) : ∀ n, pc_ s (N + n) = pc_ s N
  | 0 => rfl
  | n + 1 => by
    have h1 : 2 ^ N ≤ 2 ^ (N + n) := Nat.pow_le_pow_right (by omega) (by omega)
    rw [show N + (n + 1) = N + n + 1 by omega, pc_, Nat.testBit_lt_two_pow (show s < 2 ^ (N + n) by omega), if_neg Bool.false_ne_true, pc_cap hs n]
def ak_ (lk : Int32) (q : Nat → Nat) (N : Nat) : Nat → Option (Nat × Nat)
  | 0 => none
  | s + 1 => if lk &&& (nI (un_ q s N) ^^^ nM_) = nI 0 then (match ak_ lk q N s with
      | none => some (pc_ s 10, s)
      | some (v, p) => if pc_ s 10 < v then some (pc_ s 10, s) else some (v, p)) else ak_ lk q N s
theorem ak_lt {lk : Int32} {q : Nat → Nat} {N : Nat} : ∀ s v p, ak_ lk q N s = some (v, p) → v = pc_ p 10 ∧ p < s
  | 0, v, p, h => by
    rw [ak_] at h
    cases h
  | s + 1, v, p, h => by
    have ih := ak_lt (lk := lk) (q := q) (N := N) s
    rw [ak_] at h
    split at h
    · split at h
      · cases h
        exact ⟨rfl, Nat.lt_succ_self s⟩
      · rename_i v' p' hm
        have := ih v' p' hm
        split at h
        · cases h
          exact ⟨rfl, Nat.lt_succ_self s⟩
        · cases h
          exact ⟨this.1, by omega⟩
    · have := ih v p h
      exact ⟨this.1, by omega⟩
section AQ
variable {σ μ : St_} {B : Nat → Nat → Nat} {t : Nat → Nat}
theorem c_bitCount {s : Nat} (hs : s < 1024) : f_J6_bitCount_0f7a4 KC [.int (nI s)] σ = some (some (.int (nI (pc_ s 10))), σ) := by
  refine z_J6_bitCount_0f7a4 (e_J6_bitCount_0f7a4_0 ?_)
  rw [← bc_eq ⟨s, hs⟩]
  rfl
theorem m_bits {s : Nat} (hs : s < 1024) : f_X12_bits KC [.int (nI s)] μ = some (some (.int (nI (pc_ s 10))), μ) := by
  have loop : ∀ n k x, x < n → x < 1024 → k + pc_ x 10 = pc_ s 10 → Ev_ (P_X12_bits KC) 4 [some (.int (nI s)), some (.int (nI k)), some (.int (nI x))] [] μ (some (.int (nI (pc_ s 10))), μ) := by
    intro n
    induction n with
    | zero => exact fun k x hx => absurd hx (by omega)
    | succ n ih =>
      intro k x hx hx2 hk
      have hb := pc_le 10 s
      refine e_X12_bits_4 ?_
      by_cases e : x = 0
      · subst e
        have e2 : k = pc_ s 10 := by rw [← hk]; rfl
        subst e2
        simp (disch := first | assumption | omega) only [Option.some.injEq, Prod.mk.injEq, Value.int.injEq, exists_and_left, exists_eq_left', and_assoc, true_and, and_true, true_implies, false_implies, not_true_eq_false, not_false_eq_true, li_0, li_1, li_2, li_3, li_4, li_5, li_8, li_9, li_10, li_16, li_20, li_80, li_100, li_130, li_144, li_390, li_400, li_M, li_H, li_of, nI_add, pk_mul, cl_, vp_iff, nI_leI, nI_ltI, nI_eq, Nat.add_zero, Nat.zero_add, Nat.reduceEqDiff, Nat.reduceAdd, eq_self, reduceIte, Bool.false_eq_true, li_neg]
      · obtain ⟨h1, h2, h3, h4, h5⟩ := lc_eq ⟨x, hx2⟩ e
        have ih1 := ih (k + 1) (lc_ x) (by show lc_ x < n; have : lc_ x < x := h4; omega) (by have : lc_ x < x := h4; omega) (by have : pc_ (lc_ x) 10 + 1 = pc_ x 10 := h5; omega)
        have h1' : nI x &&& (nI x - nI 1) = nI (lc_ x) := h1
        simp (disch := first | assumption | omega) only [e, h1', Option.some.injEq, Prod.mk.injEq, Value.int.injEq, exists_and_left, exists_eq_left', and_assoc, true_and, and_true, true_implies, false_implies, not_true_eq_false, not_false_eq_true, li_0, li_1, li_2, li_3, li_4, li_5, li_8, li_9, li_10, li_16, li_20, li_80, li_100, li_130, li_144, li_390, li_400, li_M, li_H, li_of, nI_add, pk_mul, cl_, vp_iff, nI_leI, nI_ltI, nI_eq, Nat.add_zero, Nat.zero_add, Nat.reduceEqDiff, Nat.reduceAdd, eq_self, reduceIte, Bool.false_eq_true, li_neg]
        exact ih1
  exact z_X12_bits (e_X12_bits_0 (loop 1024 0 s hs hs (by omega)))
theorem shl8_ : ∀ c : Fin 256, nI c.val <<< (nI 8 &&& 31) = nI (2 ^ 8 * c.val) := by decide +kernel
theorem sr_n {x i : Nat} (hx : x < 2 ^ 31) (hi : i < 31) : nI x >>> (nI i &&& 31) = nI (x / 2 ^ i) := by
  have hs : (Int32.toBitVec (nI i &&& 31)).smod 32 = BitVec.ofNat 32 i := by
    have : ∀ j : Fin 31, (Int32.toBitVec (nI j.val &&& 31)).smod 32 = BitVec.ofNat 32 j.val := by decide +kernel
    exact this ⟨i, hi⟩
  exact pk_shrN hx (nI i &&& 31) i (by rw [hs, BitVec.toNat_ofNat, Nat.mod_eq_of_lt (by omega)])
def aq_ (t : Nat → Nat) (i : Nat) : Nat := 256 * t (2 * i) + t (2 * i + 1)
theorem two_inj {i j : Nat} (h : 2 ^ i = 2 ^ j) : i = j := (Nat.pow_right_inj (by decide)).1 h
theorem c_readQuestions (hT : ∀ i, σ.1 2 i = b8_ (t i)) (ht : ∀ i, t i < 256) {N n : Nat} (hN : N ≤ 520) (hn : n ≤ 16) : ∃ σ', f_X1_readQuestions KC [.ref 133, .ref 1, .int (nI N), .int (nI n)] σ = some (some (.int (@ite _ (1 ≤ N ∧ N ≤ 10 ∧ ∀ i, i < N → aq_ t i < 2 ^ n) (Classical.propDecidable _) (nI 1) (nI 0))), σ') ∧ fr_ [136] σ σ' ∧ ((1 ≤ N ∧ N ≤ 10 ∧ ∀ i, i < N → aq_ t i < 2 ^ n) → ∀ i, i < N → σ'.1 136 (2 ^ i) = nI (aq_ t i)) := by
  by_cases h1 : 1 ≤ N
  · by_cases h2 : N ≤ 10
    · have loop : ∀ m i (σ1 : St_), i + m = N → fr_ [136] σ σ1 → (∀ j, j < i → aq_ t j < 2 ^ n ∧ σ1.1 136 (2 ^ j) = nI (aq_ t j)) → ∃ σ', Ev_ (P_X1_readQuestions KC) 16 [some (.ref 133), some (.ref 1), some (.int (nI N)), some (.int (nI n)), some (.int (nI i)), none] [] σ1 (some (.int (@ite _ (1 ≤ N ∧ N ≤ 10 ∧ ∀ i, i < N → aq_ t i < 2 ^ n) (Classical.propDecidable _) (nI 1) (nI 0))), σ') ∧ fr_ [136] σ σ' ∧ ((1 ≤ N ∧ N ≤ 10 ∧ ∀ i, i < N → aq_ t i < 2 ^ n) → ∀ i, i < N → σ'.1 136 (2 ^ i) = nI (aq_ t i)) := by
        intro m
        induction m with
        | zero =>
          intro i σ1 hi hf h
          obtain rfl : i = N := by omega
          rw [if_pos ⟨h1, h2, fun j hj => (h j hj).1⟩]
          refine ⟨σ1, e_X1_readQuestions_16 ?_, hf, fun _ j hj => (h j hj).2⟩
          simp (disch := first | assumption | omega) only [Nat.le_refl, Option.some.injEq, Prod.mk.injEq, Value.int.injEq, exists_and_left, exists_eq_left', and_assoc, true_and, and_true, true_implies, false_implies, not_true_eq_false, not_false_eq_true, li_0, li_1, li_2, li_3, li_4, li_5, li_8, li_9, li_10, li_16, li_20, li_80, li_100, li_130, li_144, li_390, li_400, li_M, li_H, li_of, nI_add, pk_mul, cl_, vp_iff, nI_leI, nI_ltI, nI_eq, Nat.add_zero, Nat.zero_add, Nat.reduceEqDiff, Nat.reduceAdd, eq_self, reduceIte, Bool.false_eq_true, li_neg]
        | succ m ih =>
          intro i σ1 hi hf h
          have hi1 : ¬ N ≤ i := by omega
          have hi2 : i < N := by omega
          have hi31 : i < 31 := by omega
          have hT1 : ∀ i, σ1.1 2 i = b8_ (t i) := fun i => by rw [hf.1 2 (by decide)]; exact hT i
          have b1 := c_byteAt hT1 ht (show 2 * i < 1040 by omega)
          have b2 := c_byteAt hT1 ht (show 2 * i + 1 < 1040 by omega)
          have s1 : nI (t (2 * i)) <<< (nI 8 &&& 31) = nI (2 ^ 8 * t (2 * i)) := shl8_ ⟨t (2 * i), ht _⟩
          have t1 := ht (2 * i)
          have t2 := ht (2 * i + 1)
          have s2 : nI (2 ^ 8 * t (2 * i)) ||| nI (t (2 * i + 1)) = nI (aq_ t i) := fa_or_sum (k := 8) _ (by omega)
          have hq : aq_ t i < 2 ^ 16 := by unfold aq_; omega
          have s3 := sr_n (x := aq_ t i) (i := n) (by omega) (by omega)
          have hd := Nat.div_le_self (aq_ t i) (2 ^ n)
          have hp10 : 2 ^ i ≤ 2 ^ 9 := Nat.pow_le_pow_right (by omega) (by omega)
          have hpl : 2 ^ i < 1024 := by omega
          by_cases e : aq_ t i < 2 ^ n
          · have e0 : aq_ t i / 2 ^ n = 0 := Nat.div_eq_of_lt e
            obtain ⟨σ', q1, q2, q3⟩ := ih (i + 1) (sI_ σ1 136 (2 ^ i) (nI (aq_ t i))) (by omega) (fr_tr hf (fr_sI (by simp))) (fun j hj => by
              rw [sI_at]
              by_cases ej : j = i
              · rw [ej, if_pos ⟨rfl, rfl⟩]
                exact ⟨e, rfl⟩
              · rw [if_neg (fun z => ej (two_inj z.2))]
                exact h j (by omega))
            refine ⟨σ', e_X1_readQuestions_16 ?_, q2, q3⟩
            simp (disch := first | assumption | omega) only [hi1, b1, b2, s1, s2, s3, e0, sh_1, Option.some.injEq, Prod.mk.injEq, Value.int.injEq, exists_and_left, exists_eq_left', and_assoc, true_and, and_true, true_implies, false_implies, not_true_eq_false, not_false_eq_true, li_0, li_1, li_2, li_3, li_4, li_5, li_8, li_9, li_10, li_16, li_20, li_80, li_100, li_130, li_144, li_390, li_400, li_M, li_H, li_of, nI_add, pk_mul, cl_, vp_iff, nI_leI, nI_ltI, nI_eq, Nat.add_zero, Nat.zero_add, Nat.reduceEqDiff, Nat.reduceAdd, eq_self, reduceIte, Bool.false_eq_true, li_neg]
            (repeat' apply And.intro) <;> first | omega | rfl | assumption | exact q1
          · have e0 : ¬ aq_ t i / 2 ^ n = 0 := fun z => by
              have := (Nat.div_eq_zero_iff.1 z)
              have := Nat.two_pow_pos n
              omega
            rw [if_neg (fun z => e (z.2.2 i hi2))]
            refine ⟨σ1, e_X1_readQuestions_16 ?_, hf, fun z => absurd (z.2.2 i hi2) e⟩
            simp (disch := first | assumption | omega) only [hi1, b1, b2, s1, s2, s3, e0, Option.some.injEq, Prod.mk.injEq, Value.int.injEq, exists_and_left, exists_eq_left', and_assoc, true_and, and_true, true_implies, false_implies, not_true_eq_false, not_false_eq_true, li_0, li_1, li_2, li_3, li_4, li_5, li_8, li_9, li_10, li_16, li_20, li_80, li_100, li_130, li_144, li_390, li_400, li_M, li_H, li_of, nI_add, pk_mul, cl_, vp_iff, nI_leI, nI_ltI, nI_eq, Nat.add_zero, Nat.zero_add, Nat.reduceEqDiff, Nat.reduceAdd, eq_self, reduceIte, Bool.false_eq_true, li_neg]
      obtain ⟨σ', q1, q2⟩ := loop N 0 σ (by omega) (fr_rf _ _) (fun j hj => absurd hj (by omega))
      refine ⟨σ', z_X1_readQuestions (e_X1_readQuestions_0 ?_), q2⟩
      have h1' : ¬ N < 1 := by omega
      generalize (@ite Int32 (1 ≤ N ∧ N ≤ 10 ∧ ∀ i, i < N → aq_ t i < 2 ^ n) (Classical.propDecidable _) (nI 1) (nI 0)) = w at q1 ⊢
      simp (disch := first | assumption | omega) only [h1', h2, Option.some.injEq, Prod.mk.injEq, Value.int.injEq, exists_and_left, exists_eq_left', and_assoc, true_and, and_true, true_implies, false_implies, not_true_eq_false, not_false_eq_true, li_0, li_1, li_2, li_3, li_4, li_5, li_8, li_9, li_10, li_16, li_20, li_80, li_100, li_130, li_144, li_390, li_400, li_M, li_H, li_of, nI_add, pk_mul, cl_, vp_iff, nI_leI, nI_ltI, nI_eq, Nat.add_zero, Nat.zero_add, Nat.reduceEqDiff, Nat.reduceAdd, eq_self, reduceIte, Bool.false_eq_true, li_neg]
      exact q1
    · rw [if_neg (fun z => h2 z.2.1)]
      refine ⟨σ, z_X1_readQuestions (e_X1_readQuestions_0 ?_), fr_rf _ _, fun z => absurd z.2.1 h2⟩
      have h1' : ¬ N < 1 := by omega
      simp (disch := first | assumption | omega) only [h1', h2, Option.some.injEq, Prod.mk.injEq, Value.int.injEq, exists_and_left, exists_eq_left', and_assoc, true_and, and_true, true_implies, false_implies, not_true_eq_false, not_false_eq_true, li_0, li_1, li_2, li_3, li_4, li_5, li_8, li_9, li_10, li_16, li_20, li_80, li_100, li_130, li_144, li_390, li_400, li_M, li_H, li_of, nI_add, pk_mul, cl_, vp_iff, nI_leI, nI_ltI, nI_eq, Nat.add_zero, Nat.zero_add, Nat.reduceEqDiff, Nat.reduceAdd, eq_self, reduceIte, Bool.false_eq_true, li_neg]
  · rw [if_neg (fun z => h1 z.1)]
    refine ⟨σ, z_X1_readQuestions (e_X1_readQuestions_0 ?_), fr_rf _ _, fun z => absurd z.1 h1⟩
    have h1' : N < 1 := by omega
    simp (disch := first | assumption | omega) only [h1', Option.some.injEq, Prod.mk.injEq, Value.int.injEq, exists_and_left, exists_eq_left', and_assoc, true_and, and_true, true_implies, false_implies, not_true_eq_false, not_false_eq_true, li_0, li_1, li_2, li_3, li_4, li_5, li_8, li_9, li_10, li_16, li_20, li_80, li_100, li_130, li_144, li_390, li_400, li_M, li_H, li_of, nI_add, pk_mul, cl_, vp_iff, nI_leI, nI_ltI, nI_eq, Nat.add_zero, Nat.zero_add, Nat.reduceEqDiff, Nat.reduceAdd, eq_self, reduceIte, Bool.false_eq_true, li_neg]
end AQ
