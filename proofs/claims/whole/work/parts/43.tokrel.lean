/-! letters and digits, both sides -/
def C5_ (t : Nat → Nat) (q : Nat) : Nat → Nat
  | 0 => 0
  | m + 1 => 32 * C5_ t q m + (t (q + m) - 96)
def C27_ (t : Nat → Nat) (q : Nat) : Nat → Nat
  | 0 => 0
  | m + 1 => 27 * C27_ t q m + (t (q + m) - 96)
def CD_ (t : Nat → Nat) (q : Nat) : Nat → Nat
  | 0 => 0
  | m + 1 => 10 * CD_ t q m + (t (q + m) - 48)
theorem C5_lt {t : Nat → Nat} {q : Nat} : ∀ m, (∀ i, i < m → isL_ (t (q + i))) → C5_ t q m < 32 ^ m
  | 0, _ => Nat.zero_lt_one
  | m + 1, h => by
    have h1 := C5_lt m (fun i hi => h i (by omega))
    have h2 := h m (by omega)
    rw [C5_, Nat.pow_succ]
    omega
theorem C27_lt {t : Nat → Nat} {q : Nat} : ∀ m, (∀ i, i < m → isL_ (t (q + i))) → C27_ t q m < 27 ^ m
  | 0, _ => Nat.zero_lt_one
  | m + 1, h => by
    have h1 := C27_lt m (fun i hi => h i (by omega))
    have h2 := h m (by omega)
    rw [C27_, Nat.pow_succ]
    omega
theorem CD_lt {t : Nat → Nat} {q : Nat} : ∀ m, (∀ i, i < m → isD_ (t (q + i))) → CD_ t q m < 10 ^ m
  | 0, _ => Nat.zero_lt_one
  | m + 1, h => by
    have h1 := CD_lt m (fun i hi => h i (by omega))
    have h2 := h m (by omega)
    rw [CD_, Nat.pow_succ]
    omega
theorem pow_le6 {b m : Nat} (hb : 1 ≤ b) (h : m ≤ 6) : b ^ m ≤ b ^ 6 := Nat.pow_le_pow_right hb h
theorem shl5_ {C x : Nat} (hC : C < 2 ^ 26) (hx : x < 32) : (nI C <<< ((5 : Int32) &&& 31)) ||| nI x = nI (32 * C + x) := by
  rw [pk_shlN ((5 : Int32) &&& 31) 5 (by decide) (by omega)]
  have := fa_or_sum (a := x) (k := 5) C (by omega)
  rw [show C * 2 ^ 5 = 2 ^ 5 * C by omega]
  exact this
theorem let5_ {c : Nat} (h : 97 ≤ c) : (nI c - 97) + 1 = nI (c - 96) := by
  have e : nI c - nI 97 = nI (c - 97) := pk_sub h
  rw [show (97 : Int32) = nI 97 from rfl, e, nI_1]
  congr 1
  omega
theorem let27_ {C c : Nat} (h : 96 ≤ c) (hc : c < 2 ^ 31) : ((27 * lN C) + Int32.toInt64 (nI c)) - 96 = lN (27 * C + (c - 96)) := by
  rw [nI_l hc, show (27 : Int64) = lN 27 from rfl, lN_mul, lN_add, show (96 : Int64) = lN 96 from rfl, lN_sub (by omega)]
  congr 1
  omega
theorem dig_ {C c : Nat} (h : 48 ≤ c) : ((10 * nI C) + nI c) - 48 = nI (10 * C + (c - 48)) := by
  rw [show (10 : Int32) = nI 10 from rfl, pk_mul, nI_add, show (48 : Int32) = nI 48 from rfl, pk_sub (by omega)]
  congr 1
  omega
theorem dig2_ {C c : Nat} (h : 48 ≤ c) : ((nI C * 10) + nI c) - 48 = nI (10 * C + (c - 48)) := by
  rw [show (10 : Int32) = nI 10 from rfl, pk_mul, nI_add, show (48 : Int32) = nI 48 from rfl, pk_sub (by omega)]
  congr 1
  omega
def J_ (t : Nat → Nat) (q : Nat) (x2 : Int32) (p a d : Nat) (v g u : Int32) (wd : Int64) : Prop :=
  a + d = p - q ∧ q ≤ p ∧ (g = 0 ∨ g = 1) ∧ (g = 1 ↔ ((x2 = 1 → d = 0) ∧ (x2 = 0 → a = 0))) ∧ (d = 0 → (∀ i, i < a → isL_ (t (q + i))) ∧ (a ≤ 6 → v = nI (C5_ t q a) ∧ wd = lN (C27_ t q a))) ∧ (a = 0 → (∀ i, i < d → isD_ (t (q + i))) ∧ (d ≤ 3 → v = nI (CD_ t q d) ∧ u = nI (CD_ t q d))) ∧ (q < p → (x2 = 1 → 1 ≤ a) ∧ (x2 = 0 → 1 ≤ d))
theorem J_L {t : Nat → Nat} {q p a d : Nat} {x2 v g u : Int32} {wd : Int64} (hx : x2 = rl_ (t q)) (h : J_ t q x2 p a d v g u wd) (hl : isL_ (t p)) : J_ t q x2 (p + 1) (a + 1) d ((v <<< ((5 : Int32) &&& 31)) ||| ((nI (t p) - 97) + 1)) (if g = 0 then 0 else if rl_ (t p) = x2 then 1 else 0) (if p - q < 3 then ((10 * u) + nI (t p)) - 48 else u) (if p - q < 6 then ((27 * wd) + Int32.toInt64 (nI (t p))) - 96 else wd) := by
  obtain ⟨h1, h2, h3, h4, h5, h6, h7⟩ := h
  have hr : rl_ (t p) = 1 := by rw [rl_, if_pos hl]
  have hx01 : x2 = 0 ∨ x2 = 1 := by
    rw [hx, rl_]
    split
    · exact Or.inr rfl
    · exact Or.inl rfl
  refine ⟨by omega, by omega, ?_, ?_, fun hd => ?_, fun ha => by omega, fun _ => ⟨fun _ => by omega, fun z => ?_⟩⟩
  · split
    · exact Or.inl rfl
    · split
      · exact Or.inr rfl
      · exact Or.inl rfl
  · rw [hr]
    rcases hx01 with hx0 | hx0
    · rw [hx0]
      constructor
      · intro z
        split at z
        · exact absurd z (by decide)
        · exact absurd z (by decide)
      · intro z
        exact absurd (z.2 rfl) (by omega)
    · rw [hx0]
      rw [hx0] at h4
      constructor
      · intro z
        split at z
        · exact absurd z (by decide)
        · rename_i hg
          have hg1 : g = 1 := by
            rcases h3 with h3 | h3
            · exact absurd h3 hg
            · exact h3
          exact ⟨(h4.mp hg1).1, fun z => absurd z (by decide)⟩
      · intro z
        have hg1 : g = 1 := h4.mpr ⟨z.1, fun z => absurd z (by decide)⟩
        rw [hg1]
        decide
  · obtain ⟨k1, k2⟩ := h5 hd
    have hpq : p = q + a := by omega
    refine ⟨fun i hi => ?_, fun ha => ?_⟩
    · by_cases c : i < a
      · exact k1 i c
      · rw [show q + i = p by omega]
        exact hl
    · obtain ⟨e1, e2⟩ := k2 (by omega)
      have b5 := C5_lt a k1
      have b5' : 32 ^ a ≤ 32 ^ 5 := Nat.pow_le_pow_right (by decide) (by omega)
      rw [e1, e2, if_pos (by omega), let5_ hl.1, shl5_ (by omega) (by omega), let27_ (by omega) (by omega), C5_, C27_, ← hpq]
      exact ⟨rfl, rfl⟩
  · -- x2 = 0: the first is a digit
    by_cases c : q < p
    · exact (h7 c).2 z
    · have : p = q := by omega
      rw [hx, rl_, ← this, if_pos hl] at z
      exact absurd z (by decide)
theorem J_D {t : Nat → Nat} {q p a d : Nat} {x2 v g u : Int32} {wd : Int64} (hx : x2 = rl_ (t q)) (h : J_ t q x2 p a d v g u wd) (hl : ¬ isL_ (t p)) (hd : isD_ (t p)) : J_ t q x2 (p + 1) a (d + 1) (((v * 10) + nI (t p)) - 48) (if g = 0 then 0 else if rl_ (t p) = x2 then 1 else 0) (if p - q < 3 then ((10 * u) + nI (t p)) - 48 else u) (if p - q < 6 then ((27 * wd) + Int32.toInt64 (nI (t p))) - 96 else wd) := by
  obtain ⟨h1, h2, h3, h4, h5, h6, h7⟩ := h
  have hr : rl_ (t p) = 0 := by rw [rl_, if_neg hl]
  have hx01 : x2 = 0 ∨ x2 = 1 := by
    rw [hx, rl_]
    split
    · exact Or.inr rfl
    · exact Or.inl rfl
  refine ⟨by omega, by omega, ?_, ?_, fun ha => by omega, fun ha => ?_, fun _ => ⟨fun z => ?_, fun _ => by omega⟩⟩
  · split
    · exact Or.inl rfl
    · split
      · exact Or.inr rfl
      · exact Or.inl rfl
  · rw [hr]
    rcases hx01 with hx0 | hx0
    · rw [hx0]
      rw [hx0] at h4
      constructor
      · intro z
        split at z
        · exact absurd z (by decide)
        · rename_i hg
          have hg1 : g = 1 := by
            rcases h3 with h3 | h3
            · exact absurd h3 hg
            · exact h3
          exact ⟨fun z => absurd z (by decide), (h4.mp hg1).2⟩
      · intro z
        have hg1 : g = 1 := h4.mpr ⟨fun z => absurd z (by decide), z.2⟩
        rw [hg1]
        decide
    · rw [hx0]
      constructor
      · intro z
        split at z
        · exact absurd z (by decide)
        · exact absurd z (by decide)
      · intro z
        exact absurd (z.1 rfl) (by omega)
  · obtain ⟨k1, k2⟩ := h6 ha
    have hpq : p = q + d := by omega
    refine ⟨fun i hi => ?_, fun hd3 => ?_⟩
    · by_cases c : i < d
      · exact k1 i c
      · rw [show q + i = p by omega]
        exact hd
    · obtain ⟨e1, e2⟩ := k2 (by omega)
      rw [e1, e2, if_pos (by omega), dig2_ hd.1, dig_ hd.1, CD_, ← hpq]
      exact ⟨rfl, rfl⟩
  · by_cases c : q < p
    · exact (h7 c).1 z
    · have : p = q := by omega
      rw [hx, rl_, ← this, if_neg hl] at z
      exact absurd z (by decide)
theorem J_end {t : Nat → Nat} {q : Nat} {x2 : Int32} (hx : x2 = rl_ (t q)) : ∀ (k p a d : Nat) (v g u : Int32) (wd : Int64), J_ t q x2 p a d v g u wd → (sr_ t q x2 k p g u wd).1 = (sc_ t k p a d v).1 ∧ J_ t q x2 (sc_ t k p a d v).1 (sc_ t k p a d v).2.1 (sc_ t k p a d v).2.2.1 (sc_ t k p a d v).2.2.2 (sr_ t q x2 k p g u wd).2.1 (sr_ t q x2 k p g u wd).2.2.1 (sr_ t q x2 k p g u wd).2.2.2
  | 0, p, a, d, v, g, u, wd, h => ⟨rfl, h⟩
  | k + 1, p, a, d, v, g, u, wd, h => by
    by_cases hl : isL_ (t p)
    · rw [sr_, if_pos (Or.inl hl), sc_, if_pos hl]
      exact J_end hx k _ _ _ _ _ _ _ (J_L hx h hl)
    · by_cases hd : isD_ (t p)
      · rw [sr_, if_pos (Or.inr hd), sc_, if_neg hl, if_pos hd]
        exact J_end hx k _ _ _ _ _ _ _ (J_D hx h hl hd)
      · rw [sr_, if_neg (fun z => z.elim hl hd), sc_, if_neg hl, if_neg hd]
        exact ⟨rfl, h⟩
theorem sc_le (t : Nat → Nat) : ∀ (k p a d : Nat) (v : Int32), p ≤ (sc_ t k p a d v).1 ∧ (sc_ t k p a d v).1 ≤ p + k
  | 0, p, a, d, v => ⟨Nat.le_refl _, Nat.le_refl _⟩
  | k + 1, p, a, d, v => by
    rw [sc_]
    split
    · have := sc_le t k (p + 1) (a + 1) d ((v <<< ((5 : Int32) &&& 31)) ||| ((nI (t p) - 97) + 1))
      omega
    · split
      · have := sc_le t k (p + 1) a (d + 1) (((v * 10) + nI (t p)) - 48)
        omega
      · exact ⟨Nat.le_refl _, by omega⟩
