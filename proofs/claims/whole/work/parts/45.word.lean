/-! codes of WORDS: in thirty-twos (class), in twenty-sevens (reference) -/
def wcl_ : List Nat := [106544, 494, 448116, 23823, 20293139, 20452516, 1279278, 19039379, 21148051, 655, 1420, 498, 1476, 14836, 594980, 671108, 12009203, 21483564, 398548, 3659220]
def wc_ (i : Nat) : Nat := wcl_.getD i 0
def wml_ : List Nat := [64924, 16998, 10416091, 670208, 419, 271721, 10320904, 9665209, 10736326, 555, 1065, 423, 1111, 10631, 357970, 404923, 6132988, 10938684, 240023, 1905275]
def wm_ (k : Nat) : Nat := wml_.getD k 0
/-- the class's kind of the reference's k-th WORD -/
def kk_ (k : Nat) : Nat := [4, 7, 9, 10, 5, 6, 8, 11, 12, 13, 14, 15, 16, 17, 18, 19, 20, 21, 22, 23].getD k 0
def cv_ : Nat → Nat → Nat
  | 0, _ => 0
  | k + 1, c => if c = 0 then 0 else 27 * cv_ k (c / 32) + c % 32
def cw_ : Nat → Nat → Nat
  | 0, _ => 0
  | k + 1, c => if c = 0 then 0 else 32 * cw_ k (c / 27) + c % 27
/-- a code of a WORD -/
def okc_ (c : Nat) : Prop := ∃ (t : Nat → Nat) (q m : Nat), m ≤ 6 ∧ (∀ i, i < m → isL_ (t (q + i))) ∧ c = C5_ t q m
theorem C5_pos {t : Nat → Nat} {q : Nat} (m : Nat) (h : isL_ (t (q + m))) : 0 < C5_ t q (m + 1) := by rw [C5_]; omega
theorem cv_C {t : Nat → Nat} {q : Nat} : ∀ (k m : Nat), m ≤ k → (∀ i, i < m → isL_ (t (q + i))) → cv_ k (C5_ t q m) = C27_ t q m
  | 0, m, hm, _ => by
    obtain rfl : m = 0 := by omega
    rfl
  | k + 1, 0, _, _ => by simp [cv_, C5_, C27_]
  | k + 1, m + 1, hm, h => by
    have hl := h m (by omega)
    have hp := C5_pos m hl
    rw [cv_, if_neg (by omega), C5_, C27_, ← cv_C k m (by omega) (fun i hi => h i (by omega))]
    rw [show (32 * C5_ t q m + (t (q + m) - 96)) / 32 = C5_ t q m by omega, show (32 * C5_ t q m + (t (q + m) - 96)) % 32 = t (q + m) - 96 by omega]
theorem cw_C {t : Nat → Nat} {q : Nat} : ∀ (k m : Nat), m ≤ k → (∀ i, i < m → isL_ (t (q + i))) → cw_ k (C27_ t q m) = C5_ t q m
  | 0, m, hm, _ => by
    obtain rfl : m = 0 := by omega
    rfl
  | k + 1, 0, _, _ => by simp [cw_, C5_, C27_]
  | k + 1, m + 1, hm, h => by
    have hl := h m (by omega)
    have hp : 0 < C27_ t q (m + 1) := by rw [C27_]; omega
    rw [cw_, if_neg (by omega), C5_, C27_, ← cw_C k m (by omega) (fun i hi => h i (by omega))]
    rw [show (27 * C27_ t q m + (t (q + m) - 96)) / 27 = C27_ t q m by omega, show (27 * C27_ t q m + (t (q + m) - 96)) % 27 = t (q + m) - 96 by omega]
/-- the reference's number of a code -/
def cm_ (c : Nat) : Nat := cv_ 6 c
theorem cw_cm {c : Nat} (h : okc_ c) : cw_ 6 (cm_ c) = c := by
  obtain ⟨t, q, m, hm, hl, rfl⟩ := h
  rw [cm_, cv_C 6 m hm hl, cw_C 6 m hm hl]
theorem cm_inj {c c' : Nat} (h : okc_ c) (h' : okc_ c') (e : cm_ c = cm_ c') : c = c' := by rw [← cw_cm h, ← cw_cm h', e]
theorem okc_lt {c : Nat} (h : okc_ c) : c < 2 ^ 30 := by
  obtain ⟨t, q, m, hm, hl, rfl⟩ := h
  have := C5_lt m hl
  have h2 : 32 ^ m ≤ 32 ^ 6 := Nat.pow_le_pow_right (by decide) hm
  omega
theorem cm_lt {c : Nat} (h : okc_ c) : cm_ c < 2 ^ 30 := by
  obtain ⟨t, q, m, hm, hl, rfl⟩ := h
  rw [cm_, cv_C 6 m hm hl]
  have := C27_lt m hl
  have h2 : 27 ^ m ≤ 27 ^ 6 := Nat.pow_le_pow_right (by decide) hm
  omega
/-- the kind by the code -/
def kwn_ (c : Nat) : Nat → Nat → Nat → Nat
  | 0, _, x => x
  | k + 1, i, x => kwn_ c k (i + 1) (if wc_ i = c then 4 + i else x)
def kwN_ (c : Nat) : Nat := kwn_ c 20 0 2
theorem wc_lt : ∀ i : Fin 20, wc_ i.val < 2 ^ 30 := by decide +kernel
theorem kw_nI {c : Nat} (hc : c < 2 ^ 30) : ∀ (k i x : Nat), i + k = 20 → kw_ (fun j => nI (wc_ j)) (nI c) k i (nI x) = nI (kwn_ c k i x)
  | 0, _, _, _ => rfl
  | k + 1, i, x, h => by
    rw [kw_, kwn_, ← kw_nI hc k (i + 1) _ (by omega)]
    have h1 := wc_lt ⟨i, by omega⟩
    simp only at h1
    congr 1
    by_cases e : wc_ i = c
    · rw [if_pos (by rw [e]), if_pos e]
      exact nI_add 4 i
    · rw [if_neg (fun z => e ((nI_eq (by omega) (by omega)).mp z)), if_neg e]
theorem kwN_at : ∀ i : Fin 20, kwN_ (wc_ i.val) = 4 + i.val := by decide +kernel
theorem kwn_or (c : Nat) : ∀ (k i x : Nat), i + k = 20 → kwn_ c k i x = x ∨ ∃ j, j < 20 ∧ wc_ j = c ∧ kwn_ c k i x = 4 + j
  | 0, _, x, _ => Or.inl rfl
  | k + 1, i, x, h => by
    rw [kwn_]
    rcases kwn_or c k (i + 1) (if wc_ i = c then 4 + i else x) (by omega) with h1 | h1
    · by_cases e : wc_ i = c
      · rw [if_pos e] at h1
        exact Or.inr ⟨i, by omega, e, by rw [if_pos e]; exact h1⟩
      · rw [if_neg e] at h1
        exact Or.inl (by rw [if_neg e]; exact h1)
    · exact Or.inr h1
theorem kwN_or (c : Nat) : kwN_ c = 2 ∨ ∃ j, j < 20 ∧ wc_ j = c ∧ kwN_ c = 4 + j := kwn_or c 20 0 2 (by omega)
theorem kwN_iff {c j : Nat} (hj : j < 20) : kwN_ c = 4 + j ↔ c = wc_ j := by
  constructor
  · intro h
    rcases kwN_or c with h1 | ⟨i, hi, e, h1⟩
    · omega
    · rw [show j = i by omega, e]
  · intro h
    rw [h]
    exact kwN_at ⟨j, hj⟩
theorem kk_at : ∀ k : Fin 20, 4 ≤ kk_ k.val ∧ kk_ k.val < 24 ∧ cm_ (wc_ (kk_ k.val - 4)) = wm_ k.val ∧ cw_ 6 (wm_ k.val) = wc_ (kk_ k.val - 4) ∧ wm_ k.val < 2 ^ 30 := by decide +kernel
theorem kk_on : ∀ j : Fin 20, ∃ k : Fin 20, kk_ k.val = 4 + j.val := by decide +kernel
/-- the WORD is the reference's k-th, just if its kind is the class's number of that -/
theorem word_iff {c k : Nat} (h : okc_ c) (hk : k < 20) : lN (cm_ c) = lN (wm_ k) ↔ kwN_ c = kk_ k := by
  obtain ⟨h1, h2, h3, h4, h5⟩ := kk_at ⟨k, hk⟩
  simp only at h1 h2 h3 h4 h5
  have hl := cm_lt h
  rw [lN_eq (by omega) (by omega), show kk_ k = 4 + (kk_ k - 4) by omega, kwN_iff (by omega)]
  constructor
  · intro e
    rw [← cw_cm h, e, h4]
  · intro e
    rw [e, h3]
