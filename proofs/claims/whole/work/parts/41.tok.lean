/-! characters, as the class holds them and as the reference does -/
theorem b8_all : ∀ c : Fin 256, (b8_ c.val = 32 ↔ c.val = 32) ∧ (b8_ c.val = 10 ↔ c.val = 10) ∧ (b8_ c.val < 97 ↔ ¬ (97 ≤ c.val ∧ c.val < 128)) ∧ (122 < b8_ c.val ↔ 122 < c.val ∧ c.val < 128) ∧ (b8_ c.val < 48 ↔ ¬ (48 ≤ c.val ∧ c.val < 128)) ∧ (57 < b8_ c.val ↔ 57 < c.val ∧ c.val < 128) ∧ (b8_ c.val = 59 ↔ c.val = 59) ∧ (b8_ c.val = 40 ↔ c.val = 40) ∧ (b8_ c.val = 41 ↔ c.val = 41) ∧ (b8_ c.val = 60 ↔ c.val = 60) ∧ (b8_ c.val = 61 ↔ c.val = 61) ∧ (b8_ c.val = 62 ↔ c.val = 62) := by decide +kernel
theorem b8_lo : ∀ c : Fin 128, b8_ c.val = nI c.val := by decide +kernel
abbrev isL_ (c : Nat) : Prop := 97 ≤ c ∧ c ≤ 122
abbrev isD_ (c : Nat) : Prop := 48 ≤ c ∧ c ≤ 57
abbrev sg_ (c : Nat) : Prop := c = 59 ∨ c = 40 ∨ c = 41 ∨ c = 60 ∨ c = 61 ∨ c = 62
theorem c_isSign {σ : St_} {c : Nat} (hc : c < 256) : f_X8_isSign KC [.int (b8_ c)] σ = some (some (.int (if sg_ c then 1 else 0)), σ) := by
  obtain ⟨-, -, -, -, -, -, h1, h2, h3, h4, h5, h6⟩ := b8_all ⟨c, hc⟩
  refine z_X8_isSign (e_X8_isSign_0 ?_)
  refine ek_if h1 (fun z => ?_) (fun z1 => ek_if h2 (fun z => ?_) (fun z2 => ek_if h3 (fun z => ?_) (fun z3 => ek_if h4 (fun z => ?_) (fun z4 => ek_if h5 (fun z => ?_) (fun z5 => ek_if h6 (fun z => ?_) (fun z6 => ?_))))))
  · rw [if_pos (by simp at z; omega)]
  · rw [if_pos (by simp at z; omega)]
  · rw [if_pos (by simp at z; omega)]
  · rw [if_pos (by simp at z; omega)]
  · rw [if_pos (by simp at z; omega)]
  · rw [if_pos (by simp at z; omega)]
  · rw [if_neg (by simp at z1 z2 z3 z4 z5 z6; omega)]
/-- behind blanks -/
def sk_ (t : Nat → Nat) : Nat → Nat → Nat
  | 0, p => p
  | k + 1, p => if t p = 32 ∨ t p = 10 then sk_ t k (p + 1) else p
theorem sk_le (t : Nat → Nat) : ∀ k p, p ≤ sk_ t k p ∧ sk_ t k p ≤ p + k
  | 0, p => ⟨Nat.le_refl _, Nat.le_refl _⟩
  | k + 1, p => by
    unfold sk_
    have := sk_le t k (p + 1)
    split <;> omega
/-- how far letters and digits go, how many of each, and the value that the class makes of them -/
def sc_ (t : Nat → Nat) : Nat → Nat → Nat → Nat → Int32 → Nat × Nat × Nat × Int32
  | 0, p, a, d, v => (p, a, d, v)
  | k + 1, p, a, d, v => if isL_ (t p) then sc_ t k (p + 1) (a + 1) d ((v <<< ((5 : Int32) &&& 31)) ||| ((nI (t p) - 97) + 1)) else if isD_ (t p) then sc_ t k (p + 1) a (d + 1) (((v * 10) + nI (t p)) - 48) else (p, a, d, v)
/-- the kind of a WORD by its code: the last that is alike -/
def kw_ (w : Nat → Int32) (v : Int32) : Nat → Nat → Int32 → Int32
  | 0, _, x => x
  | k + 1, i, x => kw_ w v k (i + 1) (if w i = v then 4 + nI i else x)
theorem sI_self {σ : St_} {o i : Nat} {x : Int32} (h : σ.1 o i = x) : sI_ σ o i x = σ := by
  unfold sI_
  have : u2_ σ.1 o i x = σ.1 := by
    funext a j
    unfold u2_
    split
    · rename_i z
      rw [z.1, z.2, h]
    · rfl
  rw [this]
theorem c_kw {w : Nat → Int32} {v : Int32} : ∀ (k i : Nat) (σ : St_), i + k = 20 → (∀ j, j < 20 → σ.1 3 j = w j) → σ.1 1 7 = v → ∃ σ', Ev_ (P_X8_nextWordOrNumber KC) 136 [some (.ref 1), none, none, some (.int (nI i))] [] σ (none, σ') ∧ σ'.1 1 6 = kw_ w v k i (σ.1 1 6) ∧ fr_ [1] σ σ' ∧ ∀ f, f ≠ 6 → σ'.1 1 f = σ.1 1 f
  | 0, i, σ, hi, hw, hv => ⟨σ, e_X8_nextWordOrNumber_136 (pk_le 20 i (fun _ => rfl) (fun h => by omega)), rfl, fr_rf _ _, fun _ _ => rfl⟩
  | k + 1, i, σ, hi, hw, hv => by
    by_cases hc : w i = v
    · obtain ⟨σ', h1, h2, h3, h4⟩ := c_kw (w := w) (v := v) k (i + 1) (sI_ σ 1 6 (4 + nI i)) (by omega) (fun j hj => by simp [sI_at, hw j hj]) (by simp [sI_at, hv])
      refine ⟨σ', e_X8_nextWordOrNumber_136 (pk_le 20 i (fun h => by omega) (fun _ => ⟨vpin_n (by omega), ?_⟩)), ?_, fr_tr (fr_sI (by simp)) h3, fun f hf => by rw [h4 f hf]; simp [sI_at, hf]⟩
      · refine br_t ?_ ?_
        · rw [cl_ (by omega), hw i (by omega), hv, hc]
        · rw [nI_1]
          exact h1
      · rw [h2]
        simp [kw_, hc, sI_at]
    · obtain ⟨σ', h1, h2, h3, h4⟩ := c_kw (w := w) (v := v) k (i + 1) σ (by omega) hw hv
      refine ⟨σ', e_X8_nextWordOrNumber_136 (pk_le 20 i (fun h => by omega) (fun _ => ⟨vpin_n (by omega), ?_⟩)), ?_, h3, h4⟩
      · refine br_f ?_ ?_
        · rw [cl_ (by omega), hw i (by omega), hv]
          exact hc
        · rw [nI_1]
          exact h1
      · rw [h2]
        simp [kw_, hc]
/-- what is decided behind the letters and digits -/
def wnN (x1 x2 : Int32) (σ : St_) (out : Out_) : Prop := ((x1 = 0 → ((x2 < (1 : Int32) → out = (none, (sI_ σ 1 6 (1 : Int32)))) ∧ (¬ (x2 < (1 : Int32)) → (((3 : Int32) < x2 → out = (none, (sI_ σ 1 6 (1 : Int32)))) ∧ (¬ ((3 : Int32) < x2) → out = (none, (sI_ (sI_ σ 1 6 (1 : Int32)) 1 6 (3 : Int32)))))))) ∧ (¬ (x1 = 0) → out = (none, (sI_ σ 1 6 (1 : Int32)))))
def wnT (x1 x2 : Int32) (σ : St_) (out : Out_) : Prop := ((x2 = 0 → ((x1 < (1 : Int32) → wnN x1 x2 σ out) ∧ (¬ (x1 < (1 : Int32)) → (((6 : Int32) < x1 → wnN x1 x2 σ out) ∧ (¬ ((6 : Int32) < x1) → Ev_ (P_X8_nextWordOrNumber KC) 136 [some (.ref 1), none, none, some (.int (0 : Int32))] [] (sI_ (sI_ σ 1 6 (1 : Int32)) 1 6 (2 : Int32)) out))))) ∧ (¬ (x2 = 0) → wnN x1 x2 σ out))
def wnK (w : Nat → Int32) (a d : Nat) (v : Int32) : Int32 := if d = 0 ∧ 1 ≤ a ∧ a ≤ 6 then kw_ w v 20 0 2 else if a = 0 ∧ 1 ≤ d ∧ d ≤ 3 then 3 else 1
theorem c_wnN {a d : Nat} (ha : a < 2 ^ 31) (hd : d < 2 ^ 31) (σ : St_) : ∃ σ', wnN (nI a) (nI d) σ (none, σ') ∧ σ'.1 1 6 = (if a = 0 ∧ 1 ≤ d ∧ d ≤ 3 then 3 else 1) ∧ fr_ [1] σ σ' ∧ ∀ f, f ≠ 6 → σ'.1 1 f = σ.1 1 f := by
  by_cases h : a = 0 ∧ 1 ≤ d ∧ d ≤ 3
  · refine ⟨sI_ (sI_ σ 1 6 1) 1 6 3, ?_, by rw [if_pos h]; simp [sI_at], fr_tr (fr_sI (by simp)) (fr_sI (by simp)), fun f hf => by simp [sI_at, hf]⟩
    exact pk_eq a 0 (fun _ => pk_lt d 1 (fun z => by omega) (fun _ => pk_lt 3 d (fun z => by omega) (fun _ => rfl))) (fun z => by omega)
  · refine ⟨sI_ σ 1 6 1, ?_, by rw [if_neg h]; simp [sI_at], fr_sI (by simp), fun f hf => by simp [sI_at, hf]⟩
    exact pk_eq a 0 (fun _ => pk_lt d 1 (fun z => rfl) (fun _ => pk_lt 3 d (fun z => rfl) (fun _ => by omega))) (fun z => rfl)
theorem c_wnT {w : Nat → Int32} {a d : Nat} (ha : a < 2 ^ 31) (hd : d < 2 ^ 31) (σ : St_) (hw : ∀ j, j < 20 → σ.1 3 j = w j) : ∃ σ', wnT (nI a) (nI d) σ (none, σ') ∧ σ'.1 1 6 = wnK w a d (σ.1 1 7) ∧ fr_ [1] σ σ' ∧ ∀ f, f ≠ 6 → σ'.1 1 f = σ.1 1 f := by
  by_cases h : d = 0 ∧ 1 ≤ a ∧ a ≤ 6
  · obtain ⟨σ', h1, h2, h3, h4⟩ := c_kw (w := w) (v := σ.1 1 7) 20 0 (sI_ (sI_ σ 1 6 1) 1 6 2) (by omega) (fun j hj => by simp [sI_at, hw j hj]) (by simp [sI_at])
    refine ⟨σ', pk_eq d 0 (fun _ => pk_lt a 1 (fun z => by omega) (fun _ => pk_lt 6 a (fun z => by omega) (fun _ => h1))) (fun z => by omega), ?_, fr_tr (fr_tr (fr_sI (by simp)) (fr_sI (by simp))) h3, fun f hf => by rw [h4 f hf]; simp [sI_at, hf]⟩
    rw [h2]
    simp [wnK, h, sI_at]
  · obtain ⟨σ', h1, h2, h3, h4⟩ := c_wnN ha hd σ
    refine ⟨σ', pk_eq d 0 (fun _ => pk_lt a 1 (fun z => h1) (fun _ => pk_lt 6 a (fun z => h1) (fun _ => by omega))) (fun z => h1), ?_, h3, h4⟩
    rw [h2, wnK, if_neg h]
theorem c_wn {w : Nat → Int32} {n : Nat} {t : Nat → Nat} (ht : ∀ i, t i < 256) (hn : n ≤ 1040) : ∀ (k p a d : Nat) (σ : St_), p + k = n → a + d ≤ p → CT σ n t → σ.1 1 4 = nI p → (∀ j, j < 20 → σ.1 3 j = w j) → ∃ σ', Ev_ (P_X8_nextWordOrNumber KC) 9 [some (.ref 1), some (.int (nI a)), some (.int (nI d)), none] [] σ (none, σ') ∧ σ'.1 1 6 = wnK w (sc_ t k p a d (σ.1 1 7)).2.1 (sc_ t k p a d (σ.1 1 7)).2.2.1 (sc_ t k p a d (σ.1 1 7)).2.2.2 ∧ σ'.1 1 4 = nI (sc_ t k p a d (σ.1 1 7)).1 ∧ σ'.1 1 7 = (sc_ t k p a d (σ.1 1 7)).2.2.2 ∧ fr_ [1] σ σ' ∧ ∀ f, f ≠ 4 → f ≠ 6 → f ≠ 7 → σ'.1 1 f = σ.1 1 f
  | 0, p, a, d, σ, hp, had, hC, h4, hw => by
    obtain ⟨σ', h1, h2, h3, h5⟩ := c_wnT (a := a) (d := d) (by omega) (by omega) σ hw
    refine ⟨σ', e_X8_nextWordOrNumber_9 (pk_le n p (fun _ => h1) (fun z => by omega) hC.1 h4), h2, ?_, ?_, h3, fun f _ hf _ => h5 f hf⟩
    · rw [h5 4 (by decide), h4]; rfl
    · rw [h5 7 (by decide)]; rfl
  | k + 1, p, a, d, σ, hp, had, hC, h4, hw => by
    have hcp : Int32.toNatClampNeg (σ.1 1 4) = p := pk_cl p h4
    have hb : σ.1 2 p = b8_ (t p) := hC.2.2 p
    obtain ⟨-, -, hl97, hg122, hl48, hg57, -⟩ := b8_all ⟨t p, ht p⟩
    simp only at hl97 hg122 hl48 hg57
    by_cases hL : isL_ (t p)
    · have hbl : b8_ (t p) = nI (t p) := b8_lo ⟨t p, by omega⟩
      have hv0 : (σ.1 1 7 <<< ((5 : Int32) &&& 31)) ||| ((σ.1 2 p - 97) + 1) = (σ.1 1 7 <<< ((5 : Int32) &&& 31)) ||| ((nI (t p) - 97) + 1) := by rw [hb, hbl]
      obtain ⟨σ', h1, h2, h3, h5, h6, h7⟩ := c_wn (w := w) ht hn k (p + 1) (a + 1) d (sI_ (sI_ σ 1 7 ((σ.1 1 7 <<< ((5 : Int32) &&& 31)) ||| ((nI (t p) - 97) + 1))) 1 4 (nI (p + 1))) (by omega) (by omega) ⟨by simp [sI_at, hC.1], hC.2.1, fun i => by simp [sI_at, hC.2.2 i]⟩ (by simp [sI_at]) (fun j hj => by simp [sI_at, hw j hj])
      have e7 : (sI_ (sI_ σ 1 7 ((σ.1 1 7 <<< ((5 : Int32) &&& 31)) ||| ((nI (t p) - 97) + 1))) 1 4 (nI (p + 1))).1 1 7 = (σ.1 1 7 <<< ((5 : Int32) &&& 31)) ||| ((nI (t p) - 97) + 1) := by simp [sI_at]
      rw [e7] at h2 h3 h5
      refine ⟨σ', e_X8_nextWordOrNumber_9 (pk_le n p (fun z => by omega) (fun _ => ⟨vpin_e p (by omega) h4, ?_⟩) hC.1 h4), ?_, ?_, ?_, fr_tr (fr_tr (fr_sI (by simp)) (fr_sI (by simp))) h6, fun f f4 f6 f7 => by rw [h7 f f4 f6 f7]; simp [sI_at, f4, f7]⟩
      · rw [hcp, hb]
        refine ek_if hl97 (fun z => by omega) (fun _ => ek_if hg122 (fun z => by omega) (fun _ => ?_))
        rw [hbl, nI_1]
        have e4 : (sI_ σ 1 7 ((σ.1 1 7 <<< ((5 : Int32) &&& 31)) ||| ((nI (t p) - 97) + 1))).1 1 4 = nI p := by simp [sI_at, h4]
        rw [e4, nI_1]
        exact h1
      · rw [h2, sc_, if_pos hL]
      · rw [h3, sc_, if_pos hL]
      · rw [h5, sc_, if_pos hL]
    · by_cases hD : isD_ (t p)
      · have hbl : b8_ (t p) = nI (t p) := b8_lo ⟨t p, by omega⟩
        obtain ⟨σ', h1, h2, h3, h5, h6, h7⟩ := c_wn (w := w) ht hn k (p + 1) a (d + 1) (sI_ (sI_ σ 1 7 (((σ.1 1 7 * 10) + nI (t p)) - 48)) 1 4 (nI (p + 1))) (by omega) (by omega) ⟨by simp [sI_at, hC.1], hC.2.1, fun i => by simp [sI_at, hC.2.2 i]⟩ (by simp [sI_at]) (fun j hj => by simp [sI_at, hw j hj])
        have e7 : (sI_ (sI_ σ 1 7 (((σ.1 1 7 * 10) + nI (t p)) - 48)) 1 4 (nI (p + 1))).1 1 7 = ((σ.1 1 7 * 10) + nI (t p)) - 48 := by simp [sI_at]
        rw [e7] at h2 h3 h5
        refine ⟨σ', e_X8_nextWordOrNumber_9 (pk_le n p (fun z => by omega) (fun _ => ⟨vpin_e p (by omega) h4, ?_⟩) hC.1 h4), ?_, ?_, ?_, fr_tr (fr_tr (fr_sI (by simp)) (fr_sI (by simp))) h6, fun f f4 f6 f7 => by rw [h7 f f4 f6 f7]; simp [sI_at, f4, f7]⟩
        · rw [hcp, hb]
          refine ek_if hl97 (fun _ => ?_) (fun z => by omega)
          refine e_X8_nextWordOrNumber_65 (ek_if hl48 (fun z => by omega) (fun _ => ek_if hg57 (fun z => by omega) (fun _ => ?_)))
          rw [hbl, nI_1]
          have e4 : (sI_ σ 1 7 (((σ.1 1 7 * 10) + nI (t p)) - 48)).1 1 4 = nI p := by simp [sI_at, h4]
          rw [e4, nI_1]
          exact h1
        · rw [h2, sc_, if_neg hL, if_pos hD]
        · rw [h3, sc_, if_neg hL, if_pos hD]
        · rw [h5, sc_, if_neg hL, if_pos hD]
      · obtain ⟨σ', h1, h2, h3, h5⟩ := c_wnT (a := a) (d := d) (by omega) (by omega) σ hw
        have es : sc_ t (k + 1) p a d (σ.1 1 7) = (p, a, d, σ.1 1 7) := by rw [sc_, if_neg hL, if_neg hD]
        rw [es]
        refine ⟨σ', e_X8_nextWordOrNumber_9 (pk_le n p (fun z => by omega) (fun _ => ⟨vpin_e p (by omega) h4, ?_⟩) hC.1 h4), h2, by rw [h5 4 (by decide), h4], h5 7 (by decide), h3, fun f _ hf _ => h5 f hf⟩
        rw [hcp, hb]
        have h65 : Ev_ (P_X8_nextWordOrNumber KC) 65 [some (.ref 1), some (.int (nI a)), some (.int (nI d)), some (.int (b8_ (t p)))] [] σ (none, σ') := e_X8_nextWordOrNumber_65 (ek_if hl48 (fun _ => h1) (fun z1 => ek_if hg57 (fun _ => h1) (fun z2 => by omega)))
        exact ek_if hl97 (fun _ => h65) (fun z1 => ek_if hg122 (fun _ => h65) (fun z2 => by omega))
theorem sI_twice (σ : St_) (o i : Nat) (x y : Int32) : sI_ (sI_ σ o i x) o i y = sI_ σ o i y := by
  unfold sI_
  have : u2_ (u2_ σ.1 o i x) o i y = u2_ σ.1 o i y := by
    funext a j
    unfold u2_
    split <;> simp_all
  rw [this]
theorem CT_1 {σ : St_} {n : Nat} {t : Nat → Nat} (h : CT σ n t) {f : Nat} (hf : f ≠ 2) (x : Int32) : CT (sI_ σ 1 f x) n t := ⟨by simp [sI_at, h.1, hf.symm], h.2.1, fun i => by simp [sI_at, h.2.2 i]⟩
theorem c_skip {n : Nat} {t : Nat → Nat} (ht : ∀ i, t i < 256) : ∀ (k p : Nat) (σ : St_) (out : Out_), p + k = n → CT σ n t → σ.1 1 4 = nI p → Ev_ (P_X8_next KC) 52 [some (.ref 1)] [] (sI_ σ 1 4 (nI (sk_ t k p))) out → Ev_ (P_X8_next KC) 0 [some (.ref 1)] [] σ out
  | 0, p, σ, out, hp, hC, h4, h => by
    have := hC.2.1
    refine e_X8_next_0 (pk_le n p (fun _ => ?_) (fun z => by omega) hC.1 h4)
    rw [show sk_ t 0 p = p from rfl, sI_self h4] at h
    exact h
  | k + 1, p, σ, out, hp, hC, h4, h => by
    have := hC.2.1
    have hcp : Int32.toNatClampNeg (σ.1 1 4) = p := pk_cl p h4
    have hb : σ.1 2 p = b8_ (t p) := hC.2.2 p
    obtain ⟨h32, h10, -⟩ := b8_all ⟨t p, ht p⟩
    simp only at h32 h10
    refine e_X8_next_0 (pk_le n p (fun z => by omega) (fun _ => ⟨vpin_e p (by omega) h4, ?_⟩) hC.1 h4)
    have step : (t p = 32 ∨ t p = 10) → Ev_ (P_X8_next KC) 0 [some (.ref 1)] [] (sI_ σ 1 4 (σ.1 1 4 + 1)) out := by
      intro hc
      rw [h4, nI_1]
      refine c_skip ht k (p + 1) _ out (by omega) (CT_1 hC (by decide) _) (by simp [sI_at]) ?_
      rw [sI_twice]
      rw [sk_, if_pos hc] at h
      exact h
    rw [hcp, hb]
    refine ek_if h32 (fun z => step (Or.inl z)) (fun z1 => ⟨vpin_e p (by omega) h4, ?_⟩)
    refine ek_if h10 (fun z => step (Or.inr z)) (fun z2 => ?_)
    rw [sk_, if_neg (by omega), sI_self h4] at h
    exact h
/-- the TOKEN from p on: kind (as the class numbers it), place, end, value -/
def tok_ (w : Nat → Int32) (t : Nat → Nat) (n L p : Nat) : Int32 × Nat × Nat × Int32 :=
  if L < n ∧ L ≤ sk_ t (n - p) p then (1, L, sk_ t (n - p) p, 0)
  else if n ≤ sk_ t (n - p) p then (0, sk_ t (n - p) p, sk_ t (n - p) p, 0)
  else if sg_ (t (sk_ t (n - p) p)) then (nI (t (sk_ t (n - p) p)), sk_ t (n - p) p, sk_ t (n - p) p + 1, 0)
  else (wnK w (sc_ t (n - sk_ t (n - p) p) (sk_ t (n - p) p) 0 0 0).2.1 (sc_ t (n - sk_ t (n - p) p) (sk_ t (n - p) p) 0 0 0).2.2.1 (sc_ t (n - sk_ t (n - p) p) (sk_ t (n - p) p) 0 0 0).2.2.2, sk_ t (n - p) p, (sc_ t (n - sk_ t (n - p) p) (sk_ t (n - p) p) 0 0 0).1, (sc_ t (n - sk_ t (n - p) p) (sk_ t (n - p) p) 0 0 0).2.2.2)
theorem c_next {w : Nat → Int32} {n L p : Nat} {t : Nat → Nat} {σ : St_} (ht : ∀ i, t i < 256) (hC : CT σ n t) (hL : σ.1 1 3 = nI L) (hL0 : L ≤ 1040) (h4 : σ.1 1 4 = nI p) (hp : p ≤ n) (hw : ∀ j, j < 20 → σ.1 3 j = w j) : ∃ σ', f_X8_next KC [.ref 1] σ = some (none, σ') ∧ fr_ [1] σ σ' ∧ (∀ f, f ≠ 4 → f ≠ 5 → f ≠ 6 → f ≠ 7 → σ'.1 1 f = σ.1 1 f) ∧ σ'.1 1 6 = (tok_ w t n L p).1 ∧ σ'.1 1 5 = nI (tok_ w t n L p).2.1 ∧ σ'.1 1 4 = nI (tok_ w t n L p).2.2.1 ∧ (¬ (L < n ∧ L ≤ sk_ t (n - p) p) → ¬ n ≤ sk_ t (n - p) p → ¬ sg_ (t (sk_ t (n - p) p)) → σ'.1 1 7 = (tok_ w t n L p).2.2.2) := by
  have hn := hC.2.1
  have hsk := sk_le t (n - p) p
  have start : ∀ out, Ev_ (P_X8_next KC) 52 [some (.ref 1)] [] (sI_ σ 1 4 (nI (sk_ t (n - p) p))) out → f_X8_next KC [.ref 1] σ = some out := fun out h => z_X8_next (c_skip ht (n - p) p σ out (by omega) hC h4 h)
  generalize hq : sk_ t (n - p) p = q at hsk start ⊢
  have htok : tok_ w t n L p = (if L < n ∧ L ≤ q then (1, L, q, 0) else if n ≤ q then (0, q, q, 0) else if sg_ (t q) then (nI (t q), q, q + 1, 0) else (wnK w (sc_ t (n - q) q 0 0 0).2.1 (sc_ t (n - q) q 0 0 0).2.2.1 (sc_ t (n - q) q 0 0 0).2.2.2, q, (sc_ t (n - q) q 0 0 0).1, (sc_ t (n - q) q 0 0 0).2.2.2)) := by rw [tok_, hq]
  rw [htok]
  have hC1 : CT (sI_ σ 1 4 (nI q)) n t := CT_1 hC (by decide) _
  have hA : (sI_ σ 1 4 (nI q)).1 1 4 = nI q := by simp [sI_at]
  have hC2 : CT (sI_ (sI_ σ 1 4 (nI q)) 1 5 (nI q)) n t := CT_1 hC1 (by decide) _
  have hA2 : (sI_ (sI_ σ 1 4 (nI q)) 1 5 (nI q)).1 1 4 = nI q := by simp [sI_at]
  have hL2 : (sI_ (sI_ σ 1 4 (nI q)) 1 5 (nI q)).1 1 3 = nI L := by simp [sI_at, hL]
  by_cases c1 : L < n ∧ L ≤ q
  · rw [if_pos c1]
    refine ⟨sI_ (sI_ (sI_ (sI_ σ 1 4 (nI q)) 1 5 (nI q)) 1 5 (nI L)) 1 6 1, start _ (e_X8_next_52 ?_), fr_tr (fr_tr (fr_sI (by simp)) (fr_sI (by simp))) (fr_tr (fr_sI (by simp)) (fr_sI (by simp))), fun f f4 f5 f6 f7 => by simp [sI_at, f4, f5, f6], by simp [sI_at], by simp [sI_at], by simp [sI_at], fun z => absurd c1 z⟩
    rw [hA, hL2]
    exact pk_le n L (fun z => by omega) (fun _ => pk_lt q L (fun z => by omega) (fun _ => rfl) hA2) hC2.1
  · rw [if_neg c1]
    have go98 : ∀ out, Ev_ (P_X8_next KC) 98 [some (.ref 1)] [] (sI_ (sI_ σ 1 4 (nI q)) 1 5 (nI q)) out → f_X8_next KC [.ref 1] σ = some out := by
      intro out h
      refine start _ (e_X8_next_52 ?_)
      rw [hA, hL2]
      exact pk_le n L (fun z => h) (fun _ => pk_lt q L (fun z => h) (fun _ => by omega) hA2) hC2.1
    by_cases c2 : n ≤ q
    · rw [if_pos c2]
      refine ⟨sI_ (sI_ (sI_ σ 1 4 (nI q)) 1 5 (nI q)) 1 6 0, go98 _ (e_X8_next_98 (pk_lt q n (fun z => by omega) (fun _ => rfl) hA2 hC2.1)), fr_tr (fr_tr (fr_sI (by simp)) (fr_sI (by simp))) (fr_sI (by simp)), fun f f4 f5 f6 f7 => by simp [sI_at, f4, f5, f6], by simp [sI_at], by simp [sI_at], by simp [sI_at], fun _ z => absurd c2 z⟩
    · rw [if_neg c2]
      have hcl : Int32.toNatClampNeg ((sI_ (sI_ σ 1 4 (nI q)) 1 5 (nI q)).1 1 4) = q := pk_cl q hA2
      have hby : (sI_ (sI_ σ 1 4 (nI q)) 1 5 (nI q)).1 2 q = b8_ (t q) := hC2.2.2 q
      have his := c_isSign (σ := sI_ (sI_ σ 1 4 (nI q)) 1 5 (nI q)) (ht q)
      by_cases c3 : sg_ (t q)
      · rw [if_pos c3]
        rw [if_pos c3] at his
        have hb8 : b8_ (t q) = nI (t q) := b8_lo ⟨t q, by omega⟩
        refine ⟨sI_ (sI_ (sI_ (sI_ σ 1 4 (nI q)) 1 5 (nI q)) 1 6 (nI (t q))) 1 4 (nI (q + 1)), go98 _ (e_X8_next_98 (pk_lt q n (fun _ => ⟨vpin_e q (by omega) hA2, 1, _, ?_, br_f (by decide) ⟨vpin_e q (by omega) hA2, ?_⟩⟩) (fun z => by omega) hA2 hC2.1)), fr_tr (fr_tr (fr_sI (by simp)) (fr_sI (by simp))) (fr_tr (fr_sI (by simp)) (fr_sI (by simp))), fun f f4 f5 f6 f7 => by simp [sI_at, f4, f5, f6], by simp [sI_at], by simp [sI_at], by simp [sI_at], fun _ _ z => absurd c3 z⟩
        · rw [hcl, hby]
          exact his
        · rw [hcl, hby, hb8]
          have : (sI_ (sI_ (sI_ σ 1 4 (nI q)) 1 5 (nI q)) 1 6 (nI (t q))).1 1 4 = nI q := by simp [sI_at]
          rw [this, nI_1]
      · rw [if_neg c3]
        rw [if_neg c3] at his
        have hC3 : CT (sI_ (sI_ (sI_ σ 1 4 (nI q)) 1 5 (nI q)) 1 7 0) n t := CT_1 hC2 (by decide) _
        obtain ⟨σ', h1, h2, h3, h5, h6, h7⟩ := c_wn (w := w) ht hn (n - q) q 0 0 (sI_ (sI_ (sI_ σ 1 4 (nI q)) 1 5 (nI q)) 1 7 0) (by omega) (by omega) hC3 (by simp [sI_at]) (fun j hj => by simp [sI_at, hw j hj])
        have e7 : (sI_ (sI_ (sI_ σ 1 4 (nI q)) 1 5 (nI q)) 1 7 0).1 1 7 = 0 := by simp [sI_at]
        rw [e7] at h2 h3 h5
        refine ⟨σ', go98 _ (e_X8_next_98 (pk_lt q n (fun _ => ⟨vpin_e q (by omega) hA2, 0, _, ?_, br_t rfl ⟨σ', z_X8_nextWordOrNumber (e_X8_nextWordOrNumber_0 h1), rfl⟩⟩) (fun z => by omega) hA2 hC2.1)), fr_tr (fr_tr (fr_tr (fr_sI (by simp)) (fr_sI (by simp))) (fr_sI (by simp))) h6, fun f f4 f5 f6 f7 => by rw [h7 f f4 f6 f7]; simp [sI_at, f4, f5, f7], h2, by rw [h7 5 (by decide) (by decide) (by decide)]; simp [sI_at], h3, fun _ _ _ => h5⟩
        rw [hcl, hby]
        exact his
