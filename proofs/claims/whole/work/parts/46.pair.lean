/-! one TOKEN, both sides -/
def rk_ (κ : Nat) : Nat := if κ ≤ 1 then κ else if κ = 3 then 3 else if κ ≤ 23 then 2 else 4
abbrev wd_ (κ : Nat) : Prop := κ = 2 ∨ (4 ≤ κ ∧ κ ≤ 23)
def W_ : Nat → Int32 := fun j => nI (wc_ j)
/-- a TOKEN's kind, place, end and code or number -/
def TO_ (n κ pl e c : Nat) : Prop := κ < 64 ∧ pl ≤ 1040 ∧ e ≤ n ∧ (κ = 3 → c < 1000) ∧ (wd_ κ → okc_ c ∧ kwN_ c = κ) ∧ (24 ≤ κ → sg_ κ)
def TC_ (σ : St_) (κ pl e c : Nat) : Prop := σ.1 1 6 = nI κ ∧ σ.1 1 5 = nI pl ∧ σ.1 1 4 = nI e ∧ (2 ≤ κ → κ ≤ 23 → σ.1 1 7 = nI c)
def TM_ (σ : St_) (κ pl e c : Nat) : Prop := σ.1 219 7 = nI (rk_ κ) ∧ σ.1 219 6 = nI pl ∧ (κ ≠ 1 → σ.1 219 5 = nI e) ∧ (κ = 3 → σ.1 219 8 = nI c) ∧ (wd_ κ → σ.2.1 219 12 = lN (cm_ c)) ∧ (24 ≤ κ → σ.1 219 9 = nI κ)
theorem rl_01 (c : Nat) : rl_ c = 0 ∨ rl_ c = 1 := by
  rw [rl_]
  split
  · exact Or.inr rfl
  · exact Or.inl rfl
theorem sc_pos {t : Nat → Nat} {k q : Nat} (hk : 0 < k) (h : isL_ (t q) ∨ isD_ (t q)) : q < (sc_ t k q 0 0 0).1 := by
  obtain ⟨k, rfl⟩ : ∃ k', k = k' + 1 := ⟨k - 1, by omega⟩
  rw [sc_]
  split
  · have := (sc_le t k (q + 1) (0 + 1) 0 (((0 : Int32) <<< ((5 : Int32) &&& 31)) ||| ((nI (t q) - 97) + 1))).1
    omega
  · rw [if_pos (by omega)]
    have := (sc_le t k (q + 1) 0 (0 + 1) ((((0 : Int32) * 10) + nI (t q)) - 48)).1
    omega
theorem J_0 (t : Nat → Nat) (q : Nat) : J_ t q (rl_ (t q)) q 0 0 0 1 0 0 := ⟨by omega, Nat.le_refl _, Or.inr rfl, ⟨fun _ => ⟨fun _ => rfl, fun _ => rfl⟩, fun _ => rfl⟩, fun _ => ⟨fun i hi => absurd hi (by omega), fun _ => ⟨rfl, rfl⟩⟩, fun _ => ⟨fun i hi => absurd hi (by omega), fun _ => ⟨rfl, rfl⟩⟩, fun h => absurd h (by omega)⟩
theorem tok_pair {t : Nat → Nat} {n L p : Nat} (hn : n ≤ 1040) (hL : L ≤ 1040) (hp : p ≤ n) : ∃ κ pl e c, TO_ n κ pl e c ∧ (p ≤ e ∧ (2 ≤ κ → p < e)) ∧ ((tok_ W_ t n L p).1 = nI κ ∧ (tok_ W_ t n L p).2.1 = pl ∧ (tok_ W_ t n L p).2.2.1 = e ∧ (2 ≤ κ → κ ≤ 23 → (¬ (L < n ∧ L ≤ sk_ t (n - p) p) ∧ ¬ n ≤ sk_ t (n - p) p ∧ ¬ sg_ (t (sk_ t (n - p) p))) ∧ (tok_ W_ t n L p).2.2.2 = nI c)) ∧ ((mtk_ t n L (sk_ t (n - p) p)).1 = nI (rk_ κ) ∧ (mtk_ t n L (sk_ t (n - p) p)).2.1 = pl ∧ (κ ≠ 1 → (mtk_ t n L (sk_ t (n - p) p)).2.2 = e) ∧ (2 ≤ κ → ¬ (L < n ∧ L ≤ sk_ t (n - p) p) ∧ ¬ n ≤ sk_ t (n - p) p) ∧ (24 ≤ κ → sg_ (t (sk_ t (n - p) p)) ∧ t (sk_ t (n - p) p) = κ) ∧ (2 ≤ κ → κ ≤ 23 → isL_ (t (sk_ t (n - p) p)) ∨ isD_ (t (sk_ t (n - p) p))) ∧ (κ = 3 → (sr_ t (sk_ t (n - p) p) (rl_ (t (sk_ t (n - p) p))) (n - sk_ t (n - p) p) (sk_ t (n - p) p) 1 0 0).2.2.1 = nI c) ∧ (wd_ κ → (sr_ t (sk_ t (n - p) p) (rl_ (t (sk_ t (n - p) p))) (n - sk_ t (n - p) p) (sk_ t (n - p) p) 1 0 0).2.2.2 = lN (cm_ c))) := by
  have hsk := sk_le t (n - p) p
  unfold tok_
  generalize sk_ t (n - p) p = q at hsk ⊢
  have hq : q ≤ n := by omega
  by_cases c1 : L < n ∧ L ≤ q
  · rw [mtk_, if_pos c1, if_pos c1]
    exact ⟨1, L, q, 0, ⟨by omega, by omega, by omega, by omega, by omega, by omega⟩, ⟨by omega, by omega⟩, ⟨rfl, rfl, rfl, by omega⟩, rfl, rfl, by omega, by omega, by omega, by omega, by omega, by omega⟩
  · rw [mtk_, if_neg c1, if_neg c1]
    by_cases c2 : n ≤ q
    · rw [if_pos c2, if_pos c2]
      exact ⟨0, q, q, 0, ⟨by omega, by omega, by omega, by omega, by omega, by omega⟩, ⟨by omega, by omega⟩, ⟨rfl, rfl, rfl, by omega⟩, rfl, rfl, fun _ => rfl, by omega, by omega, by omega, by omega, by omega⟩
    · rw [if_neg c2, if_neg c2]
      by_cases c3 : sg_ (t q)
      · have c4 : ¬ isL_ (t q) ∧ ¬ isD_ (t q) := by omega
        rw [if_pos c3, if_pos c4, if_pos c3]
        refine ⟨t q, q, q + 1, 0, ⟨by omega, by omega, by omega, by omega, by omega, fun _ => c3⟩, ⟨by omega, fun _ => by omega⟩, ⟨rfl, rfl, rfl, by omega⟩, ?_, rfl, fun _ => rfl, fun _ => ⟨c1, c2⟩, fun _ => ⟨c3, rfl⟩, by omega, by omega, by omega⟩
        rw [rk_, if_neg (by omega), if_neg (by omega), if_neg (by omega)]
        rfl
      · rw [if_neg c3]
        by_cases c4 : ¬ isL_ (t q) ∧ ¬ isD_ (t q)
        · rw [if_pos c4, if_neg c3]
          obtain ⟨k, hk⟩ : ∃ k, n - q = k + 1 := ⟨n - q - 1, by omega⟩
          have es : sc_ t (n - q) q 0 0 0 = (q, 0, 0, 0) := by rw [hk, sc_, if_neg c4.1, if_neg c4.2]
          rw [es]
          refine ⟨1, q, q, 0, ⟨by omega, by omega, by omega, by omega, by omega, by omega⟩, ⟨by omega, by omega⟩, ⟨?_, rfl, rfl, by omega⟩, rfl, rfl, by omega, by omega, by omega, by omega, by omega, by omega⟩
          rfl
        · rw [if_neg c4]
          have c5 : isL_ (t q) ∨ isD_ (t q) := by omega
          have hlt := sc_pos (k := n - q) (q := q) (by omega) c5
          have hle := (sc_le t (n - q) q 0 0 0).2
          obtain ⟨hE, hJ⟩ := J_end rfl (n - q) q 0 0 0 1 0 0 (J_0 t q)
          rw [hE]
          generalize sc_ t (n - q) q 0 0 0 = S at hlt hle hJ ⊢
          generalize sr_ t q (rl_ (t q)) (n - q) q 1 0 0 = R at hJ ⊢
          obtain ⟨E, a, d, v⟩ := S
          obtain ⟨E', g, u, wd⟩ := R
          simp only at hlt hle hJ ⊢
          obtain ⟨j1, j2, j3, j4, j5, j6, j7⟩ := hJ
          have j7 := j7 hlt
          have hx := rl_01 (t q)
          by_cases w1 : d = 0 ∧ 1 ≤ a ∧ a ≤ 6
          · obtain ⟨k1, k2⟩ := j5 w1.1
            obtain ⟨k3, k4⟩ := k2 w1.2.2
            have hok : okc_ (C5_ t q a) := ⟨t, q, a, w1.2.2, k1, rfl⟩
            have hwd : wd_ (kwN_ (C5_ t q a)) := by
              rcases kwN_or (C5_ t q a) with h | ⟨j, hj, -, h⟩
              · exact Or.inl h
              · right
                omega
            have hx1 : rl_ (t q) = 1 := by
              rcases hx with h | h
              · have := j7.2 h
                omega
              · exact h
            have hg : g = 1 := j4.mpr ⟨fun _ => w1.1, fun z => by rw [hx1] at z; exact absurd z (by decide)⟩
            obtain ⟨κ, hκ⟩ : ∃ κ, kwN_ (C5_ t q a) = κ := ⟨_, rfl⟩
            have hκ2 : κ < 64 ∧ κ ≠ 3 ∧ κ ≤ 23 ∧ 2 ≤ κ := by
              rw [hκ] at hwd
              omega
            refine ⟨κ, q, E, C5_ t q a, ⟨hκ2.1, by omega, by omega, fun z => absurd z hκ2.2.1, fun _ => ⟨hok, hκ⟩, fun z => absurd z (by omega)⟩, ⟨by omega, fun _ => by omega⟩, ⟨?_, rfl, rfl, fun _ _ => ⟨⟨c1, c2, c3⟩, k3⟩⟩, ?_, rfl, fun _ => rfl, fun _ => ⟨c1, c2⟩, fun z => absurd z (by omega), fun _ _ => c5, fun z => absurd z hκ2.2.1, fun _ => ?_⟩
            · rw [wnK, if_pos w1, k3, ← hκ]
              exact kw_nI (okc_lt hok) 20 0 2 (by omega)
            · rw [hg, hx1, srK, if_neg (by decide), if_neg (by decide), if_pos (by omega), rk_, if_neg (by omega), if_neg (by omega), if_pos (by omega)]
              rfl
            · rw [k4, cm_, cv_C 6 a w1.2.2 k1]
          · by_cases w2 : a = 0 ∧ 1 ≤ d ∧ d ≤ 3
            · obtain ⟨k1, k2⟩ := j6 w2.1
              obtain ⟨k3, k4⟩ := k2 w2.2.2
              have hlt3 := CD_lt d k1
              have hlt4 : 10 ^ d ≤ 10 ^ 3 := Nat.pow_le_pow_right (by decide) w2.2.2
              have hx1 : rl_ (t q) = 0 := by
                rcases hx with h | h
                · exact h
                · have := j7.1 h
                  omega
              have hg : g = 1 := j4.mpr ⟨fun z => by rw [hx1] at z; exact absurd z (by decide), fun _ => w2.1⟩
              refine ⟨3, q, E, CD_ t q d, ⟨by omega, by omega, by omega, by omega, by omega, by omega⟩, ⟨by omega, fun _ => by omega⟩, ⟨?_, rfl, rfl, fun _ _ => ⟨⟨c1, c2, c3⟩, k3⟩⟩, ?_, rfl, fun _ => rfl, fun _ => ⟨c1, c2⟩, by omega, fun _ _ => c5, fun _ => k4, by omega⟩
              · rw [wnK, if_neg w1, if_pos w2]
                rfl
              · rw [hg, hx1, srK, if_neg (by decide), if_pos rfl, if_pos (by omega)]
                rfl
            · refine ⟨1, q, E, 0, ⟨by omega, by omega, by omega, by omega, by omega, by omega⟩, ⟨by omega, by omega⟩, ⟨?_, rfl, rfl, by omega⟩, ?_, rfl, by omega, by omega, by omega, by omega, by omega, by omega⟩
              · rw [wnK, if_neg w1, if_neg w2]
                rfl
              · rw [srK]
                rcases j3 with hg | hg
                · rw [if_pos hg]; rfl
                · have h4 := j4.mp hg
                  rw [if_neg (by rw [hg]; decide)]
                  rcases hx with h | h
                  · have := h4.2 h
                    have := j7.2 h
                    rw [if_pos h, if_neg (by omega)]; rfl
                  · have := h4.1 h
                    have := j7.1 h
                    rw [if_neg (by rw [h]; decide), if_neg (by omega)]; rfl
/-- the class and the reference read the same TOKEN -/
theorem tok_both {t : Nat → Nat} {n L p : Nat} (ht : ∀ i, t i < 256) (hn : n ≤ 1040) (hL : L ≤ 1040) (hp : p ≤ n) : ∃ κ pl e c, TO_ n κ pl e c ∧ (p ≤ e ∧ (2 ≤ κ → p < e)) ∧ (∀ σ : St_, CT σ n t → σ.1 1 3 = nI L → σ.1 1 4 = nI p → (∀ j, j < 20 → σ.1 3 j = W_ j) → ∃ σ', f_X8_next KC [.ref 1] σ = some (none, σ') ∧ fr_ [1] σ σ' ∧ (∀ f, f ≠ 4 → f ≠ 5 → f ≠ 6 → f ≠ 7 → σ'.1 1 f = σ.1 1 f) ∧ TC_ σ' κ pl e c) ∧ (∀ σ : St_, MX σ n t → σ.1 219 4 = nI L → σ.1 219 5 = nI p → ∃ σ', f_X12_go KC [.ref 219] σ = some (none, σ') ∧ fm_ [219] [219] σ σ' ∧ (∀ f, f ≠ 5 → f ≠ 6 → f ≠ 7 → f ≠ 8 → f ≠ 9 → σ'.1 219 f = σ.1 219 f) ∧ TM_ σ' κ pl e c) := by
  obtain ⟨κ, pl, e, c, h0, hm, ⟨a1, a2, a3, a4⟩, b1, b2, b3, b4, b5, b6, b7, b8⟩ := tok_pair (t := t) hn hL hp
  refine ⟨κ, pl, e, c, h0, hm, fun σ s1 s2 s3 s4 => ?_, fun σ s1 s2 s3 => ?_⟩
  · obtain ⟨σ', g1, g2, g3, g4, g5, g6, g7⟩ := c_next (w := W_) ht s1 s2 hL s3 hp s4
    refine ⟨σ', g1, g2, g3, by rw [g4, a1], by rw [g5, a2], by rw [g6, a3], fun z1 z2 => ?_⟩
    obtain ⟨⟨q1, q2, q3⟩, q4⟩ := a4 z1 z2
    rw [g7 q1 q2 q3, q4]
  · obtain ⟨σ', g1, g2, g3, g4, g5, g6, g7⟩ := m_go ht s1 s2 hL s3 hp
    refine ⟨σ', g1, g2, g3, by rw [g4, b1], by rw [g5, b2], fun z => by rw [g6, b3 z], fun z => ?_, fun z => ?_, fun z => ?_⟩
    · obtain ⟨q1, q2⟩ := b4 (by omega)
      rw [((g7 q1 q2).2 (b6 (by omega) (by omega))).1, b7 z]
    · obtain ⟨q1, q2⟩ := b4 (by omega)
      rw [((g7 q1 q2).2 (b6 (by omega) (by omega))).2, b8 z]
    · obtain ⟨q1, q2⟩ := b4 (by omega)
      obtain ⟨q3, q4⟩ := b5 z
      rw [(g7 q1 q2).1 q3, q4]
