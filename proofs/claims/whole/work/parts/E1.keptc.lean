/-! the calls IMAGE, RESTORE, on both sides -/
def PMg_ (μ : St_) (r o : Nat) (P : Nat → Nat → Nat) (a : Nat) : Prop := μ.1 r (o + 390) = nI a ∧ ∀ i, i < a → μ.1 r (o + (400 + 4 * i)) = nI (P i 0) ∧ μ.1 r (o + (400 + 4 * i + 1)) = nI (P i 1) ∧ μ.1 r (o + (400 + 4 * i + 2)) = nI (P i 2) ∧ μ.1 r (o + (400 + 4 * i + 3)) = nI (P i 3)
/-- what is kept in the place k -/
def KE_ (σ μ : St_) (k : Nat) : Prop := (σ.1 142 k = nI 0 ∧ μ.1 227 k = nI 0) ∨ ((σ.1 142 k = nI 1 ∧ μ.1 227 k = nI 1) ∧ ∃ B P a, (CB_ σ (143 + 38 * k) B ∧ MB_ μ 223 (1050 * k) 226 (25 * k) B ∧ BO_ B) ∧ (PC_ σ (171 + 38 * k) P a ∧ PMg_ μ 223 (1050 * k) P a ∧ PO_ B P a) ∧ SE_ σ μ (176 + 38 * k) 223 (1050 * k) B)
section KC1
variable {σ μ μ1 : St_} {b b1 p p1 s s1 a : Nat} {B P : Nat → Nat → Nat}
theorem MB_to {μ' : St_} {r o na no r' o' na' no' : Nat} (h : MB_ μ r o na no B) (h1 : ∀ i, i < 1050 → μ'.1 r' (o' + i) = μ.1 r (o + i)) (h2 : ∀ i, i < 25 → μ'.2.1 na' (no' + i) = μ.2.1 na (no + i)) (hO : BO_ B) : MB_ μ' r' o' na' no' B := by
  have c16 := hO.1.1
  have c9 := hO.1.2.1
  obtain ⟨⟨a1, a2, a3, a4⟩, g2, g3⟩ := h
  refine ⟨⟨?_, ?_, ?_, ?_⟩, fun c hc => ?_, fun r hr => ?_⟩
  · have := h1 0 (by omega)
    rw [Nat.add_zero, Nat.add_zero] at this
    rw [this]
    exact a1
  · rw [h1 1 (by omega)]; exact a2
  · rw [h1 2 (by omega)]; exact a3
  · rw [h1 3 (by omega)]; exact a4
  · obtain ⟨e1, e2, e3, e4, e5⟩ := g2 c hc
    exact ⟨by rw [h2 _ (by omega)]; exact e1, by rw [h1 _ (by omega)]; exact e2, by rw [h1 _ (by omega)]; exact e3, by rw [h1 _ (by omega)]; exact e4, fun d hd => by rw [h1 _ (by omega)]; exact e5 d hd⟩
  · obtain ⟨e1, e2, e3, e4, e5, e6⟩ := g3 r hr
    exact ⟨by rw [h2 _ (by omega)]; exact e1, by rw [h1 _ (by omega)]; exact e2, by rw [h1 _ (by omega)]; exact e3, by rw [h1 _ (by omega)]; exact e4, by rw [h1 _ (by omega)]; exact e5, by rw [h1 _ (by omega)]; exact e6⟩
theorem PM_g : PM_ μ P a ↔ PMg_ μ 221 0 P a := by
  unfold PM_ PMg_
  simp only [Nat.zero_add]
theorem PMg_to {μ' : St_} {r o r' o' : Nat} (h : PMg_ μ r o P a) (h1 : ∀ i, i < 1050 → μ'.1 r' (o' + i) = μ.1 r (o + i)) (ha : a ≤ 100) : PMg_ μ' r' o' P a := by
  refine ⟨by rw [h1 _ (by omega)]; exact h.1, fun i hi => ?_⟩
  obtain ⟨e1, e2, e3, e4⟩ := h.2 i hi
  exact ⟨by rw [h1 _ (by omega)]; exact e1, by rw [h1 _ (by omega)]; exact e2, by rw [h1 _ (by omega)]; exact e3, by rw [h1 _ (by omega)]; exact e4⟩
/-- a SENTENCE, elsewhere on both sides -/
theorem SE_to {σ' μ' : St_} {r o r' o' : Nat} (h : SE_ σ μ s1 r o B) (h1 : ∀ i, i < 1050 → μ'.1 r' (o' + i) = μ.1 r (o + i)) (h5 : σ'.1 s 5 = σ.1 s1 5) (h4 : σ'.1 s 4 = σ.1 s1 4) (hr : ∀ Q N, N ≤ 40 → PC_ σ s1 Q N → PC_ σ' s Q N) : SE_ σ' μ' s r' o' B := by
  rcases h with ⟨e1, e0, e2⟩ | ⟨Q, V, N, O, D, ⟨n1, n2, n3, n4, n5⟩, hv, hE, ⟨hpc, h5'⟩, m1, m2, m3⟩
  · exact Or.inl ⟨h5.trans e1, h4.trans e0, by rw [h1 _ (by omega)]; exact e2⟩
  · refine Or.inr ⟨Q, V, N, O, D, ⟨n1, n2, n3, n4, n5⟩, hv, hE, ⟨hr Q N n2 hpc, h5.trans h5'⟩, by rw [h1 _ (by omega)]; exact m1, by rw [h1 _ (by omega)]; exact m2, fun j i hj hi => ?_⟩
    have := h1 (810 + 4 * j + i) (by omega)
    rw [show o' + (810 + 4 * j + i) = o' + 810 + 4 * j + i by omega, show o + (810 + 4 * j + i) = o + 810 + 4 * j + i by omega] at this
    rw [this]
    exact m3 j i hj hi
theorem c_pcopy (hP : isP p) (hP1 : isP p1) (hne : p ≠ p1) (h : PC_ σ p1 P a) (ha : a ≤ 100) : ∃ σ', f_X6_copyFrom KC [.ref p, .ref p1] σ = some (none, σ') ∧ PC_ σ' p P a ∧ fr_ [p, p + 1, p + 2, p + 3, p + 4] σ σ' := by
  have far : ∀ x y, x ≤ 4 → y ≤ 4 → p + x ≠ p1 + y := fun x y hx hy => by unfold isP at hP hP1; omega
  obtain ⟨σ1, a1, a2, a3, -⟩ := c_copyRow (σ := σ) (m := a) (kp_k0 hP1) (kp_k0 hP) ha ha (by decide) (by decide)
  obtain ⟨σ2, b1, b2, b3, -⟩ := c_copyRow (σ := σ1) (m := a) (kp_k1 hP1) (kp_k1 hP) ha ha (by decide) (by decide)
  obtain ⟨σ3, c1, c2, c3, -⟩ := c_copyRow (σ := σ2) (m := a) (kp_k2 hP1) (kp_k2 hP) ha ha (by decide) (by decide)
  obtain ⟨σ4, d1, d2, d3, -⟩ := c_copyRow (σ := σ3) (m := a) (kp_k3 hP1) (kp_k3 hP) ha ha (by decide) (by decide)
  have n1 := far 1 0 (by omega) (by omega)
  have n2 := far 2 0 (by omega) (by omega)
  have n3 := far 3 0 (by omega) (by omega)
  have n4 := far 4 0 (by omega) (by omega)
  have n12 := far 1 2 (by omega) (by omega)
  have n13 := far 1 3 (by omega) (by omega)
  have n14 := far 1 4 (by omega) (by omega)
  have n23 := far 2 3 (by omega) (by omega)
  have n24 := far 2 4 (by omega) (by omega)
  have n34 := far 3 4 (by omega) (by omega)
  have q1 : σ1.1 p1 4 = nI a := by rw [a2.1 p1 (by simp; omega)]; exact h.1
  have q2 : σ2.1 p1 4 = nI a := by rw [b2.1 p1 (by simp; omega)]; exact q1
  have q3 : σ3.1 p1 4 = nI a := by rw [c2.1 p1 (by simp; omega)]; exact q2
  have q4 : σ4.1 p1 4 = nI a := by rw [d2.1 p1 (by simp; omega)]; exact q3
  refine ⟨sI_ σ4 p 4 (nI a), z_X6_copyFrom (e_X6_copyFrom_0 hP hP1 ⟨σ1, by rw [h.1]; exact a1, σ2, by rw [q1]; exact b1, σ3, by rw [q2]; exact c1, σ4, by rw [q3]; exact d1, by rw [q4]⟩), ⟨by rw [sI_at, if_pos ⟨rfl, rfl⟩], fun i hi => ?_⟩, fr_tr (fr_mono a2 (by simp)) (fr_tr (fr_mono b2 (by simp)) (fr_tr (fr_mono c2 (by simp)) (fr_tr (fr_mono d2 (by simp)) (fr_sI (by simp)))))⟩
  obtain ⟨e1, e2, e3, e4⟩ := h.2 i hi
  refine ⟨?_, ?_, ?_, ?_⟩
  · rw [sI_row _ _ _ _ (by omega), d2.1 (p + 1) (by simp), c2.1 (p + 1) (by simp), b2.1 (p + 1) (by simp), a3 i hi]
    exact e1
  · rw [sI_row _ _ _ _ (by omega), d2.1 (p + 2) (by simp), c2.1 (p + 2) (by simp), b3 i hi, a2.1 (p1 + 2) (by simp; omega)]
    exact e2
  · rw [sI_row _ _ _ _ (by omega), d2.1 (p + 3) (by simp), c3 i hi, b2.1 (p1 + 3) (by simp; omega), a2.1 (p1 + 3) (by simp; omega)]
    exact e3
  · rw [sI_row _ _ _ _ (by omega), d3 i hi, c2.1 (p1 + 4) (by simp; omega), b2.1 (p1 + 4) (by simp; omega), a2.1 (p1 + 4) (by simp; omega)]
    exact e4
theorem c_scopy {N : Nat} {Q : Nat → Nat → Nat} (hS : isS s) (hS1 : isS s1) (hne : s ≠ s1) (h : σ.1 s1 4 = nI N) (hN : N ≤ 40) : ∃ σ', f_X9_copyFrom KC [.ref s, .ref s1] σ = some (none, σ') ∧ (PC_ σ s1 Q N → PC_ σ' s Q N) ∧ σ'.1 s 4 = nI N ∧ σ'.1 s 5 = σ.1 s1 5 ∧ fr_ [s, s + 1, s + 2, s + 3, s + 4] σ σ' := by
  have far : ∀ x y, x ≤ 4 → y ≤ 4 → s + x ≠ s1 + y := fun x y hx hy => by unfold isS at hS hS1; omega
  obtain ⟨σ1, a1, a2, a3, -⟩ := c_copyRow (σ := σ) (m := N) (ks_k0 hS1) (ks_k0 hS) hN hN (by decide) (by decide)
  obtain ⟨σ2, b1, b2, b3, -⟩ := c_copyRow (σ := σ1) (m := N) (ks_k1 hS1) (ks_k1 hS) hN hN (by decide) (by decide)
  obtain ⟨σ3, c1, c2, c3, -⟩ := c_copyRow (σ := σ2) (m := N) (ks_k2 hS1) (ks_k2 hS) hN hN (by decide) (by decide)
  obtain ⟨σ4, d1, d2, d3, -⟩ := c_copyRow (σ := σ3) (m := N) (ks_k3 hS1) (ks_k3 hS) hN hN (by decide) (by decide)
  have n1 := far 1 0 (by omega) (by omega)
  have n2 := far 2 0 (by omega) (by omega)
  have n3 := far 3 0 (by omega) (by omega)
  have n4 := far 4 0 (by omega) (by omega)
  have n12 := far 1 2 (by omega) (by omega)
  have n13 := far 1 3 (by omega) (by omega)
  have n14 := far 1 4 (by omega) (by omega)
  have n23 := far 2 3 (by omega) (by omega)
  have n24 := far 2 4 (by omega) (by omega)
  have n34 := far 3 4 (by omega) (by omega)
  have r1 : σ1.1 s1 = σ.1 s1 := a2.1 s1 (by simp; omega)
  have r2 : σ2.1 s1 = σ.1 s1 := by rw [b2.1 s1 (by simp; omega), r1]
  have r3 : σ3.1 s1 = σ.1 s1 := by rw [c2.1 s1 (by simp; omega), r2]
  have r4 : σ4.1 s1 = σ.1 s1 := by rw [d2.1 s1 (by simp; omega), r3]
  have e5 : (sI_ σ4 s 4 (nI N)).1 s1 5 = σ.1 s1 5 := by rw [sI_row _ _ _ _ (by omega), r4]
  refine ⟨sI_ (sI_ σ4 s 4 (nI N)) s 5 (σ.1 s1 5), z_X9_copyFrom (e_X9_copyFrom_0 hS hS1 ⟨σ1, by rw [h]; exact a1, σ2, by rw [r1, h]; exact b1, σ3, by rw [r2, h]; exact c1, σ4, by rw [r3, h]; exact d1, by rw [r4, h, e5]⟩), fun hp => ⟨?_, fun i hi => ?_⟩, ?_, by rw [sI_at, if_pos ⟨rfl, rfl⟩], fr_tr (fr_mono a2 (by simp)) (fr_tr (fr_mono b2 (by simp)) (fr_tr (fr_mono c2 (by simp)) (fr_tr (fr_mono d2 (by simp)) (fr_tr (fr_sI (by simp)) (fr_sI (by simp))))))⟩
  · rw [sI_at, if_neg (by omega), sI_at, if_pos ⟨rfl, rfl⟩]
  · obtain ⟨e1, e2, e3, e4⟩ := hp.2 i hi
    refine ⟨?_, ?_, ?_, ?_⟩
    · rw [sI_row _ _ _ _ (by omega), sI_row _ _ _ _ (by omega), d2.1 (s + 1) (by simp), c2.1 (s + 1) (by simp), b2.1 (s + 1) (by simp), a3 i hi]
      exact e1
    · rw [sI_row _ _ _ _ (by omega), sI_row _ _ _ _ (by omega), d2.1 (s + 2) (by simp), c2.1 (s + 2) (by simp), b3 i hi, a2.1 (s1 + 2) (by simp; omega)]
      exact e2
    · rw [sI_row _ _ _ _ (by omega), sI_row _ _ _ _ (by omega), d2.1 (s + 3) (by simp), c3 i hi, b2.1 (s1 + 3) (by simp; omega), a2.1 (s1 + 3) (by simp; omega)]
      exact e3
    · rw [sI_row _ _ _ _ (by omega), sI_row _ _ _ _ (by omega), d3 i hi, c2.1 (s1 + 4) (by simp; omega), b2.1 (s1 + 4) (by simp; omega), a2.1 (s1 + 4) (by simp; omega)]
      exact e4
  · rw [sI_at, if_neg (by omega), sI_at, if_pos ⟨rfl, rfl⟩]
theorem c_bcopy (hB : isB b) (hB1 : isB b1) (hne : b ≠ b1) (h : CB_ σ b1 B) (hO : BO_ B) : ∃ σ', f_X0_copyFrom KC [.ref b, .ref b1] σ = some (none, σ') ∧ CB_ σ' b B ∧ (∀ o, ¬ (b ≤ o ∧ o ≤ b + 27) → σ'.1 o = σ.1 o) ∧ σ'.2 = σ.2 := by
  have c16 := hO.1.1
  have c9 := hO.1.2.1
  have far : ∀ x y, x ≤ 27 → y ≤ 27 → b + x ≠ b1 + y := fun x y hx hy => by unfold isB at hB hB1; omega
  have out : ∀ o, b1 ≤ o → o ≤ b1 + 27 → ∀ x, x ≤ 27 → o ≠ b + x := fun o o1 o2 x hx z => far x (o - b1) hx (by omega) (by omega)
  obtain ⟨σ1, a1, a2, a3, -⟩ := c_copyRow (σ := σ) (m := B 0 0) (kb_k0 hB1) (kb_k0 hB) c16 c16 (by decide) (by decide)
  obtain ⟨σ2, b1', b2, b3, -⟩ := c_copyRow (σ := σ1) (m := B 0 0) (kb_k1 hB1) (kb_k1 hB) c16 c16 (by decide) (by decide)
  obtain ⟨σ3, c1, c2, c3, -⟩ := c_copyRow (σ := σ2) (m := B 0 0) (kb_k2 hB1) (kb_k2 hB) c16 c16 (by decide) (by decide)
  obtain ⟨σ4, d1, d2, d3, -⟩ := c_copyRow (σ := σ3) (m := B 0 0) (kb_k3 hB1) (kb_k3 hB) c16 c16 (by decide) (by decide)
  have s1 : ∀ o, b1 ≤ o → o ≤ b1 + 27 → σ1.1 o = σ.1 o := fun o o1 o2 => a2.1 o (by have := out o o1 o2 1 (by omega); simp; omega)
  have s2 : ∀ o, b1 ≤ o → o ≤ b1 + 27 → σ2.1 o = σ.1 o := fun o o1 o2 => by rw [b2.1 o (by have := out o o1 o2 2 (by omega); simp; omega), s1 o o1 o2]
  have s3 : ∀ o, b1 ≤ o → o ≤ b1 + 27 → σ3.1 o = σ.1 o := fun o o1 o2 => by rw [c2.1 o (by have := out o o1 o2 3 (by omega); simp; omega), s2 o o1 o2]
  have s4 : ∀ o, b1 ≤ o → o ≤ b1 + 27 → σ4.1 o = σ.1 o := fun o o1 o2 => by rw [d2.1 o (by have := out o o1 o2 4 (by omega); simp; omega), s3 o o1 o2]
  have f4 : (∀ o, ¬ (b ≤ o ∧ o ≤ b + 27) → σ4.1 o = σ.1 o) ∧ σ4.2 = σ.2 := ⟨fun o ho => by rw [d2.1 o (by simp; omega), c2.1 o (by simp; omega), b2.1 o (by simp; omega), a2.1 o (by simp; omega)], by rw [d2.2, c2.2, b2.2, a2.2]⟩
  have w4 : ∀ i, i < B 0 0 → σ4.1 (b + 1) i = σ.1 (b1 + 1) i ∧ σ4.1 (b + 2) i = σ.1 (b1 + 2) i ∧ σ4.1 (b + 3) i = σ.1 (b1 + 3) i ∧ σ4.1 (b + 4) i = σ.1 (b1 + 4) i := fun i hi => ⟨by rw [d2.1 _ (by simp), c2.1 _ (by simp), b2.1 _ (by simp), a3 i hi], by rw [d2.1 _ (by simp), c2.1 _ (by simp), b3 i hi, s1 _ (by omega) (by omega)], by rw [d2.1 _ (by simp), c3 i hi, s2 _ (by omega) (by omega)], by rw [d3 i hi, s3 _ (by omega) (by omega)]⟩
  -- the rows of leanings, from the c-th on; then the READERS' rows
  have loop : ∀ n c (x : St_), c + n = B 0 0 → (∀ o, b1 ≤ o → o ≤ b1 + 27 → x.1 o = σ.1 o) → ∃ x', (∀ out, Ev_ (P_X0_copyFrom KC) 62 [some (.ref b), some (.ref b1), some (.int (nI (B 0 0)))] [] x' out → Ev_ (P_X0_copyFrom KC) 62 [some (.ref b), some (.ref b1), some (.int (nI c))] [] x out) ∧ (∀ c', c ≤ c' → c' < B 0 0 → ∀ i, i < 16 → x'.1 (b + 6 + c') i = σ.1 (b1 + 6 + c') i) ∧ (∀ o, ¬ (b + 6 + c ≤ o ∧ o < b + 6 + B 0 0) → x'.1 o = x.1 o) ∧ x'.2 = x.2 := by
    intro n
    induction n with
    | zero =>
      intro c x hc hx
      obtain rfl : c = B 0 0 := by omega
      exact ⟨x, fun out q => q, fun c' h1 h2 => by omega, fun _ _ => rfl, rfl⟩
    | succ n ih =>
      intro c x hc hx
      obtain ⟨y, y1, y2, y3, -⟩ := c_copyRow (σ := x) (m := 16) (q0 := b1 + 6 + c) (q1 := b + 6 + c) (kb_rk hB1 c (by omega)) (kb_rk hB c (by omega)) (Nat.le_refl _) (Nat.le_refl _) (by decide) (by decide)
      have hy : ∀ o, b1 ≤ o → o ≤ b1 + 27 → y.1 o = σ.1 o := fun o o1 o2 => by rw [y2.1 o (by have := out o o1 o2 (6 + c) (by omega); simp; omega), hx o o1 o2]
      obtain ⟨x', q1, q2, q3, q4⟩ := ih (c + 1) y (by omega) hy
      refine ⟨x', fun out q => e_X0_copyFrom_62 hB hB1 (pk_le (B 0 0) c (fun z => by omega) (fun _ => ⟨vpin_n (by omega), vpin_n (by omega), y, ?_, ?_⟩) (by rw [hx b1 (by omega) (by omega)]; exact h.1.1)), fun c' h1 h2 i hi => ?_, fun o ho => ?_, by rw [q4, y2.2]⟩
      · rw [cl_ (by omega)]
        exact y1
      · rw [nI_1]
        exact q1 out q
      · by_cases e : c' = c
        · subst e
          rw [q3 _ (by omega), y3 i hi, hx _ (by omega) (by omega)]
        · exact q2 c' (by omega) h2 i hi
      · rw [q3 o (by omega), y2.1 o (by simp; omega)]
  obtain ⟨x, l1, l2, l3, l4⟩ := loop (B 0 0) 0 σ4 (by omega) s4
  have sx : ∀ o, b1 ≤ o → o ≤ b1 + 27 → x.1 o = σ.1 o := fun o o1 o2 => by rw [l3 o (fun z => out o o1 o2 (o - b) (by omega) (by omega)), s4 o o1 o2]
  obtain ⟨y1, e1, e2, e3, -⟩ := c_copyRow (σ := x) (m := B 0 1) (kb_k5 hB1) (kb_k5 hB) c9 c9 (by decide) (by decide)
  obtain ⟨y2, g1, g2, g3, -⟩ := c_copyRow (σ := y1) (m := B 0 1) (kb_k6 hB1) (kb_k6 hB) c9 c9 (by decide) (by decide)
  obtain ⟨y3, h1, h2, h3, -⟩ := c_copyRow (σ := y2) (m := B 0 1) (kb_k7 hB1) (kb_k7 hB) c9 c9 (by decide) (by decide)
  obtain ⟨y4, i1, i2, i3, -⟩ := c_copyRow (σ := y3) (m := B 0 1) (kb_k8 hB1) (kb_k8 hB) c9 c9 (by decide) (by decide)
  obtain ⟨y5, j1, j2, j3, -⟩ := c_copyRow (σ := y4) (m := B 0 1) (kb_k9 hB1) (kb_k9 hB) c9 c9 (by decide) (by decide)
  obtain ⟨y6, k1, k2, k3, -⟩ := c_copyRow (σ := y5) (m := B 0 1) (kb_k10 hB1) (kb_k10 hB) c9 c9 (by decide) (by decide)
  have t1 : ∀ o, b1 ≤ o → o ≤ b1 + 27 → y1.1 o = σ.1 o := fun o o1 o2 => by rw [e2.1 o (by have := out o o1 o2 22 (by omega); simp; omega), sx o o1 o2]
  have t2 : ∀ o, b1 ≤ o → o ≤ b1 + 27 → y2.1 o = σ.1 o := fun o o1 o2 => by rw [g2.1 o (by have := out o o1 o2 23 (by omega); simp; omega), t1 o o1 o2]
  have t3 : ∀ o, b1 ≤ o → o ≤ b1 + 27 → y3.1 o = σ.1 o := fun o o1 o2 => by rw [h2.1 o (by have := out o o1 o2 24 (by omega); simp; omega), t2 o o1 o2]
  have t4 : ∀ o, b1 ≤ o → o ≤ b1 + 27 → y4.1 o = σ.1 o := fun o o1 o2 => by rw [i2.1 o (by have := out o o1 o2 25 (by omega); simp; omega), t3 o o1 o2]
  have t5 : ∀ o, b1 ≤ o → o ≤ b1 + 27 → y5.1 o = σ.1 o := fun o o1 o2 => by rw [j2.1 o (by have := out o o1 o2 26 (by omega); simp; omega), t4 o o1 o2]
  have t6 : ∀ o, b1 ≤ o → o ≤ b1 + 27 → y6.1 o = σ.1 o := fun o o1 o2 => by rw [k2.1 o (by have := out o o1 o2 27 (by omega); simp; omega), t5 o o1 o2]
  have hm : ∀ y : St_, (∀ o, b1 ≤ o → o ≤ b1 + 27 → y.1 o = σ.1 o) → y.1 b1 12 = nI (B 0 1) := fun y hy => by rw [hy b1 (by omega) (by omega)]; exact h.1.2.1
  have u6 : ∀ o, ¬ (b + 22 ≤ o ∧ o ≤ b + 27) → y6.1 o = x.1 o := fun o ho => by rw [k2.1 o (by simp; omega), j2.1 o (by simp; omega), i2.1 o (by simp; omega), h2.1 o (by simp; omega), g2.1 o (by simp; omega), e2.1 o (by simp; omega)]
  have v6 : ∀ i, i < B 0 1 → y6.1 (b + 22) i = σ.1 (b1 + 22) i ∧ y6.1 (b + 23) i = σ.1 (b1 + 23) i ∧ y6.1 (b + 24) i = σ.1 (b1 + 24) i ∧ y6.1 (b + 25) i = σ.1 (b1 + 25) i ∧ y6.1 (b + 26) i = σ.1 (b1 + 26) i ∧ y6.1 (b + 27) i = σ.1 (b1 + 27) i := fun i hi => ⟨by rw [k2.1 _ (by simp), j2.1 _ (by simp), i2.1 _ (by simp), h2.1 _ (by simp), g2.1 _ (by simp), e3 i hi, sx _ (by omega) (by omega)], by rw [k2.1 _ (by simp), j2.1 _ (by simp), i2.1 _ (by simp), h2.1 _ (by simp), g3 i hi, t1 _ (by omega) (by omega)], by rw [k2.1 _ (by simp), j2.1 _ (by simp), i2.1 _ (by simp), h3 i hi, t2 _ (by omega) (by omega)], by rw [k2.1 _ (by simp), j2.1 _ (by simp), i3 i hi, t3 _ (by omega) (by omega)], by rw [k2.1 _ (by simp), j3 i hi, t4 _ (by omega) (by omega)], by rw [k3 i hi, t5 _ (by omega) (by omega)]⟩
  have p0 := t6 b1 (by omega) (by omega)
  have es : ∀ (z : St_) i v, (sI_ z b i v).1 b1 = z.1 b1 := fun z i v => sI_row _ _ _ _ (fun z => hne z.symm)
  generalize hz : sI_ (sI_ (sI_ (sI_ (sI_ y6 b 11 (nI (B 0 0))) b 12 (nI (B 0 1))) b 13 (σ.1 b1 13)) b 14 (nI (B 0 2))) b 15 (nI (B 0 3)) = z
  have zr : ∀ o, o ≠ b → z.1 o = y6.1 o := fun o ho => by rw [← hz, sI_row _ _ _ _ ho, sI_row _ _ _ _ ho, sI_row _ _ _ _ ho, sI_row _ _ _ _ ho, sI_row _ _ _ _ ho]
  have z2 : z.2 = σ.2 := by
    rw [← hz]
    show y6.2 = _
    rw [k2.2, j2.2, i2.2, h2.2, g2.2, e2.2, l4, f4.2]
  refine ⟨z, z_X0_copyFrom (e_X0_copyFrom_0 hB hB1 ⟨σ1, by rw [h.1.1]; exact a1, σ2, by rw [s1 b1 (by omega) (by omega), h.1.1]; exact b1', σ3, by rw [s2 b1 (by omega) (by omega), h.1.1]; exact c1, σ4, by rw [s3 b1 (by omega) (by omega), h.1.1]; exact d1, l1 _ (e_X0_copyFrom_62 hB hB1 (pk_le (B 0 0) (B 0 0) (fun _ => ⟨y1, by rw [hm x sx]; exact e1, y2, by rw [hm y1 t1]; exact g1, y3, by rw [hm y2 t2]; exact h1, y4, by rw [hm y3 t3]; exact i1, y5, by rw [hm y4 t4]; exact j1, y6, by rw [hm y5 t5]; exact k1, ?_⟩) (fun z => by omega) (by rw [sx b1 (by omega) (by omega)]; exact h.1.1)))⟩), ⟨⟨?_, ?_, ?_, ?_⟩, fun c hc => ?_, fun r hr => ?_⟩, fun o ho => ?_, z2⟩
  · rw [← hz]
    simp only [es, p0, h.1.1, h.1.2.1, h.1.2.2.1, h.1.2.2.2]
  · rw [← hz, sI_at, if_neg (by omega), sI_at, if_neg (by omega), sI_at, if_neg (by omega), sI_at, if_neg (by omega), sI_at, if_pos ⟨rfl, rfl⟩]
  · rw [← hz, sI_at, if_neg (by omega), sI_at, if_neg (by omega), sI_at, if_neg (by omega), sI_at, if_pos ⟨rfl, rfl⟩]
  · rw [← hz, sI_at, if_neg (by omega), sI_at, if_pos ⟨rfl, rfl⟩]
  · rw [← hz, sI_at, if_pos ⟨rfl, rfl⟩]
  · obtain ⟨q1, q2, q3, q4, q5⟩ := h.2.1 c hc
    obtain ⟨r1, r2, r3, r4⟩ := w4 c hc
    refine ⟨?_, ?_, ?_, ?_, fun d hd => ?_⟩
    · rw [zr _ (by omega), u6 _ (by omega), l3 _ (by omega), r1]; exact q1
    · rw [zr _ (by omega), u6 _ (by omega), l3 _ (by omega), r2]; exact q2
    · rw [zr _ (by omega), u6 _ (by omega), l3 _ (by omega), r3]; exact q3
    · rw [zr _ (by omega), u6 _ (by omega), l3 _ (by omega), r4]; exact q4
    · rw [zr _ (by omega), u6 _ (by omega), l2 c (by omega) hc d hd]; exact q5 d hd
  · obtain ⟨q1, q2, q3, q4, q5, q6⟩ := h.2.2 r hr
    obtain ⟨r1, r2, r3, r4, r5, r6⟩ := v6 r hr
    refine ⟨?_, ?_, ?_, ?_, ?_, ?_⟩
    · rw [zr _ (by omega), r1]; exact q1
    · rw [zr _ (by omega), r2]; exact q2
    · rw [zr _ (by omega), r3]; exact q3
    · rw [zr _ (by omega), r4]; exact q4
    · rw [zr _ (by omega), r5]; exact q5
    · rw [zr _ (by omega), r6]; exact q6
  · rw [zr o (by omega), u6 o (by omega), l3 o (by omega), f4.1 o ho]
end KC1
