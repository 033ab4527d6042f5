/-! a CHAP's LINE -/
def bC_ (B : Nat → Nat → Nat) (nm pg wo mu : Nat) (ln : Nat → Nat) : Nat → Nat → Nat := fun i j =>
  if i = 0 then (if j = 0 then B 0 0 + 1 else B 0 j)
  else if i = 16 + B 0 0 then ln j
  else if j = B 0 0 then (if i = 9 then nm else if i = 1 then pg else if i = 2 then wo else if i = 3 then mu else B i j)
  else B i j
theorem bC_lo {B : Nat → Nat → Nat} {nm pg wo mu : Nat} {ln : Nat → Nat} {i j : Nat} (hi : i ≠ 0) (h16 : i ≠ 16 + B 0 0) (hj : j ≠ B 0 0) : bC_ B nm pg wo mu ln i j = B i j := by
  unfold bC_
  rw [if_neg hi, if_neg h16, if_neg hj]
theorem bC_hi {B : Nat → Nat → Nat} {nm pg wo mu : Nat} {ln : Nat → Nat} {i : Nat} (hi : 4 ≤ i) (h9 : i ≠ 9) (h16 : i ≠ 16 + B 0 0) (j : Nat) : bC_ B nm pg wo mu ln i j = B i j := by
  unfold bC_
  rw [if_neg (by omega), if_neg h16]
  split
  · rw [if_neg (by omega), if_neg (by omega), if_neg (by omega)]
  · rfl
theorem bC_0 {B : Nat → Nat → Nat} {nm pg wo mu : Nat} {ln : Nat → Nat} : bC_ B nm pg wo mu ln 0 0 = B 0 0 + 1 ∧ bC_ B nm pg wo mu ln 0 1 = B 0 1 ∧ bC_ B nm pg wo mu ln 0 2 = B 0 2 ∧ bC_ B nm pg wo mu ln 0 3 = B 0 3 := ⟨rfl, rfl, rfl, rfl⟩
theorem bC_n {B : Nat → Nat → Nat} {nm pg wo mu : Nat} {ln : Nat → Nat} : bC_ B nm pg wo mu ln 9 (B 0 0) = nm ∧ bC_ B nm pg wo mu ln 1 (B 0 0) = pg ∧ bC_ B nm pg wo mu ln 2 (B 0 0) = wo ∧ bC_ B nm pg wo mu ln 3 (B 0 0) = mu ∧ ∀ d, bC_ B nm pg wo mu ln (16 + B 0 0) d = ln d := by
  have h : ∀ i, i < 16 → i ≠ 0 → bC_ B nm pg wo mu ln i (B 0 0) = (if i = 9 then nm else if i = 1 then pg else if i = 2 then wo else if i = 3 then mu else B i (B 0 0)) := by
    intro i hi h0
    unfold bC_
    rw [if_neg h0, if_neg (by omega), if_pos rfl]
  refine ⟨?_, ?_, ?_, ?_, fun d => ?_⟩
  · rw [h 9 (by omega) (by omega), if_pos rfl]
  · rw [h 1 (by omega) (by omega), if_neg (by omega), if_pos rfl]
  · rw [h 2 (by omega) (by omega), if_neg (by omega), if_neg (by omega), if_pos rfl]
  · rw [h 3 (by omega) (by omega), if_neg (by omega), if_neg (by omega), if_neg (by omega), if_pos rfl]
  · unfold bC_
    rw [if_neg (by omega), if_pos rfl]
theorem BO_C {B : Nat → Nat → Nat} {nm pg wo mu : Nat} {ln : Nat → Nat} (hO : BO_ B) (hc : B 0 0 < 16) (h1 : okc_ nm) (h2 : 1 ≤ pg ∧ pg ≤ 999) (h3 : wo ≤ 999) (h4 : mu ≤ 1) (h5 : ∀ d, B 0 0 ≤ d → ln d = 0) (h6 : fb_sm ln 16 ≤ 10) : BO_ (bC_ B nm pg wo mu ln) := by
  obtain ⟨n1, n2, n3, n4, n5⟩ := bC_n (B := B) (nm := nm) (pg := pg) (wo := wo) (mu := mu) (ln := ln)
  refine ⟨⟨?_, hO.1.2.1, hO.1.2.2.1, hO.1.2.2.2.1, hO.1.2.2.2.2⟩, fun c hcc => ?_, fun r hr => ?_⟩
  · rw [bC_0.1]; omega
  · rw [bC_0.1] at hcc
    by_cases e : c = B 0 0
    · rw [e, n1, n2, n3, n4]
      refine ⟨h1, h2, h3, h4, fun d hd => ?_, ?_⟩
      · rw [n5]
        exact ⟨by have := fb_sm_part ln hd; omega, h5 d⟩
      · rw [fb_sm_cong (fun k _ => n5 k)]
        exact h6
    · obtain ⟨q1, q2, q3, q4, q5, q6⟩ := hO.2.1 c (by omega)
      rw [bC_lo (by omega) (by omega) e, bC_lo (by omega) (by omega) e, bC_lo (by omega) (by omega) e, bC_lo (by omega) (by omega) e]
      refine ⟨q1, q2, q3, q4, fun d hd => ?_, ?_⟩
      · rw [bC_hi (by omega) (by omega) (by omega)]
        exact q5 d hd
      · rw [fb_sm_cong (fun k _ => bC_hi (by omega) (by omega) (by omega) k)]
        exact q6
  · rw [bC_0.2.1] at hr
    obtain ⟨q1, q2, q3, q4, q5, q6⟩ := hO.2.2 r hr
    rw [bC_hi (by omega) (by omega) (by omega), bC_hi (by omega) (by omega) (by omega), bC_hi (by omega) (by omega) (by omega), bC_hi (by omega) (by omega) (by omega), bC_hi (by omega) (by omega) (by omega), bC_hi (by omega) (by omega) (by omega)]
    exact ⟨q1, q2, q3, q4, q5, q6⟩
theorem CB_C {σ σ' : St_} {b : Nat} {B : Nat → Nat → Nat} {nm pg wo mu : Nat} {ln : Nat → Nat} (h : CB_ σ b B) (hc0 : B 0 0 < 16) (hk : ∀ o i, rC_ b B o i → (o = b → i ≠ 11) → σ'.1 o i = σ.1 o i) (h0 : σ'.1 b 11 = nI (B 0 0 + 1)) (h1 : σ'.1 (b + 1) (B 0 0) = nI nm) (h2 : σ'.1 (b + 2) (B 0 0) = nI pg) (h3 : σ'.1 (b + 3) (B 0 0) = nI wo) (h4 : σ'.1 (b + 4) (B 0 0) = nI mu) (h5 : ∀ d, d < 16 → σ'.1 (b + 6 + B 0 0) d = nI (ln d)) : CB_ σ' b (bC_ B nm pg wo mu ln) := by
  obtain ⟨n1, n2, n3, n4, n5⟩ := bC_n (B := B) (nm := nm) (pg := pg) (wo := wo) (mu := mu) (ln := ln)
  obtain ⟨⟨a1, a2, a3, a4⟩, g2, g3⟩ := h
  refine ⟨⟨h0, ?_, ?_, ?_⟩, fun c hcc => ?_, fun r hr => ?_⟩
  · rw [hk b 12 (by unfold rC_; omega) (by omega)]; exact a2
  · rw [hk b 14 (by unfold rC_; omega) (by omega)]; exact a3
  · rw [hk b 15 (by unfold rC_; omega) (by omega)]; exact a4
  · rw [bC_0.1] at hcc
    by_cases e : c = B 0 0
    · rw [e, n1, n2, n3, n4]
      exact ⟨h1, h2, h3, h4, fun d hd => by rw [n5]; exact h5 d hd⟩
    · obtain ⟨e1, e2, e3, e4, e5⟩ := g2 c (by omega)
      rw [bC_lo (by omega) (by omega) e, bC_lo (by omega) (by omega) e, bC_lo (by omega) (by omega) e, bC_lo (by omega) (by omega) e]
      exact ⟨by rw [hk _ _ (by unfold rC_; omega) (by omega)]; exact e1, by rw [hk _ _ (by unfold rC_; omega) (by omega)]; exact e2, by rw [hk _ _ (by unfold rC_; omega) (by omega)]; exact e3, by rw [hk _ _ (by unfold rC_; omega) (by omega)]; exact e4, fun d hd => by rw [hk _ _ (by unfold rC_; omega) (by omega), bC_hi (by omega) (by omega) (by omega)]; exact e5 d hd⟩
  · rw [bC_0.2.1] at hr
    obtain ⟨e1, e2, e3, e4, e5, e6⟩ := g3 r hr
    rw [bC_hi (by omega) (by omega) (by omega), bC_hi (by omega) (by omega) (by omega), bC_hi (by omega) (by omega) (by omega), bC_hi (by omega) (by omega) (by omega), bC_hi (by omega) (by omega) (by omega), bC_hi (by omega) (by omega) (by omega)]
    exact ⟨by rw [hk _ _ (by unfold rC_; omega) (by omega)]; exact e1, by rw [hk _ _ (by unfold rC_; omega) (by omega)]; exact e2, by rw [hk _ _ (by unfold rC_; omega) (by omega)]; exact e3, by rw [hk _ _ (by unfold rC_; omega) (by omega)]; exact e4, by rw [hk _ _ (by unfold rC_; omega) (by omega)]; exact e5, by rw [hk _ _ (by unfold rC_; omega) (by omega)]; exact e6⟩
theorem MB_C {μ μ' : St_} {B : Nat → Nat → Nat} {nm pg wo mu : Nat} {ln : Nat → Nat} (h : MB_ μ 222 0 225 0 B) (hc0 : B 0 0 < 16) (hk : ∀ i, rM_ B i → i ≠ 0 → μ'.1 222 i = μ.1 222 i) (hn : ∀ i, rN_ B i → μ'.2.1 225 i = μ.2.1 225 i) (h0 : μ'.1 222 0 = nI (B 0 0 + 1)) (h1 : μ'.2.1 225 (B 0 0) = lN (cm_ nm)) (h2 : μ'.1 222 (10 + 4 * B 0 0) = nI pg) (h3 : μ'.1 222 (10 + 4 * B 0 0 + 1) = nI wo) (h4 : μ'.1 222 (10 + 4 * B 0 0 + 2) = nI mu) (h5 : ∀ d, d < 16 → μ'.1 222 (130 + 16 * B 0 0 + d) = nI (ln d)) : MB_ μ' 222 0 225 0 (bC_ B nm pg wo mu ln) := by
  obtain ⟨n1, n2, n3, n4, n5⟩ := bC_n (B := B) (nm := nm) (pg := pg) (wo := wo) (mu := mu) (ln := ln)
  obtain ⟨⟨a1, a2, a3, a4⟩, g2, g3⟩ := h
  simp only [Nat.zero_add] at a1 a2 a3 a4 g2 g3
  refine ⟨⟨h0, ?_, ?_, ?_⟩, fun c hcc => ?_, fun r hr => ?_⟩
  · rw [Nat.zero_add, hk 1 (by unfold rM_; omega) (by omega)]; exact a2
  · rw [Nat.zero_add, hk 2 (by unfold rM_; omega) (by omega)]; exact a3
  · rw [Nat.zero_add, hk 3 (by unfold rM_; omega) (by omega)]; exact a4
  · rw [bC_0.1] at hcc
    simp only [Nat.zero_add]
    by_cases e : c = B 0 0
    · rw [e, n1, n2, n3, n4]
      exact ⟨h1, h2, h3, h4, fun d hd => by rw [n5]; exact h5 d hd⟩
    · obtain ⟨e1, e2, e3, e4, e5⟩ := g2 c (by omega)
      rw [bC_lo (by omega) (by omega) e, bC_lo (by omega) (by omega) e, bC_lo (by omega) (by omega) e, bC_lo (by omega) (by omega) e]
      exact ⟨by rw [hn _ (by unfold rN_; omega)]; exact e1, by rw [hk _ (by unfold rM_; omega) (by omega)]; exact e2, by rw [hk _ (by unfold rM_; omega) (by omega)]; exact e3, by rw [hk _ (by unfold rM_; omega) (by omega)]; exact e4, fun d hd => by rw [hk _ (by unfold rM_; omega) (by omega), bC_hi (by omega) (by omega) (by omega)]; exact e5 d hd⟩
  · rw [bC_0.2.1] at hr
    simp only [Nat.zero_add]
    obtain ⟨e1, e2, e3, e4, e5, e6⟩ := g3 r hr
    rw [bC_hi (by omega) (by omega) (by omega), bC_hi (by omega) (by omega) (by omega), bC_hi (by omega) (by omega) (by omega), bC_hi (by omega) (by omega) (by omega), bC_hi (by omega) (by omega) (by omega), bC_hi (by omega) (by omega) (by omega)]
    exact ⟨by rw [hn _ (by unfold rN_; omega)]; exact e1, by rw [hk _ (by unfold rM_; omega) (by omega)]; exact e2, by rw [hk _ (by unfold rM_; omega) (by omega)]; exact e3, by rw [hk _ (by unfold rM_; omega) (by omega)]; exact e4, by rw [hk _ (by unfold rM_; omega) (by omega)]; exact e5, by rw [hk _ (by unfold rM_; omega) (by omega)]; exact e6⟩
