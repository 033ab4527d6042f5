/-! the reference's TOKENS -/
theorem sJ_at (σ : St_) (o i : Nat) (x : Int64) (a j : Nat) : (sJ_ σ o i x).2.1 a j = if a = o ∧ j = i then x else σ.2.1 a j := rfl
theorem sJ_1 (σ : St_) (o i : Nat) (x : Int64) : (sJ_ σ o i x).1 = σ.1 := rfl
theorem sJ_2 (σ : St_) (o i : Nat) (x : Int64) : (sJ_ σ o i x).2.2 = σ.2.2 := rfl
theorem sI_J (σ : St_) (o i : Nat) (x : Int32) : (sI_ σ o i x).2.1 = σ.2.1 := rfl
theorem sI_R (σ : St_) (o i : Nat) (x : Int32) : (sI_ σ o i x).2.2 = σ.2.2 := rfl
/-- frames with longs -/
def fm_ (S SJ : List Nat) (σ σ' : St_) : Prop := (∀ o, o ∉ S → σ'.1 o = σ.1 o) ∧ (∀ o, o ∉ SJ → σ'.2.1 o = σ.2.1 o) ∧ σ'.2.2 = σ.2.2
theorem fm_rf (S SJ : List Nat) (σ : St_) : fm_ S SJ σ σ := ⟨fun _ _ => rfl, fun _ _ => rfl, rfl⟩
theorem fm_tr {S SJ : List Nat} {σ σ' σ'' : St_} (h : fm_ S SJ σ σ') (h2 : fm_ S SJ σ' σ'') : fm_ S SJ σ σ'' := ⟨fun o ho => (h2.1 o ho).trans (h.1 o ho), fun o ho => (h2.2.1 o ho).trans (h.2.1 o ho), h2.2.2.trans h.2.2⟩
theorem fm_mono {S S' SJ SJ' : List Nat} {σ σ' : St_} (h : fm_ S SJ σ σ') (hs : ∀ o, o ∈ S → o ∈ S') (hj : ∀ o, o ∈ SJ → o ∈ SJ') : fm_ S' SJ' σ σ' := ⟨fun o ho => h.1 o (fun z => ho (hs o z)), fun o ho => h.2.1 o (fun z => ho (hj o z)), h.2.2⟩
theorem fm_sI {S SJ : List Nat} {σ : St_} {o i : Nat} {x : Int32} (h : o ∈ S) : fm_ S SJ σ (sI_ σ o i x) := ⟨fun _ ha => sI_row _ _ _ _ (fun z => ha (z ▸ h)), fun _ _ => rfl, rfl⟩
theorem fm_sJ {S SJ : List Nat} {σ : St_} {o i : Nat} {x : Int64} (h : o ∈ SJ) : fm_ S SJ σ (sJ_ σ o i x) := ⟨fun _ _ => rfl, fun _ ha => u2_row _ _ _ _ (fun z => ha (z ▸ h)), rfl⟩
theorem fr_fm {S SJ : List Nat} {σ σ' : St_} (h : fr_ S σ σ') : fm_ S SJ σ σ' := ⟨h.1, fun _ _ => by rw [h.2], by rw [h.2]⟩
def rl_ (c : Nat) : Int32 := if isL_ c then 1 else 0
theorem m_isLetter {σ : St_} {c : Nat} (hc : c < 256) : f_X12_isLetter KC [.int (nI c)] σ = some (some (.int (rl_ c)), σ) := by
  refine z_X12_isLetter (e_X12_isLetter_0 (pk_lt c 97 (fun z => ?_) (fun z => pk_lt 122 c (fun z2 => ?_) (fun z2 => ?_))))
  · rw [rl_, if_neg (by omega)]
  · rw [rl_, if_neg (by omega)]
  · rw [rl_, if_pos (by omega)]
theorem m_isDigit {σ : St_} {c : Nat} (hc : c < 256) : f_X12_isDigit KC [.int (nI c)] σ = some (some (.int (if isD_ c then 1 else 0)), σ) := by
  refine z_X12_isDigit (e_X12_isDigit_0 (pk_lt c 48 (fun z => ?_) (fun z => pk_lt 57 c (fun z2 => ?_) (fun z2 => ?_))))
  · rw [if_neg (by omega)]
  · rw [if_neg (by omega)]
  · rw [if_pos (by omega)]
/-- the text that the reference reads: n bytes t -/
def MX (σ : St_) (n : Nat) (t : Nat → Nat) : Prop := σ.1 219 3 = nI n ∧ n ≤ 1040 ∧ ∀ i, σ.1 220 i = nI (t i)
theorem MX_1 {σ : St_} {n : Nat} {t : Nat → Nat} (h : MX σ n t) {f : Nat} (hf : f ≠ 3) (x : Int32) : MX (sI_ σ 219 f x) n t := ⟨by simp [sI_at, h.1, hf.symm], h.2.1, fun i => by simp [sI_at, h.2.2 i]⟩
theorem MX_J {σ : St_} {n : Nat} {t : Nat → Nat} (h : MX σ n t) {f o : Nat} (x : Int64) : MX (sJ_ σ o f x) n t := h
theorem m_byteAt {σ : St_} {n p : Nat} {t : Nat → Nat} (h : MX σ n t) (hp : p < 2 ^ 31) : f_X12_byteAt KC [.ref 219, .int (nI p)] σ = some (some (.int (nI (if p < n then t p else 0))), σ) := by
  have hn := h.2.1
  refine z_X12_byteAt (e_X12_byteAt_0 (pk_le n p (fun z => ?_) (fun z => ⟨vpin_n (by omega), ?_⟩) h.1))
  · rw [if_neg (by omega)]; rfl
  · rw [cl_ (by omega), h.2.2, if_pos (by omega)]
/-- the reference's letters and digits: how far, whether good, the number, the word -/
def sr_ (t : Nat → Nat) (q : Nat) (x2 : Int32) : Nat → Nat → Int32 → Int32 → Int64 → Nat × Int32 × Int32 × Int64
  | 0, p, g, u, v => (p, g, u, v)
  | k + 1, p, g, u, v => if isL_ (t p) ∨ isD_ (t p) then sr_ t q x2 k (p + 1) (if g = 0 then 0 else if rl_ (t p) = x2 then 1 else 0) (if p - q < 3 then ((10 * u) + nI (t p)) - 48 else u) (if p - q < 6 then ((27 * v) + Int32.toInt64 (nI (t p))) - 96 else v) else (p, g, u, v)
def srK (x2 g : Int32) (m : Nat) : Int32 := if g = 0 then 1 else if x2 = 0 then (if m ≤ 3 then 3 else 1) else (if m ≤ 6 then 2 else 1)
theorem m_sr {n q : Nat} {t : Nat → Nat} {x2 : Int32} (ht : ∀ i, t i < 256) : ∀ (k p : Nat) (g : Int32) (σ : St_), p + k = n → q ≤ p → MX σ n t → σ.1 219 5 = nI p → σ.1 219 6 = nI q → ∃ σ', Ev_ (P_X12_go KC) 215 [some (.ref 219), none, some (.int x2), some (.int g), none] [] σ (none, σ') ∧ σ'.1 219 7 = srK x2 (sr_ t q x2 k p g (σ.1 219 8) (σ.2.1 219 12)).2.1 ((sr_ t q x2 k p g (σ.1 219 8) (σ.2.1 219 12)).1 - q) ∧ σ'.1 219 5 = nI (sr_ t q x2 k p g (σ.1 219 8) (σ.2.1 219 12)).1 ∧ σ'.1 219 8 = (sr_ t q x2 k p g (σ.1 219 8) (σ.2.1 219 12)).2.2.1 ∧ σ'.2.1 219 12 = (sr_ t q x2 k p g (σ.1 219 8) (σ.2.1 219 12)).2.2.2 ∧ fm_ [219] [219] σ σ' ∧ (∀ f, f ≠ 5 → f ≠ 7 → f ≠ 8 → σ'.1 219 f = σ.1 219 f) := by
  intro k
  induction k with
  | zero =>
    intro p g σ hp hq hX h5 h6
    have hn := hX.2.1
    have hby := m_byteAt (p := p) hX (by omega)
    rw [if_neg (by omega)] at hby
    have hl := m_isLetter (σ := σ) (c := 0) (by omega)
    have hd := m_isDigit (σ := σ) (c := 0) (by omega)
    refine ⟨sI_ σ 219 7 (srK x2 g (p - q)), e_X12_go_215 ⟨nI 0, σ, ?_, 0, σ, hl, br_t rfl ⟨nI 0, σ, ?_, 0, σ, hd, br_t rfl ?_⟩⟩, by simp [sr_, sI_at], by simp [sr_, sI_at, h5], by simp [sr_, sI_at], rfl, fm_sI (by simp), fun f f5 f7 f8 => by simp [sI_at, f7]⟩
    · rw [h5]; exact hby
    · rw [h5]; exact hby
    · have e : σ.1 219 5 - σ.1 219 6 = nI (p - q) := by rw [h5, h6, pk_sub hq]
      rw [e]
      refine br_c (fun z => ?_) (fun z => br_c (fun z2 => pk_le (p - q) 3 (fun z3 => br_t z2 ?_) (fun z3 => ?_)) (fun z2 => pk_le (p - q) 6 (fun z3 => br_f z2 ?_) (fun z3 => ?_)))
      · rw [srK, if_pos z]
      · rw [srK, if_neg z, if_pos z2, if_pos z3]
      · rw [srK, if_neg z, if_pos z2, if_neg (by omega)]
      · rw [srK, if_neg z, if_neg z2, if_pos z3]
      · rw [srK, if_neg z, if_neg z2, if_neg (by omega)]
  | succ k ih =>
    intro p g σ hp hq hX h5 h6
    have hn := hX.2.1
    have hby := m_byteAt (p := p) hX (by omega)
    rw [if_pos (by omega)] at hby
    have hl := m_isLetter (σ := σ) (ht p)
    have hd := m_isDigit (σ := σ) (ht p)
    have e : σ.1 219 5 - σ.1 219 6 = nI (p - q) := by rw [h5, h6, pk_sub hq]
    have hcl : Int32.toNatClampNeg (σ.1 219 5) = p := pk_cl p h5
    by_cases hc : isL_ (t p) ∨ isD_ (t p)
    · -- one more
      obtain ⟨σ', h1, h2, h3, h4, h7, h8, h9⟩ := ih (p + 1) (if g = 0 then 0 else if rl_ (t p) = x2 then 1 else 0) (sI_ (if p - q < 3 then sI_ (if p - q < 6 then sJ_ σ 219 12 (((27 * σ.2.1 219 12) + Int32.toInt64 (nI (t p))) - 96) else σ) 219 8 (((10 * σ.1 219 8) + nI (t p)) - 48) else (if p - q < 6 then sJ_ σ 219 12 (((27 * σ.2.1 219 12) + Int32.toInt64 (nI (t p))) - 96) else σ)) 219 5 (nI (p + 1))) (by omega) (by omega) (by
        refine MX_1 ?_ (by decide) _
        split
        · refine MX_1 ?_ (by decide) _
          split
          · exact MX_J hX _
          · exact hX
        · split
          · exact MX_J hX _
          · exact hX) (by simp [sI_at]) (by
        by_cases a : p - q < 3 <;> by_cases b : p - q < 6 <;> simp [sI_at, sJ_1, a, b, h6])
      have e8 : (sI_ (if p - q < 3 then sI_ (if p - q < 6 then sJ_ σ 219 12 (((27 * σ.2.1 219 12) + Int32.toInt64 (nI (t p))) - 96) else σ) 219 8 (((10 * σ.1 219 8) + nI (t p)) - 48) else (if p - q < 6 then sJ_ σ 219 12 (((27 * σ.2.1 219 12) + Int32.toInt64 (nI (t p))) - 96) else σ)) 219 5 (nI (p + 1))).1 219 8 = (if p - q < 3 then ((10 * σ.1 219 8) + nI (t p)) - 48 else σ.1 219 8) := by
        by_cases a : p - q < 3 <;> by_cases b : p - q < 6 <;> simp [sI_at, sJ_1, a, b]
      have e12 : (sI_ (if p - q < 3 then sI_ (if p - q < 6 then sJ_ σ 219 12 (((27 * σ.2.1 219 12) + Int32.toInt64 (nI (t p))) - 96) else σ) 219 8 (((10 * σ.1 219 8) + nI (t p)) - 48) else (if p - q < 6 then sJ_ σ 219 12 (((27 * σ.2.1 219 12) + Int32.toInt64 (nI (t p))) - 96) else σ)) 219 5 (nI (p + 1))).2.1 219 12 = (if p - q < 6 then ((27 * σ.2.1 219 12) + Int32.toInt64 (nI (t p))) - 96 else σ.2.1 219 12) := by
        by_cases a : p - q < 3 <;> by_cases b : p - q < 6 <;> simp [sI_J, sJ_at, a, b]
      rw [e8, e12] at h2 h3 h4 h7
      have esr : sr_ t q x2 (k + 1) p g (σ.1 219 8) (σ.2.1 219 12) = sr_ t q x2 k (p + 1) (if g = 0 then 0 else if rl_ (t p) = x2 then 1 else 0) (if p - q < 3 then ((10 * σ.1 219 8) + nI (t p)) - 48 else σ.1 219 8) (if p - q < 6 then ((27 * σ.2.1 219 12) + Int32.toInt64 (nI (t p))) - 96 else σ.2.1 219 12) := by rw [sr_, if_pos hc]
      rw [esr]
      have hfm : fm_ [219] [219] σ (sI_ (if p - q < 3 then sI_ (if p - q < 6 then sJ_ σ 219 12 (((27 * σ.2.1 219 12) + Int32.toInt64 (nI (t p))) - 96) else σ) 219 8 (((10 * σ.1 219 8) + nI (t p)) - 48) else (if p - q < 6 then sJ_ σ 219 12 (((27 * σ.2.1 219 12) + Int32.toInt64 (nI (t p))) - 96) else σ)) 219 5 (nI (p + 1))) := by
        refine fm_tr ?_ (fm_sI (by simp))
        split
        · refine fm_tr ?_ (fm_sI (by simp))
          split
          · exact fm_sJ (by simp)
          · exact fm_rf _ _ _
        · split
          · exact fm_sJ (by simp)
          · exact fm_rf _ _ _
      have h307 : ∀ (σ0 : St_) (g0 : Int32), σ0 = (if p - q < 6 then sJ_ σ 219 12 (((27 * σ.2.1 219 12) + Int32.toInt64 (nI (t p))) - 96) else σ) → g0 = (if g = 0 then 0 else if rl_ (t p) = x2 then 1 else 0) → Ev_ (P_X12_go KC) 307 [some (.ref 219), none, some (.int x2), some (.int g0), some (.int (nI (t p)))] [] σ0 (none, σ') := by
        intro σ0 g0 hσ0 hg0
        have f5 : σ0.1 219 5 = nI p := by rw [hσ0]; split <;> simp [sJ_1, h5]
        have f6 : σ0.1 219 6 = nI q := by rw [hσ0]; split <;> simp [sJ_1, h6]
        have f8 : σ0.1 219 8 = σ.1 219 8 := by rw [hσ0]; split <;> simp [sJ_1]
        refine e_X12_go_307 (pk_le 3 (p - q) (fun z => ?_) (fun z => ?_) rfl (by rw [f5, f6, pk_sub hq]))
        · rw [f5, nI_1, hσ0, hg0]
          rw [if_neg (show ¬ p - q < 3 by omega)] at h1
          exact h1
        · have f5' : (sI_ σ0 219 8 (((10 * σ0.1 219 8) + nI (t p)) - 48)).1 219 5 = nI p := by simp [sI_at, f5]
          rw [f5', nI_1, f8, hσ0, hg0]
          rw [if_pos (show p - q < 3 by omega)] at h1
          exact h1
      have h272 : ∀ g0 : Int32, g0 = (if g = 0 then 0 else if rl_ (t p) = x2 then 1 else 0) → Ev_ (P_X12_go KC) 272 [some (.ref 219), none, some (.int x2), none, some (.int (nI (t p)))] [.int g0] σ (none, σ') := by
        intro g0 hg0
        refine e_X12_go_272 (pk_le 6 (p - q) (fun z => ?_) (fun z => ?_) rfl e)
        · exact h307 σ g0 (by rw [if_neg (by omega)]) hg0
        · exact h307 _ g0 (by rw [if_pos (by omega)]) hg0
      have h243 : Ev_ (P_X12_go KC) 243 [some (.ref 219), none, some (.int x2), some (.int g), none] [] σ (none, σ') := by
        refine e_X12_go_243 ⟨vpin_e p (by omega) h5, ?_⟩
        rw [hcl, hX.2.2]
        refine br_c (fun z => h272 0 (by rw [if_pos z])) (fun z => ⟨rl_ (t p), σ, hl, br_c (fun z2 => h272 1 (by rw [if_neg z, if_pos z2])) (fun z2 => h272 0 (by rw [if_neg z, if_neg z2]))⟩)
      refine ⟨σ', e_X12_go_215 ⟨nI (t p), σ, by rw [h5]; exact hby, rl_ (t p), σ, hl, br_c (fun z => ⟨nI (t p), σ, by rw [h5]; exact hby, _, σ, hd, ?_⟩) (fun z => h243)⟩, h2, h3, h4, h7, fm_tr hfm h8, fun f f5 f7 f8 => ?_⟩
      · have : isD_ (t p) := by
          rcases hc with hc | hc
          · rw [rl_, if_pos hc] at z
            exact absurd z (by decide)
          · exact hc
        rw [if_pos this]
        exact br_f (by decide) h243
      · rw [h9 f f5 f7 f8]
        by_cases a : p - q < 3 <;> by_cases b : p - q < 6 <;> simp [sI_at, sJ_1, a, b, f5, f8]
    · have hnl : rl_ (t p) = 0 := by rw [rl_, if_neg (fun z => hc (Or.inl z))]
      have esr : sr_ t q x2 (k + 1) p g (σ.1 219 8) (σ.2.1 219 12) = (p, g, σ.1 219 8, σ.2.1 219 12) := by rw [sr_, if_neg hc]
      rw [esr]
      rw [if_neg (fun z => hc (Or.inr z))] at hd
      rw [hnl] at hl
      refine ⟨sI_ σ 219 7 (srK x2 g (p - q)), e_X12_go_215 ⟨nI (t p), σ, by rw [h5]; exact hby, 0, σ, hl, br_t rfl ⟨nI (t p), σ, by rw [h5]; exact hby, 0, σ, hd, br_t rfl ?_⟩⟩, by simp [sI_at], by simp [sI_at, h5], by simp [sI_at], rfl, fm_sI (by simp), fun f f5 f7 f8 => by simp [sI_at, f7]⟩
      rw [e]
      refine br_c (fun z => ?_) (fun z => br_c (fun z2 => pk_le (p - q) 3 (fun z3 => br_t z2 ?_) (fun z3 => ?_)) (fun z2 => pk_le (p - q) 6 (fun z3 => br_f z2 ?_) (fun z3 => ?_)))
      · rw [srK, if_pos z]
      · rw [srK, if_neg z, if_pos z2, if_pos z3]
      · rw [srK, if_neg z, if_pos z2, if_neg (by omega)]
      · rw [srK, if_neg z, if_neg z2, if_pos z3]
      · rw [srK, if_neg z, if_neg z2, if_neg (by omega)]
