/-! where a BOOK's relation looks -/
def rC_ (b : Nat) (B : Nat → Nat → Nat) (o i : Nat) : Prop := (o = b ∧ (i = 11 ∨ i = 12 ∨ i = 14 ∨ i = 15)) ∨ ((b + 1 ≤ o ∧ o ≤ b + 4) ∧ i < B 0 0) ∨ (b + 6 ≤ o ∧ o < b + 6 + B 0 0) ∨ ((b + 22 ≤ o ∧ o ≤ b + 27) ∧ i < B 0 1)
theorem CB_cg {σ σ' : St_} {b : Nat} {B : Nat → Nat → Nat} (h : CB_ σ b B) (hc : ∀ o i, rC_ b B o i → σ'.1 o i = σ.1 o i) : CB_ σ' b B := by
  obtain ⟨⟨a1, a2, a3, a4⟩, h2, h3⟩ := h
  refine ⟨⟨?_, ?_, ?_, ?_⟩, fun c hcc => ?_, fun r hr => ?_⟩
  · rw [hc b 11 (by unfold rC_; omega)]; exact a1
  · rw [hc b 12 (by unfold rC_; omega)]; exact a2
  · rw [hc b 14 (by unfold rC_; omega)]; exact a3
  · rw [hc b 15 (by unfold rC_; omega)]; exact a4
  · obtain ⟨e1, e2, e3, e4, e5⟩ := h2 c hcc
    exact ⟨by rw [hc _ _ (by unfold rC_; omega)]; exact e1, by rw [hc _ _ (by unfold rC_; omega)]; exact e2, by rw [hc _ _ (by unfold rC_; omega)]; exact e3, by rw [hc _ _ (by unfold rC_; omega)]; exact e4, fun d hd => by rw [hc _ _ (by unfold rC_; omega)]; exact e5 d hd⟩
  · obtain ⟨e1, e2, e3, e4, e5, e6⟩ := h3 r hr
    exact ⟨by rw [hc _ _ (by unfold rC_; omega)]; exact e1, by rw [hc _ _ (by unfold rC_; omega)]; exact e2, by rw [hc _ _ (by unfold rC_; omega)]; exact e3, by rw [hc _ _ (by unfold rC_; omega)]; exact e4, by rw [hc _ _ (by unfold rC_; omega)]; exact e5, by rw [hc _ _ (by unfold rC_; omega)]; exact e6⟩
def rM_ (B : Nat → Nat → Nat) (i : Nat) : Prop := i < 4 ∨ (10 ≤ i ∧ i < 10 + 4 * B 0 0) ∨ (80 ≤ i ∧ i < 80 + 5 * B 0 1) ∨ (130 ≤ i ∧ i < 130 + 16 * B 0 0)
def rN_ (B : Nat → Nat → Nat) (i : Nat) : Prop := i < B 0 0 ∨ (16 ≤ i ∧ i < 16 + B 0 1)
theorem MB_cg {μ μ' : St_} {a o na no : Nat} {B : Nat → Nat → Nat} (h : MB_ μ a o na no B) (hc : ∀ i, rM_ B i → μ'.1 a (o + i) = μ.1 a (o + i)) (hn : ∀ i, rN_ B i → μ'.2.1 na (no + i) = μ.2.1 na (no + i)) : MB_ μ' a o na no B := by
  obtain ⟨⟨a1, a2, a3, a4⟩, h2, h3⟩ := h
  refine ⟨⟨?_, ?_, ?_, ?_⟩, fun c hcc => ?_, fun r hr => ?_⟩
  · have := hc 0 (by unfold rM_; omega)
    rw [Nat.add_zero] at this
    rw [this]; exact a1
  · rw [hc 1 (by unfold rM_; omega)]; exact a2
  · rw [hc 2 (by unfold rM_; omega)]; exact a3
  · rw [hc 3 (by unfold rM_; omega)]; exact a4
  · obtain ⟨e1, e2, e3, e4, e5⟩ := h2 c hcc
    exact ⟨by rw [hn _ (by unfold rN_; omega)]; exact e1, by rw [hc _ (by unfold rM_; omega)]; exact e2, by rw [hc _ (by unfold rM_; omega)]; exact e3, by rw [hc _ (by unfold rM_; omega)]; exact e4, fun d hd => by rw [hc _ (by unfold rM_; omega)]; exact e5 d hd⟩
  · obtain ⟨e1, e2, e3, e4, e5, e6⟩ := h3 r hr
    exact ⟨by rw [hn _ (by unfold rN_; omega)]; exact e1, by rw [hc _ (by unfold rM_; omega)]; exact e2, by rw [hc _ (by unfold rM_; omega)]; exact e3, by rw [hc _ (by unfold rM_; omega)]; exact e4, by rw [hc _ (by unfold rM_; omega)]; exact e5, by rw [hc _ (by unfold rM_; omega)]; exact e6⟩
theorem isB_ge {b : Nat} (h : isB b) : 4 ≤ b ∧ b ≤ 181 := by unfold isB at h; omega
/-- scan's frame leaves a BOOK -/
theorem CB_SF {σ σ' : St_} {b : Nat} {B : Nat → Nat → Nat} (hb : isB b) (h : CB_ σ b B) (hs : SF_ σ σ') : CB_ σ' b B := CB_cg h (fun o i hr => by
  have := isB_ge hb
  rw [hs.1.1 o (by unfold rC_ at hr; simp; omega)])
theorem MB_MF {μ μ' : St_} {a o na no : Nat} {B : Nat → Nat → Nat} (ha : a ≠ 219) (hn : na ≠ 219) (h : MB_ μ a o na no B) (hs : MF_ μ μ') : MB_ μ' a o na no B := MB_cg h (fun i _ => by rw [hs.1.1 a (by simp [ha])]) (fun i _ => by rw [hs.1.2.1 na (by simp [hn])])
/-! the leanings of a CHAP: all 0 at first -/
theorem c_zero {b c0 : Nat} (hb : isB b) (hc0 : c0 < 16) : ∀ (k d : Nat) (σ : St_), d + k = 16 → ∃ σ', (∀ out, Ev_ (P_X0_readLeanings KC) 29 [some (.ref b), some (.ref 1), some (.int (nI c0)), some (.int 10), some (.int 0), none] [] σ' out → Ev_ (P_X0_readLeanings KC) 2 [some (.ref b), some (.ref 1), some (.int (nI c0)), some (.int (nI d)), none, none] [] σ out) ∧ fr_ [b + 6 + c0] σ σ' ∧ (∀ i, σ'.1 (b + 6 + c0) i = if d ≤ i ∧ i < 16 then 0 else σ.1 (b + 6 + c0) i)
  | 0, d, σ, h => ⟨σ, fun out k => e_X0_readLeanings_2 hb (pk_le 16 d (fun _ => k) (fun z => by omega)), fr_rf _ _, fun i => by rw [if_neg (by omega)]⟩
  | k + 1, d, σ, h => by
    obtain ⟨σ', g1, g2, g3⟩ := c_zero hb hc0 k (d + 1) (sI_ σ (b + 6 + c0) d 0) (by omega)
    refine ⟨σ', fun out kk => e_X0_readLeanings_2 hb (pk_le 16 d (fun z => by omega) (fun _ => ⟨vpin_n hc0, vpin_n (by omega), ?_⟩)), fr_tr (fr_sI (by simp)) g2, fun i => ?_⟩
    · rw [cl_ (by omega), cl_ (by omega), nI_1]
      exact g1 out kk
    · rw [g3 i, sI_at]
      by_cases e : i = d
      · subst e
        rw [if_neg (by omega), if_pos ⟨rfl, rfl⟩, if_pos (by omega)]
      · rw [if_neg (show ¬ (b + 6 + c0 = b + 6 + c0 ∧ i = d) from fun z => e z.2)]
        by_cases e2 : d + 1 ≤ i ∧ i < 16
        · rw [if_pos e2, if_pos (by omega)]
        · rw [if_neg e2, if_neg (by omega)]
theorem ix130 (c d : Nat) : ((130 : Int32) + (16 : Int32) * nI c) + nI d = nI (130 + 16 * c + d) := by
  rw [show (16 : Int32) = nI 16 from rfl, pk_mul, show (130 : Int32) = nI 130 from rfl, nI_add, nI_add]
theorem m_zero {c0 : Nat} (hc0 : c0 < 16) : ∀ (k d : Nat) (μ : St_), d + k = 16 → ∃ μ', (∀ out, Ev_ (P_X12_readChap KC) 138 [some (.ref 219), some (.int (nI c0)), some (.int 10), none] [] μ' out → Ev_ (P_X12_readChap KC) 107 [some (.ref 219), some (.int (nI c0)), some (.int (nI d)), none] [] μ out) ∧ fr_ [222] μ μ' ∧ (∀ i, μ'.1 222 i = if 130 + 16 * c0 + d ≤ i ∧ i < 130 + 16 * c0 + 16 then 0 else μ.1 222 i)
  | 0, d, μ, h => ⟨μ, fun out k => e_X12_readChap_107 (pk_le 16 d (fun _ => k) (fun z => by omega)), fr_rf _ _, fun i => by rw [if_neg (by omega)]⟩
  | k + 1, d, μ, h => by
    obtain ⟨μ', g1, g2, g3⟩ := m_zero hc0 k (d + 1) (sI_ μ 222 (130 + 16 * c0 + d) 0) (by omega)
    refine ⟨μ', fun out kk => e_X12_readChap_107 (pk_le 16 d (fun z => by omega) (fun _ => ?_)), fr_tr (fr_sI (by simp)) g2, fun i => ?_⟩
    · rw [ix130, cl_ (by omega), nI_1]
      exact ⟨vpin_n (by omega), g1 out kk⟩
    · rw [g3 i, sI_at]
      by_cases e : i = 130 + 16 * c0 + d
      · subst e
        rw [if_neg (by omega), if_pos ⟨rfl, rfl⟩, if_pos (by omega)]
      · rw [if_neg (show ¬ (222 = 222 ∧ i = 130 + 16 * c0 + d) from fun z => e z.2)]
        by_cases e2 : 130 + 16 * c0 + (d + 1) ≤ i ∧ i < 130 + 16 * c0 + 16
        · rw [if_pos e2, if_pos (by omega)]
        · rw [if_neg e2, if_neg (by omega)]
