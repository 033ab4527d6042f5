/-! a BOOK's text, on both sides -/
section BOOK
variable {b n L : Nat} {t : Nat → Nat}
theorem PR_e {σ μ : St_} {κ pl e c : Nat} (h : PR_ σ μ n t L κ pl e c) : e ≤ n ∧ n ≤ 1040 ∧ Int32.toNatClampNeg (σ.1 1 4) = e := by
  have h1 := h.2.2.2.2.1.2.2.1
  have h2 := h.2.2.2.1.2.2.1
  have h3 := h.1.2.1
  exact ⟨h2, h3, by rw [h1]; exact cl_ (by omega)⟩
theorem bk_loop (hb : isB b) : ∀ m κ pl e c B hs ha N (σ μ : St_), 1040 - N < m → LI_ σ μ b n t L κ pl e c B hs ha N → (2 ≤ κ → N < e) → N < 1040 →
    (∃ σ' μ', Ev_ (P_X0_readFrom KC) 6 [some (.ref b), some (.ref 1), some (.int (nI N)), none] [] σ (some (.int 0), σ') ∧ Ev_ (P_X12_book KC) 44 [some (.ref 219), some (.int (nI N)), none] [] μ (some (.int (-1 - μ'.1 219 11)), μ') ∧ FT_ σ' μ' ∧ BF_ b bl_ σ σ' ∧ BM_ [22] μ μ') ∨
    (∃ B' N' σ' μ', Ev_ (P_X0_readFrom KC) 6 [some (.ref b), some (.ref 1), some (.int (nI N)), none] [] σ (some (.int 1), σ') ∧ (∀ out, Ev_ (P_X12_book KC) 73 [some (.ref 219), some (.int (nI N')), some (.int 0)] [] μ' out → Ev_ (P_X12_book KC) 44 [some (.ref 219), some (.int (nI N)), none] [] μ out) ∧ (CB_ σ' b B' ∧ MB_ μ' 222 0 225 0 B' ∧ BO_ B') ∧ σ'.1 b 13 = nI N' ∧ BF_ b bl_ σ σ' ∧ BM_ [22] μ μ' ∧ NF_ σ μ σ' μ') := by
  intro m
  induction m with
  | zero => intro κ pl e c B hs ha N σ μ h; omega
  | succ m ih =>
    intro κ pl e c B hs ha N σ μ hm h hN hi
    obtain ⟨he, hn, hcl⟩ := PR_e h.1
    have hT := h.1.2.2.2.1
    have hC := h.1.2.2.2.2.1
    have hM := h.1.2.2.2.2.2
    have hκ := hT.1
    have hrl := rk_lt κ
    by_cases h0 : κ = 0
    · right
      refine ⟨B, N, σ, μ, e_X0_readFrom_6 hb (pk_le 1040 N (fun z => by omega) (fun _ => br_t (by rw [hC.1, h0]; rfl) rfl)), fun out q => e_X12_book_44 (br_t (by rw [hM.1, h0]; rfl) q), h.2.1, h.2.2.2, BF_rf _ _ _, BM_rf _ _, rfl, rfl⟩
    · have hk : ¬ μ.1 219 7 = 0 := fun z => h0 ((rk_0 hκ).mp ((nI_eq (by omega) (by omega)).mp (hM.1.symm.trans z)))
      rcases line_both (i := N) hb h h0 hi with ⟨σ', μ', q1, q2, ft, f1, f2⟩ | ⟨B', hs', ha', κ', pl', e', c', σ', μ', q1, q2, h', ⟨lt, k1⟩, f1, f2, nf⟩
      · exact Or.inl ⟨σ', μ', q1, e_X12_book_44 (br_f hk ⟨0, μ', q2, br_t rfl rfl⟩), ft, f1, f2⟩
      · obtain ⟨he', hn', hcl'⟩ := PR_e h'.1
        have hk1 : κ ≠ 1 := fun z => k1 (by rw [hC.1, z])
        unfold lt_ at lt
        rw [hcl, hcl'] at lt
        have to44 : ∀ out, Ev_ (P_X12_book KC) 44 [some (.ref 219), some (.int (nI (N + 1))), none] [] μ' out → Ev_ (P_X12_book KC) 44 [some (.ref 219), some (.int (nI N)), none] [] μ out := fun out q => e_X12_book_44 (br_f hk ⟨1, μ', q2, br_f (by decide) (by rw [nI_1]; exact q)⟩)
        have h2 := hN (by omega)
        rcases ih κ' pl' e' c' B' hs' ha' (N + 1) σ' μ' (by omega) h' (by omega) (by omega) with ⟨σ2, μ2, r1, r2, ft, f3, f4⟩ | ⟨B2, N2, σ2, μ2, r1, r2, r3, r4, f3, f4, nf2⟩
        · exact Or.inl ⟨σ2, μ2, q1 _ r1, to44 _ r2, ft, BF_tr f1 f3, BM_tr f2 f4⟩
        · exact Or.inr ⟨B2, N2, σ2, μ2, q1 _ r1, fun out q => to44 _ (r2 out q), r3, r4, BF_tr f1 f3, BM_tr f2 f4, nf2.1.trans nf.1, nf2.2.trans nf.2⟩
/-- the reference copies what it read -/
theorem m_book100 (x1 : Int32) : ∀ k i (μ : St_), i + k = 25 → ∃ μ', Ev_ (P_X12_book KC) 100 [some (.ref 219), some (.int x1), some (.int (nI i))] [] μ (some (.int x1), sI_ (sI_ μ' 221 390 0) 221 800 0) ∧ μ'.1 = μ.1 ∧ fm_ [] [224] μ μ' ∧ (∀ j, μ'.2.1 224 j = if i ≤ j ∧ j < 25 then μ.2.1 225 j else μ.2.1 224 j)
  | 0, i, μ, h => by
    refine ⟨μ, e_X12_book_100 (pk_le 25 i (fun _ => ⟨by decide, by decide, rfl⟩) (fun z => by omega)), rfl, fm_rf _ _ _, fun j => by rw [if_neg (by omega)]⟩
  | k + 1, i, μ, h => by
    obtain ⟨μ', q1, q2, q3, q4⟩ := m_book100 x1 k (i + 1) (sJ_ μ 224 i (μ.2.1 225 i)) (by omega)
    refine ⟨μ', e_X12_book_100 (pk_le 25 i (fun z => by omega) (fun _ => ⟨vpin_n (by omega), vpin_n (by omega), ?_⟩)), q2, fm_tr (fm_sJ (by simp)) q3, fun j => ?_⟩
    · rw [cl_ (by omega), nI_1]
      exact q1
    · have e5 : (sJ_ μ 224 i (μ.2.1 225 i)).2.1 225 j = μ.2.1 225 j := by rw [sJ_at, if_neg (by omega)]
      rw [q4 j, e5, sJ_at]
      by_cases e : j = i
      · subst e
        rw [if_neg (by omega), if_pos ⟨rfl, rfl⟩, if_pos (by omega)]
      · rw [if_neg (show ¬ (224 = 224 ∧ j = i) from fun z => e z.2)]
        by_cases e2 : i + 1 ≤ j ∧ j < 25
        · rw [if_pos e2, if_pos (by omega)]
        · rw [if_neg e2, if_neg (by omega)]
theorem m_book73 (x1 : Int32) : ∀ k i (μ : St_), i + k = 390 → ∃ μ', (∀ out, Ev_ (P_X12_book KC) 100 [some (.ref 219), some (.int x1), some (.int 0)] [] μ' out → Ev_ (P_X12_book KC) 73 [some (.ref 219), some (.int x1), some (.int (nI i))] [] μ out) ∧ fr_ [221] μ μ' ∧ (∀ j, μ'.1 221 j = if i ≤ j ∧ j < 390 then μ.1 222 j else μ.1 221 j)
  | 0, i, μ, h => by
    refine ⟨μ, fun out q => e_X12_book_73 (pk_le 390 i (fun _ => q) (fun z => by omega)), fr_rf _ _, fun j => by rw [if_neg (by omega)]⟩
  | k + 1, i, μ, h => by
    obtain ⟨μ', q1, q2, q3⟩ := m_book73 x1 k (i + 1) (sI_ μ 221 i (μ.1 222 i)) (by omega)
    refine ⟨μ', fun out q => e_X12_book_73 (pk_le 390 i (fun z => by omega) (fun _ => ⟨vpin_n (by omega), vpin_n (by omega), ?_⟩)), fr_tr (fr_sI (by simp)) q2, fun j => ?_⟩
    · rw [cl_ (by omega), nI_1]
      exact q1 out q
    · have e5 : (sI_ μ 221 i (μ.1 222 i)).1 222 j = μ.1 222 j := by rw [sI_at, if_neg (by omega)]
      rw [q3 j, e5, sI_at]
      by_cases e : j = i
      · subst e
        rw [if_neg (by omega), if_pos ⟨rfl, rfl⟩, if_pos (by omega)]
      · rw [if_neg (show ¬ (221 = 221 ∧ j = i) from fun z => e z.2)]
        by_cases e2 : i + 1 ≤ j ∧ j < 390
        · rw [if_pos e2, if_pos (by omega)]
        · rw [if_neg e2, if_neg (by omega)]
/-- a text begins, on both sides -/
theorem begin_both {σ μ μ1 : St_} (hl : LY_ μ μ1) (hT : TA_ σ μ1 n t) (hW : ∀ j, j < 20 → σ.1 3 j = W_ j) (hL : L ≤ 1040) : ∃ κ pl e c σ' μ', f_X8_start KC [.ref 1, .int (nI L)] σ = some (none, σ') ∧ f_X12_begin KC [.ref 219, .int (nI L)] μ = some (none, μ') ∧ PR_ σ' μ' n t L κ pl e c ∧ (2 ≤ κ → 0 < e) ∧ (fr_ [1] σ σ' ∧ σ'.1 1 9 = nI 0) ∧ (fm_ [219] [219] μ1 μ' ∧ (∀ f, 10 < f → μ'.1 219 f = μ1.1 219 f) ∧ μ'.1 219 2 = nI 0 ∧ μ'.1 219 10 = nI 0) := by
  have hl' : f_X12_lay KC [.ref 219] (sI_ μ 219 0 (0 : Int32)) = some (none, μ1) := hl
  obtain ⟨⟨hn, ht⟩, ⟨t1, t2⟩, t3, t4⟩ := hT
  obtain ⟨κ, pl, e, c, h0, hmo, hc, hm⟩ := tok_both (t := t) (n := n) (L := L) (p := 0) ht hn hL (by omega)
  have tk : f_X12_take KC [.ref 219] μ1 = some (some (.int (nI n)), sI_ μ1 219 2 (0 : Int32)) := z_X12_take (e_X12_take_0 (by rw [t3]))
  obtain ⟨σ', g1, g2, g3, g4⟩ := hc (sI_ (sI_ (sI_ (sI_ σ 1 3 (nI L)) 1 4 (0 : Int32)) 1 9 (0 : Int32)) 1 10 (0 : Int32)) ⟨by simp [sI_at, t1], hn, fun i => by simp [sI_at, t2 i]⟩ (by simp [sI_at]) (by simp [sI_at]; rfl) (fun j hj => by simp [sI_at, hW j hj])
  obtain ⟨μ', k1, k2, k3, k4⟩ := hm (sI_ (sI_ (sI_ (sI_ (sI_ μ1 219 2 (0 : Int32)) 219 3 (nI n)) 219 4 (nI L)) 219 10 (0 : Int32)) 219 5 (0 : Int32)) ⟨by simp [sI_at], hn, fun i => by simp [sI_at, t4 i]⟩ (by simp [sI_at]) (by simp [sI_at]; rfl)
  refine ⟨κ, pl, e, c, σ', μ', z_X8_start (e_X8_start_0 ⟨σ', g1, rfl⟩), z_X12_begin (e_X12_begin_0 ⟨μ1, hl', nI n, _, tk, μ', k1, rfl⟩), ⟨⟨ht, hn, hL⟩, ⟨⟨by rw [g3 2 (by decide) (by decide) (by decide) (by decide)]; simp [sI_at, t1], hn, fun i => by rw [g2.1 2 (by decide)]; simp [sI_at, t2 i]⟩, by rw [g3 3 (by decide) (by decide) (by decide) (by decide)]; simp [sI_at], fun j hj => by rw [g2.1 3 (by decide)]; simp [sI_at, hW j hj]⟩, ⟨⟨by rw [k3 3 (by decide) (by decide) (by decide) (by decide) (by decide)]; simp [sI_at], hn, fun i => by rw [k2.1 220 (by decide)]; simp [sI_at, t4 i]⟩, by rw [k3 4 (by decide) (by decide) (by decide) (by decide) (by decide)]; simp [sI_at]⟩, h0, g4, k4⟩, hmo.2, ⟨fr_tr (fr_tr (fr_tr (fr_tr (fr_sI (by simp)) (fr_sI (by simp))) (fr_sI (by simp))) (fr_sI (by simp))) g2, ?_⟩, ⟨fm_tr (fm_tr (fm_tr (fm_tr (fm_tr (fm_sI (by simp)) (fm_sI (by simp))) (fm_sI (by simp))) (fm_sI (by simp))) (fm_sI (by simp))) k2, fun f hf => ?_, ?_, ?_⟩⟩
  · rw [g3 9 (by decide) (by decide) (by decide) (by decide)]
    simp [sI_at]
    rfl
  · rw [k3 f (by omega) (by omega) (by omega) (by omega) (by omega)]
    simp [sI_at, show ¬ f = 2 by omega, show ¬ f = 3 by omega, show ¬ f = 4 by omega, show ¬ f = 10 by omega, show ¬ f = 5 by omega]
  · rw [k3 2 (by decide) (by decide) (by decide) (by decide) (by decide)]
    simp [sI_at]
    rfl
  · rw [k3 10 (by decide) (by decide) (by decide) (by decide) (by decide)]
    simp [sI_at]
    rfl
/-- a BOOK of nothing -/
def B0_ : Nat → Nat → Nat := fun i j => if i = 0 ∧ j = 2 then 20 else if i = 0 ∧ j = 3 then 8 else 0
theorem B0_ok : BO_ B0_ := ⟨⟨by decide, by decide, by decide, by decide, by decide⟩, fun c hc => absurd hc (Nat.not_lt_zero c), fun r hr => absurd hr (Nat.not_lt_zero r)⟩
theorem FT_ans {σ μ : St_} (h : FT_ σ μ) : (-1 : Int32) - σ.1 1 10 = -1 - μ.1 219 11 ∧ σ.1 1 9 = μ.1 219 10 := by
  obtain ⟨k, pl, -, -, -, a1, a2, a3, a4⟩ := h
  exact ⟨by rw [a3, a4], by rw [a1, a2]⟩
/-- the same BOOK, copied -/
theorem MB_of {μ μ' : St_} {B : Nat → Nat → Nat} (h : MB_ μ 222 0 225 0 B) (h1 : ∀ i, i < 390 → μ'.1 221 i = μ.1 222 i) (h2 : ∀ i, i < 25 → μ'.2.1 224 i = μ.2.1 225 i) (hO : BO_ B) : MB_ μ' 221 0 224 0 B := by
  have c16 := hO.1.1
  have c9 := hO.1.2.1
  obtain ⟨⟨a1, a2, a3, a4⟩, g2, g3⟩ := h
  simp only [Nat.zero_add] at a1 a2 a3 a4 g2 g3
  refine ⟨⟨?_, ?_, ?_, ?_⟩, fun c hc => ?_, fun r hr => ?_⟩
  · rw [h1 0 (by omega)]; exact a1
  · rw [Nat.zero_add, h1 1 (by omega)]; exact a2
  · rw [Nat.zero_add, h1 2 (by omega)]; exact a3
  · rw [Nat.zero_add, h1 3 (by omega)]; exact a4
  · simp only [Nat.zero_add]
    obtain ⟨e1, e2, e3, e4, e5⟩ := g2 c hc
    exact ⟨by rw [h2 _ (by omega)]; exact e1, by rw [h1 _ (by omega)]; exact e2, by rw [h1 _ (by omega)]; exact e3, by rw [h1 _ (by omega)]; exact e4, fun d hd => by rw [h1 _ (by omega)]; exact e5 d hd⟩
  · simp only [Nat.zero_add]
    obtain ⟨e1, e2, e3, e4, e5, e6⟩ := g3 r hr
    exact ⟨by rw [h2 _ (by omega)]; exact e1, by rw [h1 _ (by omega)]; exact e2, by rw [h1 _ (by omega)]; exact e3, by rw [h1 _ (by omega)]; exact e4, by rw [h1 _ (by omega)]; exact e5, by rw [h1 _ (by omega)]; exact e6⟩
end BOOK
