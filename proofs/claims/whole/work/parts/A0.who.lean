/-! a READER's LINE -/
def bR_ (B : Nat → Nat → Nat) (nm pa te ke ti sk : Nat) : Nat → Nat → Nat := fun i j =>
  if i = 0 then (if j = 1 then B 0 1 + 1 else B 0 j)
  else if j = B 0 1 then (if i = 10 then nm else if i = 4 then pa else if i = 5 then te else if i = 6 then ke else if i = 7 then ti else if i = 8 then sk else B i j)
  else B i j
section WHO
variable {B : Nat → Nat → Nat} {nm pa te ke ti sk : Nat}
theorem bR_lo {i j : Nat} (hi : i ≠ 0) (hj : j ≠ B 0 1) : bR_ B nm pa te ke ti sk i j = B i j := by
  unfold bR_
  rw [if_neg hi, if_neg hj]
theorem bR_o {i : Nat} (hi : i ≠ 0) (h : i < 4 ∨ i = 9 ∨ 11 ≤ i) (j : Nat) : bR_ B nm pa te ke ti sk i j = B i j := by
  unfold bR_
  rw [if_neg hi]
  split
  · rw [if_neg (by omega), if_neg (by omega), if_neg (by omega), if_neg (by omega), if_neg (by omega), if_neg (by omega)]
  · rfl
theorem bR_0 : bR_ B nm pa te ke ti sk 0 0 = B 0 0 ∧ bR_ B nm pa te ke ti sk 0 1 = B 0 1 + 1 ∧ bR_ B nm pa te ke ti sk 0 2 = B 0 2 ∧ bR_ B nm pa te ke ti sk 0 3 = B 0 3 := ⟨rfl, rfl, rfl, rfl⟩
theorem bR_n : bR_ B nm pa te ke ti sk 10 (B 0 1) = nm ∧ bR_ B nm pa te ke ti sk 4 (B 0 1) = pa ∧ bR_ B nm pa te ke ti sk 5 (B 0 1) = te ∧ bR_ B nm pa te ke ti sk 6 (B 0 1) = ke ∧ bR_ B nm pa te ke ti sk 7 (B 0 1) = ti ∧ bR_ B nm pa te ke ti sk 8 (B 0 1) = sk := by
  have h : ∀ i, i ≠ 0 → bR_ B nm pa te ke ti sk i (B 0 1) = (if i = 10 then nm else if i = 4 then pa else if i = 5 then te else if i = 6 then ke else if i = 7 then ti else if i = 8 then sk else B i (B 0 1)) := by
    intro i hi
    unfold bR_
    rw [if_neg hi, if_pos rfl]
  exact ⟨(h 10 (by omega)).trans rfl, (h 4 (by omega)).trans rfl, (h 5 (by omega)).trans rfl, (h 6 (by omega)).trans rfl, (h 7 (by omega)).trans rfl, (h 8 (by omega)).trans rfl⟩
theorem BO_R (hO : BO_ B) (hc : B 0 1 < 9) (h1 : okc_ nm) (h2 : 1 ≤ pa ∧ pa ≤ 99) (h3 : te ≤ 10) (h4 : ke ≤ 10) (h5 : ti ≤ 240) (h6 : sk ≤ 10) : BO_ (bR_ B nm pa te ke ti sk) := by
  obtain ⟨n1, n2, n3, n4, n5, n6⟩ := bR_n (B := B) (nm := nm) (pa := pa) (te := te) (ke := ke) (ti := ti) (sk := sk)
  refine ⟨⟨hO.1.1, ?_, hO.1.2.2.1, hO.1.2.2.2.1, hO.1.2.2.2.2⟩, fun c hcc => ?_, fun r hr => ?_⟩
  · rw [bR_0.2.1]; omega
  · rw [bR_0.1] at hcc
    obtain ⟨q1, q2, q3, q4, q5, q6⟩ := hO.2.1 c hcc
    rw [bR_o (by omega) (by omega), bR_o (by omega) (by omega), bR_o (by omega) (by omega), bR_o (by omega) (by omega)]
    refine ⟨q1, q2, q3, q4, fun d hd => ?_, ?_⟩
    · rw [bR_o (by omega) (by omega)]
      exact q5 d hd
    · rw [fb_sm_cong (fun k _ => bR_o (by omega) (by omega) k)]
      exact q6
  · rw [bR_0.2.1] at hr
    by_cases e : r = B 0 1
    · rw [e, n1, n2, n3, n4, n5, n6]
      exact ⟨h1, h2, h3, h4, h5, h6⟩
    · rw [bR_lo (by omega) e, bR_lo (by omega) e, bR_lo (by omega) e, bR_lo (by omega) e, bR_lo (by omega) e, bR_lo (by omega) e]
      exact hO.2.2 r (by omega)
theorem CB_R {σ σ' : St_} {b : Nat} (h : CB_ σ b B) (hk : ∀ o i, rC_ b B o i → (o = b → i ≠ 12) → σ'.1 o i = σ.1 o i) (h0 : σ'.1 b 12 = nI (B 0 1 + 1)) (h1 : σ'.1 (b + 22) (B 0 1) = nI nm) (h2 : σ'.1 (b + 23) (B 0 1) = nI pa) (h3 : σ'.1 (b + 24) (B 0 1) = nI te) (h4 : σ'.1 (b + 25) (B 0 1) = nI ke) (h5 : σ'.1 (b + 26) (B 0 1) = nI ti) (h6 : σ'.1 (b + 27) (B 0 1) = nI sk) : CB_ σ' b (bR_ B nm pa te ke ti sk) := by
  obtain ⟨n1, n2, n3, n4, n5, n6⟩ := bR_n (B := B) (nm := nm) (pa := pa) (te := te) (ke := ke) (ti := ti) (sk := sk)
  obtain ⟨⟨a1, a2, a3, a4⟩, g2, g3⟩ := h
  refine ⟨⟨?_, h0, ?_, ?_⟩, fun c hcc => ?_, fun r hr => ?_⟩
  · rw [hk b 11 (by unfold rC_; omega) (by omega)]; exact a1
  · rw [hk b 14 (by unfold rC_; omega) (by omega)]; exact a3
  · rw [hk b 15 (by unfold rC_; omega) (by omega)]; exact a4
  · rw [bR_0.1] at hcc
    obtain ⟨e1, e2, e3, e4, e5⟩ := g2 c hcc
    rw [bR_o (by omega) (by omega), bR_o (by omega) (by omega), bR_o (by omega) (by omega), bR_o (by omega) (by omega)]
    exact ⟨by rw [hk _ _ (by unfold rC_; omega) (by omega)]; exact e1, by rw [hk _ _ (by unfold rC_; omega) (by omega)]; exact e2, by rw [hk _ _ (by unfold rC_; omega) (by omega)]; exact e3, by rw [hk _ _ (by unfold rC_; omega) (by omega)]; exact e4, fun d hd => by rw [hk _ _ (by unfold rC_; omega) (by omega), bR_o (by omega) (by omega)]; exact e5 d hd⟩
  · rw [bR_0.2.1] at hr
    by_cases e : r = B 0 1
    · rw [e, n1, n2, n3, n4, n5, n6]
      exact ⟨h1, h2, h3, h4, h5, h6⟩
    · obtain ⟨e1, e2, e3, e4, e5, e6⟩ := g3 r (by omega)
      rw [bR_lo (by omega) e, bR_lo (by omega) e, bR_lo (by omega) e, bR_lo (by omega) e, bR_lo (by omega) e, bR_lo (by omega) e]
      exact ⟨by rw [hk _ _ (by unfold rC_; omega) (by omega)]; exact e1, by rw [hk _ _ (by unfold rC_; omega) (by omega)]; exact e2, by rw [hk _ _ (by unfold rC_; omega) (by omega)]; exact e3, by rw [hk _ _ (by unfold rC_; omega) (by omega)]; exact e4, by rw [hk _ _ (by unfold rC_; omega) (by omega)]; exact e5, by rw [hk _ _ (by unfold rC_; omega) (by omega)]; exact e6⟩
theorem MB_R {μ μ' : St_} (h : MB_ μ 222 0 225 0 B) (hk : ∀ i, rM_ B i → i ≠ 1 → μ'.1 222 i = μ.1 222 i) (hn : ∀ i, rN_ B i → μ'.2.1 225 i = μ.2.1 225 i) (h0 : μ'.1 222 1 = nI (B 0 1 + 1)) (h1 : μ'.2.1 225 (16 + B 0 1) = lN (cm_ nm)) (h2 : μ'.1 222 (80 + 5 * B 0 1) = nI pa) (h3 : μ'.1 222 (80 + 5 * B 0 1 + 1) = nI te) (h4 : μ'.1 222 (80 + 5 * B 0 1 + 2) = nI ke) (h5 : μ'.1 222 (80 + 5 * B 0 1 + 3) = nI ti) (h6 : μ'.1 222 (80 + 5 * B 0 1 + 4) = nI sk) : MB_ μ' 222 0 225 0 (bR_ B nm pa te ke ti sk) := by
  obtain ⟨n1, n2, n3, n4, n5, n6⟩ := bR_n (B := B) (nm := nm) (pa := pa) (te := te) (ke := ke) (ti := ti) (sk := sk)
  obtain ⟨⟨a1, a2, a3, a4⟩, g2, g3⟩ := h
  simp only [Nat.zero_add] at a1 a2 a3 a4 g2 g3
  refine ⟨⟨?_, h0, ?_, ?_⟩, fun c hcc => ?_, fun r hr => ?_⟩
  · rw [hk 0 (by unfold rM_; omega) (by omega)]; exact a1
  · rw [Nat.zero_add, hk 2 (by unfold rM_; omega) (by omega)]; exact a3
  · rw [Nat.zero_add, hk 3 (by unfold rM_; omega) (by omega)]; exact a4
  · rw [bR_0.1] at hcc
    simp only [Nat.zero_add]
    obtain ⟨e1, e2, e3, e4, e5⟩ := g2 c hcc
    rw [bR_o (by omega) (by omega), bR_o (by omega) (by omega), bR_o (by omega) (by omega), bR_o (by omega) (by omega)]
    exact ⟨by rw [hn _ (by unfold rN_; omega)]; exact e1, by rw [hk _ (by unfold rM_; omega) (by omega)]; exact e2, by rw [hk _ (by unfold rM_; omega) (by omega)]; exact e3, by rw [hk _ (by unfold rM_; omega) (by omega)]; exact e4, fun d hd => by rw [hk _ (by unfold rM_; omega) (by omega), bR_o (by omega) (by omega)]; exact e5 d hd⟩
  · rw [bR_0.2.1] at hr
    simp only [Nat.zero_add]
    by_cases e : r = B 0 1
    · rw [e, n1, n2, n3, n4, n5, n6]
      exact ⟨h1, h2, h3, h4, h5, h6⟩
    · obtain ⟨e1, e2, e3, e4, e5, e6⟩ := g3 r (by omega)
      rw [bR_lo (by omega) e, bR_lo (by omega) e, bR_lo (by omega) e, bR_lo (by omega) e, bR_lo (by omega) e, bR_lo (by omega) e]
      exact ⟨by rw [hn _ (by unfold rN_; omega)]; exact e1, by rw [hk _ (by unfold rM_; omega) (by omega)]; exact e2, by rw [hk _ (by unfold rM_; omega) (by omega)]; exact e3, by rw [hk _ (by unfold rM_; omega) (by omega)]; exact e4, by rw [hk _ (by unfold rM_; omega) (by omega)]; exact e5, by rw [hk _ (by unfold rM_; omega) (by omega)]; exact e6⟩
end WHO
theorem ix80_0 (c : Nat) : ((80 : Int32) + (5 : Int32) * nI c) + (0 : Int32) = nI (80 + 5 * c) := by
  rw [show (5 : Int32) = nI 5 from rfl, pk_mul, show (80 : Int32) = nI 80 from rfl, nI_add]; exact nI_add _ 0
theorem ix80 (c d : Nat) : ((80 : Int32) + (5 : Int32) * nI c) + nI d = nI (80 + 5 * c + d) := by
  rw [show (5 : Int32) = nI 5 from rfl, pk_mul, show (80 : Int32) = nI 80 from rfl, nI_add, nI_add]
theorem into_pair {σ μ : St_} {n : Nat} {t : Nat → Nat} {L κ pl e c q r : Nat} (a m : Nat) (h : PR_ σ μ n t L κ pl e c) (hq : KC.1 q = (14, 9)) (hr : r < 9) (ha : a < 2 ^ 30) (hm : m < 2 ^ 30) : (∃ σ' μ', f_X0_takeInto KC [.ref 1, .int (nI a), .int (nI m), .ref q, .int (nI r)] σ = some (some (.int 0), σ') ∧ f_X12_readNumber KC [.ref 219, .int (nI a), .int (nI m)] μ = some (some (.int 0), μ') ∧ FT_ σ' μ' ∧ SF_ σ σ' ∧ MF_ μ μ') ∨ (∃ κ' pl' e' c' σ' μ', f_X0_takeInto KC [.ref 1, .int (nI a), .int (nI m), .ref q, .int (nI r)] σ = some (some (.int 1), sI_ σ' q r (nI c)) ∧ f_X12_readNumber KC [.ref 219, .int (nI a), .int (nI m)] μ = some (some (.int 1), μ') ∧ a ≤ c ∧ c ≤ m ∧ PR_ σ' μ' n t L κ' pl' e' c' ∧ μ'.1 219 13 = nI c ∧ SF_ σ σ' ∧ MF_ μ μ' ∧ NF_ σ μ σ' μ') := by
  rcases num_pair a m h ha hm with ⟨σ', μ', f1, f2, ft, s3, s4⟩ | ⟨κ4, pl4, e4, c4, σ', μ', f1, f2, ⟨-, l1⟩, l2, p4, t1, t2, s3, s4, n4⟩
  · exact Or.inl ⟨σ', μ', z_X0_takeInto (e_X0_takeInto_0 hq ⟨0, σ', f1, br_t rfl rfl⟩), f2, ft, s3, s4⟩
  · refine Or.inr ⟨κ4, pl4, e4, c4, σ', μ', z_X0_takeInto (e_X0_takeInto_0 hq ⟨1, σ', f1, br_f (by decide) (br_f (nI_pos (by omega)) (pk_le 9 r (fun z => by omega) (fun _ => ⟨vpin_n hr, ?_⟩)))⟩), f2, l1, l2, p4, t2, s3, s4, n4⟩
    rw [cl_ (by omega), t1]
theorem who_pair {σ μ : St_} {n : Nat} {t : Nat → Nat} {L κ pl e c b : Nat} {B : Nat → Nat → Nat} (h : PR_ σ μ n t L κ pl e c) (hb : isB b) (hC : CB_ σ b B) (hM : MB_ μ 222 0 225 0 B) (hO : BO_ B) (hκ : κ = 7) :
    W1_ (fun o => f_X0_readReader KC [.ref b, .ref 1] σ = some o) (fun o => W1_ (fun u => f_X12_readWho KC [.ref 219] μ = some u) (fun u => LQ_ b [12] [] n t L σ μ (fun B' => B' 0 0 = B 0 0 ∧ B' 0 1 = B 0 1 + 1) o u)) := by
  have c16 := hO.1.1
  have c9 := hO.1.2.1
  have hb1 := isB_ge hb
  have hx : σ.1 b 12 = nI (B 0 1) := hC.1.2.1
  have hy : μ.1 222 (Int32.toNatClampNeg (1 : Int32)) = nI (B 0 1) := hM.1.2.1
  refine w1e (fun o h => z_X0_readReader (e_X0_readReader_0 hb h)) ?_
  refine sw_ (w1e (fun o h => z_X12_readWho (e_X12_readWho_0 h)) ?_)
  rw [hx, hy]
  refine w1a (by decide) ?_
  by_cases hc : B 0 1 = 9
  · obtain ⟨⟨σ', g1, g2, g3, g4⟩, ⟨μ', k1, k2, k3, k4⟩, hpl⟩ := fail_both 4 h (by omega) (by omega) (by omega)
    refine w1t (by rw [hc]; rfl) (w1c k1 (w1a (Or.inl rfl) (w1l (w1f (show ¬ nI (B 0 1) < nI 9 from fun z => absurd ((nI_ltI (show B 0 1 < 2 ^ 31 by omega) (show 9 < 2 ^ 31 by decide)).mp z) (by omega : ¬ B 0 1 < 9)) (w1c g1 (w1a (Or.inl rfl) (w1l ?_)))))))
    exact Or.inl ⟨⟨rfl, rfl⟩, ⟨4, pl, by omega, by omega, hpl, g3, k3, g4, k4⟩, BF_SF hb g2, BM_MF k2⟩
  have hc0 : B 0 1 < 9 := by omega
  have e0 : Int32.toNatClampNeg (nI (B 0 1)) = B 0 1 := cl_ (by omega)
  have v0 : vpin_ (nI (B 0 1)) 9 = true := vpin_n hc0
  obtain ⟨κ1, pl1, e1, c1, σ1, μ1, a1, a2, a3, ⟨a4, -, a8⟩, ⟨a5, -⟩, a6⟩ := adv h (by omega)
  have hC1 := CB_SF hb hC a4
  have hM1 := MB_MF (by decide) (by decide) hM a5
  have e16 : (16 : Int32) + nI (B 0 1) = nI (16 + B 0 1) := nI_add 16 _
  refine w1f (fun z => hc ((nI_eq (by omega) (by omega)).mp z)) (w1v a2 (sw_ (w1lt (B 0 1) 9 (fun _ => w1v a1 ?_) (fun z => by omega))))
  rcases new_pair (16 + B 0 1) a3 hb hC1 hM1 hO (by omega) with ⟨σ2, μ2, f1, f2, ft, s1, s2⟩ | ⟨κ2, pl2, e2, c2, σ2, μ2, f1, f2, hok, ⟨hk2, -⟩, p2, tk, s1, s2, n2⟩
  · exact w1c f1 (w1t rfl (w1l (w1c (by rw [e16]; exact f2) (w1t rfl (w1l (Or.inl ⟨⟨rfl, rfl⟩, ft, BF_tr (BF_SF hb a4) (BF_SF hb s1), BM_tr (BM_MF a5) (BM_MF s2)⟩))))))
  refine w1c f1 (w1f (by decide) (w1a v0 (sw_ (w1c (by rw [e16]; exact f2) (w1f (by decide) (sw_ ?_))))))
  have i0 := ix80_0 (B 0 1)
  have i1 : ((80 : Int32) + (5 : Int32) * nI (B 0 1)) + (1 : Int32) = nI (80 + 5 * B 0 1 + 1) := ix80 _ 1
  have i2 : ((80 : Int32) + (5 : Int32) * nI (B 0 1)) + (2 : Int32) = nI (80 + 5 * B 0 1 + 2) := ix80 _ 2
  have i3 : ((80 : Int32) + (5 : Int32) * nI (B 0 1)) + (3 : Int32) = nI (80 + 5 * B 0 1 + 3) := ix80 _ 3
  have i4 : ((80 : Int32) + (5 : Int32) * nI (B 0 1)) + (4 : Int32) = nI (80 + 5 * B 0 1 + 4) := ix80 _ 4
  have j0 : Int32.toNatClampNeg (nI (80 + 5 * B 0 1)) = 80 + 5 * B 0 1 := cl_ (by omega)
  have j1 : Int32.toNatClampNeg (nI (80 + 5 * B 0 1 + 1)) = 80 + 5 * B 0 1 + 1 := cl_ (by omega)
  have j2 : Int32.toNatClampNeg (nI (80 + 5 * B 0 1 + 2)) = 80 + 5 * B 0 1 + 2 := cl_ (by omega)
  have j3 : Int32.toNatClampNeg (nI (80 + 5 * B 0 1 + 3)) = 80 + 5 * B 0 1 + 3 := cl_ (by omega)
  have j4 : Int32.toNatClampNeg (nI (80 + 5 * B 0 1 + 4)) = 80 + 5 * B 0 1 + 4 := cl_ (by omega)
  rw [tk, e0, i0, i1, i2, i3, i4, j0, j1, j2, j3, j4]
  have kC2 : kC_ b B σ σ2 := kC_tr (kC_SF hb a4) (kC_SF hb s1)
  have bF2 : BF_ b [12] σ σ2 := BF_tr (BF_SF hb a4) (BF_SF hb s1)
  have kM2 : kM_ B μ μ2 := kM_tr (kM_MF a5) (kM_tr (kM_J (i := 16 + B 0 1) (v := lN (cm_ c1)) (by unfold rN_; omega)) (kM_MF s2))
  have bM2 : BM_ [] μ μ2 := BM_tr (BM_MF a5) (BM_tr BM_sJ (BM_MF s2))
  have hnm2 : μ2.2.1 225 (16 + B 0 1) = lN (cm_ c1) := by
    rw [s2.1.2.1 225 (by decide), sJ_at, if_pos ⟨rfl, rfl⟩]
  obtain ⟨σ3, hσ3, p3, kC3, bF3, v3, o3⟩ := stC (o := b + 22) (i := B 0 1) (B := B) (nI c1) hb (by omega) (by unfold rC_; omega) p2 kC2 bF2
  rw [hσ3]
  -- PACE
  rcases into_pair 1 99 p3 (kb_k6 hb) hc0 (by omega) (by omega) with ⟨σ4, μ4, f1, f2, ft, s3, s4⟩ | ⟨κ4, pl4, e4, c4, σ4, μ4, f1, f2, l1, l2, p4, t2, s3, s4, n4⟩
  · exact w1c f1 (w1t rfl (w1l (w1c f2 (w1t rfl (w1l (Or.inl ⟨⟨rfl, rfl⟩, ft, BF_tr bF3 (BF_SF hb s3), BM_tr bM2 (BM_MF s4)⟩))))))
  obtain ⟨σ5, hσ5, p5, kC5, bF5, v5, o5⟩ := stC (o := b + 23) (i := B 0 1) (B := B) (nI c2) hb (by omega) (by unfold rC_; omega) p4 (kC_tr kC3 (kC_SF hb s3)) (BF_tr bF3 (BF_SF hb s3))
  obtain ⟨μ5, hμ5, p5', kM5, bM5, w5, q5, r5⟩ := stM (i := 80 + 5 * B 0 1) (B := B) (nI c2) (by unfold rM_; omega) p5 (kM_tr kM2 (kM_MF s4)) (BM_tr bM2 (BM_MF s4))
  rw [hσ5] at f1
  refine w1c f1 (w1f (by decide) (sw_ (w1c f2 (w1f (by decide) (w1a (vpin_n (by omega)) (sw_ ?_))))))
  rw [t2, hμ5]
  -- TELL
  rcases into_pair 0 10 p5' (kb_k7 hb) hc0 (by omega) (by omega) with ⟨σ6, μ6, f1, f2, ft, s5, s6⟩ | ⟨κ6, pl6, e6, c6, σ6, μ6, f1, f2, l3, l4, p6, t2, s5, s6, n6⟩
  · exact w1c f1 (w1t rfl (w1l (w1c f2 (w1t rfl (w1l (Or.inl ⟨⟨rfl, rfl⟩, ft, BF_tr bF5 (BF_SF hb s5), BM_tr bM5 (BM_MF s6)⟩))))))
  obtain ⟨σ7, hσ7, p7, kC7, bF7, v7, o7⟩ := stC (o := b + 24) (i := B 0 1) (B := B) (nI c4) hb (by omega) (by unfold rC_; omega) p6 (kC_tr kC5 (kC_SF hb s5)) (BF_tr bF5 (BF_SF hb s5))
  obtain ⟨μ7, hμ7, p7', kM7, bM7, w7, q7, r7⟩ := stM (i := 80 + 5 * B 0 1 + 1) (B := B) (nI c4) (by unfold rM_; omega) p7 (kM_tr kM5 (kM_MF s6)) (BM_tr bM5 (BM_MF s6))
  rw [hσ7] at f1
  refine w1c f1 (w1f (by decide) (sw_ (w1c f2 (w1f (by decide) (w1a (vpin_n (by omega)) (sw_ ?_))))))
  rw [t2, hμ7]
  -- KEEP
  rcases into_pair 0 10 p7' (kb_k8 hb) hc0 (by omega) (by omega) with ⟨σ8, μ8, f1, f2, ft, s7, s8⟩ | ⟨κ8, pl8, e8, c8, σ8, μ8, f1, f2, l5, l6, p8, t2, s7, s8, n8⟩
  · exact w1c f1 (w1t rfl (w1l (w1c f2 (w1t rfl (w1l (Or.inl ⟨⟨rfl, rfl⟩, ft, BF_tr bF7 (BF_SF hb s7), BM_tr bM7 (BM_MF s8)⟩))))))
  obtain ⟨σ9, hσ9, p9, kC9, bF9, v9, o9⟩ := stC (o := b + 25) (i := B 0 1) (B := B) (nI c6) hb (by omega) (by unfold rC_; omega) p8 (kC_tr kC7 (kC_SF hb s7)) (BF_tr bF7 (BF_SF hb s7))
  obtain ⟨μ9, hμ9, p9', kM9, bM9, w9, q9, r9⟩ := stM (i := 80 + 5 * B 0 1 + 2) (B := B) (nI c6) (by unfold rM_; omega) p9 (kM_tr kM7 (kM_MF s8)) (BM_tr bM7 (BM_MF s8))
  rw [hσ9] at f1
  refine w1c f1 (w1f (by decide) (sw_ (w1c f2 (w1f (by decide) (w1a (vpin_n (by omega)) (sw_ ?_))))))
  rw [t2, hμ9]
  -- TIME
  rcases into_pair 0 240 p9' (kb_k9 hb) hc0 (by omega) (by omega) with ⟨σA, μA, f1, f2, ft, s9, sA⟩ | ⟨κA, plA, eA, cA, σA, μA, f1, f2, l7, l8, pA, t2, s9, sA, nA⟩
  · exact w1c f1 (w1t rfl (w1l (w1c f2 (w1t rfl (w1l (Or.inl ⟨⟨rfl, rfl⟩, ft, BF_tr bF9 (BF_SF hb s9), BM_tr bM9 (BM_MF sA)⟩))))))
  obtain ⟨σB, hσB, pB, kCB, bFB, vB, oB⟩ := stC (o := b + 26) (i := B 0 1) (B := B) (nI c8) hb (by omega) (by unfold rC_; omega) pA (kC_tr kC9 (kC_SF hb s9)) (BF_tr bF9 (BF_SF hb s9))
  obtain ⟨μB, hμB, pB', kMB, bMB, wB, qB, rB⟩ := stM (i := 80 + 5 * B 0 1 + 3) (B := B) (nI c8) (by unfold rM_; omega) pB (kM_tr kM9 (kM_MF sA)) (BM_tr bM9 (BM_MF sA))
  rw [hσB] at f1
  refine w1c f1 (w1f (by decide) (w1a v0 (sw_ (w1c f2 (w1f (by decide) (w1a (vpin_n (by omega)) (w1a (vpin_n (by omega)) (sw_ ?_))))))))
  rw [t2, hμB]
  -- skips: 0 at first
  obtain ⟨σC, hσC, pC, kCC, bFC, vC, oC⟩ := stC (o := b + 27) (i := B 0 1) (B := B) (0 : Int32) hb (by omega) (by unfold rC_; omega) pB' kCB bFB
  obtain ⟨μC, hμC, pC', kMC, bMC, wC, qC, rC⟩ := stM (i := 80 + 5 * B 0 1 + 4) (B := B) (0 : Int32) (by unfold rM_; omega) pC kMB bMB
  rw [hσC, hμC]
  have hTC := pC'.2.2.2.1
  have isk := m_isWord (k := 6) hTC pC'.2.2.2.2.2 (by omega)
  rw [show kk_ 6 = 8 from rfl] at isk
  have row1 : σC.1 (b + 22) (B 0 1) = nI c1 := by
    rw [oC _ (by omega), oB _ (by omega), s9.1.1 _ (by simp <;> omega), o9 _ (by omega), s7.1.1 _ (by simp <;> omega), o7 _ (by omega), s5.1.1 _ (by simp <;> omega), o5 _ (by omega), s3.1.1 _ (by simp <;> omega)]; exact v3
  have row2 : σC.1 (b + 23) (B 0 1) = nI c2 := by
    rw [oC _ (by omega), oB _ (by omega), s9.1.1 _ (by simp <;> omega), o9 _ (by omega), s7.1.1 _ (by simp <;> omega), o7 _ (by omega), s5.1.1 _ (by simp <;> omega)]; exact v5
  have row3 : σC.1 (b + 24) (B 0 1) = nI c4 := by
    rw [oC _ (by omega), oB _ (by omega), s9.1.1 _ (by simp <;> omega), o9 _ (by omega), s7.1.1 _ (by simp <;> omega)]; exact v7
  have row4 : σC.1 (b + 25) (B 0 1) = nI c6 := by
    rw [oC _ (by omega), oB _ (by omega), s9.1.1 _ (by simp <;> omega)]; exact v9
  have row5 : σC.1 (b + 26) (B 0 1) = nI c8 := by rw [oC _ (by omega)]; exact vB
  have mrow0 : μC.2.1 225 (16 + B 0 1) = lN (cm_ c1) := by
    rw [rC, rB, sA.1.2.1 225 (by decide), r9, s8.1.2.1 225 (by decide), r7, s6.1.2.1 225 (by decide), r5, s4.1.2.1 225 (by decide)]; exact hnm2
  have mrow1 : μC.1 222 (80 + 5 * B 0 1) = nI c2 := by
    rw [qC _ (by omega), qB _ (by omega), sA.1.1 222 (by decide), q9 _ (by omega), s8.1.1 222 (by decide), q7 _ (by omega), s6.1.1 222 (by decide)]; exact w5
  have mrow2 : μC.1 222 (80 + 5 * B 0 1 + 1) = nI c4 := by
    rw [qC _ (by omega), qB _ (by omega), sA.1.1 222 (by decide), q9 _ (by omega), s8.1.1 222 (by decide)]; exact w7
  have mrow3 : μC.1 222 (80 + 5 * B 0 1 + 2) = nI c6 := by
    rw [qC _ (by omega), qB _ (by omega), sA.1.1 222 (by decide)]; exact w9
  have mrow4 : μC.1 222 (80 + 5 * B 0 1 + 3) = nI c8 := by rw [qC _ (by omega)]; exact wB
  have nfC : NF_ σ μ σC μC := by
    refine ⟨?_, ?_⟩
    · rw [oC 1 (by omega), oB 1 (by omega), nA.1, o9 1 (by omega), n8.1, o7 1 (by omega), n6.1, o5 1 (by omega), n4.1, o3 1 (by omega), n2.1, a6.1]
    · have z1 : ∀ j, μC.1 219 j = μA.1 219 j := fun j => by rw [← hμC, ← hμB, sI_row _ _ _ _ (by decide), sI_row _ _ _ _ (by decide)]
      have z2 : ∀ j, μ9.1 219 j = μ8.1 219 j := fun j => by rw [← hμ9, sI_row _ _ _ _ (by decide)]
      have z3 : ∀ j, μ7.1 219 j = μ6.1 219 j := fun j => by rw [← hμ7, sI_row _ _ _ _ (by decide)]
      have z4 : ∀ j, μ5.1 219 j = μ4.1 219 j := fun j => by rw [← hμ5, sI_row _ _ _ _ (by decide)]
      rw [z1, nA.2, z2, n8.2, z3, n6.2, z4, n4.2, n2.2]
      exact a6.2
  have ltC : lt_ σ σC := by
    refine lt_mo (a8 (by omega)) ?_
    have m1 := s1.2.2
    have m2 := s3.2.2
    have m3 := s5.2.2
    have m4 := s7.2.2
    have m5 := s9.2.2
    unfold mo_ at m1 m2 m3 m4 m5 ⊢
    rw [o3 1 (by omega)] at m2
    rw [o5 1 (by omega)] at m3
    rw [o7 1 (by omega)] at m4
    rw [o9 1 (by omega)] at m5
    rw [oC 1 (by omega), oB 1 (by omega)]
    omega
  have fin : ∀ (sk : Nat) (σD μD : St_) (κD plD eD cD : Nat), sk ≤ 10 → PR_ σD μD n t L κD plD eD cD → SF_ σC σD → MF_ μC μD → NF_ σC μC σD μD → LQ_ b [12] [] n t L σ μ (fun B' => B' 0 0 = B 0 0 ∧ B' 0 1 = B 0 1 + 1) (some (.int 1), sI_ (sI_ σD (b + 27) (B 0 1) (nI sk)) b 12 (nI (B 0 1 + 1))) (some (.int 1), sI_ (sI_ μD 222 (80 + 5 * B 0 1 + 4) (nI sk)) 222 1 (nI (B 0 1 + 1))) := by
    intro sk σD μD κD plD eD cD hsk pD sD mD nD
    have kCD : kC_ b B σ (sI_ σD (b + 27) (B 0 1) (nI sk)) := kC_tr (kC_tr kCC (kC_SF hb sD)) (kC_at (by unfold rC_; omega))
    have bFD : BF_ b [12] σ (sI_ σD (b + 27) (B 0 1) (nI sk)) := BF_tr (BF_tr bFC (BF_SF hb sD)) (BF_sI hb (by omega))
    have kMD : kM_ B μ (sI_ μD 222 (80 + 5 * B 0 1 + 4) (nI sk)) := kM_tr (kM_tr kMC (kM_MF mD)) (kM_at (by unfold rM_; omega))
    have bMD : BM_ [] μ (sI_ μD 222 (80 + 5 * B 0 1 + 4) (nI sk)) := BM_tr (BM_tr bMC (BM_MF mD)) BM_sI
    have hrow : ∀ o i, o ≠ 1 → o ≠ b + 27 → o ≠ b → (sI_ (sI_ σD (b + 27) (B 0 1) (nI sk)) b 12 (nI (B 0 1 + 1))).1 o i = σC.1 o i := fun o i h1 h2 h3 => by
      rw [sI_row _ _ _ _ h3, sI_row _ _ _ _ h2, sD.1.1 o (by simp <;> omega)]
    have hmr : ∀ i, i ≠ 1 → i ≠ 80 + 5 * B 0 1 + 4 → (sI_ (sI_ μD 222 (80 + 5 * B 0 1 + 4) (nI sk)) 222 1 (nI (B 0 1 + 1))).1 222 i = μC.1 222 i := fun i h1 h2 => by
      rw [sI_at, if_neg (fun z => h1 z.2), sI_at, if_neg (fun z => h2 z.2), mD.1.1 222 (by decide)]
    refine Or.inr ⟨⟨rfl, rfl⟩, bR_ B c1 c2 c4 c6 c8 sk, κD, plD, eD, cD, ⟨rfl, rfl⟩, BO_R hO hc0 hok ⟨l1, l2⟩ l4 l6 l8 hsk, ?_, ?_, ?_, BF_tr bFD (BF_sb hb (by simp)), BM_tr bMD BM_sI, ?_⟩
    · refine CB_R (CB_k hC kCD) (fun o i hr hne => ?_) ?_ ?_ ?_ ?_ ?_ ?_ ?_
      · rw [sI_at, if_neg (fun z => hne z.1 z.2)]
      · rw [sI_at, if_pos ⟨rfl, rfl⟩]
      · rw [hrow _ _ (by omega) (by omega) (by omega)]; exact row1
      · rw [hrow _ _ (by omega) (by omega) (by omega)]; exact row2
      · rw [hrow _ _ (by omega) (by omega) (by omega)]; exact row3
      · rw [hrow _ _ (by omega) (by omega) (by omega)]; exact row4
      · rw [hrow _ _ (by omega) (by omega) (by omega)]; exact row5
      · rw [sI_row _ _ _ _ (by omega), sI_at, if_pos ⟨rfl, rfl⟩]
    · refine MB_R (MB_k hM kMD) (fun i hr hne => ?_) (fun i hr => rfl) ?_ ?_ ?_ ?_ ?_ ?_ ?_
      · rw [sI_at, if_neg (fun z => hne z.2)]
      · rw [sI_at, if_pos ⟨rfl, rfl⟩]
      · rw [sI_2, sI_2, mD.1.2.1 225 (by decide)]; exact mrow0
      · rw [hmr _ (by omega) (by omega)]; exact mrow1
      · rw [hmr _ (by omega) (by omega)]; exact mrow2
      · rw [hmr _ (by omega) (by omega)]; exact mrow3
      · rw [hmr _ (by omega) (by omega)]; exact mrow4
      · rw [sI_at, if_neg (by omega), sI_at, if_pos ⟨rfl, rfl⟩]
    · exact PR_r (PR_r (PR_b (PR_b pD (by omega) _ _) (by omega) _ _) _ _) _ _
    · refine ⟨⟨?_, ?_⟩, lt_mo ltC ?_⟩
      · rw [sI_row _ _ _ _ (by omega), sI_row _ _ _ _ (by omega), nD.1]; exact nfC.1
      · rw [sI_row _ _ _ _ (by decide), sI_row _ _ _ _ (by decide), nD.2]; exact nfC.2
      · have m1 := sD.2.2
        unfold mo_ at m1 ⊢
        rw [sI_row _ _ _ _ (by omega), sI_row _ _ _ _ (by omega)]
        exact m1
  have h12 : ∀ x, SF_ σC x → x.1 b 12 = nI (B 0 1) := fun x hs => by
    rw [hs.1.1 b (by simp <;> omega), kCC b 12 (by unfold rC_; omega)]; exact hx
  have hm1 : ∀ x, MF_ μC x → x.1 222 1 = nI (B 0 1) := fun x hs => by
    rw [hs.1.1 222 (by decide), kMC.1 1 (by unfold rM_; omega)]; exact hy
  by_cases h8 : κA = 8
  · rw [if_pos h8] at isk
    obtain ⟨κD, plD, eD, cD, σD, μD, b1, b2, b3, ⟨b4, -⟩, ⟨b5, -⟩, b6⟩ := adv pC' (by omega)
    refine w1t (by rw [pC'.2.2.2.2.1.1, h8]; rfl) (w1v b1 (sw_ (w1c isk (w1f (by decide) (w1v b2 (sw_ ?_))))))
    rcases into_pair 0 10 b3 (kb_k10 hb) hc0 (by omega) (by omega) with ⟨σE, μE, f1, f2, ft, sB, sC⟩ | ⟨κE, plE, eE, cE, σE, μE, f1, f2, l9, lA, pE, t2, sB, sC, nE⟩
    · exact w1c f1 (w1t rfl (w1l (w1c f2 (w1t rfl (w1l (Or.inl ⟨⟨rfl, rfl⟩, ft, BF_tr bFC (BF_tr (BF_SF hb b4) (BF_SF hb sB)), BM_tr bMC (BM_tr (BM_MF b5) (BM_MF sC))⟩))))))
    refine w1c f1 (w1f (by decide) (w1l (w1c f2 (w1f (by decide) (w1a (vpin_n (by omega)) (w1a (by decide) (w1a (by decide) (w1l ?_))))))))
    have q1 : (sI_ σE (b + 27) (B 0 1) (nI cD)).1 b 12 + 1 = nI (B 0 1 + 1) := by rw [sI_row _ _ _ _ (by omega), h12 _ (SF_tr b4 sB)]; exact nI_1 _
    have q2 : (sI_ μE 222 (80 + 5 * B 0 1 + 4) (nI cD)).1 222 (Int32.toNatClampNeg 1) + 1 = nI (B 0 1 + 1) := by
      rw [sI_at, if_neg (fun z => absurd z.2 (by show ¬ 1 = _; omega)), show μE.1 222 (Int32.toNatClampNeg 1) = nI (B 0 1) from hm1 _ (MF_tr b5 sC)]; exact nI_1 _
    rw [t2, q1, q2]
    exact fin cD σE μE κE plE eE cE lA pE (SF_tr b4 sB) (MF_tr b5 sC) ⟨nE.1.trans b6.1, nE.2.trans b6.2⟩
  · rw [if_neg h8] at isk
    refine w1f (fun z => h8 ((nI_eq (by have := hTC.1; omega) (by omega)).mp (pC'.2.2.2.2.1.1.symm.trans z))) (w1l (w1c isk (w1t rfl (w1a (by decide) (w1a (by decide) (w1l ?_))))))
    have q1 : σC.1 b 12 + 1 = nI (B 0 1 + 1) := by rw [h12 _ (SF_rf _)]; exact nI_1 _
    have q2 : μC.1 222 (Int32.toNatClampNeg 1) + 1 = nI (B 0 1 + 1) := by rw [show μC.1 222 (Int32.toNatClampNeg 1) = nI (B 0 1) from hm1 _ (MF_rf _)]; exact nI_1 _
    rw [q1, q2]
    have := fin 0 σC μC κA plA eA cA (by omega) pC' (SF_rf _) (MF_rf _) ⟨rfl, rfl⟩
    rw [show sI_ σC (b + 27) (B 0 1) (nI 0) = σC from sI_self vC, show sI_ μC 222 (80 + 5 * B 0 1 + 4) (nI 0) = μC from sI_self wC] at this
    exact this
