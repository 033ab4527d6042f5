theorem ix10_0 (c : Nat) : ((10 : Int32) + (4 : Int32) * nI c) + (0 : Int32) = nI (10 + 4 * c) := ix10 c 0
theorem ix10_1 (c : Nat) : ((10 : Int32) + (4 : Int32) * nI c) + (1 : Int32) = nI (10 + 4 * c + 1) := ix10 c 1
theorem ix10_2 (c : Nat) : ((10 : Int32) + (4 : Int32) * nI c) + (2 : Int32) = nI (10 + 4 * c + 2) := ix10 c 2
/-- what comes of reading a LINE -/
def LQ_ (b : Nat) (ff gg : List Nat) (n : Nat) (t : Nat → Nat) (L : Nat) (σ μ : St_) (R : (Nat → Nat → Nat) → Prop) (o u : Out_) : Prop :=
  ((o.1 = some (.int 0) ∧ u.1 = some (.int 0)) ∧ FT_ o.2 u.2 ∧ BF_ b ff σ o.2 ∧ BM_ gg μ u.2) ∨
  ((o.1 = some (.int 1) ∧ u.1 = some (.int 1)) ∧ ∃ B' κ' pl' e' c', R B' ∧ BO_ B' ∧ CB_ o.2 b B' ∧ MB_ u.2 222 0 225 0 B' ∧ PR_ o.2 u.2 n t L κ' pl' e' c' ∧ BF_ b ff σ o.2 ∧ BM_ gg μ u.2 ∧ NF_ σ μ o.2 u.2 ∧ lt_ σ o.2)
theorem kC_rf (b : Nat) (B : Nat → Nat → Nat) (x : St_) : kC_ b B x x := fun _ _ _ => rfl
theorem kM_rf (B : Nat → Nat → Nat) (x : St_) : kM_ B x x := ⟨fun _ _ => rfl, fun _ _ => rfl⟩
theorem BF_rf (b : Nat) (ff : List Nat) (x : St_) : BF_ b ff x x := ⟨fun _ _ _ => rfl, rfl, fun _ _ => rfl, fun _ _ => rfl⟩
theorem BM_rf (gg : List Nat) (x : St_) : BM_ gg x x := ⟨fm_rf _ _ _, fun _ _ _ => rfl⟩
/-- a change at one place that the BOOK's relation doesn't see, on either side -/
theorem stC {b o i : Nat} {B : Nat → Nat → Nat} {ff : List Nat} {σ0 σ μ : St_} {n : Nat} {t : Nat → Nat} {L κ pl e c : Nat} (v : Int32) (hb : isB b) (ho : b < o ∧ o ≤ b + 27) (hr : ¬ rC_ b B o i) (h : PR_ σ μ n t L κ pl e c) (hk : kC_ b B σ0 σ) (hf : BF_ b ff σ0 σ) : ∃ σ', sI_ σ o i v = σ' ∧ PR_ σ' μ n t L κ pl e c ∧ kC_ b B σ0 σ' ∧ BF_ b ff σ0 σ' ∧ σ'.1 o i = v ∧ (∀ a, a ≠ o → σ'.1 a = σ.1 a) := by
  have := isB_ge hb
  exact ⟨_, rfl, PR_b h (by omega) i v, kC_tr hk (kC_at hr), BF_tr hf (BF_sI hb ho), by rw [sI_at, if_pos ⟨rfl, rfl⟩], fun a ha => sI_row _ _ _ _ ha⟩
theorem stM {i : Nat} {B : Nat → Nat → Nat} {gg : List Nat} {μ0 σ μ : St_} {n : Nat} {t : Nat → Nat} {L κ pl e c : Nat} (v : Int32) (hr : ¬ rM_ B i) (h : PR_ σ μ n t L κ pl e c) (hk : kM_ B μ0 μ) (hf : BM_ gg μ0 μ) : ∃ μ', sI_ μ 222 i v = μ' ∧ PR_ σ μ' n t L κ pl e c ∧ kM_ B μ0 μ' ∧ BM_ gg μ0 μ' ∧ μ'.1 222 i = v ∧ (∀ j, j ≠ i → μ'.1 222 j = μ.1 222 j) ∧ μ'.2 = μ.2 :=
  ⟨_, rfl, PR_r h i v, kM_tr hk (kM_at hr), BM_tr hf BM_sI, by rw [sI_at, if_pos ⟨rfl, rfl⟩], fun a ha => by rw [sI_at, if_neg (fun z => ha z.2)], rfl⟩
theorem chap_pair {σ μ : St_} {n : Nat} {t : Nat → Nat} {L κ pl e c b : Nat} {B : Nat → Nat → Nat} (h : PR_ σ μ n t L κ pl e c) (hb : isB b) (hC : CB_ σ b B) (hM : MB_ μ 222 0 225 0 B) (hO : BO_ B) (hκ : κ = 4) :
    W1_ (fun o => f_X0_readChap KC [.ref b, .ref 1] σ = some o) (fun o => W1_ (fun u => f_X12_readChap KC [.ref 219] μ = some u) (fun u => LQ_ b [11] [] n t L σ μ (fun B' => B' 0 0 = B 0 0 + 1 ∧ B' 0 1 = B 0 1) o u)) := by
  have c16 := hO.1.1
  have c9 := hO.1.2.1
  have hb1 := isB_ge hb
  have hx : σ.1 b 11 = nI (B 0 0) := hC.1.1
  have hy : μ.1 222 (Int32.toNatClampNeg (0 : Int32)) = nI (B 0 0) := hM.1.1
  refine w1e (fun o h => z_X0_readChap (e_X0_readChap_0 hb h)) ?_
  refine sw_ (w1e (fun o h => z_X12_readChap (e_X12_readChap_0 h)) ?_)
  rw [hx, hy]
  refine w1a (by decide) ?_
  by_cases hc : B 0 0 = 16
  · obtain ⟨⟨σ', g1, g2, g3, g4⟩, ⟨μ', k1, k2, k3, k4⟩, hpl⟩ := fail_both 4 h (by omega) (by omega) (by omega)
    refine w1t (by rw [hc]; rfl) (w1c k1 (w1a (Or.inl rfl) (w1l (w1f (show ¬ nI (B 0 0) < nI 16 from fun z => absurd ((nI_ltI (show B 0 0 < 2 ^ 31 by omega) (show 16 < 2 ^ 31 by decide)).mp z) (by omega : ¬ B 0 0 < 16)) (w1c g1 (w1a (Or.inl rfl) (w1l ?_)))))))
    exact Or.inl ⟨⟨rfl, rfl⟩, ⟨4, pl, by omega, by omega, hpl, g3, k3, g4, k4⟩, BF_SF hb g2, BM_MF k2⟩
  have hc0 : B 0 0 < 16 := by omega
  have e0 : Int32.toNatClampNeg (nI (B 0 0)) = B 0 0 := cl_ (by omega)
  have v0 : vpin_ (nI (B 0 0)) 16 = true := vpin_n hc0
  obtain ⟨κ1, pl1, e1, c1, σ1, μ1, a1, a2, a3, ⟨a4, -, a8⟩, ⟨a5, -⟩, a6⟩ := adv h (by omega)
  have hC1 := CB_SF hb hC a4
  have hM1 := MB_MF (by decide) (by decide) hM a5
  refine w1f (fun z => hc ((nI_eq (by omega) (by omega)).mp z)) (w1v a2 (sw_ (w1lt (B 0 0) 16 (fun _ => w1v a1 ?_) (fun z => by omega))))
  rcases new_pair (B 0 0) a3 hb hC1 hM1 hO (by omega) with ⟨σ2, μ2, f1, f2, ft, s1, s2⟩ | ⟨κ2, pl2, e2, c2, σ2, μ2, f1, f2, hok, ⟨hk2, -⟩, p2, tk, s1, s2, n2⟩
  · exact w1c f1 (w1t rfl (w1l (w1c f2 (w1t rfl (w1l (Or.inl ⟨⟨rfl, rfl⟩, ft, BF_tr (BF_SF hb a4) (BF_SF hb s1), BM_tr (BM_MF a5) (BM_MF s2)⟩))))))
  refine w1c f1 (w1f (by decide) (w1a v0 (sw_ (w1c f2 (w1f (by decide) (sw_ ?_))))))
  rw [tk, e0]
  have kC2 : kC_ b B σ σ2 := kC_tr (kC_SF hb a4) (kC_SF hb s1)
  have bF2 : BF_ b [11] σ σ2 := BF_tr (BF_SF hb a4) (BF_SF hb s1)
  have kM2 : kM_ B μ μ2 := kM_tr (kM_MF a5) (kM_tr (kM_J (i := B 0 0) (v := lN (cm_ c1)) (by unfold rN_; omega)) (kM_MF s2))
  have bM2 : BM_ [] μ μ2 := BM_tr (BM_MF a5) (BM_tr BM_sJ (BM_MF s2))
  have hnm2 : μ2.2.1 225 (B 0 0) = lN (cm_ c1) := by
    rw [s2.1.2.1 225 (by decide), sJ_at, if_pos ⟨rfl, rfl⟩]
  obtain ⟨σ3, hσ3, p3, kC3, bF3, v3, o3⟩ := stC (o := b + 1) (i := B 0 0) (B := B) (nI c1) hb (by omega) (by unfold rC_; omega) p2 kC2 bF2
  rw [hσ3]
  rcases num_pair 1 999 p3 (by omega) (by omega) with ⟨σ4, μ4, f1, f2, ft, s3, s4⟩ | ⟨κ4, pl4, e4, c4, σ4, μ4, f1, f2, ⟨-, l1⟩, l2, p4, t1, t2, s3, s4, n4⟩
  · exact w1c f1 (w1t rfl (w1l (w1c f2 (w1t rfl (w1l (Or.inl ⟨⟨rfl, rfl⟩, ft, BF_tr bF3 (BF_SF hb s3), BM_tr bM2 (BM_MF s4)⟩))))))
  refine w1c f1 (w1f (by decide) (w1a v0 (sw_ (w1c f2 (w1f (by decide) (w1a (vpin_e (10 + 4 * B 0 0) (by omega) (ix10_0 _)) (sw_ ?_)))))))
  have e1' : Int32.toNatClampNeg (((10 : Int32) + ((4 : Int32) * nI (B 0 0))) + (0 : Int32)) = 10 + 4 * B 0 0 := by rw [ix10_0]; exact cl_ (by omega)
  have e2' : Int32.toNatClampNeg (((10 : Int32) + ((4 : Int32) * nI (B 0 0))) + (1 : Int32)) = 10 + 4 * B 0 0 + 1 := by rw [ix10_1]; exact cl_ (by omega)
  have e3' : Int32.toNatClampNeg (((10 : Int32) + ((4 : Int32) * nI (B 0 0))) + (2 : Int32)) = 10 + 4 * B 0 0 + 2 := by rw [ix10_2]; exact cl_ (by omega)
  rw [t1, t2, e1', e2', e3']
  obtain ⟨σ5, hσ5, p5, kC5, bF5, v5, o5⟩ := stC (o := b + 2) (i := B 0 0) (B := B) (nI c2) hb (by omega) (by unfold rC_; omega) p4 (kC_tr kC3 (kC_SF hb s3)) (BF_tr bF3 (BF_SF hb s3))
  obtain ⟨μ5, hμ5, p5', kM5, bM5, w5, q5, r5⟩ := stM (i := 10 + 4 * B 0 0) (B := B) (nI c2) (by unfold rM_; omega) p5 (kM_tr kM2 (kM_MF s4)) (BM_tr bM2 (BM_MF s4))
  rw [hσ5, hμ5]
  rcases num_pair 0 999 p5' (by omega) (by omega) with ⟨σ6, μ6, f1, f2, ft, s5, s6⟩ | ⟨κ6, pl6, e6, c6, σ6, μ6, f1, f2, ⟨-, l3⟩, l4, p6, t3, t4, s5, s6, n6⟩
  · exact w1c f1 (w1t rfl (w1l (w1c f2 (w1t rfl (w1l (Or.inl ⟨⟨rfl, rfl⟩, ft, BF_tr bF5 (BF_SF hb s5), BM_tr bM5 (BM_MF s6)⟩))))))
  refine w1c f1 (w1f (by decide) (w1a v0 (sw_ (w1c f2 (w1f (by decide) (w1a (vpin_e (10 + 4 * B 0 0 + 1) (by omega) (ix10_1 _)) (w1a (vpin_e (10 + 4 * B 0 0 + 2) (by omega) (ix10_2 _)) (sw_ ?_))))))))
  rw [t3, t4]
  obtain ⟨σ7, hσ7, p7, kC7, bF7, v7, o7⟩ := stC (o := b + 3) (i := B 0 0) (B := B) (nI c4) hb (by omega) (by unfold rC_; omega) p6 (kC_tr kC5 (kC_SF hb s5)) (BF_tr bF5 (BF_SF hb s5))
  obtain ⟨μ7, hμ7, p7', kM7, bM7, w7, q7, r7⟩ := stM (i := 10 + 4 * B 0 0 + 1) (B := B) (nI c4) (by unfold rM_; omega) p7 (kM_tr kM5 (kM_MF s6)) (BM_tr bM5 (BM_MF s6))
  obtain ⟨μ8, hμ8, p8, kM8, bM8, w8, q8, r8⟩ := stM (i := 10 + 4 * B 0 0 + 2) (B := B) (0 : Int32) (by unfold rM_; omega) p7' kM7 bM7
  rw [hσ7, hμ7, hμ8]
  obtain ⟨σ9, z1, z2, z3⟩ := c_zero hb hc0 16 0 σ7 (by omega)
  obtain ⟨μ9, y1, y2, y3⟩ := m_zero hc0 16 0 μ8 (by omega)
  have p9 : PR_ σ9 μ9 n t L κ6 pl6 e6 c6 := PR_cg p8 (fun f _ _ => by rw [z2.1 1 (by simp <;> omega)]) (z2.1 2 (by simp <;> omega)) (z2.1 3 (by simp <;> omega)) (fun f _ _ => by rw [y2.1 219 (by decide)]) (y2.1 220 (by decide)) (by rw [y2.2])
  have lf9 : LF_ b (B 0 0) σ7 σ9 := ⟨fr_mono z2 (fun o ho => by simp at ho; simp [ho]), fun f _ => by rw [z2.1 1 (by simp <;> omega)], mo_eq (by rw [z2.1 1 (by simp <;> omega)])⟩
  have lm9 : LM_ (B 0 0) μ8 μ9 := ⟨fm_mono (fr_fm y2) (fun o ho => by simp at ho; simp [ho]) (fun o ho => ho), fun f _ => by rw [y2.1 219 (by decide)], fun i hi => by rw [y3 i, if_neg (by omega)]⟩
  have hC9 : CB_ σ9 b B := CB_LF hb hc0 (CB_k hC kC7) lf9
  have hM9 : MB_ μ9 222 0 225 0 B := MB_LM hO (MB_k hM kM8) lm9
  have hlz : fb_sm (fun _ => 0) 16 = 0 := by rw [fb_sm_const]
  rcases lean_loop (m := 11) (n := n) (L := L) (t := t) hb hO hc0 10 0 κ6 pl6 e6 c6 σ9 μ9 (fun _ => 0) (by omega) p9 hC9 hM9 (fun d hd => by rw [z3 d, if_pos (by omega)]; rfl) (fun d hd => by rw [y3, if_pos (by omega)]; rfl) (fun _ _ => rfl) (by rw [hlz]) (by omega) with ⟨σA, μA, f1, f2, ft, s7, s8⟩ | ⟨ln, rest, κA, plA, eA, cA, σA, μA, f1, f2, k5, pA, l5, l6, l7, l8, s7, s8, nA⟩
  · have fl : f_X0_readLeanings KC [.ref b, .ref 1, .int (nI (B 0 0))] σ7 = some (some (.int 0), σA) := z_X0_readLeanings (e_X0_readLeanings_0 hb (z1 _ f1))
    refine w1c fl (w1t rfl (w1l (w1e (fun o hh => y1 o hh) ?_)))
    refine ⟨_, f2, ?_⟩
    exact Or.inl ⟨⟨rfl, rfl⟩, ft, BF_tr bF7 (BF_LF hb hc0 (LF_tr lf9 s7)), BM_tr bM8 (BM_LM (LM_tr lm9 s8))⟩
  have fl : f_X0_readLeanings KC [.ref b, .ref 1, .int (nI (B 0 0))] σ7 = some (some (.int 1), σA) := z_X0_readLeanings (e_X0_readLeanings_0 hb (z1 _ f1))
  have lfA := LF_tr lf9 s7
  have lmA := LM_tr lm9 s8
  have kCA : kC_ b B σ σA := kC_tr kC7 (kC_LF hb hc0 lfA)
  have bFA : BF_ b [11] σ σA := BF_tr bF7 (BF_LF hb hc0 lfA)
  have kMA : kM_ B μ μA := kM_tr kM8 (kM_LM hO lmA)
  have bMA : BM_ [] μ μA := BM_tr bM8 (BM_LM lmA)
  have hTA := pA.2.2.2.1
  have on5 := m_isWord (k := 4) hTA pA.2.2.2.2.2 (by omega)
  rw [show kk_ 4 = 5 from rfl, if_neg k5] at on5
  have mu6 := m_isWord (k := 5) hTA pA.2.2.2.2.2 (by omega)
  rw [show kk_ 5 = 6 from rfl] at mu6
  -- the cells of this CHAP, so far
  have row1 : σA.1 (b + 1) (B 0 0) = nI c1 := by
    rw [lfA.1.1 _ (by simp <;> omega), o7 _ (by omega), s5.1.1 _ (by simp <;> omega), o5 _ (by omega), s3.1.1 _ (by simp <;> omega)]; exact v3
  have row2 : σA.1 (b + 2) (B 0 0) = nI c2 := by
    rw [lfA.1.1 _ (by simp <;> omega), o7 _ (by omega), s5.1.1 _ (by simp <;> omega)]; exact v5
  have row3 : σA.1 (b + 3) (B 0 0) = nI c4 := by
    rw [lfA.1.1 _ (by simp <;> omega)]; exact v7
  have mrow0 : μA.2.1 225 (B 0 0) = lN (cm_ c1) := by
    rw [lmA.1.2.1 225 (by decide), r8, r7, s6.1.2.1 225 (by decide), r5, s4.1.2.1 225 (by decide)]; exact hnm2
  have mrow1 : μA.1 222 (10 + 4 * B 0 0) = nI c2 := by
    rw [lmA.2.2 _ (by omega), q8 _ (by omega), q7 _ (by omega), s6.1.1 222 (by decide)]; exact w5
  have mrow2 : μA.1 222 (10 + 4 * B 0 0 + 1) = nI c4 := by
    rw [lmA.2.2 _ (by omega), q8 _ (by omega)]; exact w7
  have mrow3 : μA.1 222 (10 + 4 * B 0 0 + 2) = 0 := by
    rw [lmA.2.2 _ (by omega)]; exact w8
  have nfA : NF_ σ μ σA μA := by
    refine ⟨?_, ?_⟩
    · rw [nA.1, z2.1 1 (by simp <;> omega), o7 1 (by omega), n6.1, o5 1 (by omega), n4.1, o3 1 (by omega), n2.1, a6.1]
    · have j1 : ∀ j, μ8.1 219 j = μ6.1 219 j := fun j => by rw [← hμ8, ← hμ7, sI_row _ _ _ _ (by decide), sI_row _ _ _ _ (by decide)]
      have j2 : ∀ j, μ5.1 219 j = μ4.1 219 j := fun j => by rw [← hμ5, sI_row _ _ _ _ (by decide)]
      rw [nA.2, y2.1 219 (by decide), j1, n6.2, j2, n4.2, n2.2]
      exact a6.2
  have ltA : lt_ σ σA := by
    refine lt_mo (a8 (by omega)) ?_
    have m1 := s1.2.2
    have m2 := s3.2.2
    have m3 := s5.2.2
    have m4 := lfA.2.2
    unfold mo_ at m1 m2 m3 m4 ⊢
    rw [o3 1 (by omega)] at m2
    rw [o5 1 (by omega)] at m3
    rw [o7 1 (by omega)] at m4
    omega
  refine w1c fl (w1f (by decide) ?_)
  have fin : ∀ (mu : Nat) (σB μB : St_) (κB plB eB cB : Nat), mu ≤ 1 → PR_ σB μB n t L κB plB eB cB → SF_ (sI_ σA (b + 4) (B 0 0) (nI mu)) σB → MF_ (sI_ μA 222 (10 + 4 * B 0 0 + 2) (nI mu)) μB → NF_ σA μA σB μB → LQ_ b [11] [] n t L σ μ (fun B' => B' 0 0 = B 0 0 + 1 ∧ B' 0 1 = B 0 1) (some (.int 1), sI_ σB b 11 (nI (B 0 0 + 1))) (some (.int 1), sI_ μB 222 0 (nI (B 0 0 + 1))) := by
    intro mu σB μB κB plB eB cB hmu pB sB mB nB
    have kCB : kC_ b B σ σB := kC_tr kCA (kC_tr (kC_at (by unfold rC_; omega)) (kC_SF hb sB))
    have bFB : BF_ b [11] σ σB := BF_tr bFA (BF_tr (BF_sI hb (by omega)) (BF_SF hb sB))
    have kMB : kM_ B μ μB := kM_tr kMA (kM_tr (kM_at (by unfold rM_; omega)) (kM_MF mB))
    have bMB : BM_ [] μ μB := BM_tr bMA (BM_tr BM_sI (BM_MF mB))
    have hrow : ∀ o i, o ≠ 1 → o ≠ b + 4 → o ≠ b → (sI_ σB b 11 (nI (B 0 0 + 1))).1 o i = σA.1 o i := fun o i h1 h2 h3 => by
      rw [sI_row _ _ _ _ h3, sB.1.1 o (by simp <;> omega), sI_row _ _ _ _ h2]
    have hmr : ∀ i, i ≠ 0 → i ≠ 10 + 4 * B 0 0 + 2 → (sI_ μB 222 0 (nI (B 0 0 + 1))).1 222 i = μA.1 222 i := fun i h1 h2 => by
      rw [sI_at, if_neg (fun z => h1 z.2), mB.1.1 222 (by decide), sI_at, if_neg (fun z => h2 z.2)]
    refine Or.inr ⟨⟨rfl, rfl⟩, bC_ B c1 c2 c4 mu ln, κB, plB, eB, cB, ⟨rfl, rfl⟩, BO_C hO hc0 hok ⟨l1, l2⟩ l4 hmu l7 (by omega), ?_, ?_, ?_, BF_tr bFB (BF_sb hb (by simp)), BM_tr bMB BM_sI, ?_⟩
    · refine CB_C (CB_k hC kCB) hc0 (fun o i hr hne => ?_) ?_ ?_ ?_ ?_ ?_ (fun d hd => ?_)
      · rw [sI_at, if_neg (fun z => hne z.1 z.2)]
      · rw [sI_at, if_pos ⟨rfl, rfl⟩]
      · rw [hrow _ _ (by omega) (by omega) (by omega)]; exact row1
      · rw [hrow _ _ (by omega) (by omega) (by omega)]; exact row2
      · rw [hrow _ _ (by omega) (by omega) (by omega)]; exact row3
      · rw [sI_row _ _ _ _ (by omega), sB.1.1 _ (by simp <;> omega), sI_at, if_pos ⟨rfl, rfl⟩]
      · rw [hrow _ _ (by omega) (by omega) (by omega)]; exact l5 d hd
    · refine MB_C (MB_k hM kMB) hc0 (fun i hr hne => ?_) (fun i hr => rfl) ?_ ?_ ?_ ?_ ?_ (fun d hd => ?_)
      · rw [sI_at, if_neg (fun z => hne z.2)]
      · rw [sI_at, if_pos ⟨rfl, rfl⟩]
      · rw [sI_2, mB.1.2.1 225 (by decide)]; exact mrow0
      · rw [hmr _ (by omega) (by omega)]; exact mrow1
      · rw [hmr _ (by omega) (by omega)]; exact mrow2
      · rw [sI_at, if_neg (by omega), mB.1.1 222 (by decide), sI_at, if_pos ⟨rfl, rfl⟩]
      · rw [hmr _ (by omega) (by omega)]; exact l6 d hd
    · exact PR_r (PR_b pB (by omega) _ _) _ _
    · refine ⟨⟨?_, ?_⟩, lt_mo ltA ?_⟩
      · rw [sI_row _ _ _ _ (by omega), nB.1]; exact nfA.1
      · rw [sI_row _ _ _ _ (by decide), nB.2]; exact nfA.2
      · have m1 := sB.2.2
        unfold mo_ at m1 ⊢
        rw [sI_row _ _ _ _ (by omega)] at m1 ⊢
        exact m1
  have cnt : ∀ x, SF_ (sI_ σA (b + 4) (B 0 0) (nI x)) (sI_ σA (b + 4) (B 0 0) (nI x)) := fun x => SF_rf _
  have h11 : ∀ x, (sI_ σA (b + 4) (B 0 0) x).1 b 11 = nI (B 0 0) := fun x => by
    rw [sI_row _ _ _ _ (by omega), kCA b 11 (by unfold rC_; omega)]; exact hx
  have hm0 : μA.1 222 0 = nI (B 0 0) := by rw [kMA.1 0 (by unfold rM_; omega)]; exact hy
  by_cases h6 : κA = 6
  · rw [if_pos h6] at mu6
    have pA' : PR_ (sI_ σA (b + 4) (B 0 0) (nI 1)) (sI_ μA 222 (10 + 4 * B 0 0 + 2) (nI 1)) n t L κA plA eA cA := PR_r (PR_b pA (by omega) _ _) _ _
    obtain ⟨κB, plB, eB, cB, σB, μB, b1, b2, b3, ⟨b4, -⟩, ⟨b5, -⟩, b6⟩ := adv pA' (by omega)
    refine w1t (by rw [pA.2.2.2.2.1.1, h6]; rfl) (w1e (fun o hh => e_X0_readChap_117 hb (kb_k3 hb) hh) (w1a v0 (w1a v0 ?_)))
    rw [e0]
    refine w1t (by rw [sI_at, if_pos ⟨rfl, rfl⟩]) (w1v b1 (w1l (w1e (fun o hh => y1 o (f2 o (e_X12_readChap_138 hh))) ?_)))
    refine w1c on5 (w1t rfl (w1c mu6 (w1f (by decide) (w1a (vpin_e (10 + 4 * B 0 0 + 2) (by omega) (ix10_2 _)) ?_))))
    rw [e3']
    refine w1v b2 (w1a (by decide) (w1a (by decide) (w1l ?_)))
    have q1 : σB.1 b 11 + 1 = nI (B 0 0 + 1) := by rw [b4.1.1 b (by simp <;> omega), h11]; exact nI_1 _
    have q2 : μB.1 222 (Int32.toNatClampNeg 0) + 1 = nI (B 0 0 + 1) := by
      rw [b5.1.1 222 (by decide), sI_at, if_neg (fun z => absurd z.2 (by show ¬ 0 = _; omega))]
      rw [show μA.1 222 (Int32.toNatClampNeg 0) = nI (B 0 0) from hm0]; exact nI_1 _
    rw [q1, q2]
    exact fin 1 σB μB κB plB eB cB (by omega) b3 b4 b5 ⟨by rw [b6.1, sI_row _ _ _ _ (by omega)], by rw [b6.2, sI_row _ _ _ _ (by decide)]⟩
  · rw [if_neg h6] at mu6
    refine w1f (fun z => h6 ((nI_eq (by have := hTA.1; omega) (by omega)).mp (pA.2.2.2.2.1.1.symm.trans z))) (w1e (fun o hh => e_X0_readChap_117 hb (kb_k3 hb) hh) (w1a v0 (w1a v0 ?_)))
    rw [e0]
    refine w1f (by rw [sI_at, if_pos ⟨rfl, rfl⟩]; decide) (w1l (w1e (fun o hh => y1 o (f2 o (e_X12_readChap_138 hh))) ?_))
    refine w1c on5 (w1t rfl (w1c mu6 (w1t rfl (w1a (by decide) (w1a (by decide) (w1l ?_))))))
    have q1 : (sI_ σA (b + 4) (B 0 0) 0).1 b 11 + 1 = nI (B 0 0 + 1) := by rw [h11]; exact nI_1 _
    have q2 : μA.1 222 (Int32.toNatClampNeg 0) + 1 = nI (B 0 0 + 1) := by rw [show μA.1 222 (Int32.toNatClampNeg 0) = nI (B 0 0) from hm0]; exact nI_1 _
    rw [q1, q2]
    have hself : sI_ μA 222 (10 + 4 * B 0 0 + 2) (nI 0) = μA := sI_self mrow3
    exact fin 0 (sI_ σA (b + 4) (B 0 0) (nI 0)) μA κA plA eA cA (by omega) (PR_b pA (by omega) _ _) (SF_rf _) (by rw [hself]; exact MF_rf _) ⟨by rw [sI_row _ _ _ _ (by omega)], rfl⟩
