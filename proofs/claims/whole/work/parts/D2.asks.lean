/-! a ONE that asks, both sides -/
section AS
variable {σ μ : St_} {s b n : Nat} {t : Nat → Nat} {L κ pl e c : Nat} {B Q V : Nat → Nat → Nat} {N O w : Nat}
theorem QV_mk {kd d sg y : Nat} (h1 : 15 ≤ kd ∧ kd ≤ 23) (h2 : 18 ≤ kd → (kd ≤ 20 → d < B 0 0) ∧ (20 ≤ kd → (sg = 60 ∨ sg = 61 ∨ sg = 62) ∧ y ≤ 999)) : QV_ B (fun i => if i = 0 then kd else if i = 1 then d else if i = 2 then sg else y) := by
  unfold QV_
  simp only [if_true, show ¬ (1 : Nat) = 0 by omega, show ¬ (2 : Nat) = 0 by omega, show ¬ (2 : Nat) = 1 by omega, show ¬ (3 : Nat) = 0 by omega, show ¬ (3 : Nat) = 1 by omega, show ¬ (3 : Nat) = 2 by omega, if_false]
  exact ⟨h1, h2⟩
theorem SRes_no {T U : Out_ → Prop} {w' : Nat} (k : Nat) (h : PR_ σ μ n t L κ pl e c) (hk : 1 ≤ k) (hk2 : k ≤ 4) (h1 : κ = 1 → k = 1) (hT : ∀ σ', f_X8_fail KC [.ref 1, .int (nI k)] σ = some (some (.int 0), σ') → T (some (.int 0), σ')) (hU : ∀ μ', f_X12_bad KC [.ref 219, .int (nI k)] μ = some (some (.int 0), μ') → U (some (.int 0), μ')) : SRes_ σ μ s b n t L B Q V N O w w' T U := by
  obtain ⟨⟨σ', g1, g2, g3, g4⟩, ⟨μ', k1, k2, k3, k4⟩, hpl⟩ := fail_both k h hk hk2 h1
  exact Or.inl ⟨σ', μ', hT _ g1, hU _ k1, ⟨k, pl, hk, hk2, hpl, g3, k3, g4, k4⟩, CT_SF g2, CM_MF k2⟩
theorem of_pair {kd : Nat} (hs : isS s) (hb : isB b) (h : SI_ σ μ s b n t L κ pl e c B Q V N (O + 1) w) (hq : ∀ j, j < N → QV_ B (Q j)) (hN : N ≤ 2 * O) (hO : O + 1 ≤ 20) (hkd : kd = 18 ∨ kd = 19) : SRes_ σ μ s b n t L B Q V N O w w (fun o => f_X9_readAsking KC [.ref s, .ref 1, .ref b, .int (nI kd)] σ = some o) (fun u => f_X12_readOf KC [.ref 219, .int (nI (kd - 4))] μ = some u) := by
  have hch := m_chaps h.2.1.2
  rcases ct_pair h.1 hb h.2.1.1 h.2.1.2 with ⟨σ1, μ1, d1, d2, ft, s1, s2⟩ | ⟨d, κ1, pl1, e1, c1, σ1, μ1, d1, d2, hd, p1, t1, t2, s1, s2, n1⟩
  · exact Or.inl ⟨σ1, μ1, z_X9_readAsking (e_X9_readAsking_0 hs hb (pk_lt 20 kd (fun z => by omega) (fun _ => ⟨0, σ1, d1, br_t rfl rfl⟩))), z_X12_readOf (e_X12_readOf_0 ⟨_, μ, hch, 0, μ1, d2, br_t rfl rfl⟩), ft, CT_SF s1, CM_MF s2⟩
  · have hI := SI_SM hs hb h p1 s1 s2
    have hcls : ∀ σ', f_X9_add KC [.ref s, .int (nI kd), .int (nI d), .int (nI 0), .int (nI 0)] σ1 = some (none, σ') → f_X9_readAsking KC [.ref s, .ref 1, .ref b, .int (nI kd)] σ = some (some (.int 1), σ') := by
      intro σ' q
      refine z_X9_readAsking (e_X9_readAsking_0 hs hb (pk_lt 20 kd (fun z => by omega) (fun _ => ⟨1, σ1, d1, br_f (by decide) (e_X9_readAsking_25 hs hb (pk_le 20 kd (fun z => by omega) (fun _ => ⟨σ', ?_, rfl⟩)))⟩)))
      rw [t1]
      exact q
    rcases hkd with rfl | rfl
    · refine leaf_end (kd := 18) (d := d) (sg := 0) (y := 0) (v0 := 4) (v1 := d) (v2 := 0) (v3 := 0) hs hb hI hq hN hO (QV_mk (by omega) (fun _ => ⟨fun _ => hd, fun z => by omega⟩)) (by omega) ?_ (CT_SF s1) (CM_MF s2) n1 hcls (fun μ' q => z_X12_readOf (e_X12_readOf_0 ⟨_, μ, hch, 1, μ1, d2, br_f (by decide) (br_t rfl ⟨nI N, μ', by rw [t2]; exact q, rfl⟩)⟩))
      obtain ⟨p0, p1, p2, p3⟩ := pu_at (Q := V) (N := N) (q0 := 4) (q1 := d) (q2 := 0) (q3 := 0)
      exact ⟨18, d, 0, 0, by omega, ⟨fun _ => hd, fun z => by omega⟩, rfl, p0, p1, p2, p3⟩
    · refine leaf_end (kd := 19) (d := d) (sg := 0) (y := 0) (v0 := 5) (v1 := d) (v2 := 0) (v3 := 0) hs hb hI hq hN hO (QV_mk (by omega) (fun _ => ⟨fun _ => hd, fun z => by omega⟩)) (by omega) ?_ (CT_SF s1) (CM_MF s2) n1 hcls (fun μ' q => z_X12_readOf (e_X12_readOf_0 ⟨_, μ, hch, 1, μ1, d2, br_f (by decide) (br_f (by decide) ⟨nI N, μ', by rw [t2]; exact q, rfl⟩)⟩))
      obtain ⟨p0, p1, p2, p3⟩ := pu_at (Q := V) (N := N) (q0 := 5) (q1 := d) (q2 := 0) (q3 := 0)
      exact ⟨19, d, 0, 0, by omega, ⟨fun _ => hd, fun z => by omega⟩, rfl, p0, p1, p2, p3⟩
theorem c_isCmp {x : Nat} (hx : x < 64) (σ : St_) : f_X8_isComparison KC [.int (nI x)] σ = some (some (.int (if x = 60 ∨ x = 61 ∨ x = 62 then 1 else 0)), σ) := by
  refine z_X8_isComparison (e_X8_isComparison_0 (pk_eq x 60 (fun z => ?_) (fun z1 => pk_eq x 61 (fun z => ?_) (fun z2 => pk_eq x 62 (fun z => ?_) (fun z3 => ?_)))))
  · rw [if_pos (by omega)]
  · rw [if_pos (by omega)]
  · rw [if_pos (by omega)]
  · rw [if_neg (by omega)]
/-- SIGN NUMBER, behind what is compared -/
theorem cmp_pair {kd d v1 : Nat} {T U : Out_ → Prop} {σ0 μ0 : St_} (hs : isS s) (hb : isB b) (h : SI_ σ μ s b n t L κ pl e c B Q V N (O + 1) w) (hq : ∀ j, j < N → QV_ B (Q j)) (hN : N ≤ 2 * O) (hO : O + 1 ≤ 20) (hkd : 20 ≤ kd ∧ kd ≤ 23) (hd : kd = 20 → d < B 0 0 ∧ v1 = d) (hd2 : kd ≠ 20 → v1 = kd - 4) (f1 : CT_ s (s + 4) σ0 σ) (f2 : CM_ [245] [] sfl_ μ0 μ) (f3 : NF_ σ0 μ0 σ μ)
    (hT : ∀ o, Ev_ (P_X9_readAsking KC) 25 [some (.ref s), some (.ref 1), some (.ref b), some (.int (nI kd)), some (.int (nI d)), none] [] σ o → T o) (hU : ∀ u, Ev_ (P_X12_readCompare KC) 27 [some (.ref 219), some (.int (nI (kd - 4))), some (.int (nI v1)), none] [] μ u → U u) : SRes_ σ0 μ0 s b n t L B Q V N O w w T U := by
  have hTC := h.1.2.2.2.2.1
  have hT4 := h.1.2.2.2.1
  have hTM := h.1.2.2.2.2.2
  have hκ := hT4.1
  have g0 := m_isSign (ch := 60) hT4 hTM (by omega) (by omega)
  have g1 := m_isSign (ch := 61) hT4 hTM (by omega) (by omega)
  have g2 := m_isSign (ch := 62) hT4 hTM (by omega) (by omega)
  have hc : f_X8_isComparison KC [.int (σ.1 1 6)] σ = some (some (.int (if κ = 60 ∨ κ = 61 ∨ κ = 62 then 1 else 0)), σ) := by rw [hTC.1]; exact c_isCmp hκ σ
  by_cases hsg : κ = 60 ∨ κ = 61 ∨ κ = 62
  · rw [if_pos hsg] at hc
    have rc : ∀ (o : Out_), _ → T o := fun o q => hT o (e_X9_readAsking_25 hs hb (pk_le 20 kd (fun _ => ⟨_, σ, hc, q⟩) (fun z => by omega)))
    have h9 : μ.1 219 9 = nI κ := hTM.2.2.2.2.2 (by omega)
    obtain ⟨κ1, pl1, e1, c1, σ1, μ1, a1, a2, a3, ⟨a4, -⟩, ⟨a5, -⟩, a6⟩ := adv h.1 (by omega)
    have hI1 := SI_SM hs hb h a3 a4 a5
    have rm : ∀ u, Ev_ (P_X12_readCompare KC) 60 [some (.ref 219), some (.int (nI (kd - 4))), some (.int (nI v1)), none] [] μ u → U u := by
      intro u q
      refine hU u (e_X12_readCompare_27 ?_)
      by_cases h60 : κ = 60
      · rw [if_pos h60] at g0
        exact ⟨1, μ, g0, br_f (by decide) q⟩
      · rw [if_neg h60] at g0
        refine ⟨0, μ, g0, br_t rfl ?_⟩
        by_cases h61 : κ = 61
        · rw [if_pos h61] at g1
          exact ⟨1, μ, g1, br_f (by decide) q⟩
        · rw [if_neg h61] at g1
          rw [if_pos (by omega)] at g2
          exact ⟨0, μ, g1, br_t rfl ⟨1, μ, g2, br_f (by decide) q⟩⟩
    rcases num_pair 0 999 a3 (by omega) (by omega) with ⟨σ2, μ2, b1, b2, ft, s3, s4⟩ | ⟨κ2, pl2, e2, c2, σ2, μ2, b1, b2, ⟨-, l1⟩, l2, p2, t3, t4, s3, s4, n2⟩
    · exact Or.inl ⟨σ2, μ2, rc _ (br_f (by decide) ⟨σ1, a1, 0, σ2, b1, br_t rfl rfl⟩), rm _ (e_X12_readCompare_60 ⟨μ1, a2, 0, μ2, b2, br_t rfl rfl⟩), ft, CT_tr f1 (CT_SF (SF_tr a4 s3)), CM_tr f2 (CM_MF (MF_tr a5 s4))⟩
    · have hI2 := SI_SM hs hb hI1 p2 s3 s4
      have hcls : ∀ σ', f_X9_add KC [.ref s, .int (nI kd), .int (nI d), .int (nI κ), .int (nI c1)] σ2 = some (none, σ') → T (some (.int 1), σ') := by
        intro σ' q
        refine rc _ (br_f (by decide) ⟨σ1, a1, 1, σ2, b1, br_f (by decide) ⟨σ', ?_, rfl⟩⟩)
        rw [hTC.1, t3]
        exact q
      have nf : NF_ σ0 μ0 σ2 μ2 := ⟨n2.1.trans (a6.1.trans f3.1), n2.2.trans (a6.2.trans f3.2)⟩
      by_cases h20 : kd = 20
      · obtain ⟨hd1, hv1⟩ := hd h20
        subst h20
        subst hv1
        obtain ⟨p0, p1, p2, p3⟩ := pu_at (Q := V) (N := N) (q0 := 6) (q1 := v1) (q2 := c1) (q3 := κ)
        refine leaf_end (kd := 20) (d := v1) (sg := κ) (y := c1) (v0 := 6) (v1 := v1) (v2 := c1) (v3 := κ) hs hb hI2 hq hN hO (QV_mk (by omega) (fun _ => ⟨fun _ => hd1, fun _ => ⟨hsg, l2⟩⟩)) (by omega) ⟨20, v1, κ, c1, by omega, ⟨fun _ => hd1, fun _ => ⟨hsg, l2⟩⟩, rfl, p0, p1, p2, p3⟩ (CT_tr f1 (CT_SF (SF_tr a4 s3))) (CM_tr f2 (CM_MF (MF_tr a5 s4))) nf hcls (fun μ' q => rm _ (e_X12_readCompare_60 ⟨μ1, a2, 1, μ2, b2, br_f (by decide) (br_t rfl ⟨nI N, μ', ?_, rfl⟩)⟩))
        rw [t4, h9]
        exact q
      · have hv1 := hd2 h20
        have hkn : ¬ nI (kd - 4) = (16 : Int32) := fun z => by
          have := (nI_eq (show kd - 4 < 2 ^ 31 by omega) (show 16 < 2 ^ 31 by omega)).mp z
          omega
        obtain ⟨p0, p1, p2, p3⟩ := pu_at (Q := V) (N := N) (q0 := 7) (q1 := v1) (q2 := c1) (q3 := κ)
        refine leaf_end (kd := kd) (d := d) (sg := κ) (y := c1) (v0 := 7) (v1 := v1) (v2 := c1) (v3 := κ) hs hb hI2 hq hN hO (QV_mk (by omega) (fun _ => ⟨fun z => by omega, fun _ => ⟨hsg, l2⟩⟩)) (by omega) ⟨kd, d, κ, c1, by omega, ⟨fun z => by omega, fun _ => ⟨hsg, l2⟩⟩, rfl, by rw [p0, if_neg (by omega), if_neg (by omega), if_neg (by omega)], by rw [p1, if_neg (by omega), hv1], by rw [p2, if_neg (by omega)], by rw [p3, if_neg (by omega)]⟩ (CT_tr f1 (CT_SF (SF_tr a4 s3))) (CM_tr f2 (CM_MF (MF_tr a5 s4))) nf hcls (fun μ' q => rm _ (e_X12_readCompare_60 ⟨μ1, a2, 1, μ2, b2, br_f (by decide) (br_f hkn ⟨nI N, μ', ?_, rfl⟩)⟩))
        rw [t4, h9]
        exact q
  · rw [if_neg hsg] at hc
    have rc : ∀ (o : Out_), _ → T o := fun o q => hT o (e_X9_readAsking_25 hs hb (pk_le 20 kd (fun _ => ⟨_, σ, hc, q⟩) (fun z => by omega)))
    rw [if_neg (by omega)] at g0 g1 g2
    have := SRes_no (s := s) (b := b) (B := B) (Q := Q) (V := V) (N := N) (O := O) (w := w) (w' := w) (T := T) (U := U) 1 h.1 (by omega) (by omega) (by omega) (fun σ' q => rc _ (br_t rfl ⟨0, σ', q, Or.inl rfl, rfl⟩)) (fun μ' q => hU _ (e_X12_readCompare_27 ⟨0, μ, g0, br_t rfl ⟨0, μ, g1, br_t rfl ⟨0, μ, g2, br_t rfl ⟨0, μ', q, Or.inl rfl, rfl⟩⟩⟩⟩))
    exact SRes_cg this (fun _ z => z) (fun _ z => z) f1 f2 f3
theorem asks_pair {kd : Nat} (hs : isS s) (hb : isB b) (h : SI_ σ μ s b n t L κ pl e c B Q V N (O + 1) w) (hq : ∀ j, j < N → QV_ B (Q j)) (hN : N ≤ 2 * O) (hO : O + 1 ≤ 20) (hkd : 20 ≤ kd ∧ kd ≤ 23) : SRes_ σ μ s b n t L B Q V N O w w (fun o => f_X9_readAsking KC [.ref s, .ref 1, .ref b, .int (nI kd)] σ = some o) (fun u => f_X12_readCompare KC [.ref 219, .int (nI (kd - 4))] μ = some u) := by
  by_cases h20 : kd = 20
  · subst h20
    have hch := m_chaps h.2.1.2
    rcases ct_pair h.1 hb h.2.1.1 h.2.1.2 with ⟨σ1, μ1, d1, d2, ft, s1, s2⟩ | ⟨d, κ1, pl1, e1, c1, σ1, μ1, d1, d2, hd, p1, t1, t2, s1, s2, n1⟩
    · exact Or.inl ⟨σ1, μ1, z_X9_readAsking (e_X9_readAsking_0 hs hb (pk_lt 20 20 (fun z => by omega) (fun _ => ⟨0, σ1, d1, br_t rfl rfl⟩))), z_X12_readCompare (e_X12_readCompare_0 (br_t rfl ⟨_, μ, hch, 0, μ1, d2, br_t rfl rfl⟩)), ft, CT_SF s1, CM_MF s2⟩
    · refine cmp_pair (kd := 20) (d := d) (v1 := d) hs hb (SI_SM hs hb h p1 s1 s2) hq hN hO (by omega) (fun _ => ⟨hd, rfl⟩) (fun z => absurd rfl z) (CT_SF s1) (CM_MF s2) n1 (fun o q => z_X9_readAsking (e_X9_readAsking_0 hs hb (pk_lt 20 20 (fun z => by omega) (fun _ => ⟨1, σ1, d1, br_f (by decide) (by rw [t1]; exact q)⟩)))) (fun u q => z_X12_readCompare (e_X12_readCompare_0 (br_t rfl ⟨_, μ, hch, 1, μ1, d2, br_f (by decide) (by rw [t2]; exact q)⟩)))
  · have hkn : ¬ nI (kd - 4) = (16 : Int32) := fun z => by
      have := (nI_eq (show kd - 4 < 2 ^ 31 by omega) (show 16 < 2 ^ 31 by omega)).mp z
      omega
    exact cmp_pair (kd := kd) (d := 0) (v1 := kd - 4) hs hb h hq hN hO hkd (fun z => absurd z h20) (fun _ => rfl) (CT_rf _ _ _) (CM_rf _ _ _ _) ⟨rfl, rfl⟩ (fun o q => z_X9_readAsking (e_X9_readAsking_0 hs hb (pk_lt 20 kd (fun _ => q) (fun z => by omega)))) (fun u q => z_X12_readCompare (e_X12_readCompare_0 (br_f hkn q)))
end AS
