/-! a ONE, both sides, by how much may still lie within -/
section ON
variable {s b n : Nat} {t : Nat → Nat} {L : Nat} {B : Nat → Nat → Nat} {w dC dM : Nat}
theorem SRes_dec {σ μ : St_} {Q V : Nat → Nat → Nat} {N O : Nat} {T U T' U' : Out_ → Prop} (h : SRes_ σ μ s b n t L B Q V N O w (w + 1) T U) (hT : ∀ v σ', (v = 0 ∨ v = 1) → T (some (.int v), σ') → T' (some (.int v), σ')) (hU : ∀ v μ', (v = 0 ∨ v = 1) → U (some (.int v), μ') → U' (some (.int v), sI_ μ' 219 61 ((μ'.1 219 61) - (1 : Int32)))) : SRes_ σ μ s b n t L B Q V N O w w T' U' := by
  have cm : ∀ (μ' : St_) x, CM_ [245] [] sfl_ μ' (sI_ μ' 219 61 x) := fun μ' x => ⟨fm_sI (by simp), fun f _ hf => by rw [sI_at, if_neg (fun z => hf (by rw [z.2]; decide))]⟩
  rcases h with ⟨σ', μ', h1, h2, ⟨k, pl, k1, k2, k3, k4, k5, k6, k7⟩, h4, h5⟩ | ⟨Q', V', N', O', D, κ', pl', e', c', σ', μ', ⟨h1, h2⟩, ⟨a0, ⟨a1, a2⟩, a34, a5, a6, a7⟩, h4, h5, h6, h7, h8, h9, h10⟩
  · exact Or.inl ⟨σ', _, hT _ _ (Or.inl rfl) h1, hU _ _ (Or.inl rfl) h2, ⟨k, pl, k1, k2, k3, k4, by rw [sI_at, if_neg (by decide)]; exact k5, k6, by rw [sI_at, if_neg (by decide)]; exact k7⟩, h4, CM_tr h5 (cm _ _)⟩
  · refine Or.inr ⟨Q', V', N', O', D, κ', pl', e', c', σ', _, ⟨hT _ _ (Or.inr rfl) h1, hU _ _ (Or.inr rfl) h2⟩, ⟨PR_cg a0 (fun _ _ _ => rfl) rfl rfl (fun f h1 h2 => by rw [sI_at, if_neg (by omega)]) (sI_row _ _ _ _ (by decide)) rfl, ⟨a1, RX_sI a2 (by decide)⟩, a34, ⟨by rw [sI_at, if_neg (by omega)]; exact a5.1, fun i hi => by rw [sI_row _ _ _ _ (by decide)]; exact a5.2 i hi⟩, by rw [sI_at, if_neg (by omega)]; exact a6, ?_⟩, h4, h5, h6, by rw [sI_at, if_neg (by omega)]; exact h7, h8, CM_tr h9 (cm _ _), h10.1, by rw [sI_at, if_neg (by decide)]; exact h10.2⟩
    rw [sI_at, if_pos ⟨rfl, rfl⟩, a7, show (1 : Int32) = nI 1 from rfl, pk_sub (by omega), Nat.add_sub_cancel]
/-- which WORD a ONE begins with: the reference -/
theorem ro_go {κ pl e c : Nat} {μ : St_} {out : Out_} {x1 : Int32} {d : Nat} (j : Nat) (hT : TO_ n κ pl e c) (hM : TM_ μ κ pl e c) (h13 : 13 ≤ j) (hj : j ≤ 20) (h1 : ∀ i, 13 ≤ i → i < j → κ ≠ kk_ i) (h2 : j < 20 → κ = kk_ j) (h : (x1 = 0 → j < 20) → Ev_ (P_X12_readOne KC (f_X12_readOr KC d) (f_X12_readAnd KC d) (f_X12_readOne KC d) (f_X12_readBracket KC d) (f_X12_readNot KC d)) 46 [some (.ref 219), some (.int x1), some (.int (nI j)), none] [] μ out) (hb : x1 = 0 → j = 20 → ∃ (v : Int32) (μ' : St_), f_X12_bad KC [.ref 219, .int (1 : Int32)] μ = some (some (.int v), μ') ∧ (v = 0 ∨ v = 1) ∧ out = (some (.int v), μ')) : Ev_ (P_X12_readOne KC (f_X12_readOr KC d) (f_X12_readAnd KC d) (f_X12_readOne KC d) (f_X12_readBracket KC d) (f_X12_readNot KC d)) 10 [some (.ref 219), some (.int x1), some (.int 13), none] [] μ out := by
  have loop : ∀ k i, i + k = j → 13 ≤ i → Ev_ (P_X12_readOne KC (f_X12_readOr KC d) (f_X12_readAnd KC d) (f_X12_readOne KC d) (f_X12_readBracket KC d) (f_X12_readNot KC d)) 10 [some (.ref 219), some (.int x1), some (.int (nI i)), none] [] μ out := by
    intro k
    induction k with
    | zero =>
      intro i hi h13
      obtain rfl : i = j := by omega
      refine e_X12_readOne_10 (pk_lt 19 i (fun z => br_c (fun z0 => pk_le i 19 (fun z2 => by omega) (fun z2 => hb z0 (by omega))) (fun z0 => h (fun y => absurd y z0))) (fun z => ?_))
      have := m_isWord (k := i) hT hM (by omega)
      rw [if_pos (h2 (by omega))] at this
      exact ⟨1, μ, this, br_f (by decide) (br_c (fun z0 => pk_le i 19 (fun z2 => h (fun _ => by omega)) (fun z2 => by omega)) (fun z0 => h (fun y => absurd y z0)))⟩
    | succ k ih =>
      intro i hi h13
      refine e_X12_readOne_10 (pk_lt 19 i (fun z => by omega) (fun z => ?_))
      have := m_isWord (k := i) hT hM (by omega)
      rw [if_neg (h1 i h13 (by omega))] at this
      refine ⟨0, μ, this, br_t rfl ?_⟩
      rw [nI_1]
      exact ih (i + 1) (by omega) (by omega)
  exact loop (j - 13) 13 (by omega) (by omega)
theorem kk_hi {j : Nat} (h : 13 ≤ j) (h2 : j < 20) : kk_ j = j + 4 := by
  rcases (show j = 13 ∨ j = 14 ∨ j = 15 ∨ j = 16 ∨ j = 17 ∨ j = 18 ∨ j = 19 by omega) with rfl | rfl | rfl | rfl | rfl | rfl | rfl <;> rfl
theorem GR_up {Q Q' V V' : Nat → Nat → Nat} {N N' O O' : Nat} (h : GR_ Q Q' V V' N N' (O + 1) O') : GR_ Q Q' V V' N N' O O' := by
  obtain ⟨⟨a1, a2, a3, a4, a5⟩, a6⟩ := h
  exact ⟨⟨a1, by omega, a3, by omega, by omega⟩, a6⟩
theorem one_step (hs : isS s) (hb : isB b) (hw : w ≤ 8) (IH : w < 8 → ∀ dC dM, 2 * (7 - w) + 1 ≤ dC → 4 * (7 - w) + 1 ≤ dM → Hone_ s b n t L B (w + 1) dC dM) (h1 : 2 * (8 - w) ≤ dC) (h2 : 4 * (8 - w) ≤ dM) : Hone_ s b n t L B w (dC + 1) (dM + 1) := by
  intro σ μ κ pl e c Q V N O h hq hN hO
  have gs := s_ge hs
  have gb := isB_ge hb
  have hT := h.1.2.2.2.1
  have hTC := h.1.2.2.2.2.1
  have hTM := h.1.2.2.2.2.2
  have hκ := hT.1
  have hsg := m_isSign (ch := 40) hT hTM (by omega) (by omega)
  have h5 : σ.1 s 5 = nI O := h.2.2.1.2
  have h60 : μ.1 219 60 = nI O := h.2.2.2.2.1
  have h61 : μ.1 219 61 = nI w := h.2.2.2.2.2
  have hsb : ¬ (b ≤ s ∧ s ≤ b + 27) := by unfold isB at hb; unfold isS at hs; omega
  by_cases hcan : κ = 40 ∨ (17 ≤ κ ∧ κ ≤ 23)
  · -- to the places behind the question which it is
    have toC : ∀ out, Ev_ (P_X9_readOne KC (f_X9_readCond KC dC) (f_X9_readOne KC dC)) 33 [some (.ref s), some (.ref 1), some (.ref b), some (.int (nI (w + 1))), some (.int (nI κ))] [] σ out → f_X9_readOne KC (dC + 1) [.ref s, .ref 1, .ref b, .int (nI (w + 1))] σ = some out := by
      intro out q
      refine z_X9_readOne (e_X9_readOne_0 hs hb ?_)
      rw [hTC.1]
      exact pk_eq κ 40 (fun _ => q) (fun z => pk_lt κ 17 (fun z2 => by omega) (fun _ => pk_le κ 23 (fun _ => q) (fun z2 => by omega)))
    have toM : ∀ out, Ev_ (P_X12_readOne KC (f_X12_readOr KC dM) (f_X12_readAnd KC dM) (f_X12_readOne KC dM) (f_X12_readBracket KC dM) (f_X12_readNot KC dM)) 46 [some (.ref 219), some (.int (if κ = 40 then 1 else 0)), some (.int (nI (if κ = 40 then 20 else κ - 4))), none] [] μ out → f_X12_readOne KC (dM + 1) [.ref 219] μ = some out := by
      intro out q
      refine z_X12_readOne (e_X12_readOne_0 ⟨_, μ, hsg, ?_⟩)
      by_cases h40 : κ = 40
      · rw [if_pos h40] at q ⊢
        rw [if_pos h40] at q
        exact ro_go 20 hT hTM (by omega) (by omega) (fun i hi hi2 => by rw [kk_hi hi hi2]; omega) (fun z => by omega) (fun _ => q) (fun z => absurd z (by decide))
      · rw [if_neg h40] at q ⊢
        rw [if_neg h40] at q
        exact ro_go (κ - 4) hT hTM (by omega) (by omega) (fun i hi hi2 => by rw [kk_hi hi (by omega)]; omega) (fun z => by rw [kk_hi (by omega) z]; omega) (fun _ => q) (fun _ z => by omega)
    by_cases hO20 : O = 20
    · exact SRes_no 4 h.1 (by omega) (by omega) (by omega) (fun σ' q => toC _ (e_X9_readOne_33 hs hb (pk_le 20 O (fun _ => ⟨0, σ', q, Or.inl rfl, rfl⟩) (fun z => by omega) rfl h5))) (fun μ' q => toM _ (e_X12_readOne_46 (pk_eq O 20 (fun _ => ⟨0, μ', q, Or.inl rfl, rfl⟩) (fun z => absurd hO20 z) h60)))
    by_cases hw8 : w = 8
    · exact SRes_no 4 h.1 (by omega) (by omega) (by omega) (fun σ' q => toC _ (e_X9_readOne_33 hs hb (pk_le 20 O (fun z => by omega) (fun _ => pk_le (w + 1) 8 (fun z => by omega) (fun _ => ⟨0, σ', q, Or.inl rfl, rfl⟩)) rfl h5))) (fun μ' q => toM _ (e_X12_readOne_46 (pk_eq O 20 (fun z => absurd z hO20) (fun _ => pk_eq w 8 (fun _ => ⟨0, μ', q, Or.inl rfl, rfl⟩) (fun z => absurd hw8 z) h61) h60)))
    · have hw7 : w < 8 := by omega
      have e5 : σ.1 s 5 + 1 = nI (O + 1) := by rw [h5]; exact nI_1 O
      have e60 : μ.1 219 60 + 1 = nI (O + 1) := by rw [h60]; exact nI_1 O
      have e61 : (sI_ μ 219 60 (nI (O + 1))).1 219 61 + 1 = nI (w + 1) := by rw [sI_at, if_neg (by omega), h61]; exact nI_1 w
      have hPa : PR_ (sI_ σ s 5 (nI (O + 1))) (sI_ (sI_ μ 219 60 (nI (O + 1))) 219 61 (nI (w + 1))) n t L κ pl e c := PR_cg h.1 (fun f _ _ => by rw [sI_row _ _ _ _ (by omega)]) (sI_row _ _ _ _ (by omega)) (sI_row _ _ _ _ (by omega)) (fun f h1 h2 => by rw [sI_at, if_neg (by omega), sI_at, if_neg (by omega)]) (by rw [sI_row _ _ _ _ (by decide), sI_row _ _ _ _ (by decide)]) rfl
      have hIa : SI_ (sI_ σ s 5 (nI (O + 1))) (sI_ (sI_ μ 219 60 (nI (O + 1))) 219 61 (nI (w + 1))) s b n t L κ pl e c B Q V N (O + 1) (w + 1) := by
        obtain ⟨-, ⟨a1, a2⟩, ⟨a3, a4⟩, a5, -, -⟩ := h
        refine ⟨hPa, ⟨CB_row hb a1 (fun o o1 o2 => sI_row _ _ _ _ (fun z => hsb (by omega))) a2.2, RX_sI (RX_sI a2 (by decide)) (by decide)⟩, ⟨⟨?_, fun i hi => ?_⟩, ?_⟩, ⟨?_, fun i hi => ?_⟩, ?_, ?_⟩
        · rw [sI_at, if_neg (by omega)]
          exact a3.1
        · have := a3.2 i hi
          rw [sI_row _ _ _ _ (by omega), sI_row _ _ _ _ (by omega), sI_row _ _ _ _ (by omega), sI_row _ _ _ _ (by omega)]
          exact this
        · rw [sI_at, if_pos ⟨rfl, rfl⟩]
        · rw [sI_at, if_neg (by omega), sI_at, if_neg (by omega)]
          exact a5.1
        · rw [sI_row _ _ _ _ (by decide), sI_row _ _ _ _ (by decide)]
          exact a5.2 i hi
        · rw [sI_at, if_neg (by omega), sI_at, if_pos ⟨rfl, rfl⟩]
        · rw [sI_at, if_pos ⟨rfl, rfl⟩]
      have fa : CT_ s (s + 4) σ (sI_ σ s 5 (nI (O + 1))) := ⟨fun o _ h2 => sI_row _ _ _ _ (fun z => h2 (by omega)), rfl⟩
      have fb : CM_ [245] [] sfl_ μ (sI_ (sI_ μ 219 60 (nI (O + 1))) 219 61 (nI (w + 1))) := ⟨fm_tr (fm_sI (by simp)) (fm_sI (by simp)), fun f _ hf => by rw [sI_at, if_neg (fun z => hf (by rw [z.2]; decide)), sI_at, if_neg (fun z => hf (by rw [z.2]; decide))]⟩
      obtain ⟨κ1, pl1, e1, c1, σ1, μ1, a1, a2, a3, ⟨a4, -⟩, ⟨a5, -⟩, a6⟩ := adv hPa (by omega)
      have hI1 := SI_SM hs hb hIa a3 a4 a5
      have fC1 : CT_ s (s + 4) σ σ1 := CT_tr fa (CT_SF a4)
      have fM1 : CM_ [245] [] sfl_ μ μ1 := CM_tr fb (CM_MF a5)
      have nf1 : NF_ σ μ σ1 μ1 := ⟨by rw [a6.1, sI_row _ _ _ _ (by omega)], by rw [a6.2, sI_at, if_neg (by omega), sI_at, if_neg (by omega)]⟩
      -- behind the first TOKEN
      have toC2 : ∀ (o : Out_), _ → f_X9_readOne KC (dC + 1) [.ref s, .ref 1, .ref b, .int (nI (w + 1))] σ = some o := fun o q => toC o (e_X9_readOne_33 hs hb (pk_le 20 O (fun z => by omega) (fun _ => pk_le (w + 1) 8 (fun _ => ⟨σ1, by rw [e5]; exact a1, q⟩) (fun z => by omega)) rfl h5))
      have toM2 : ∀ (o : Out_), _ → f_X12_readOne KC (dM + 1) [.ref 219] μ = some o := fun o q => toM o (e_X12_readOne_46 (pk_eq O 20 (fun z => absurd z hO20) (fun _ => pk_eq w 8 (fun z => absurd z hw8) (fun _ => ⟨μ1, by rw [e60, e61]; exact a2, q⟩) h61) h60))
      by_cases h40 : κ = 40
      · -- a bracket
        rw [if_pos h40] at toM2
        obtain ⟨dC2, rfl⟩ : ∃ d, dC = d + 1 := ⟨dC - 1, by omega⟩
        obtain ⟨dM2, rfl⟩ : ∃ d, dM = d + 3 := ⟨dM - 3, by omega⟩
        have hcond := cond_pair hs hb (IH hw7 dC2 dM2 (by omega) (by omega)) hI1 hq (by omega) (by omega)
        have hk40 : nI κ = (40 : Int32) := by rw [h40]; rfl
        have hbr : SRes_ σ1 μ1 s b n t L B Q V N O (w + 1) (w + 1) (fun o => f_X9_readOne KC (dC2 + 1 + 1) [.ref s, .ref 1, .ref b, .int (nI (w + 1))] σ = some o) (fun u => f_X12_readBracket KC (dM2 + 3) [.ref 219] μ1 = some u) := by
          rcases hcond with ⟨σ2, μ2, r1, r2, ft, f1, f2⟩ | ⟨Q2, V2, N2, O2, D2, κ2, pl2, e2, c2, σ2, μ2, ⟨r1, r2⟩, hI2, q2, gr2, ee2, top2, f1, f2, n2⟩
          · exact Or.inl ⟨σ2, μ2, toC2 _ (br_t hk40 ⟨0, σ2, by rw [nI_1]; exact r1, br_t rfl rfl⟩), z_X12_readBracket (e_X12_readBracket_0 ⟨0, μ2, r2, br_t rfl rfl⟩), ft, f1, f2⟩
          · have hT2 := hI2.1.2.2.2.1
            have hs2 := m_isSign (ch := 41) hT2 hI2.1.2.2.2.2.2 (by omega) (by omega)
            by_cases h41 : κ2 = 41
            · rw [if_pos h41] at hs2
              obtain ⟨κ3, pl3, e3, c3, σ3, μ3, b1, b2, b3, ⟨b4, -⟩, ⟨b5, -⟩, b6⟩ := take_ok hI2.1 (by omega)
              rw [h41] at b1
              exact Or.inr ⟨Q2, V2, N2, O2, D2, κ3, pl3, e3, c3, σ3, μ3, ⟨toC2 _ (br_t hk40 ⟨1, σ2, by rw [nI_1]; exact r1, br_f (by decide) ⟨1, σ3, b1, br_f (by decide) rfl⟩⟩), z_X12_readBracket (e_X12_readBracket_0 ⟨1, μ2, r2, br_f (by decide) ⟨1, μ2, hs2, br_f (by decide) ⟨μ3, b2, rfl⟩⟩⟩)⟩, SI_SM hs hb hI2 b3 b4 b5, q2, GR_up gr2, ee2, by rw [b5.2 62 (by omega)]; exact top2, CT_tr f1 (CT_SF b4), CM_tr f2 (CM_MF b5), b6.1.trans n2.1, b6.2.trans n2.2⟩
            · rw [if_neg h41] at hs2
              obtain ⟨⟨σ3, z1, z2, z3, z4⟩, ⟨μ3, x1, x2, x3, x4⟩, hpl⟩ := take_no 41 hI2.1 h41 (by omega)
              exact Or.inl ⟨σ3, μ3, toC2 _ (br_t hk40 ⟨1, σ2, by rw [nI_1]; exact r1, br_f (by decide) ⟨0, σ3, z1, br_t rfl rfl⟩⟩), z_X12_readBracket (e_X12_readBracket_0 ⟨1, μ2, r2, br_f (by decide) ⟨0, μ2, hs2, br_t rfl ⟨0, μ3, x1, Or.inl rfl, rfl⟩⟩⟩), ⟨1, pl2, by omega, by omega, hpl, z3, x3, z4, x4⟩, CT_tr f1 (CT_SF z2), CM_tr f2 (CM_MF x2)⟩
        exact SRes_cg (SRes_dec (U' := fun u => f_X12_readOne KC (dM2 + 3 + 1) [.ref 219] μ = some u) (U := fun u => f_X12_readBracket KC (dM2 + 3) [.ref 219] μ1 = some u) hbr (fun _ _ _ z => z) (fun v μ' hv z => toM2 _ (br_f (by decide) ⟨v, μ', z, hv, rfl⟩))) (fun _ z => z) (fun _ z => z) fC1 fM1 nf1
      · rw [if_neg h40, if_neg h40] at toM2
        have hn40 : ¬ nI κ = (40 : Int32) := fun z => h40 ((nI_eq (by omega) (by omega)).mp z)
        by_cases h17 : κ = 17
        · -- 'not'
          obtain ⟨dM2, rfl⟩ : ∃ d, dM = d + 1 := ⟨dM - 1, by omega⟩
          have hk17 : nI κ = (17 : Int32) := by rw [h17]; rfl
          have hk13 : nI (κ - 4) = (13 : Int32) := by rw [h17]; rfl
          have hone := IH hw7 dC dM2 (by omega) (by omega) σ1 μ1 κ1 pl1 e1 c1 Q V N (O + 1) hI1 hq (by omega) (by omega)
          have hno : SRes_ σ1 μ1 s b n t L B Q V N O (w + 1) (w + 1) (fun o => f_X9_readOne KC (dC + 1) [.ref s, .ref 1, .ref b, .int (nI (w + 1))] σ = some o) (fun u => f_X12_readNot KC (dM2 + 1) [.ref 219] μ1 = some u) := by
            rcases hone with ⟨σ2, μ2, r1, r2, ft, f1, f2⟩ | ⟨Q2, V2, N2, O2, D2, κ2, pl2, e2, c2, σ2, μ2, ⟨r1, r2⟩, hI2, q2, gr2, ⟨es2, en2⟩, top2, f1, f2, n2⟩
            · exact Or.inl ⟨σ2, μ2, toC2 _ (br_f hn40 (br_t hk17 ⟨0, σ2, by rw [nI_1]; exact r1, br_t rfl rfl⟩)), z_X12_readNot (e_X12_readNot_0 ⟨0, μ2, r2, br_t rfl rfl⟩), ft, f1, f2⟩
            · obtain ⟨⟨k1, k2, k3, k4, k5⟩, k6⟩ := gr2
              obtain ⟨σ3, μ3, b1, b2, b3, b4, b5, b6⟩ := add2 (q0 := 17) (q1 := 0) (q2 := 0) (q3 := 0) (v0 := 1) (v1 := N2 - 1) (v2 := 0) (v3 := 0) hs hb hI2 (by omega)
              obtain ⟨p0, -⟩ := pu_at (Q := Q2) (N := N2) (q0 := 17) (q1 := 0) (q2 := 0) (q3 := 0)
              obtain ⟨v0, v1, -⟩ := pu_at (Q := V2) (N := N2) (q0 := 1) (q1 := N2 - 1) (q2 := 0) (q3 := 0)
              refine Or.inr ⟨_, _, N2 + 1, O2, fun k r => ¬ D2 k r, κ2, pl2, e2, c2, σ3, sI_ μ3 219 62 (nI N2), ⟨toC2 _ (br_f hn40 (br_t hk17 ⟨1, σ2, by rw [nI_1]; exact r1, br_f (by decide) ⟨σ3, b1, rfl⟩⟩)), z_X12_readNot (e_X12_readNot_0 ⟨1, μ2, r2, br_f (by decide) ⟨nI N2, μ3, by rw [top2]; exact b2, rfl⟩⟩)⟩, SI_62 b3 _, QV_add q2 (by omega), ⟨⟨by omega, by omega, k3, by omega, ?_⟩, fun j hj => ⟨by rw [pu_lo (by omega), (k6 j hj).1], by rw [pu_lo (by omega), (k6 j hj).2]⟩⟩, ⟨?_, Or.inl ⟨v0, ?_, D2, ?_, rfl⟩⟩, by rw [sI_at, if_pos ⟨rfl, rfl⟩]; rfl, CT_tr f1 b4, CM_tr f2 (CM_tr b5 (CM_62 _ _)), b6.1.trans n2.1, ?_⟩
              · rw [lc2_pu, if_neg (by omega)]
                omega
              · rw [show N2 + 1 - N = (N2 - N) + 1 by omega]
                exact ES_not (ES_cg es2 (fun j hj => by rw [pu_lo (by omega)])) (by rw [show N + (N2 - N) = N2 by omega]; exact p0)
              · show pu_ V2 N2 1 (N2 - 1) 0 0 N2 1 < N2
                rw [v1]
                omega
              · show EN_ B (pu_ V2 N2 1 (N2 - 1) 0 0) N2 (pu_ V2 N2 1 (N2 - 1) 0 0 N2 1) D2
                rw [v1]
                exact EN_cg _ _ _ (fun j hj => by rw [pu_lo (by omega)]) en2
              · rw [sI_at, if_neg (by decide), b6.2, n2.2]
          exact SRes_cg (SRes_dec (U' := fun u => f_X12_readOne KC (dM2 + 1 + 1) [.ref 219] μ = some u) (U := fun u => f_X12_readNot KC (dM2 + 1) [.ref 219] μ1 = some u) hno (fun _ _ _ z => z) (fun v μ' hv z => toM2 _ (br_t rfl (br_t hk13 ⟨v, μ', z, hv, rfl⟩)))) (fun _ z => z) (fun _ z => z) fC1 fM1 nf1
        · have hn17 : ¬ nI κ = (17 : Int32) := fun z => h17 ((nI_eq (by omega) (by omega)).mp z)
          have hn13 : ¬ nI (κ - 4) = (13 : Int32) := fun z => h17 (by have := (nI_eq (show κ - 4 < 2 ^ 31 by omega) (show 13 < 2 ^ 31 by omega)).mp z; omega)
          by_cases h20 : κ < 20
          · have hof := of_pair (kd := κ) hs hb hI1 hq hN (by omega) (by omega)
            exact SRes_cg (SRes_dec (T' := fun o => f_X9_readOne KC (dC + 1) [.ref s, .ref 1, .ref b, .int (nI (w + 1))] σ = some o) (U' := fun u => f_X12_readOne KC (dM + 1) [.ref 219] μ = some u) (T := fun o => f_X9_readAsking KC [.ref s, .ref 1, .ref b, .int (nI κ)] σ1 = some o) (U := fun u => f_X12_readOf KC [.ref 219, .int (nI (κ - 4))] μ1 = some u) hof (fun v σ' hv z => toC2 _ (br_f hn40 (br_f hn17 ⟨v, σ', z, hv, rfl⟩))) (fun v μ' hv z => toM2 _ (br_t rfl (br_f hn13 (pk_le 16 (κ - 4) (fun z2 => by omega) (fun _ => ⟨v, μ', z, hv, rfl⟩)))))) (fun _ z => z) (fun _ z => z) fC1 fM1 nf1
          · have hcm := asks_pair (kd := κ) hs hb hI1 hq hN (by omega) (by omega)
            exact SRes_cg (SRes_dec (T' := fun o => f_X9_readOne KC (dC + 1) [.ref s, .ref 1, .ref b, .int (nI (w + 1))] σ = some o) (U' := fun u => f_X12_readOne KC (dM + 1) [.ref 219] μ = some u) (T := fun o => f_X9_readAsking KC [.ref s, .ref 1, .ref b, .int (nI κ)] σ1 = some o) (U := fun u => f_X12_readCompare KC [.ref 219, .int (nI (κ - 4))] μ1 = some u) hcm (fun v σ' hv z => toC2 _ (br_f hn40 (br_f hn17 ⟨v, σ', z, hv, rfl⟩))) (fun v μ' hv z => toM2 _ (br_t rfl (br_f hn13 (pk_le 16 (κ - 4) (fun _ => ⟨v, μ', z, hv, rfl⟩) (fun z2 => by omega)))))) (fun _ z => z) (fun _ z => z) fC1 fM1 nf1
  · have hn : ¬ 20 ≤ κ ∨ 20 ≤ κ := by omega
    refine SRes_no 1 h.1 (by omega) (by omega) (by omega) (fun σ' q => ?_) (fun μ' q => ?_)
    · refine z_X9_readOne (e_X9_readOne_0 hs hb ?_)
      rw [hTC.1]
      exact pk_eq κ 40 (fun z => by omega) (fun z => pk_lt κ 17 (fun _ => ⟨0, σ', q, Or.inl rfl, rfl⟩) (fun _ => pk_le κ 23 (fun z2 => by omega) (fun _ => ⟨0, σ', q, Or.inl rfl, rfl⟩)))
    · refine z_X12_readOne (e_X12_readOne_0 ⟨_, μ, hsg, ?_⟩)
      rw [if_neg (by omega)]
      exact ro_go 20 hT hTM (by omega) (by omega) (fun i hi hi2 => by rw [kk_hi hi hi2]; omega) (fun z => by omega) (fun z => absurd (z rfl) (by omega)) (fun _ _ => ⟨0, μ', q, Or.inl rfl, rfl⟩)
theorem one_pair (hs : isS s) (hb : isB b) : ∀ f w, w + f = 8 → ∀ dC dM, 2 * f + 1 ≤ dC → 4 * f + 1 ≤ dM → Hone_ s b n t L B w dC dM := by
  intro f
  induction f with
  | zero =>
    intro w hw dC dM h1 h2
    obtain ⟨dC, rfl⟩ : ∃ d, dC = d + 1 := ⟨dC - 1, by omega⟩
    obtain ⟨dM, rfl⟩ : ∃ d, dM = d + 1 := ⟨dM - 1, by omega⟩
    exact one_step hs hb (by omega) (fun z => by omega) (by omega) (by omega)
  | succ f ih =>
    intro w hw dC dM h1 h2
    obtain ⟨dC, rfl⟩ : ∃ d, dC = d + 1 := ⟨dC - 1, by omega⟩
    obtain ⟨dM, rfl⟩ : ∃ d, dM = d + 1 := ⟨dM - 1, by omega⟩
    exact one_step hs hb (by omega) (fun _ dC' dM' q1 q2 => ih (w + 1) (by omega) dC' dM' (by omega) (by omega)) (by omega) (by omega)
end ON
