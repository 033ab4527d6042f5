/-! 'on' CHAP N, again and again -/
def LF_ (b c0 : Nat) (σ σ' : St_) : Prop := fr_ [1, b + 6 + c0] σ σ' ∧ (∀ f, f < 4 → σ'.1 1 f = σ.1 1 f) ∧ mo_ σ σ'
def LM_ (c0 : Nat) (μ μ' : St_) : Prop := fm_ [219, 222] [219] μ μ' ∧ (∀ f, (f < 5 ∨ 13 < f) → μ'.1 219 f = μ.1 219 f) ∧ ∀ i, ¬ (130 + 16 * c0 ≤ i ∧ i < 146 + 16 * c0) → μ'.1 222 i = μ.1 222 i
theorem LF_tr {b c0 : Nat} {x y z : St_} (h : LF_ b c0 x y) (h2 : LF_ b c0 y z) : LF_ b c0 x z := ⟨fr_tr h.1 h2.1, fun f hf => (h2.2.1 f hf).trans (h.2.1 f hf), mo_tr h.2.2 h2.2.2⟩
theorem LM_tr {c0 : Nat} {x y z : St_} (h : LM_ c0 x y) (h2 : LM_ c0 y z) : LM_ c0 x z := ⟨fm_tr h.1 h2.1, fun f hf => (h2.2.1 f hf).trans (h.2.1 f hf), fun i hi => (h2.2.2 i hi).trans (h.2.2 i hi)⟩
theorem LF_SF {b c0 : Nat} {x y : St_} (h : SF_ x y) : LF_ b c0 x y := ⟨fr_mono h.1 (fun o ho => by simp at ho; simp [ho]), h.2⟩
theorem LM_MF {c0 : Nat} {x y : St_} (h : MF_ x y) : LM_ c0 x y := ⟨fm_mono h.1 (fun o ho => by simp at ho; simp [ho]) (fun o ho => ho), h.2, fun i _ => by rw [h.1.1 222 (by decide)]⟩
theorem CB_LF {σ σ' : St_} {b : Nat} {B : Nat → Nat → Nat} (hb : isB b) (hc0 : B 0 0 < 16) (h : CB_ σ b B) (hs : LF_ b (B 0 0) σ σ') : CB_ σ' b B := CB_cg h (fun o i hr => by
  have := isB_ge hb
  rw [hs.1.1 o (by unfold rC_ at hr; simp; omega)])
theorem MB_LM {μ μ' : St_} {B : Nat → Nat → Nat} (hO : BO_ B) (h : MB_ μ 222 0 225 0 B) (hs : LM_ (B 0 0) μ μ') : MB_ μ' 222 0 225 0 B := MB_cg h (fun i hi => by
  have := hO.1.1
  have := hO.1.2.1
  unfold rM_ at hi
  exact hs.2.2 _ (by omega)) (fun i _ => by rw [hs.1.2.1 225 (by decide)])
theorem idx_9 {B : Nat → Nat → Nat} {v d : Nat} (h : idx_ (B 9) v (B 0 0) 0 = some d) : fn2_ B v = some d := by
  unfold fn2_
  rw [h]
theorem fn2_16 {B : Nat → Nat → Nat} {v d : Nat} (h : idx_ (B 9) v (B 0 0) 0 = none) (h2 : fn2_ B v = some d) : 16 ≤ d ∧ d < 16 + B 0 1 := by
  unfold fn2_ at h2
  rw [h] at h2
  cases h3 : idx_ (B 10) v (B 0 1) 0 with
  | none => rw [h3] at h2; cases h2
  | some j =>
    rw [h3] at h2
    cases h2
    have := idx_lt _ _ _ h3
    omega
theorem lean_loop {b n L : Nat} {t : Nat → Nat} {B : Nat → Nat → Nat} (hb : isB b) (hO : BO_ B) (hc0 : B 0 0 < 16) : ∀ (m rest i κ pl e c : Nat) (σ μ : St_) (ln : Nat → Nat), rest < m → PR_ σ μ n t L κ pl e c → CB_ σ b B → MB_ μ 222 0 225 0 B → (∀ d, d < 16 → σ.1 (b + 6 + B 0 0) d = nI (ln d)) → (∀ d, d < 16 → μ.1 222 (130 + 16 * B 0 0 + d) = nI (ln d)) → (∀ d, B 0 0 ≤ d → ln d = 0) → fb_sm ln 16 + rest = 10 → i + rest ≤ 10 →
    (∃ σ' μ', Ev_ (P_X0_readLeanings KC) 29 [some (.ref b), some (.ref 1), some (.int (nI (B 0 0))), some (.int (nI rest)), some (.int (nI i)), none] [] σ (some (.int 0), σ') ∧ Ev_ (P_X12_readChap KC) 138 [some (.ref 219), some (.int (nI (B 0 0))), some (.int (nI rest)), none] [] μ (some (.int 0), μ') ∧ FT_ σ' μ' ∧ LF_ b (B 0 0) σ σ' ∧ LM_ (B 0 0) μ μ') ∨
    (∃ ln' rest' κ' pl' e' c' σ' μ', Ev_ (P_X0_readLeanings KC) 29 [some (.ref b), some (.ref 1), some (.int (nI (B 0 0))), some (.int (nI rest)), some (.int (nI i)), none] [] σ (some (.int 1), σ') ∧ (∀ out, Ev_ (P_X12_readChap KC) 138 [some (.ref 219), some (.int (nI (B 0 0))), some (.int (nI rest')), none] [] μ' out → Ev_ (P_X12_readChap KC) 138 [some (.ref 219), some (.int (nI (B 0 0))), some (.int (nI rest)), none] [] μ out) ∧ κ' ≠ 5 ∧ PR_ σ' μ' n t L κ' pl' e' c' ∧ (∀ d, d < 16 → σ'.1 (b + 6 + B 0 0) d = nI (ln' d)) ∧ (∀ d, d < 16 → μ'.1 222 (130 + 16 * B 0 0 + d) = nI (ln' d)) ∧ (∀ d, B 0 0 ≤ d → ln' d = 0) ∧ fb_sm ln' 16 + rest' = 10 ∧ LF_ b (B 0 0) σ σ' ∧ LM_ (B 0 0) μ μ' ∧ NF_ σ μ σ' μ') := by
  intro m
  induction m with
  | zero => exact fun rest i κ pl e c σ μ ln h => absurd h (by omega)
  | succ m ih =>
    intro rest i κ pl e c σ μ ln hm h hC hM hl1 hl2 hl3 hsm hi
    have hT := h.2.2.2.1
    have hTC := h.2.2.2.2.1
    have hκ := hT.1
    have hon := m_isWord (k := 4) hT h.2.2.2.2.2 (by omega)
    rw [show kk_ 4 = 5 from rfl] at hon
    by_cases h5 : κ = 5
    · rw [if_pos h5] at hon
      obtain ⟨κ1, pl1, e1, c1, σ1, μ1, a1, a2, a3, ⟨a4, -⟩, ⟨a5, -⟩, a6⟩ := adv h (by omega)
      have hC1 := CB_SF hb hC a4
      have hM1 := MB_MF (by decide) (by decide) hM a5
      have hT1 := a3.2.2.2.1
      have hTC1 := a3.2.2.2.2.1
      have hκ1 := hT1.1
      have hnm := m_isName hT1 a3.2.2.2.2.2
      -- the class, down to its place 94
      have cls : ∀ (y0 : Int32) (out : Out_), (κ1 = 2 → f_X0_chapNamed KC [.ref b, .int (σ1.1 1 7)] σ1 = some (some (.int y0), σ1)) → (κ1 ≠ 2 → y0 = -1) → Ev_ (P_X0_readLeanings KC) 68 [some (.ref b), some (.ref 1), some (.int (nI (B 0 0))), some (.int (nI rest)), some (.int (nI i)), none] [.int y0] σ1 out → Ev_ (P_X0_readLeanings KC) 29 [some (.ref b), some (.ref 1), some (.int (nI (B 0 0))), some (.int (nI rest)), some (.int (nI i)), none] [] σ out := by
        intro y0 out q1 q2 q3
        refine e_X0_readLeanings_29 hb (pk_le 16 i (fun z => by omega) (fun _ => pk_eq κ 5 (fun _ => ⟨σ1, a1, ?_⟩) (fun z => absurd h5 z) hTC.1))
        refine pk_eq κ1 2 (fun z => ⟨y0, σ1, q1 z, q3⟩) (fun z => ?_) hTC1.1
        rw [q2 z] at q3
        exact q3
      by_cases h2 : κ1 = 2
      · rw [if_pos h2] at hnm
        obtain ⟨hok, -⟩ := hT1.2.2.2.2.1 (Or.inl h2)
        have hlt := okc_lt hok
        have hv : σ1.1 1 7 = nI c1 := hTC1.2.2.2 (by omega) (by omega)
        have hw : μ1.2.1 219 12 = lN (cm_ c1) := a3.2.2.2.2.2.2.2.2.2.1 (Or.inl h2)
        have hcn := c_chapNamed (v := c1) hb hC1 hO (by omega)
        have hfr := m_findRead hM1 hO hok hw
        have i1 := on_m1 (idx_b (g := B 9) (v := c1) hO.1.1)
        have i3 := on_m1 (fn2_b (v := c1) hO)
        cases hx : idx_ (B 9) c1 (B 0 0) 0 with
        | none =>
          left
          rw [hx] at hcn i1
          obtain ⟨⟨σ', g1, g2, g3, g4⟩, ⟨μ', k1, k2, k3, k4⟩, hpl⟩ := fail_both 3 a3 (by omega) (by omega) (by omega)
          have htc : f_X8_takeChap KC [.ref 1, .ref b] σ1 = some (some (.int 0), σ') := z_X8_takeChap (e_X8_takeChap_0 hb (pk_eq κ1 2 (fun _ => ⟨_, σ1, by rw [hv]; exact hcn, br_t rfl ⟨0, σ', g1, Or.inl rfl, rfl⟩⟩) (fun z => absurd h2 z) hTC1.1))
          refine ⟨σ', μ', cls (-1) _ (fun _ => by rw [hv]; exact hcn) (fun z => absurd h2 z) (e_X0_readLeanings_68 hb (br_t rfl (e_X0_readLeanings_94 hb ⟨0, σ', htc, br_t rfl rfl⟩))), e_X12_readChap_138 ⟨1, μ, hon, br_f (by decide) ⟨μ1, a2, 1, μ1, hnm, br_f (by decide) ⟨_, μ1, hfr, ?_⟩⟩⟩, ⟨3, pl1, by omega, by omega, hpl, g3, k3, g4, k4⟩, LF_tr (LF_SF a4) (LF_SF g2), LM_tr (LM_MF a5) (LM_MF k2)⟩
          refine ek_if i3 (fun _ => ⟨0, μ', k1, Or.inl rfl, rfl⟩) (fun z => ?_)
          cases hy : fn2_ B c1 with
          | none => exact absurd hy z
          | some d =>
            have hd := fn2_16 hx hy
            have hb1 := hO.1.2.1
            exact pk_le 16 d (fun _ => ⟨0, μ', k1, Or.inl rfl, rfl⟩) (fun z2 => by omega)
        | some d =>
          rw [hx] at hcn i1
          have hd := idx_lt _ _ _ hx
          have hf2 := idx_9 hx
          rw [hf2] at hfr i3
          have hdm : ¬ nI d = -1 := nI_m1 (by omega)
          have hr1 : σ1.1 (b + 6 + B 0 0) d = nI (ln d) := by
            have := isB_ge hb
            rw [a4.1.1 _ (by simp; omega)]
            exact hl1 d (by omega)
          have hr2 : μ1.1 222 (130 + 16 * B 0 0 + d) = nI (ln d) := by
            rw [a5.1.1 222 (by decide)]
            exact hl2 d (by omega)
          have hln : ln d ≤ fb_sm ln 16 := by
            have := fb_sm_part ln (i := d) (n := 16) (by omega)
            omega
          by_cases hz : ln d = 0
          · obtain ⟨κ2, pl2, e2, c2, σ2, μ2, b1, b2, b3, ⟨b4, -⟩, ⟨b5, -⟩, b6⟩ := adv a3 (by omega)
            have htc : f_X8_takeChap KC [.ref 1, .ref b] σ1 = some (some (.int 1), sI_ σ2 1 8 (nI d)) := z_X8_takeChap (e_X8_takeChap_0 hb (pk_eq κ1 2 (fun _ => ⟨_, σ1, by rw [hv]; exact hcn, br_f hdm ⟨σ2, b1, rfl⟩⟩) (fun z => absurd h2 z) hTC1.1))
            have hSF2 : SF_ σ1 (sI_ σ2 1 8 (nI d)) := SF_tr b4 (SF_8 _ _)
            have to94 : ∀ out, Ev_ (P_X0_readLeanings KC) 94 [some (.ref b), some (.ref 1), some (.int (nI (B 0 0))), some (.int (nI rest)), some (.int (nI i)), some (.int (nI d))] [] σ1 out → Ev_ (P_X0_readLeanings KC) 29 [some (.ref b), some (.ref 1), some (.int (nI (B 0 0))), some (.int (nI rest)), some (.int (nI i)), none] [] σ out := by
              intro out q
              refine cls (nI d) out (fun _ => by rw [hv]; exact hcn) (fun z => absurd h2 z) (e_X0_readLeanings_68 hb (br_f hdm ⟨vpin_n hc0, vpin_n (by omega), ?_⟩))
              rw [cl_ (by omega), cl_ (by omega), hr1]
              exact pk_le (ln d) 0 (fun _ => q) (fun z => by omega)
            have toN : ∀ (out : Out_) (v : Int32) (μ3 : St_), f_X12_readNumber KC [.ref 219, .int (1 : Int32), .int (nI rest)] μ2 = some (some (.int v), μ3) → ((v = 0 → out = (some (.int (0 : Int32)), μ3)) ∧ (¬ (v = 0) → Ev_ (P_X12_readChap KC) 138 [some (.ref 219), some (.int (nI (B 0 0))), some (.int (nI rest - (μ3.1 219 13))), none] [] (sI_ μ3 222 (130 + 16 * B 0 0 + d) (μ3.1 219 13)) out)) → Ev_ (P_X12_readChap KC) 138 [some (.ref 219), some (.int (nI (B 0 0))), some (.int (nI rest)), none] [] μ out := by
              intro out v μ3 q1 q2
              refine e_X12_readChap_138 ⟨1, μ, hon, br_f (by decide) ⟨μ1, a2, 1, μ1, hnm, br_f (by decide) ⟨nI d, μ1, hfr, br_f hdm (pk_le 16 d (fun z => by omega) (fun _ => ?_))⟩⟩⟩
              rw [ix130, cl_ (by omega), hr2]
              refine ⟨vpin_n (by omega), pk_le (ln d) 0 (fun _ => ⟨μ2, b2, v, μ3, q1, br_c (fun z => q2.1 z) (fun z => ⟨vpin_n (by omega), ?_⟩)⟩) (fun z => by omega)⟩
              have e13 : (sI_ μ3 222 (130 + 16 * B 0 0 + d) (μ3.1 219 13)).1 219 13 = μ3.1 219 13 := by simp [sI_at]
              rw [e13]
              exact q2.2 z
            rcases num_pair 1 rest (PR_8 b3 (nI d)) (by omega) (by omega) with ⟨σ3, μ3, n1, n2, n3, n4, n5⟩ | ⟨κ3, pl3, e3, c3, σ3, μ3, n1, n2, ⟨-, n3⟩, n4, n5, n6, n7, n8, n9, n10⟩
            · left
              exact ⟨σ3, μ3, to94 _ (e_X0_readLeanings_94 hb ⟨1, _, htc, br_f (by decide) ⟨0, σ3, n1, br_t rfl rfl⟩⟩), toN _ 0 μ3 n2 (br_t rfl rfl), n3, LF_tr (LF_SF a4) (LF_tr (LF_SF hSF2) (LF_SF n4)), LM_tr (LM_MF a5) (LM_tr (LM_MF b5) (LM_MF n5))⟩
            · -- a leaning more
              have gb := isB_ge hb
              have hsF : SF_ σ σ3 := SF_tr a4 (SF_tr hSF2 n8)
              have hmF : MF_ μ μ3 := MF_tr a5 (MF_tr b5 n9)
              have hLF : LF_ b (B 0 0) σ (sI_ σ3 (b + 6 + B 0 0) d (nI c2)) := LF_tr (LF_SF hsF) ⟨fr_sI (by simp), fun f hf => by simp [sI_at, show ¬ 1 = b + 6 + B 0 0 by omega], mo_eq (by simp [sI_at, show ¬ 1 = b + 6 + B 0 0 by omega])⟩
              have hLM : LM_ (B 0 0) μ (sI_ μ3 222 (130 + 16 * B 0 0 + d) (nI c2)) := LM_tr (LM_MF hmF) ⟨fm_sI (by simp), fun f hf => by simp [sI_at], fun j hj => by simp [sI_at]; omega⟩
              have hPR : PR_ (sI_ σ3 (b + 6 + B 0 0) d (nI c2)) (sI_ μ3 222 (130 + 16 * B 0 0 + d) (nI c2)) n t L κ3 pl3 e3 c3 := PR_cg n5 (fun f _ _ => by simp [sI_at, show ¬ 1 = b + 6 + B 0 0 by omega]) (sI_row _ _ _ _ (by omega)) (sI_row _ _ _ _ (by omega)) (fun f _ _ => by simp [sI_at]) (sI_row _ _ _ _ (by decide)) rfl
              have hup := fb_sm_upd ln c2 (i := d) (n := 16) (by omega)
              have step := ih (rest - c2) (i + 1) κ3 pl3 e3 c3 (sI_ σ3 (b + 6 + B 0 0) d (nI c2)) (sI_ μ3 222 (130 + 16 * B 0 0 + d) (nI c2)) (fun k => if k = d then c2 else ln k) (by omega) hPR (CB_LF hb hc0 hC hLF) (MB_LM hO hM hLM) (fun k hk => by
                rw [sI_at]
                by_cases ek : k = d
                · rw [if_pos ⟨rfl, ek⟩, if_pos ek]
                · rw [if_neg (fun z => ek z.2), if_neg ek, hsF.1.1 _ (by simp; omega)]
                  exact hl1 k hk) (fun k hk => by
                rw [sI_at]
                by_cases ek : k = d
                · rw [if_pos ⟨rfl, by omega⟩, if_pos ek]
                · rw [if_neg (fun z => ek (by omega)), if_neg ek, hmF.1.1 222 (by decide)]
                  exact hl2 k hk) (fun k hk => by rw [if_neg (by omega)]; exact hl3 k hk) (by omega) (by omega)
              have c94 : ∀ out, Ev_ (P_X0_readLeanings KC) 29 [some (.ref b), some (.ref 1), some (.int (nI (B 0 0))), some (.int (nI (rest - c2))), some (.int (nI (i + 1))), none] [] (sI_ σ3 (b + 6 + B 0 0) d (nI c2)) out → Ev_ (P_X0_readLeanings KC) 29 [some (.ref b), some (.ref 1), some (.int (nI (B 0 0))), some (.int (nI rest)), some (.int (nI i)), none] [] σ out := by
                intro out q
                refine to94 out (e_X0_readLeanings_94 hb ⟨1, _, htc, br_f (by decide) ⟨1, σ3, n1, br_f (by decide) (br_f hdm ⟨vpin_n hc0, vpin_n (by omega), ?_⟩)⟩⟩)
                rw [cl_ (by omega), cl_ (by omega), n6]
                have e18 : (sI_ σ3 (b + 6 + B 0 0) d (nI c2)).1 1 8 = nI c2 := by simp [sI_at, show ¬ 1 = b + 6 + B 0 0 by omega, n6]
                rw [e18, pk_sub n4, nI_1]
                exact q
              have c138 : ∀ out, Ev_ (P_X12_readChap KC) 138 [some (.ref 219), some (.int (nI (B 0 0))), some (.int (nI (rest - c2))), none] [] (sI_ μ3 222 (130 + 16 * B 0 0 + d) (nI c2)) out → Ev_ (P_X12_readChap KC) 138 [some (.ref 219), some (.int (nI (B 0 0))), some (.int (nI rest)), none] [] μ out := by
                intro out q
                refine toN out 1 μ3 n2 (br_f (by decide) ?_)
                rw [n7, pk_sub n4]
                exact q
              rcases step with ⟨σ', μ', s1, s2, s3, s4, s5⟩ | ⟨ln', rest', κ', pl', e', c', σ', μ', s1, s2, s3, s4, s5, s6, s7, s8, s9, s10, s11⟩
              · left
                exact ⟨σ', μ', c94 _ s1, c138 _ s2, s3, LF_tr hLF s4, LM_tr hLM s5⟩
              · right
                refine ⟨ln', rest', κ', pl', e', c', σ', μ', c94 _ s1, fun out q => c138 _ (s2 out q), s3, s4, s5, s6, s7, s8, LF_tr hLF s9, LM_tr hLM s10, ?_, ?_⟩
                · rw [s11.1]
                  simp only [sI_at, show ¬ (1 = b + 6 + B 0 0 ∧ 9 = d) by omega, if_false]
                  rw [n10.1, sI_at, if_neg (by decide), b6.1, a6.1]
                · rw [s11.2]
                  simp only [sI_at, show ¬ (219 = 222 ∧ 10 = 130 + 16 * B 0 0 + d) by omega, if_false]
                  rw [n10.2, b6.2, a6.2]
          · left
            obtain ⟨⟨σ', g1, g2, g3, g4⟩, ⟨μ', k1, k2, k3, k4⟩, hpl⟩ := fail_both 3 a3 (by omega) (by omega) (by omega)
            refine ⟨σ', μ', cls (nI d) _ (fun _ => by rw [hv]; exact hcn) (fun z => absurd h2 z) (e_X0_readLeanings_68 hb (br_f hdm ⟨vpin_n hc0, vpin_n (by omega), ?_⟩)), e_X12_readChap_138 ⟨1, μ, hon, br_f (by decide) ⟨μ1, a2, 1, μ1, hnm, br_f (by decide) ⟨nI d, μ1, hfr, br_f hdm (pk_le 16 d (fun z => by omega) (fun _ => ?_))⟩⟩⟩, ⟨3, pl1, by omega, by omega, hpl, g3, k3, g4, k4⟩, LF_tr (LF_SF a4) (LF_SF g2), LM_tr (LM_MF a5) (LM_MF k2)⟩
            · rw [cl_ (by omega), cl_ (by omega), hr1]
              exact pk_le (ln d) 0 (fun z => by omega) (fun _ => ⟨0, σ', g1, Or.inl rfl, rfl⟩)
            · rw [ix130, cl_ (by omega), hr2]
              exact ⟨vpin_n (by omega), pk_le (ln d) 0 (fun z => by omega) (fun _ => ⟨0, μ', k1, Or.inl rfl, rfl⟩)⟩
      · left
        rw [if_neg h2] at hnm
        obtain ⟨⟨σ', g1, g2, g3, g4⟩, ⟨μ', k1, k2, k3, k4⟩, hpl⟩ := fail_both 1 a3 (by omega) (by omega) (by omega)
        have htc : f_X8_takeChap KC [.ref 1, .ref b] σ1 = some (some (.int 0), σ') := z_X8_takeChap (e_X8_takeChap_0 hb (pk_eq κ1 2 (fun z => absurd z h2) (fun _ => ⟨0, σ', g1, Or.inl rfl, rfl⟩) hTC1.1))
        exact ⟨σ', μ', cls (-1) _ (fun z => absurd z h2) (fun _ => rfl) (e_X0_readLeanings_68 hb (br_t rfl (e_X0_readLeanings_94 hb ⟨0, σ', htc, br_t rfl rfl⟩))), e_X12_readChap_138 ⟨1, μ, hon, br_f (by decide) ⟨μ1, a2, 0, μ1, hnm, br_t rfl ⟨0, μ', k1, Or.inl rfl, rfl⟩⟩⟩, ⟨1, pl1, by omega, by omega, hpl, g3, k3, g4, k4⟩, LF_tr (LF_SF a4) (LF_SF g2), LM_tr (LM_MF a5) (LM_MF k2)⟩
    · right
      refine ⟨ln, rest, κ, pl, e, c, σ, μ, e_X0_readLeanings_29 hb (pk_le 16 i (fun z => by omega) (fun _ => pk_eq κ 5 (fun z => absurd z h5) (fun _ => rfl) hTC.1)), fun out q => q, h5, h, hl1, hl2, hl3, hsm, ⟨fr_rf _ _, fun _ _ => rfl, mo_eq rfl⟩, ⟨fm_rf _ _ _, fun _ _ => rfl, fun _ _ => rfl⟩, rfl, rfl⟩
