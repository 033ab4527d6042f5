/-! reading a PLAN: an ACT, the ACTS -/
theorem CT_tr {q r : Nat} {x y z : St_} (h : CT_ q r x y) (h2 : CT_ q r y z) : CT_ q r x z := ⟨fun o h3 h4 => (h2.1 o h3 h4).trans (h.1 o h3 h4), h2.2.trans h.2⟩
theorem CT_rf (q r : Nat) (x : St_) : CT_ q r x x := ⟨fun _ _ _ => rfl, rfl⟩
theorem CT_SF {q r : Nat} {x y : St_} (h : SF_ x y) : CT_ q r x y := ⟨fun o h1 _ => h.1.1 o (by simp [h1]), h.1.2⟩
theorem CM_tr {S SJ ff : List Nat} {x y z : St_} (h : CM_ S SJ ff x y) (h2 : CM_ S SJ ff y z) : CM_ S SJ ff x z := ⟨fm_tr h.1 h2.1, fun f h3 h4 => (h2.2 f h3 h4).trans (h.2 f h3 h4)⟩
theorem CM_rf (S SJ ff : List Nat) (x : St_) : CM_ S SJ ff x x := ⟨fm_rf _ _ _, fun _ _ _ => rfl⟩
theorem CM_MF {S SJ ff : List Nat} {x y : St_} (h : MF_ x y) : CM_ S SJ ff x y := ⟨fm_mono h.1 (fun o ho => by simp at ho; simp [ho]) (fun o ho => by simp at ho; simp [ho]), fun f hf _ => h.2 f (by omega)⟩
theorem CM_mono {S SJ ff S' SJ' ff' : List Nat} {x y : St_} (h : CM_ S SJ ff x y) (h1 : ∀ o, o ∈ S → o ∈ S') (h2 : ∀ o, o ∈ SJ → o ∈ SJ') (h3 : ∀ f, f ∈ ff → f ∈ ff') : CM_ S' SJ' ff' x y := ⟨fm_mono h.1 (fun o ho => by
  rcases List.mem_cons.mp ho with z | z
  · exact List.mem_cons.mpr (Or.inl z)
  · exact List.mem_cons.mpr (Or.inr (h1 o z))) (fun o ho => by
  rcases List.mem_cons.mp ho with z | z
  · exact List.mem_cons.mpr (Or.inl z)
  · exact List.mem_cons.mpr (Or.inr (h2 o z))), fun f h4 h5 => h.2 f h4 (fun z => h5 (h3 f z))⟩
section AC
variable {σ μ : St_} {n : Nat} {t : Nat → Nat} {L κ pl e c b p a : Nat} {B P : Nat → Nat → Nat}
theorem cb_n0 {R r : Nat} (hR : 2 ≤ R) (hR9 : R ≤ 9) (hr : r < R) : cb_ (2 ^ R - 1) r ≠ 0 := by
  obtain ⟨j, hj, hjr⟩ : ∃ j, j < R ∧ j ≠ r := by
    by_cases h : r = 0
    · exact ⟨1, by omega, by omega⟩
    · exact ⟨0, by omega, by omega⟩
  intro z
  have : (cb_ (2 ^ R - 1) r).testBit j = true := by
    unfold cb_
    rw [Nat.testBit_and, Nat.testBit_two_pow_sub_one, Nat.testBit_xor, show (65535 : Nat) = 2 ^ 16 - 1 from rfl, Nat.testBit_two_pow_sub_one, Nat.testBit_two_pow, decide_eq_true hj, decide_eq_true (show j < 16 by omega), decide_eq_false (fun z => hjr z.symm)]
    rfl
  rw [z, Nat.zero_testBit] at this
  exact absurd this (by decide)
theorem le_pair {r : Nat} (h : PR_ σ μ n t L κ pl e c) (hb : isB b) (hC : CB_ σ b B) (hx : RX_ μ B) (hr : r < B 0 1) : LQs_ b r 0 0 B n t L σ μ (fun o => f_X6_readListeners KC [.ref 1, .ref b, .int (nI r)] σ = some o) (fun u => f_X12_readListeners KC [.ref 219, .int (nI r)] μ = some u) := by
  have hTC := h.2.2.2.2.1
  have hT := h.2.2.2.1
  have hκ := hT.1
  have hO := hx.2
  have hb16 := BO_c hO
  have hall := m_isWord (k := 10) hT h.2.2.2.2.2 (by omega)
  rw [show kk_ 10 = 14 from rfl] at hall
  have hbk := isB_ge hb
  by_cases h14 : κ = 14
  · rw [if_pos h14] at hall
    have hR2 : 2 ^ B 0 1 ≤ 2 ^ 9 := Nat.pow_le_pow_right (by decide) hb16.2
    have hR1 : 1 ≤ 2 ^ B 0 1 := Nat.two_pow_pos _
    have hexp : (((1 : Int32) <<< (nI (B 0 1) &&& 31)) - (1 : Int32)) &&& (((1 : Int32) <<< (nI r &&& 31)) ^^^ (-1 : Int32)) = nI (cb_ (2 ^ B 0 1 - 1) r) := by
      rw [show (1 : Int32) <<< (nI (B 0 1) &&& 31) = nI (2 ^ B 0 1) from sh_1 (by omega), show (1 : Int32) <<< (nI r &&& 31) = nI (2 ^ r) from sh_1 (by omega), show (1 : Int32) = nI 1 from rfl, pk_sub hR1]
      exact cb_nI (by omega) (by omega)
    have hlec := cb_le (2 ^ B 0 1 - 1) r
    by_cases h1 : B 0 1 ≤ 1
    · -- there are no others
      have hR : B 0 1 = 1 := by omega
      have hr0 : r = 0 := by omega
      obtain ⟨⟨σ', g1, g2, g3, g4⟩, ⟨μ', k1, k2, k3, k4⟩, hpl⟩ := fail_both 1 h (by omega) (by omega) (by omega)
      refine Or.inl ⟨σ', μ', z_X6_readListeners (e_X6_readListeners_0 hb (pk_eq κ 14 (fun _ => pk_le (B 0 1) 1 (fun _ => pk_eq κ 2 (fun z => by omega) (fun _ => ⟨0, σ', g1, Or.inl rfl, rfl⟩) hTC.1) (fun z => by omega) hC.1.2.1) (fun z => absurd h14 z) hTC.1)), z_X12_readListeners (e_X12_readListeners_0 ⟨1, μ, hall, br_f (by decide) ⟨_, μ, m_readers hx, br_t ?_ ⟨0, μ', k1, Or.inl rfl, rfl⟩⟩⟩), ⟨1, pl, by omega, by omega, hpl, g3, k3, g4, k4⟩, g2, k2⟩
      rw [hexp, hR, hr0]
      decide
    · obtain ⟨κ1, pl1, e1, c1, σ1, μ1, a1, a2, a3, ⟨a4, -⟩, ⟨a5, -⟩, a6⟩ := adv h (by omega)
      have hn0 := cb_n0 (R := B 0 1) (r := r) (by omega) hb16.2 hr
      have hz : ¬ (((1 : Int32) <<< (nI (B 0 1) &&& 31)) - (1 : Int32)) &&& (((1 : Int32) <<< (nI r &&& 31)) ^^^ (-1 : Int32)) = 0 := fun z => by
        rw [hexp] at z
        exact hn0 ((nI_eq (by omega) (by omega)).mp z)
      refine Or.inr ⟨cb_ (2 ^ B 0 1 - 1) r, κ1, pl1, e1, c1, σ1, μ1, z_X6_readListeners (e_X6_readListeners_0 hb (pk_eq κ 14 (fun _ => pk_le (B 0 1) 1 (fun z => by omega) (fun _ => ⟨σ1, a1, ?_⟩) hC.1.2.1) (fun z => absurd h14 z) hTC.1)), a3, by omega, a4, a5, a6, ?_⟩
      · rw [show σ1.1 b 12 = nI (B 0 1) by rw [a4.1.1 b (by simp <;> omega)]; exact hC.1.2.1, hexp]
      · exact Or.inl (z_X12_readListeners (e_X12_readListeners_0 ⟨1, μ, hall, br_f (by decide) ⟨_, μ, m_readers hx, br_f hz ⟨μ1, a2, by rw [hexp]⟩⟩⟩))
  · rw [if_neg h14] at hall
    by_cases h2 : κ = 2
    · have h0 : fb_ct (fun k => Nat.testBit 0 k) (B 0 1) = 0 := fb_ct_zero.mpr (fun k _ => Nat.zero_testBit k)
      have hcls : ∀ out, Ev_ (P_X6_readListeners KC) 60 [some (.ref 1), some (.ref b), some (.int (nI r)), some (.int (nI 0)), some (.int (nI 0)), none] [] σ out → f_X6_readListeners KC [.ref 1, .ref b, .int (nI r)] σ = some out := fun out q => z_X6_readListeners (e_X6_readListeners_0 hb (pk_eq κ 14 (fun z => absurd z h14) (fun _ => pk_eq κ 2 (fun _ => q) (fun z => absurd h2 z) hTC.1) hTC.1))
      have href : ∀ out, Ev_ (P_X12_readListeners KC) 47 [some (.ref 219), some (.int (nI r)), some (.int (nI 0)), none] [] μ out → f_X12_readListeners KC [.ref 219, .int (nI r)] μ = some out := fun out q => z_X12_readListeners (e_X12_readListeners_0 ⟨0, μ, hall, br_t rfl q⟩)
      rcases ls_loop hb hr 10 0 0 κ pl e c σ μ (by omega) h h2 hC hx (Nat.two_pow_pos _) (Nat.zero_testBit r) h0 with ⟨σ2, μ2, r1, r2, r3⟩ | ⟨l2, κ2, pl2, e2, c2, σ2, μ2, r1, r2, r3, r4, r5, r6, r7⟩
      · exact Or.inl ⟨σ2, μ2, hcls _ r1, href _ r2, r3⟩
      · refine Or.inr ⟨l2, κ2, pl2, e2, c2, σ2, μ2, hcls _ r1, r2, r3, r4, r5, r6, ?_⟩
        rcases r7 with s2 | ⟨s1, μ3, s2, s3⟩
        · exact Or.inl (href _ s2)
        · exact Or.inr ⟨s1, μ3, s2, href _ s3⟩
    · obtain ⟨⟨σ', g1, g2, g3, g4⟩, ⟨μ', k1, k2, k3, k4⟩, hpl⟩ := fail_both 1 h (by omega) (by omega) (by omega)
      have hnm := m_namedR h hx
      rw [if_neg h2] at hnm
      exact Or.inl ⟨σ', μ', z_X6_readListeners (e_X6_readListeners_0 hb (pk_eq κ 14 (fun z => absurd z h14) (fun _ => pk_eq κ 2 (fun z => absurd z h2) (fun _ => ⟨0, σ', g1, Or.inl rfl, rfl⟩) hTC.1) hTC.1)), z_X12_readListeners (e_X12_readListeners_0 ⟨0, μ, hall, br_t rfl (e_X12_readListeners_47 ⟨_, μ, m_readers hx, _, μ, hnm, br_t (by decide) (br_t rfl ⟨0, μ', k1, Or.inl rfl, rfl⟩)⟩)⟩), ⟨1, pl, by omega, by omega, hpl, g3, k3, g4, k4⟩, g2, k2⟩
/-- what stands between two ACTS -/
def PI_ (σ μ : St_) (b p n : Nat) (t : Nat → Nat) (L κ pl e c : Nat) (B P : Nat → Nat → Nat) (a : Nat) : Prop := PR_ σ μ n t L κ pl e c ∧ (CB_ σ b B ∧ RX_ μ B) ∧ PC_ σ p P a ∧ AM_ μ P a ∧ PO_ B P a
def AQ_ (σ μ : St_) (b p n : Nat) (t : Nat → Nat) (L : Nat) (B : Nat → Nat → Nat) (a : Nat) : Prop :=
  (∃ σ' μ', Ev_ (P_X6_readFrom KC) 6 [some (.ref p), some (.ref 1), some (.ref b), some (.int (nI a))] [] σ (some (.int 0), σ') ∧ f_X12_readAct KC [.ref 219] μ = some (some (.int 0), μ') ∧ FT_ σ' μ' ∧ CT_ p (p + 4) σ σ' ∧ CM_ [228] [] [24] μ μ') ∨
  (∃ P' κ' pl' e' c' σ' μ', (∀ out, Ev_ (P_X6_readFrom KC) 6 [some (.ref p), some (.ref 1), some (.ref b), some (.int (nI (a + 1)))] [] σ' out → Ev_ (P_X6_readFrom KC) 6 [some (.ref p), some (.ref 1), some (.ref b), some (.int (nI a))] [] σ out) ∧ f_X12_readAct KC [.ref 219] μ = some (some (.int 1), μ') ∧ a < 60 ∧ PI_ σ' μ' b p n t L κ' pl' e' c' B P' (a + 1) ∧ CT_ p (p + 4) σ σ' ∧ CM_ [228] [] [24] μ μ' ∧ NF_ σ μ σ' μ')
theorem p_ge (hp : isP p) : 60 ≤ p := by unfold isP at hp; omega
theorem PI_SM {σ' μ' : St_} {κ' pl' e' c' : Nat} (hp : isP p) (hb : isB b) (h : PI_ σ μ b p n t L κ pl e c B P a) (hP : PR_ σ' μ' n t L κ' pl' e' c') (hs : SF_ σ σ') (hm : MF_ μ μ') : PI_ σ' μ' b p n t L κ' pl' e' c' B P a := by
  have := p_ge hp
  exact ⟨hP, ⟨CB_SF hb h.2.1.1 hs, RX_MF h.2.1.2 hm⟩, PC_cg h.2.2.1 (fun o h1 h2 => hs.1.1 o (by simp; omega)), AM_cg h.2.2.2.1 (hm.2 24 (Or.inr (by omega))) (hm.1.1 228 (by decide)), h.2.2.2.2⟩
/-- an ACT more, and its end -/
theorem add_end {r d f l : Nat} {σ0 μ0 : St_} (hp : isP p) (hb : isB b) (h : PI_ σ μ b p n t L κ pl e c B P a) (ha : a < 60) (hr : r < B 0 1) (hd : d < B 0 0) (hf : f ≤ 4) (hl : l < 2 ^ B 0 1) (f1 : CT_ p (p + 4) σ0 σ) (f2 : CM_ [228] [] [24] μ0 μ) (nf : NF_ σ0 μ0 σ μ)
    (hcls : ∀ σ' out, f_X6_add KC [.ref p, .int (nI r), .int (nI d), .int (nI f), .int (nI l)] σ = some (none, σ') → ((∃ σ2, f_X8_take KC [.ref 1, .int 59] σ' = some (some (.int 0), σ2) ∧ out = (some (.int 0), σ2)) ∨ (∃ σ2, f_X8_take KC [.ref 1, .int 59] σ' = some (some (.int 1), σ2) ∧ Ev_ (P_X6_readFrom KC) 6 [some (.ref p), some (.ref 1), some (.ref b), some (.int (nI (a + 1)))] [] σ2 out)) → Ev_ (P_X6_readFrom KC) 6 [some (.ref p), some (.ref 1), some (.ref b), some (.int (nI a))] [] σ0 out)
    (href : ∀ μ' v μ2, f_X12_addAct KC [.ref 219, .int (nI r), .int (nI d), .int (nI f), .int (nI l)] μ = some (some (.int (nI 1)), μ') → f_X12_readEnd KC [.ref 219] μ' = some (some (.int v), μ2) → (v = 0 ∨ v = 1) → f_X12_readAct KC [.ref 219] μ0 = some (some (.int v), μ2)) : AQ_ σ0 μ0 b p n t L B a := by
  have gp := p_ge hp
  have gb := isB_ge hb
  obtain ⟨hP, ⟨hC, hx⟩, hpc, ham, hpo⟩ := h
  obtain ⟨σ', a1, a2, a3⟩ := c_add (r := r) (c := d) (f := f) (l := l) hp hpc (by omega)
  obtain ⟨μ', b1, b2, b3, b4⟩ := m_addAct (r := r) (c := d) (f := f) (l := l) ham (by omega)
  have row : ∀ o, ¬ (p ≤ o ∧ o ≤ p + 4) → σ'.1 o = σ.1 o := fun o ho => a3.1 o (by simp; omega)
  have ct : CT_ p (p + 4) σ σ' := ⟨fun o _ h2 => row o h2, a3.2⟩
  have cm : CM_ [228] [] [24] μ μ' := ⟨fr_fm (fr_mono b3 (by simp)), fun f _ hf => b4 f hf⟩
  have hP' : PR_ σ' μ' n t L κ pl e c := PR_cg hP (fun f _ _ => by rw [row 1 (by omega)]) (row 2 (by omega)) (row 3 (by omega)) (fun f h1 h2 => b4 f (by simp; omega)) (b3.1 220 (by decide)) (by rw [b3.2])
  have hbp : ∀ o, b ≤ o → o ≤ b + 27 → ¬ (p ≤ o ∧ o ≤ p + 4) := fun o o1 o2 => by unfold isB at hb; unfold isP at hp; omega
  have hI : PI_ σ' μ' b p n t L κ pl e c B (pu_ P a r d f l) (a + 1) := ⟨hP', ⟨CB_row hb hC (fun o o1 o2 => row o (hbp o o1 o2)) hx.2, RX_fr hx b3 (by decide)⟩, a2, b2, PO_pu hpo (by omega) hr hd hf hl⟩
  rcases end_pair hP' with ⟨σ2, μ2, q1, q2, ft, s1, s2⟩ | ⟨κ2, pl2, e2, c2, σ2, μ2, q1, q2, p2, s1, s2, n2⟩
  · exact Or.inl ⟨σ2, μ2, hcls σ' _ a1 (Or.inl ⟨σ2, q1, rfl⟩), href μ' 0 μ2 b1 q2 (Or.inl rfl), ft, CT_tr f1 (CT_tr ct (CT_SF s1)), CM_tr f2 (CM_tr cm (CM_MF s2))⟩
  · refine Or.inr ⟨_, κ2, pl2, e2, c2, σ2, μ2, fun out q => hcls σ' _ a1 (Or.inr ⟨σ2, q1, q⟩), href μ' 1 μ2 b1 q2 (Or.inr rfl), ha, PI_SM hp hb hI p2 s1 s2, CT_tr f1 (CT_tr ct (CT_SF s1)), CM_tr f2 (CM_tr cm (CM_MF s2)), ?_, ?_⟩
    · rw [n2.1, row 1 (by omega), nf.1]
    · rw [n2.2, b4 10 (by decide), nf.2]
theorem act_both (hp : isP p) (hb : isB b) (h : PI_ σ μ b p n t L κ pl e c B P a) (h0 : κ ≠ 0) (ha : a ≤ 60) : AQ_ σ μ b p n t L B a := by
  have gp := p_ge hp
  have gb := isB_ge hb
  obtain ⟨hP, ⟨hC, hx⟩, hpc, ham, hpo⟩ := id h
  have hTC := hP.2.2.2.2.1
  have hT := hP.2.2.2.1
  have hκ := hT.1
  have hO := hx.2
  have hb16 := BO_c hO
  have hnm : f_X12_named KC [.ref 219, .int 16, .int (nI (B 0 1))] μ = _ := m_namedR hP hx
  have hrd := m_readers hx
  have k0 : ¬ σ.1 1 6 = 0 := fun z => h0 ((nI_eq (by omega) (by omega)).mp (hTC.1.symm.trans z))
  have c0 : ∀ σ', f_X6_readAct KC [.ref p, .ref 1, .ref b] σ = some (some (.int 0), σ') → Ev_ (P_X6_readFrom KC) 6 [some (.ref p), some (.ref 1), some (.ref b), some (.int (nI a))] [] σ (some (.int 0), σ') := fun σ' q => e_X6_readFrom_6 hp hb (pk_lt 60 a (fun z => by omega) (fun _ => br_f k0 ⟨0, σ', q, br_t rfl rfl⟩))
  have c1 : ∀ σ' out, f_X6_readAct KC [.ref p, .ref 1, .ref b] σ = some (some (.int 1), σ') → ((∃ σ2, f_X8_take KC [.ref 1, .int 59] σ' = some (some (.int 0), σ2) ∧ out = (some (.int 0), σ2)) ∨ (∃ σ2, f_X8_take KC [.ref 1, .int 59] σ' = some (some (.int 1), σ2) ∧ Ev_ (P_X6_readFrom KC) 6 [some (.ref p), some (.ref 1), some (.ref b), some (.int (nI (a + 1)))] [] σ2 out)) → Ev_ (P_X6_readFrom KC) 6 [some (.ref p), some (.ref 1), some (.ref b), some (.int (nI a))] [] σ out := by
    intro σ' out q r
    refine e_X6_readFrom_6 hp hb (pk_lt 60 a (fun z => by omega) (fun _ => br_f k0 ⟨1, σ', q, br_f (by decide) ?_⟩))
    rcases r with ⟨σ2, r1, r2⟩ | ⟨σ2, r1, r2⟩
    · exact ⟨0, σ2, r1, br_t rfl r2⟩
    · exact ⟨1, σ2, r1, br_f (by decide) (by rw [nI_1]; exact r2)⟩
  -- both fail at this TOKEN
  have both : ∀ k, 1 ≤ k → k ≤ 4 → (κ = 1 → k = 1) → (∀ σ', f_X8_fail KC [.ref 1, .int (nI k)] σ = some (some (.int 0), σ') → f_X6_readAct KC [.ref p, .ref 1, .ref b] σ = some (some (.int 0), σ')) → (∀ μ', f_X12_bad KC [.ref 219, .int (nI k)] μ = some (some (.int 0), μ') → f_X12_readAct KC [.ref 219] μ = some (some (.int 0), μ')) → AQ_ σ μ b p n t L B a := by
    intro k hk hk4 hk1 q1 q2
    obtain ⟨⟨σ', g1, g2, g3, g4⟩, ⟨μ', k1, k2, k3, k4⟩, hpl⟩ := fail_both k hP hk hk4 hk1
    exact Or.inl ⟨σ', μ', c0 _ (q1 _ g1), q2 _ k1, ⟨k, pl, hk, hk4, hpl, g3, k3, g4, k4⟩, CT_SF g2, CM_MF k2⟩
  by_cases h2 : κ = 2
  · rw [if_pos h2] at hnm
    obtain ⟨hok, -⟩ := hT.2.2.2.2.1 (Or.inl h2)
    have hlt := okc_lt hok
    have hv : σ.1 1 7 = nI c := hTC.2.2.2 (by omega) (by omega)
    have hrn := c_readerNamed (v := c) hb hC hO (by omega)
    cases hi : idx_ (B 10) c (B 0 1) 0 with
    | none =>
      rw [hi] at hrn hnm
      exact both 3 (by omega) (by omega) (by omega) (fun σ' g1 => z_X6_readAct (e_X6_readAct_0 hp hb (pk_eq κ 2 (fun _ => ⟨_, σ, by rw [hv]; exact hrn, br_t rfl ⟨0, σ', g1, Or.inl rfl, rfl⟩⟩) (fun z => absurd h2 z) hTC.1))) (fun μ' k1 => z_X12_readAct (e_X12_readAct_0 ⟨_, μ, hrd, _, μ, hnm, br_f (by decide) (br_t rfl ⟨0, μ', k1, Or.inl rfl, rfl⟩)⟩))
    | some r =>
      have hr := idx_lt _ _ _ hi
      have hr1 : r < B 0 1 := by omega
      rw [hi, show on_ (some r) = nI r from rfl] at hrn hnm
      have hrm : ¬ nI r = -1 := nI_m1 (by omega)
      have hr0 : (0 : Int32) ≤ nI r := nI_le0 (by omega)
      by_cases h60 : a = 60
      · exact both 4 (by omega) (by omega) (by omega) (fun σ' g1 => z_X6_readAct (e_X6_readAct_0 hp hb (pk_eq κ 2 (fun _ => ⟨_, σ, by rw [hv]; exact hrn, br_f hrm (pk_lt a 60 (fun z => by omega) (fun _ => ⟨0, σ', g1, Or.inl rfl, rfl⟩) hpc.1)⟩) (fun z => absurd h2 z) hTC.1))) (fun μ' k1 => z_X12_readAct (e_X12_readAct_0 ⟨_, μ, hrd, _, μ, hnm, br_t hr0 (pk_eq a 60 (fun _ => ⟨0, μ', k1, Or.inl rfl, rfl⟩) (fun z => absurd h60 z) ham.1)⟩))
      · obtain ⟨κ1, pl1, e1, cc1, σ1, μ1, a1, a2, a3, ⟨a4, -⟩, ⟨a5, -⟩, a6⟩ := adv hP (by omega)
        have hI1 := PI_SM hp hb h a3 a4 a5
        have hT1 := a3.2.2.2.1
        have hTC1 := a3.2.2.2.2.1
        have hκ1 := hT1.1
        have hx1 := hI1.2.1.2
        have hC1 := hI1.2.1.1
        have w8 := m_isWord (k := 8) hT1 a3.2.2.2.2.2 (by omega)
        rw [show kk_ 8 = 12 from rfl] at w8
        have w7 := m_isWord (k := 7) hT1 a3.2.2.2.2.2 (by omega)
        rw [show kk_ 7 = 11 from rfl] at w7
        -- the class, behind the READER
        have cr : ∀ (v : Int32) (σ' : St_), (v = 0 ∨ v = 1) → κ1 = 11 → f_X6_readReading KC [.ref p, .ref 1, .ref b, .int (nI r)] σ1 = some (some (.int v), σ') → f_X6_readAct KC [.ref p, .ref 1, .ref b] σ = some (some (.int v), σ') := fun v σ' hv1 hk q => z_X6_readAct (e_X6_readAct_0 hp hb (pk_eq κ 2 (fun _ => ⟨_, σ, by rw [hv]; exact hrn, br_f hrm (pk_lt a 60 (fun _ => ⟨σ1, a1, pk_eq κ1 11 (fun _ => ⟨v, σ', q, hv1, rfl⟩) (fun z => absurd hk z) hTC1.1⟩) (fun z => by omega) hpc.1)⟩) (fun z => absurd h2 z) hTC.1))
        have ct : ∀ (v : Int32) (σ' : St_), (v = 0 ∨ v = 1) → κ1 ≠ 11 → f_X6_readTelling KC [.ref p, .ref 1, .ref b, .int (nI r)] σ1 = some (some (.int v), σ') → f_X6_readAct KC [.ref p, .ref 1, .ref b] σ = some (some (.int v), σ') := fun v σ' hv1 hk q => z_X6_readAct (e_X6_readAct_0 hp hb (pk_eq κ 2 (fun _ => ⟨_, σ, by rw [hv]; exact hrn, br_f hrm (pk_lt a 60 (fun _ => ⟨σ1, a1, pk_eq κ1 11 (fun z => absurd z hk) (fun _ => ⟨v, σ', q, hv1, rfl⟩) hTC1.1⟩) (fun z => by omega) hpc.1)⟩) (fun z => absurd h2 z) hTC.1))
        -- the reference
        have mr : ∀ out, (∃ (v8 : Int32), v8 = (if κ1 = 12 then 1 else 0) ∧ ((v8 = 0 → ∃ (v7 : Int32), v7 = (if κ1 = 11 then 1 else 0) ∧ ((v7 = 0 → ∃ (v : Int32) (μ' : St_), f_X12_bad KC [.ref 219, .int 1] μ1 = some (some (.int v), μ') ∧ (v = 0 ∨ v = 1) ∧ out = (some (.int v), μ')) ∧ (¬ v7 = 0 → Ev_ (P_X12_readAct KC) 75 [some (.ref 219), some (.int (nI r)), some (.int v8), none, none] [] μ1 out))) ∧ (¬ v8 = 0 → Ev_ (P_X12_readAct KC) 75 [some (.ref 219), some (.int (nI r)), some (.int v8), none, none] [] μ1 out))) → f_X12_readAct KC [.ref 219] μ = some out := by
          rintro out ⟨v8, e8, q1, q2⟩
          refine z_X12_readAct (e_X12_readAct_0 ⟨_, μ, hrd, _, μ, hnm, br_t hr0 (pk_eq a 60 (fun z => absurd z h60) (fun _ => ⟨μ1, a2, v8, μ1, by rw [e8]; exact w8, fun z => ?_, q2⟩) ham.1)⟩)
          obtain ⟨v7, e7, r1, r2⟩ := q1 z
          exact ⟨v7, μ1, by rw [e7]; exact w7, r1, r2⟩
        by_cases k11 : κ1 = 11
        · -- it READS
          obtain ⟨κ2, pl2, e2, c2, σ2, μ2, b1, b2, b3, ⟨b4, -⟩, ⟨b5, -⟩, b6⟩ := take_ok a3 (by omega)
          rw [k11] at b1
          have hI2 := PI_SM hp hb hI1 b3 b4 b5
          have mr75 : ∀ out, Ev_ (P_X12_readAct KC) 75 [some (.ref 219), some (.int (nI r)), some (.int 0), none, none] [] μ1 out → f_X12_readAct KC [.ref 219] μ = some out := fun out q => mr out ⟨0, by rw [if_neg (by omega)], fun _ => ⟨1, by rw [if_pos k11], fun z => absurd z (by decide), fun _ => q⟩, fun z => absurd rfl z⟩
          rcases ct_pair b3 hb hI2.2.1.1 hI2.2.1.2 with ⟨σ3, μ3, d1, d2, ft, s1, s2⟩ | ⟨d, κ3, pl3, e3, c3, σ3, μ3, d1, d2, hd, p3, t1, t2, s1, s2, n3⟩
          · exact Or.inl ⟨σ3, μ3, c0 _ (cr 0 σ3 (Or.inl rfl) k11 (z_X6_readReading (e_X6_readReading_0 hp hb ⟨1, σ2, b1, br_f (by decide) ⟨0, σ3, d1, br_t rfl rfl⟩⟩))), mr75 _ (e_X12_readAct_75 ⟨μ2, b2, _, μ2, m_chaps hI2.2.1.2, 0, μ3, d2, br_t rfl rfl⟩), ft, CT_SF (SF_tr a4 (SF_tr b4 s1)), CM_MF (MF_tr a5 (MF_tr b5 s2))⟩
          · have hI3 := PI_SM hp hb hI2 p3 s1 s2
            refine add_end (r := r) (d := d) (f := 0) (l := 0) hp hb hI3 (by omega) hr1 hd (by omega) (Nat.two_pow_pos _) (CT_SF (SF_tr a4 (SF_tr b4 s1))) (CM_MF (MF_tr a5 (MF_tr b5 s2))) ⟨n3.1.trans (b6.1.trans a6.1), n3.2.trans (b6.2.trans a6.2)⟩ (fun σ' out q r1 => c1 σ' out (cr 1 σ' (Or.inr rfl) k11 (z_X6_readReading (e_X6_readReading_0 hp hb ⟨1, σ2, b1, br_f (by decide) ⟨1, σ3, d1, br_f (by decide) ⟨σ', by rw [t1]; exact q, rfl⟩⟩⟩))) r1) (fun μ' v μ4 q1 q2 hv2 => mr75 _ (e_X12_readAct_75 ⟨μ2, b2, _, μ2, m_chaps hI2.2.1.2, 1, μ3, d2, br_f (by decide) (br_t rfl ⟨_, μ', by rw [t2]; exact q1, v, μ4, q2, hv2, rfl⟩)⟩))
        · by_cases k12 : κ1 = 12
          · -- it TELLS
            obtain ⟨κ2, pl2, e2, c2, σ2, μ2, b1, b2, b3, ⟨b4, -⟩, ⟨b5, -⟩, b6⟩ := take_ok a3 (by omega)
            rw [k12] at b1
            have hI2 := PI_SM hp hb hI1 b3 b4 b5
            have mr75 : ∀ out, Ev_ (P_X12_readAct KC) 75 [some (.ref 219), some (.int (nI r)), some (.int 1), none, none] [] μ1 out → f_X12_readAct KC [.ref 219] μ = some out := fun out q => mr out ⟨1, by rw [if_pos k12], fun z => absurd z (by decide), fun _ => q⟩
            rcases ct_pair b3 hb hI2.2.1.1 hI2.2.1.2 with ⟨σ3, μ3, d1, d2, ft, s1, s2⟩ | ⟨d, κ3, pl3, e3, c3, σ3, μ3, d1, d2, hd, p3, t1, t2, s1, s2, n3⟩
            · exact Or.inl ⟨σ3, μ3, c0 _ (ct 0 σ3 (Or.inl rfl) k11 (z_X6_readTelling (e_X6_readTelling_0 hp hb ⟨1, σ2, b1, br_f (by decide) ⟨0, σ3, d1, br_t rfl rfl⟩⟩))), mr75 _ (e_X12_readAct_75 ⟨μ2, b2, _, μ2, m_chaps hI2.2.1.2, 0, μ3, d2, br_t rfl rfl⟩), ft, CT_SF (SF_tr a4 (SF_tr b4 s1)), CM_MF (MF_tr a5 (MF_tr b5 s2))⟩
            · have hI3 := PI_SM hp hb hI2 p3 s1 s2
              have fS3 := SF_tr a4 (SF_tr b4 s1)
              have fM3 := MF_tr a5 (MF_tr b5 s2)
              have hc3 : ∀ out, (∃ (v6 : Int32) (σ5 : St_), f_X8_takeNumber KC [.ref 1, .int (1 : Int32), .int (4 : Int32)] σ3 = some (some (.int v6), σ5) ∧ _) → f_X6_readTelling KC [.ref p, .ref 1, .ref b, .int (nI r)] σ1 = some out := fun out q => z_X6_readTelling (e_X6_readTelling_0 hp hb ⟨1, σ2, b1, br_f (by decide) ⟨1, σ3, d1, br_f (by decide) q⟩⟩)
              have hm3 : ∀ out, (∃ (v11 : Int32) (σ10 : St_), f_X12_readNumber KC [.ref 219, .int (1 : Int32), .int (4 : Int32)] μ3 = some (some (.int v11), σ10) ∧ _) → f_X12_readAct KC [.ref 219] μ = some out := fun out q => mr75 _ (e_X12_readAct_75 ⟨μ2, b2, _, μ2, m_chaps hI2.2.1.2, 1, μ3, d2, br_f (by decide) (br_f (by decide) q)⟩)
              rcases num_pair 1 4 p3 (by omega) (by omega) with ⟨σ4, μ4, g1, g2, ft, s3, s4⟩ | ⟨κ4, pl4, e4, c4, σ4, μ4, g1, g2, ⟨-, l1⟩, l2, p4, t3, t4, s3, s4, n4⟩
              · exact Or.inl ⟨σ4, μ4, c0 _ (ct 0 σ4 (Or.inl rfl) k11 (hc3 _ ⟨0, σ4, g1, br_t rfl rfl⟩)), hm3 _ ⟨0, μ4, g2, br_t rfl rfl⟩, ft, CT_SF (SF_tr fS3 s3), CM_MF (MF_tr fM3 s4)⟩
              · have hI4 := PI_SM hp hb hI3 p4 s3 s4
                have hT4 := p4.2.2.2.1
                have w9 := m_isWord (k := 9) hT4 p4.2.2.2.2.2 (by omega)
                rw [show kk_ 9 = 13 from rfl] at w9
                by_cases k13 : κ4 = 13
                · rw [if_pos k13] at w9
                  obtain ⟨κ5, pl5, e5, c5, σ5, μ5, f1, f2, f3, ⟨f4, -⟩, ⟨f5, -⟩, f6⟩ := take_ok p4 (by omega)
                  rw [k13] at f1
                  have hI5 := PI_SM hp hb hI4 f3 f4 f5
                  have fS5 := SF_tr fS3 (SF_tr s3 f4)
                  have fM5 := MF_tr fM3 (MF_tr s4 f5)
                  rcases le_pair f3 hb hI5.2.1.1 hI5.2.1.2 hr1 with ⟨σ6, μ6, u1, u2, ft, s5, s6⟩ | ⟨l, κ6, pl6, e6, c6, σ6, μ6, u1, p6, hl, s5, s6, n6, u2⟩
                  · exact Or.inl ⟨σ6, μ6, c0 _ (ct 0 σ6 (Or.inl rfl) k11 (hc3 _ ⟨1, σ4, g1, br_f (by decide) ⟨1, σ5, f1, br_f (by decide) ⟨0, σ6, u1, br_t rfl rfl⟩⟩⟩)), hm3 _ ⟨1, μ4, g2, br_f (by decide) ⟨1, μ4, w9, br_f (by decide) ⟨μ5, f2, 0, μ6, u2, br_t rfl rfl⟩⟩⟩, ft, CT_SF (SF_tr fS5 s5), CM_MF (MF_tr fM5 s6)⟩
                  · have hI6 := PI_SM hp hb hI5 p6 s5 s6
                    have hcls : ∀ σ' out, f_X6_add KC [.ref p, .int (nI r), .int (nI d), .int (nI c3), .int (nI l)] (sI_ σ6 1 8 (nI l)) = some (none, σ') → ((∃ σ2, f_X8_take KC [.ref 1, .int 59] σ' = some (some (.int 0), σ2) ∧ out = (some (.int 0), σ2)) ∨ (∃ σ2, f_X8_take KC [.ref 1, .int 59] σ' = some (some (.int 1), σ2) ∧ Ev_ (P_X6_readFrom KC) 6 [some (.ref p), some (.ref 1), some (.ref b), some (.int (nI (a + 1)))] [] σ2 out)) → Ev_ (P_X6_readFrom KC) 6 [some (.ref p), some (.ref 1), some (.ref b), some (.int (nI a))] [] σ out := by
                      intro σ' out q r1
                      refine c1 σ' out (ct 1 σ' (Or.inr rfl) k11 (hc3 _ ⟨1, σ4, g1, br_f (by decide) ⟨1, σ5, f1, br_f (by decide) ⟨1, _, u1, br_f (by decide) ⟨σ', ?_, rfl⟩⟩⟩⟩)) r1
                      rw [t1, t3, sI_at, if_pos ⟨rfl, rfl⟩]
                      exact q
                    rcases u2 with u2 | ⟨k59, μ7, u2, u3⟩
                    · have hI7 : PI_ (sI_ σ6 1 8 (nI l)) (sI_ μ6 219 13 (nI l)) b p n t L κ6 pl6 e6 c6 B P a := PI_SM hp hb hI6 (PR_13 (PR_8 p6 _) _) (SF_8 _ _) ⟨fm_sI (by simp), fun f hf => by simp [sI_at, show ¬ f = 13 by omega]⟩
                      have fM7 : MF_ μ (sI_ μ6 219 13 (nI l)) := MF_tr fM5 (MF_tr s6 ⟨fm_sI (by simp), fun f hf => by simp [sI_at, show ¬ f = 13 by omega]⟩)
                      refine add_end (r := r) (d := d) (f := c3) (l := l) hp hb hI7 (by omega) hr1 hd l2 hl (CT_SF (SF_tr fS5 (SF_tr s5 (SF_8 _ _)))) (CM_MF fM7) ⟨?_, ?_⟩ hcls (fun μ' v μ8 q1 q2 hv2 => hm3 _ ⟨1, μ4, g2, br_f (by decide) ⟨1, μ4, w9, br_f (by decide) ⟨μ5, f2, 1, _, u2, br_f (by decide) ⟨nI 1, μ', ?_, v, μ8, q2, hv2, rfl⟩⟩⟩⟩)
                      · rw [sI_at, if_neg (by omega), n6.1, f6.1, n4.1, n3.1, b6.1, a6.1]
                      · rw [sI_at, if_neg (by omega), n6.2, f6.2, n4.2, n3.2, b6.2, a6.2]
                      · rw [t2, t4, sI_at, if_pos ⟨rfl, rfl⟩]
                        exact q1
                    · -- the class goes on to the next TOKEN, which is no ';'
                      obtain ⟨-, ⟨μ9, x1, x2, x3, x4⟩, hpl⟩ := fail_both 1 p6 (by omega) (by omega) (by omega)
                      have e79 : μ9 = μ7 := by
                        have := x1.symm.trans u2
                        simp only [Option.some.injEq, Prod.mk.injEq, true_and] at this
                        exact this
                      subst e79
                      obtain ⟨σ7, y1, y2, y3⟩ := c_add (r := r) (c := d) (f := c3) (l := l) hp (PC_cg (σ' := sI_ σ6 1 8 (nI l)) hI6.2.2.1 (fun o h1 h2 => sI_row _ _ _ _ (by omega))) (by omega)
                      have p7 : PR_ σ7 μ6 n t L κ6 pl6 e6 c6 := PR_cg (PR_8 p6 (nI l)) (fun f _ _ => by rw [y3.1 1 (by simp; omega)]) (y3.1 2 (by simp; omega)) (y3.1 3 (by simp; omega)) (fun _ _ _ => rfl) rfl rfl
                      obtain ⟨⟨σ8, z1, z2, z3, z4⟩, -, -⟩ := take_no 59 p7 k59 (by omega)
                      refine Or.inl ⟨σ8, μ9, hcls σ7 _ y1 (Or.inl ⟨σ8, z1, rfl⟩), hm3 _ ⟨1, μ4, g2, br_f (by decide) ⟨1, μ4, w9, br_f (by decide) ⟨μ5, f2, 0, μ9, u3, br_t rfl rfl⟩⟩⟩, ⟨1, pl6, by omega, by omega, hpl, z3, x3, z4, x4⟩, CT_tr (CT_SF (SF_tr fS5 (SF_tr s5 (SF_8 _ _)))) (CT_tr ⟨fun o _ h2 => y3.1 o (by simp; omega), y3.2⟩ (CT_SF z2)), CM_MF (MF_tr fM5 (MF_tr s6 x2))⟩
                · rw [if_neg k13] at w9
                  obtain ⟨⟨σ5, z1, z2, z3, z4⟩, ⟨μ5, x1, x2, x3, x4⟩, hpl⟩ := take_no 13 p4 k13 (by omega)
                  exact Or.inl ⟨σ5, μ5, c0 _ (ct 0 σ5 (Or.inl rfl) k11 (hc3 _ ⟨1, σ4, g1, br_f (by decide) ⟨0, σ5, z1, br_t rfl rfl⟩⟩)), hm3 _ ⟨1, μ4, g2, br_f (by decide) ⟨0, μ4, w9, br_t rfl ⟨0, μ5, x1, Or.inl rfl, rfl⟩⟩⟩, ⟨1, pl4, by omega, by omega, hpl, z3, x3, z4, x4⟩, CT_SF (SF_tr fS3 (SF_tr s3 z2)), CM_MF (MF_tr fM3 (MF_tr s4 x2))⟩
          · obtain ⟨⟨σ2, z1, z2, z3, z4⟩, ⟨μ2, x1, x2, x3, x4⟩, hpl⟩ := take_no 12 a3 k12 (by omega)
            exact Or.inl ⟨σ2, μ2, c0 _ (ct 0 σ2 (Or.inl rfl) k11 (z_X6_readTelling (e_X6_readTelling_0 hp hb ⟨0, σ2, z1, br_t rfl rfl⟩))), mr _ ⟨0, by rw [if_neg k12], fun _ => ⟨0, by rw [if_neg k11], fun _ => ⟨0, μ2, x1, Or.inl rfl, rfl⟩, fun z => absurd rfl z⟩, fun z => absurd rfl z⟩, ⟨1, pl1, by omega, by omega, hpl, z3, x3, z4, x4⟩, CT_SF (SF_tr a4 z2), CM_MF (MF_tr a5 x2)⟩
  · rw [if_neg h2] at hnm
    exact both 1 (by omega) (by omega) (by omega) (fun σ' g1 => z_X6_readAct (e_X6_readAct_0 hp hb (pk_eq κ 2 (fun z => absurd z h2) (fun _ => ⟨0, σ', g1, Or.inl rfl, rfl⟩) hTC.1))) (fun μ' k1 => z_X12_readAct (e_X12_readAct_0 ⟨_, μ, hrd, _, μ, hnm, br_f (by decide) (br_f (by decide) ⟨0, μ', k1, Or.inl rfl, rfl⟩)⟩))
end AC
