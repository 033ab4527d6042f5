/-! a LINE, on both sides -/
theorem BF_mono {b : Nat} {ff gg : List Nat} {x y : St_} (h : BF_ b ff x y) (hs : ∀ f, f ∈ ff → f ∈ gg) : BF_ b gg x y := ⟨h.1, h.2.1, h.2.2.1, fun f hf => h.2.2.2 f (fun z => hf (hs f z))⟩
theorem BM_mono {ff gg : List Nat} {x y : St_} (h : BM_ ff x y) (hs : ∀ f, f ∈ ff → f ∈ gg) : BM_ gg x y := ⟨h.1, fun f h1 hf => h.2 f h1 (fun z => hf (hs f z))⟩
/-- what stands between two LINES -/
def LI_ (σ μ : St_) (b n : Nat) (t : Nat → Nat) (L κ pl e c : Nat) (B : Nat → Nat → Nat) (hs ha N : Nat) : Prop := PR_ σ μ n t L κ pl e c ∧ (CB_ σ b B ∧ MB_ μ 222 0 225 0 B ∧ BO_ B) ∧ (hs ≤ 1 ∧ ha ≤ 1 ∧ σ.1 b 16 = nI hs ∧ σ.1 b 17 = nI ha ∧ μ.1 219 22 = nI (hd_ hs ha)) ∧ σ.1 b 13 = nI N
def bl_ : List Nat := [11, 12, 13, 14, 15, 16, 17]
def LR_ (σ μ : St_) (b n : Nat) (t : Nat → Nat) (L N i : Nat) : Prop :=
  (∃ σ' μ', Ev_ (P_X0_readFrom KC) 6 [some (.ref b), some (.ref 1), some (.int (nI i)), none] [] σ (some (.int 0), σ') ∧ f_X12_readLine KC [.ref 219] μ = some (some (.int 0), μ') ∧ FT_ σ' μ' ∧ BF_ b bl_ σ σ' ∧ BM_ [22] μ μ') ∨
  (∃ B' hs' ha' κ' pl' e' c' σ' μ', (∀ out, Ev_ (P_X0_readFrom KC) 6 [some (.ref b), some (.ref 1), some (.int (nI (i + 1))), none] [] σ' out → Ev_ (P_X0_readFrom KC) 6 [some (.ref b), some (.ref 1), some (.int (nI i)), none] [] σ out) ∧ f_X12_readLine KC [.ref 219] μ = some (some (.int 1), μ') ∧ LI_ σ' μ' b n t L κ' pl' e' c' B' hs' ha' (N + 1) ∧ (lt_ σ σ' ∧ ¬ σ.1 1 6 = nI 1) ∧ BF_ b bl_ σ σ' ∧ BM_ [22] μ μ' ∧ NF_ σ μ σ' μ')
section LINE
variable {σ μ : St_} {b n : Nat} {t : Nat → Nat} {L κ pl e c : Nat} {B : Nat → Nat → Nat} {hs ha N i : Nat}
theorem ln_fin {ff gg : List Nat} {R : (Nat → Nat → Nat) → Prop} {o u : Out_} {hs' ha' : Nat} (hb : isB b) (hff : ∀ f, f ∈ ff → f ∈ bl_) (hgg : ∀ f, f ∈ gg → f ∈ [22]) (h13 : 13 ∉ ff) (hk1 : ¬ σ.1 1 6 = nI 1) (hN : σ.1 b 13 = nI N) (hQ : LQ_ b ff gg n t L σ μ R o u)
    (hcls : ∀ (v : Int32) (out : Out_), (v = 0 ∨ v = 1) → o.1 = some (.int v) → Ev_ (P_X0_readFrom KC) 110 [some (.ref b), some (.ref 1), some (.int (nI i)), some (.int v)] [] o.2 out → Ev_ (P_X0_readFrom KC) 6 [some (.ref b), some (.ref 1), some (.int (nI i)), none] [] σ out)
    (hm0 : u.1 = some (.int 0) → f_X12_readLine KC [.ref 219] μ = some (some (.int 0), u.2)) (hm1 : ∀ (v : Int32) (μ' : St_), u.1 = some (.int 1) → f_X12_readEnd KC [.ref 219] u.2 = some (some (.int v), μ') → (v = 0 ∨ v = 1) → f_X12_readLine KC [.ref 219] μ = some (some (.int v), μ'))
    (hfl : o.1 = some (.int 1) → hs' ≤ 1 ∧ ha' ≤ 1 ∧ o.2.1 b 16 = nI hs' ∧ o.2.1 b 17 = nI ha' ∧ u.2.1 219 22 = nI (hd_ hs' ha')) : LR_ σ μ b n t L N i := by
  have hb1 := isB_ge hb
  rcases hQ with ⟨⟨o0, u0⟩, ft, f1, f2⟩ | ⟨⟨o1, u1⟩, B', κ', pl', e', c', -, hO, hC, hM, hP, f1, f2, nf, lt⟩
  · exact Or.inl ⟨o.2, u.2, hcls 0 _ (Or.inl rfl) o0 (e_X0_readFrom_110 hb (br_t rfl rfl)), hm0 u0, ft, BF_mono f1 hff, BM_mono f2 hgg⟩
  · rcases end_pair hP with ⟨σ', μ', q1, q2, ft, s1, s2⟩ | ⟨κ2, pl2, e2, c2, σ', μ', q1, q2, p2, s1, s2, n2⟩
    · refine Or.inl ⟨σ', μ', hcls 1 _ (Or.inr rfl) o1 (e_X0_readFrom_110 hb (br_f (by decide) ⟨0, σ', q1, br_t rfl rfl⟩)), hm1 0 μ' u1 q2 (Or.inl rfl), ft, BF_mono (BF_tr f1 (BF_SF hb s1)) hff, BM_mono (BM_tr f2 (BM_MF s2)) hgg⟩
    · obtain ⟨g1, g2, g3, g4, g5⟩ := hfl o1
      have r13 : σ'.1 b 13 + 1 = nI (N + 1) := by
        rw [s1.1.1 b (by simp <;> omega), f1.2.2.2 13 h13, hN]
        exact nI_1 N
      refine Or.inr ⟨B', hs', ha', κ2, pl2, e2, c2, sI_ σ' b 13 (nI (N + 1)), μ', fun out q => hcls 1 _ (Or.inr rfl) o1 (e_X0_readFrom_110 hb (br_f (by decide) ⟨1, σ', q1, br_f (by decide) ?_⟩)), hm1 1 μ' u1 q2 (Or.inr rfl), ⟨PR_b p2 (by omega) _ _, ⟨CB_k (CB_SF hb hC s1) (kC_at (by unfold rC_; omega)), MB_MF (by decide) (by decide) hM s2, hO⟩, ⟨g1, g2, ?_, ?_, ?_⟩, by rw [sI_at, if_pos ⟨rfl, rfl⟩]⟩, ⟨lt_mo lt ?_, hk1⟩, BF_tr (BF_mono (BF_tr f1 (BF_SF hb s1)) hff) (BF_sb hb (by decide)), BM_mono (BM_tr f2 (BM_MF s2)) hgg, ?_, ?_⟩
      · rw [r13, nI_1]
        exact q
      · rw [sI_at, if_neg (by omega), s1.1.1 b (by simp <;> omega)]; exact g3
      · rw [sI_at, if_neg (by omega), s1.1.1 b (by simp <;> omega)]; exact g4
      · rw [s2.2 22 (by omega)]; exact g5
      · have := s1.2.2
        unfold mo_ at this ⊢
        rw [sI_row _ _ _ _ (by omega)]
        exact this
      · rw [sI_row _ _ _ _ (by omega), n2.1, nf.1]
      · rw [n2.2, nf.2]
/-- no WORD that a LINE begins with -/
theorem ln_bad (hb : isB b) (h : LI_ σ μ b n t L κ pl e c B hs ha N) (h0 : κ ≠ 0) (hi : i < 1040) (hκ : κ ≠ 4 ∧ κ ≠ 7 ∧ κ ≠ 9 ∧ κ ≠ 10) : LR_ σ μ b n t L N i := by
  have hT := h.1.2.2.2.1
  have hC := h.1.2.2.2.2.1
  have hM := h.1.2.2.2.2.2
  have hκ64 := hT.1
  obtain ⟨⟨σ', g1, g2, g3, g4⟩, ⟨μ', k1, k2, k3, k4⟩, hpl⟩ := fail_both 1 h.1 (by omega) (by omega) (by omega)
  have t110 : Ev_ (P_X0_readFrom KC) 110 [some (.ref b), some (.ref 1), some (.int (nI i)), some (.int 0)] [] σ' (some (.int 0), σ') := e_X0_readFrom_110 hb (br_t rfl rfl)
  have no : ∀ j : Nat, j < 64 → κ ≠ j → ¬ σ.1 1 6 = nI j := fun j hj hne z => hne ((nI_eq (by omega) (by omega)).mp (hC.1.symm.trans z))
  refine Or.inl ⟨σ', μ', e_X0_readFrom_6 hb (pk_le 1040 i (fun z => by omega) (fun _ => br_f (no 0 (by omega) h0) ⟨fun _ => ⟨0, σ', g1, t110⟩, fun z => absurd z (no 4 (by omega) hκ.1), fun _ => ⟨0, σ', g1, t110⟩, fun _ => ⟨0, σ', g1, t110⟩, fun z => absurd z (no 7 (by omega) hκ.2.1), fun _ => ⟨0, σ', g1, t110⟩, fun z => absurd z (no 9 (by omega) hκ.2.2.1), fun z => absurd z (no 10 (by omega) hκ.2.2.2)⟩)), rl_go 4 hT hM (by omega) (fun j hj => ?_) (fun z => absurd z (by omega)) (e_X12_readLine_21 (br_f (by decide) ⟨0, μ', k1, Or.inl rfl, rfl⟩)), ⟨1, pl, by omega, by omega, hpl, g3, k3, g4, k4⟩, BF_SF hb g2, BM_MF k2⟩
  rcases (show j = 0 ∨ j = 1 ∨ j = 2 ∨ j = 3 by omega) with rfl | rfl | rfl | rfl
  · exact hκ.1
  · exact hκ.2.1
  · exact hκ.2.2.1
  · exact hκ.2.2.2
theorem ln_chap (hb : isB b) (h : LI_ σ μ b n t L κ pl e c B hs ha N) (hi : i < 1040) (hκ : κ = 4) : LR_ σ μ b n t L N i := by
  have hb1 := isB_ge hb
  obtain ⟨hP, ⟨hC, hM, hO⟩, ⟨l1, l2, l3, l4, l5⟩, hN⟩ := h
  have hT := hP.2.2.2.1
  have hTC := hP.2.2.2.2.1
  have hTM := hP.2.2.2.2.2
  obtain ⟨o, ho, u, hu, hQ⟩ := chap_pair hP hb hC hM hO hκ
  have kk : σ.1 1 6 = nI 4 := by rw [hTC.1, hκ]
  have v01 : ∀ v : Int32, o.1 = some (.int v) → f_X0_readChap KC [.ref b, .ref 1] σ = some (some (.int v), o.2) := fun v hv => by rw [ho, ← hv]
  have w01 : ∀ v : Int32, u.1 = some (.int v) → f_X12_readChap KC [.ref 219] μ = some (some (.int v), u.2) := fun v hv => by rw [hu, ← hv]
  have no : ∀ j : Nat, j < 64 → 4 ≠ j → ¬ σ.1 1 6 = nI j := fun j hj hne z => hne ((nI_eq (by omega) (by omega)).mp (kk.symm.trans z))
  have frm : (BF_ b [11] σ o.2 ∧ BM_ [] μ u.2) := by
    rcases hQ with ⟨_, _, f1, f2⟩ | ⟨_, B', κ', pl', e', c', _, _, _, _, _, f1, f2, _⟩
    · exact ⟨f1, f2⟩
    · exact ⟨f1, f2⟩
  refine ln_fin (hs' := hs) (ha' := ha) hb (by decide) (by decide) (by decide) (no 1 (by omega) (by omega)) hN hQ (fun v out hv hov q => ?_) (fun z => ?_) (fun v μ' z q hv => ?_) (fun _ => ⟨l1, l2, ?_, ?_, ?_⟩)
  · refine e_X0_readFrom_6 hb (pk_le 1040 i (fun z => by omega) (fun _ => br_f (no 0 (by omega) (by omega)) ⟨fun z => ?_, fun _ => ⟨v, o.2, v01 v hov, q⟩, fun z => absurd z (no 5 (by omega) (by omega)), fun z => absurd z (no 6 (by omega) (by omega)), fun z => absurd z (no 7 (by omega) (by omega)), fun z => absurd z (no 8 (by omega) (by omega)), fun z => absurd z (no 9 (by omega) (by omega)), fun z => absurd z (no 10 (by omega) (by omega))⟩))
    rw [kk] at z
    exact absurd z (by decide)
  · exact rl_go 0 hT hTM (by omega) (fun j hj => absurd hj (by omega)) (fun _ => hκ) (e_X12_readLine_21 (br_t (by decide) (br_f (by decide) (br_t rfl ⟨0, u.2, w01 0 z, br_t rfl rfl⟩))))
  · refine rl_go 0 hT hTM (by omega) (fun j hj => absurd hj (by omega)) (fun _ => hκ) (e_X12_readLine_21 (br_t (by decide) (br_f (by decide) (br_t rfl ⟨1, u.2, w01 1 z, br_f (by decide) ⟨v, μ', q, ?_⟩⟩))))
    rcases hv with rfl | rfl
    · exact br_t rfl rfl
    · exact br_f (by decide) rfl
  · rw [frm.1.2.2.2 16 (by decide)]; exact l3
  · rw [frm.1.2.2.2 17 (by decide)]; exact l4
  · rw [frm.2.2 22 (by omega) (by decide)]; exact l5
theorem ln_who (hb : isB b) (h : LI_ σ μ b n t L κ pl e c B hs ha N) (hi : i < 1040) (hκ : κ = 7) : LR_ σ μ b n t L N i := by
  have hb1 := isB_ge hb
  obtain ⟨hP, ⟨hC, hM, hO⟩, ⟨l1, l2, l3, l4, l5⟩, hN⟩ := h
  have hT := hP.2.2.2.1
  have hTC := hP.2.2.2.2.1
  have hTM := hP.2.2.2.2.2
  obtain ⟨o, ho, u, hu, hQ⟩ := who_pair hP hb hC hM hO hκ
  have kk : σ.1 1 6 = nI 7 := by rw [hTC.1, hκ]
  have v01 : ∀ v : Int32, o.1 = some (.int v) → f_X0_readReader KC [.ref b, .ref 1] σ = some (some (.int v), o.2) := fun v hv => by rw [ho, ← hv]
  have w01 : ∀ v : Int32, u.1 = some (.int v) → f_X12_readWho KC [.ref 219] μ = some (some (.int v), u.2) := fun v hv => by rw [hu, ← hv]
  have no : ∀ j : Nat, j < 64 → 7 ≠ j → ¬ σ.1 1 6 = nI j := fun j hj hne z => hne ((nI_eq (by omega) (by omega)).mp (kk.symm.trans z))
  have frm : (BF_ b [12] σ o.2 ∧ BM_ [] μ u.2) := by
    rcases hQ with ⟨_, _, f1, f2⟩ | ⟨_, B', κ', pl', e', c', _, _, _, _, _, f1, f2, _⟩
    · exact ⟨f1, f2⟩
    · exact ⟨f1, f2⟩
  have k0 : ∀ j, j < 1 → κ ≠ kk_ j := fun j hj => by
    obtain rfl : j = 0 := by omega
    rw [hκ]
    decide
  refine ln_fin (hs' := hs) (ha' := ha) hb (by decide) (by decide) (by decide) (no 1 (by omega) (by omega)) hN hQ (fun v out hv hov q => ?_) (fun z => ?_) (fun v μ' z q hv => ?_) (fun _ => ⟨l1, l2, ?_, ?_, ?_⟩)
  · refine e_X0_readFrom_6 hb (pk_le 1040 i (fun z => by omega) (fun _ => br_f (no 0 (by omega) (by omega)) ⟨fun z => ?_, fun z => absurd z (no 4 (by omega) (by omega)), fun z => absurd z (no 5 (by omega) (by omega)), fun z => absurd z (no 6 (by omega) (by omega)), fun _ => ⟨v, o.2, v01 v hov, q⟩, fun z => absurd z (no 8 (by omega) (by omega)), fun z => absurd z (no 9 (by omega) (by omega)), fun z => absurd z (no 10 (by omega) (by omega))⟩))
    rw [kk] at z
    exact absurd z (by decide)
  · exact rl_go 1 hT hTM (by omega) k0 (fun _ => hκ) (e_X12_readLine_21 (br_t (by decide) (br_f (by decide) (br_f (by decide) ⟨0, u.2, w01 0 z, br_t rfl rfl⟩))))
  · refine rl_go 1 hT hTM (by omega) k0 (fun _ => hκ) (e_X12_readLine_21 (br_t (by decide) (br_f (by decide) (br_f (by decide) ⟨1, u.2, w01 1 z, br_f (by decide) ⟨v, μ', q, ?_⟩⟩))))
    rcases hv with rfl | rfl
    · exact br_t rfl rfl
    · exact br_f (by decide) rfl
  · rw [frm.1.2.2.2 16 (by decide)]; exact l3
  · rw [frm.1.2.2.2 17 (by decide)]; exact l4
  · rw [frm.2.2 22 (by omega) (by decide)]; exact l5
theorem ln_speed (hb : isB b) (h : LI_ σ μ b n t L κ pl e c B hs ha N) (hi : i < 1040) (hκ : κ = 9) : LR_ σ μ b n t L N i := by
  have hb1 := isB_ge hb
  obtain ⟨hP, ⟨hC, hM, hO⟩, ⟨l1, l2, l3, l4, l5⟩, hN⟩ := h
  have hT := hP.2.2.2.1
  have hTC := hP.2.2.2.2.1
  have hTM := hP.2.2.2.2.2
  have kk : σ.1 1 6 = nI 9 := by rw [hTC.1, hκ]
  have no : ∀ j : Nat, j < 64 → 9 ≠ j → ¬ σ.1 1 6 = nI j := fun j hj hne z => hne ((nI_eq (by omega) (by omega)).mp (kk.symm.trans z))
  have kj : ∀ j, j < 2 → κ ≠ kk_ j := fun j hj => by
    rw [hκ]
    rcases (show j = 0 ∨ j = 1 by omega) with rfl | rfl <;> decide
  have hcls : ∀ (v : Int32) (σ' : St_) (out : Out_), f_X0_readSpeed KC [.ref b, .ref 1] σ = some (some (.int v), σ') → (v = 0 ∨ v = 1) → Ev_ (P_X0_readFrom KC) 110 [some (.ref b), some (.ref 1), some (.int (nI i)), some (.int v)] [] σ' out → Ev_ (P_X0_readFrom KC) 6 [some (.ref b), some (.ref 1), some (.int (nI i)), none] [] σ out := by
    intro v σ' out hf hv q
    refine e_X0_readFrom_6 hb (pk_le 1040 i (fun z => by omega) (fun _ => br_f (no 0 (by omega) (by omega)) ⟨fun z => ?_, fun z => absurd z (no 4 (by omega) (by omega)), fun z => absurd z (no 5 (by omega) (by omega)), fun z => absurd z (no 6 (by omega) (by omega)), fun z => absurd z (no 7 (by omega) (by omega)), fun z => absurd z (no 8 (by omega) (by omega)), fun _ => ⟨v, σ', hf, q⟩, fun z => absurd z (no 10 (by omega) (by omega))⟩))
    rw [kk] at z
    exact absurd z (by decide)
  have hall := has_all ⟨hs, by omega⟩ ⟨ha, by omega⟩
  simp only at hall
  have hhas : f_X12_has KC [.int (nI (hd_ hs ha)), .int (nI 2)] μ = some (some (.int (if hs = 1 then 1 else 0)), μ) := m_has hall.1 μ
  by_cases hf : hs = 1
  · obtain ⟨⟨σ', g1, g2, g3, g4⟩, ⟨μ', k1, k2, k3, k4⟩, hpl⟩ := fail_both 3 hP (by omega) (by omega) (by omega)
    rw [if_pos hf] at hhas
    refine Or.inl ⟨σ', μ', hcls 0 σ' _ (z_X0_readSpeed (e_X0_readSpeed_0 hb (br_f ?_ ⟨0, σ', g1, Or.inl rfl, rfl⟩))) (Or.inl rfl) (e_X0_readFrom_110 hb (br_t rfl rfl)), rl_go 2 hT hTM (by omega) kj (fun _ => hκ) (e_X12_readLine_21 (br_t (by decide) (br_t (by decide) ⟨1, μ, by rw [l5]; exact hhas, br_f (by decide) ⟨0, μ', k1, Or.inl rfl, rfl⟩⟩))), ⟨3, pl, by omega, by omega, hpl, g3, k3, g4, k4⟩, BF_SF hb g2, BM_MF k2⟩
    rw [l3, hf]
    decide
  · have hf0 : hs = 0 := by omega
    rw [if_neg hf] at hhas
    have hor := hall.2.2.1 hf0
    have h22 : PR_ σ (sI_ μ 219 22 (nI (hd_ 1 ha))) n t L κ pl e c := PR_cg hP (fun _ _ _ => rfl) rfl rfl (fun f h1 h2 => by rw [sI_at, if_neg (by omega)]) (sI_row _ _ _ _ (by decide)) rfl
    obtain ⟨κ1, pl1, e1, c1, σ1, μ1, a1, a2, a3, ⟨a4, -, a8⟩, ⟨a5, -⟩, a6⟩ := adv h22 (by omega)
    have f1m : BM_ [22] μ (sI_ μ 219 22 (nI (hd_ 1 ha))) := ⟨fm_sI (by simp), fun f _ hn => by rw [sI_at, if_neg (fun z => hn (by rw [z.2]; simp))]⟩
    -- the reference, from its number on
    have mref : ∀ (v : Int32) (μ2 : St_) (out : Out_), f_X12_readNumber KC [.ref 219, .int (nI 1), .int (nI 99)] μ1 = some (some (.int v), μ2) → (v = 0 ∨ v = 1) → ((v = 0 → out = (some (.int 0), μ2)) ∧ (v = 1 → ∃ w μ3, f_X12_readEnd KC [.ref 219] (sI_ μ2 222 2 (μ2.1 219 13)) = some (some (.int w), μ3) ∧ (w = 0 ∨ w = 1) ∧ out = (some (.int w), μ3))) → f_X12_readLine KC [.ref 219] μ = some out := by
      intro v μ2 out q1 q2 q3
      have t127 : Ev_ (P_X12_readLine KC) 127 [some (.ref 219), some (.int (nI 2))] [.int (nI 99), .int (nI 1), .ref 219] μ1 out := by
        refine e_X12_readLine_127 ⟨v, μ2, q1, fun z => q3.1 z, fun z => ?_⟩
        obtain ⟨w, μ3, w1, w2, w3⟩ := q3.2 (q2.resolve_left z)
        exact br_t rfl ⟨by decide, w, μ3, w1, w2, w3⟩
      refine rl_go 2 hT hTM (by omega) kj (fun _ => hκ) (e_X12_readLine_21 (br_t (by decide) (br_t (by decide) ⟨0, μ, by rw [l5]; exact hhas, br_t rfl ⟨μ1, ?_, br_t rfl <| br_t rfl t127⟩⟩)))
      rw [l5]
      show f_X12_go KC [.ref 219] (sI_ μ 219 22 (nI (hd_ hs ha) ||| ((1 : Int32) <<< ((2 : Int32) &&& 31)))) = _
      rw [hor]
      exact a2
    have hr : rl_ 0 = rl_ 0 := rfl
    have hflag : σ.1 b 16 = 0 := by
      rw [l3, hf0]
      rfl
    rcases num_pair 1 99 a3 (by omega) (by omega) with ⟨σ2, μ2, f1, f2, ft, s3, s4⟩ | ⟨κ2, pl2, e2, c2, σ2, μ2, f1, f2, ⟨k3, m1⟩, m2, p4, t1, t2, s3, s4, n4⟩
    · exact Or.inl ⟨σ2, μ2, hcls 0 σ2 _ (z_X0_readSpeed (e_X0_readSpeed_0 hb (br_t hflag ⟨σ1, a1, 0, σ2, f1, br_t rfl rfl⟩))) (Or.inl rfl) (e_X0_readFrom_110 hb (br_t rfl rfl)), mref 0 μ2 _ f2 (Or.inl rfl) ⟨fun _ => rfl, fun z => absurd z (by decide)⟩, ft, BF_tr (BF_SF hb a4) (BF_SF hb s3), BM_tr f1m (BM_tr (BM_MF a5) (BM_MF s4))⟩
    · have hC2 := CB_SF hb (CB_SF hb hC a4) s3
      have hM2 : MB_ μ2 222 0 225 0 B := MB_MF (by decide) (by decide) (MB_MF (by decide) (by decide) (MB_cg (μ' := sI_ μ 219 22 (nI (hd_ 1 ha))) hM (fun i _ => by rw [sI_row _ _ _ _ (by decide)]) (fun i _ => rfl)) a5) s4
      have hQ : LQ_ b [14, 16] [22] n t L σ μ (fun B' => B' = b0_ B 2 c1) (some (.int 1), sI_ (sI_ σ2 b 14 (nI c1)) b 16 1) (some (.int 1), sI_ μ2 222 2 (nI c1)) := by
        refine Or.inr ⟨⟨rfl, rfl⟩, b0_ B 2 c1, κ2, pl2, e2, c2, rfl, BO_0 hO (Or.inl ⟨rfl, m1, m2⟩), CB_k (CB_0 hb hC2).1 (kC_at (by unfold rC_; omega)), MB_0 (by omega) hO hM2, PR_r (PR_b (PR_b p4 (by omega) _ _) (by omega) _ _) _ _, BF_tr (BF_tr (BF_SF hb a4) (BF_SF hb s3)) (BF_tr (BF_sb hb (by decide)) (BF_sb hb (by decide))), BM_tr f1m (BM_tr (BM_MF a5) (BM_tr (BM_MF s4) BM_sI)), ⟨?_, ?_⟩, lt_mo (a8 (by omega)) ?_⟩
        · rw [sI_row _ _ _ _ (by omega), sI_row _ _ _ _ (by omega), n4.1, a6.1]
        · rw [sI_row _ _ _ _ (by decide), n4.2, a6.2, sI_at, if_neg (by decide)]
        · have := s3.2.2
          unfold mo_ at this ⊢
          rw [sI_row _ _ _ _ (by omega), sI_row _ _ _ _ (by omega)]
          exact this
      refine ln_fin (hs' := 1) (ha' := ha) hb (by decide) (by decide) (by decide) (no 1 (by omega) (by omega)) hN hQ (fun v out hv hov q => ?_) (fun z => absurd z (by simp)) (fun v μ' _ q hv => mref 1 μ2 _ f2 (Or.inr rfl) ⟨fun z => absurd z (by decide), fun _ => ⟨v, μ', by rw [t2]; exact q, hv, rfl⟩⟩) (fun _ => ⟨by omega, by omega, ?_, ?_, ?_⟩)
      · have hv1 : v = 1 := by
          simp only [Option.some.injEq, Value.int.injEq] at hov
          exact hov.symm
        subst hv1
        refine hcls 1 _ out (z_X0_readSpeed (e_X0_readSpeed_0 hb (br_t hflag ⟨σ1, a1, 1, σ2, f1, br_f (by decide) ?_⟩))) (Or.inr rfl) q
        rw [t1]
      · rw [sI_at, if_pos ⟨rfl, rfl⟩]; rfl
      · rw [sI_at, if_neg (by omega), sI_at, if_neg (by omega), s3.1.1 b (by simp <;> omega), a4.1.1 b (by simp <;> omega)]; exact l4
      · rw [sI_row _ _ _ _ (by decide), s4.2 22 (by omega), a5.2 22 (by omega), sI_at, if_pos ⟨rfl, rfl⟩]
theorem ln_again (hb : isB b) (h : LI_ σ μ b n t L κ pl e c B hs ha N) (hi : i < 1040) (hκ : κ = 10) : LR_ σ μ b n t L N i := by
  have hb1 := isB_ge hb
  obtain ⟨hP, ⟨hC, hM, hO⟩, ⟨l1, l2, l3, l4, l5⟩, hN⟩ := h
  have hT := hP.2.2.2.1
  have hTC := hP.2.2.2.2.1
  have hTM := hP.2.2.2.2.2
  have kk : σ.1 1 6 = nI 10 := by rw [hTC.1, hκ]
  have no : ∀ j : Nat, j < 64 → 10 ≠ j → ¬ σ.1 1 6 = nI j := fun j hj hne z => hne ((nI_eq (by omega) (by omega)).mp (kk.symm.trans z))
  have kj : ∀ j, j < 3 → κ ≠ kk_ j := fun j hj => by
    rw [hκ]
    rcases (show j = 0 ∨ j = 1 ∨ j = 2 by omega) with rfl | rfl | rfl <;> decide
  have hcls : ∀ (v : Int32) (σ' : St_) (out : Out_), f_X0_readAgain KC [.ref b, .ref 1] σ = some (some (.int v), σ') → (v = 0 ∨ v = 1) → Ev_ (P_X0_readFrom KC) 110 [some (.ref b), some (.ref 1), some (.int (nI i)), some (.int v)] [] σ' out → Ev_ (P_X0_readFrom KC) 6 [some (.ref b), some (.ref 1), some (.int (nI i)), none] [] σ out := by
    intro v σ' out hf hv q
    refine e_X0_readFrom_6 hb (pk_le 1040 i (fun z => by omega) (fun _ => br_f (no 0 (by omega) (by omega)) ⟨fun z => ?_, fun z => absurd z (no 4 (by omega) (by omega)), fun z => absurd z (no 5 (by omega) (by omega)), fun z => absurd z (no 6 (by omega) (by omega)), fun z => absurd z (no 7 (by omega) (by omega)), fun z => absurd z (no 8 (by omega) (by omega)), fun z => absurd z (no 9 (by omega) (by omega)), fun _ => ⟨v, σ', hf, q⟩⟩))
    rw [kk] at z
    exact absurd z (by decide)
  have hall := has_all ⟨hs, by omega⟩ ⟨ha, by omega⟩
  simp only at hall
  have hhas : f_X12_has KC [.int (nI (hd_ hs ha)), .int (nI 3)] μ = some (some (.int (if ha = 1 then 1 else 0)), μ) := m_has hall.2.1 μ
  by_cases hf : ha = 1
  · obtain ⟨⟨σ', g1, g2, g3, g4⟩, ⟨μ', k1, k2, k3, k4⟩, hpl⟩ := fail_both 3 hP (by omega) (by omega) (by omega)
    rw [if_pos hf] at hhas
    refine Or.inl ⟨σ', μ', hcls 0 σ' _ (z_X0_readAgain (e_X0_readAgain_0 hb (br_f ?_ ⟨0, σ', g1, Or.inl rfl, rfl⟩))) (Or.inl rfl) (e_X0_readFrom_110 hb (br_t rfl rfl)), rl_go 3 hT hTM (by omega) kj (fun _ => hκ) (e_X12_readLine_21 (br_t (by decide) (br_t (by decide) ⟨1, μ, by rw [l5]; exact hhas, br_f (by decide) ⟨0, μ', k1, Or.inl rfl, rfl⟩⟩))), ⟨3, pl, by omega, by omega, hpl, g3, k3, g4, k4⟩, BF_SF hb g2, BM_MF k2⟩
    rw [l4, hf]
    decide
  · have hf0 : ha = 0 := by omega
    rw [if_neg hf] at hhas
    have hor := hall.2.2.2 hf0
    have h22 : PR_ σ (sI_ μ 219 22 (nI (hd_ hs 1))) n t L κ pl e c := PR_cg hP (fun _ _ _ => rfl) rfl rfl (fun f h1 h2 => by rw [sI_at, if_neg (by omega)]) (sI_row _ _ _ _ (by decide)) rfl
    obtain ⟨κ1, pl1, e1, c1, σ1, μ1, a1, a2, a3, ⟨a4, -, a8⟩, ⟨a5, -⟩, a6⟩ := adv h22 (by omega)
    have f1m : BM_ [22] μ (sI_ μ 219 22 (nI (hd_ hs 1))) := ⟨fm_sI (by simp), fun f _ hn => by rw [sI_at, if_neg (fun z => hn (by rw [z.2]; simp))]⟩
    -- the reference, from its number on
    have mref : ∀ (v : Int32) (μ2 : St_) (out : Out_), f_X12_readNumber KC [.ref 219, .int (nI 0), .int (nI 10)] μ1 = some (some (.int v), μ2) → (v = 0 ∨ v = 1) → ((v = 0 → out = (some (.int 0), μ2)) ∧ (v = 1 → ∃ w μ3, f_X12_readEnd KC [.ref 219] (sI_ μ2 222 3 (μ2.1 219 13)) = some (some (.int w), μ3) ∧ (w = 0 ∨ w = 1) ∧ out = (some (.int w), μ3))) → f_X12_readLine KC [.ref 219] μ = some out := by
      intro v μ2 out q1 q2 q3
      have t127 : Ev_ (P_X12_readLine KC) 127 [some (.ref 219), some (.int (nI 3))] [.int (nI 10), .int (nI 0), .ref 219] μ1 out := by
        refine e_X12_readLine_127 ⟨v, μ2, q1, fun z => q3.1 z, fun z => ?_⟩
        obtain ⟨w, μ3, w1, w2, w3⟩ := q3.2 (q2.resolve_left z)
        exact br_f (by decide) ⟨by decide, w, μ3, w1, w2, w3⟩
      refine rl_go 3 hT hTM (by omega) kj (fun _ => hκ) (e_X12_readLine_21 (br_t (by decide) (br_t (by decide) ⟨0, μ, by rw [l5]; exact hhas, br_t rfl ⟨μ1, ?_, br_f (by decide) <| br_f (by decide) t127⟩⟩)))
      rw [l5]
      show f_X12_go KC [.ref 219] (sI_ μ 219 22 (nI (hd_ hs ha) ||| ((1 : Int32) <<< ((3 : Int32) &&& 31)))) = _
      rw [hor]
      exact a2
    have hr : rl_ 0 = rl_ 0 := rfl
    have hflag : σ.1 b 17 = 0 := by
      rw [l4, hf0]
      rfl
    rcases num_pair 0 10 a3 (by omega) (by omega) with ⟨σ2, μ2, f1, f2, ft, s3, s4⟩ | ⟨κ2, pl2, e2, c2, σ2, μ2, f1, f2, ⟨k3, m1⟩, m2, p4, t1, t2, s3, s4, n4⟩
    · exact Or.inl ⟨σ2, μ2, hcls 0 σ2 _ (z_X0_readAgain (e_X0_readAgain_0 hb (br_t hflag ⟨σ1, a1, 0, σ2, f1, br_t rfl rfl⟩))) (Or.inl rfl) (e_X0_readFrom_110 hb (br_t rfl rfl)), mref 0 μ2 _ f2 (Or.inl rfl) ⟨fun _ => rfl, fun z => absurd z (by decide)⟩, ft, BF_tr (BF_SF hb a4) (BF_SF hb s3), BM_tr f1m (BM_tr (BM_MF a5) (BM_MF s4))⟩
    · have hC2 := CB_SF hb (CB_SF hb hC a4) s3
      have hM2 : MB_ μ2 222 0 225 0 B := MB_MF (by decide) (by decide) (MB_MF (by decide) (by decide) (MB_cg (μ' := sI_ μ 219 22 (nI (hd_ hs 1))) hM (fun i _ => by rw [sI_row _ _ _ _ (by decide)]) (fun i _ => rfl)) a5) s4
      have hQ : LQ_ b [15, 17] [22] n t L σ μ (fun B' => B' = b0_ B 3 c1) (some (.int 1), sI_ (sI_ σ2 b 15 (nI c1)) b 17 1) (some (.int 1), sI_ μ2 222 3 (nI c1)) := by
        refine Or.inr ⟨⟨rfl, rfl⟩, b0_ B 3 c1, κ2, pl2, e2, c2, rfl, BO_0 hO (Or.inr ⟨rfl, m2⟩), CB_k (CB_0 hb hC2).2 (kC_at (by unfold rC_; omega)), MB_0 (by omega) hO hM2, PR_r (PR_b (PR_b p4 (by omega) _ _) (by omega) _ _) _ _, BF_tr (BF_tr (BF_SF hb a4) (BF_SF hb s3)) (BF_tr (BF_sb hb (by decide)) (BF_sb hb (by decide))), BM_tr f1m (BM_tr (BM_MF a5) (BM_tr (BM_MF s4) BM_sI)), ⟨?_, ?_⟩, lt_mo (a8 (by omega)) ?_⟩
        · rw [sI_row _ _ _ _ (by omega), sI_row _ _ _ _ (by omega), n4.1, a6.1]
        · rw [sI_row _ _ _ _ (by decide), n4.2, a6.2, sI_at, if_neg (by decide)]
        · have := s3.2.2
          unfold mo_ at this ⊢
          rw [sI_row _ _ _ _ (by omega), sI_row _ _ _ _ (by omega)]
          exact this
      refine ln_fin (hs' := hs) (ha' := 1) hb (by decide) (by decide) (by decide) (no 1 (by omega) (by omega)) hN hQ (fun v out hv hov q => ?_) (fun z => absurd z (by simp)) (fun v μ' _ q hv => mref 1 μ2 _ f2 (Or.inr rfl) ⟨fun z => absurd z (by decide), fun _ => ⟨v, μ', by rw [t2]; exact q, hv, rfl⟩⟩) (fun _ => ⟨by omega, by omega, ?_, ?_, ?_⟩)
      · have hv1 : v = 1 := by
          simp only [Option.some.injEq, Value.int.injEq] at hov
          exact hov.symm
        subst hv1
        refine hcls 1 _ out (z_X0_readAgain (e_X0_readAgain_0 hb (br_t hflag ⟨σ1, a1, 1, σ2, f1, br_f (by decide) ?_⟩))) (Or.inr rfl) q
        rw [t1]
      · rw [sI_at, if_neg (by omega), sI_at, if_neg (by omega), s3.1.1 b (by simp <;> omega), a4.1.1 b (by simp <;> omega)]; exact l3
      · rw [sI_at, if_pos ⟨rfl, rfl⟩]; rfl
      · rw [sI_row _ _ _ _ (by decide), s4.2 22 (by omega), a5.2 22 (by omega), sI_at, if_pos ⟨rfl, rfl⟩]
/-- a LINE -/
theorem line_both (hb : isB b) (h : LI_ σ μ b n t L κ pl e c B hs ha N) (h0 : κ ≠ 0) (hi : i < 1040) : LR_ σ μ b n t L N i := by
  by_cases h4 : κ = 4
  · exact ln_chap hb h hi h4
  · by_cases h7 : κ = 7
    · exact ln_who hb h hi h7
    · by_cases h9 : κ = 9
      · exact ln_speed hb h hi h9
      · by_cases h10 : κ = 10
        · exact ln_again hb h hi h10
        · exact ln_bad hb h h0 hi ⟨h4, h7, h9, h10⟩
end LINE
