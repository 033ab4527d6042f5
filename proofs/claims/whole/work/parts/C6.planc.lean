/-! the call PLAN, on both sides -/
section PC3
variable {σ μ μ1 : St_} {b b' p p' n : Nat} {t : Nat → Nat} {B : Nat → Nat → Nat}
theorem pl_loop (hp : isP p) (hb : isB b) {L : Nat} : ∀ m κ pl e c P a (σ μ : St_), 60 - a < m → a ≤ 60 → PI_ σ μ b p n t L κ pl e c B P a →
    (∃ σ' μ', Ev_ (P_X6_readFrom KC) 6 [some (.ref p), some (.ref 1), some (.ref b), some (.int (nI a))] [] σ (some (.int 0), σ') ∧ Ev_ (P_X12_plan KC) 12 [some (.ref 219)] [] μ (some (.int (-1 - μ'.1 219 11)), μ') ∧ FT_ σ' μ' ∧ CT_ p (p + 4) σ σ' ∧ CM_ [228] [] [24] μ μ') ∨
    (∃ P' a' σ' μ', Ev_ (P_X6_readFrom KC) 6 [some (.ref p), some (.ref 1), some (.ref b), some (.int (nI a))] [] σ (some (.int 1), σ') ∧ (∀ out, (∃ (v : Int32) (μ2 : St_), f_X12_plans KC [.ref 219] μ' = some (some (.int v), μ2) ∧ out = (some (.int v), μ2)) → Ev_ (P_X12_plan KC) 12 [some (.ref 219)] [] μ out) ∧ (PC_ σ' p P' a' ∧ AM_ μ' P' a' ∧ PO_ B P' a' ∧ CB_ σ' b B ∧ RX_ μ' B) ∧ CT_ p (p + 4) σ σ' ∧ CM_ [228] [] [24] μ μ' ∧ NF_ σ μ σ' μ') := by
  intro m
  induction m with
  | zero => intro κ pl e c P a σ μ h; omega
  | succ m ih =>
    intro κ pl e c P a σ μ hm ha h
    have hT := h.1.2.2.2.1
    have hC := h.1.2.2.2.2.1
    have hM := h.1.2.2.2.2.2
    have hκ := hT.1
    have hrl := rk_lt κ
    by_cases h0 : κ = 0
    · right
      exact ⟨P, a, σ, μ, e_X6_readFrom_6 hp hb (pk_lt 60 a (fun z => by omega) (fun _ => br_t (by rw [hC.1, h0]; rfl) rfl)), fun out q => e_X12_plan_12 (br_t (by rw [hM.1, h0]; rfl) q), ⟨h.2.2.1, h.2.2.2.1, h.2.2.2.2, h.2.1.1, h.2.1.2⟩, CT_rf _ _ _, CM_rf _ _ _ _, rfl, rfl⟩
    · have hk : ¬ μ.1 219 7 = 0 := fun z => h0 ((rk_0 hκ).mp ((nI_eq (by omega) (by omega)).mp (hM.1.symm.trans z)))
      have fin60 : AQ_ σ μ b p n t L B a := act_both hp hb h h0 ha
      rcases fin60 with ⟨σ', μ', q1, q2, ft, f1, f2⟩ | ⟨P', κ', pl', e', c', σ', μ', q1, q2, h60, h', f1, f2, nf⟩
      · exact Or.inl ⟨σ', μ', q1, e_X12_plan_12 (br_f hk ⟨0, μ', q2, br_t rfl rfl⟩), ft, f1, f2⟩
      · have to12 : ∀ out, Ev_ (P_X12_plan KC) 12 [some (.ref 219)] [] μ' out → Ev_ (P_X12_plan KC) 12 [some (.ref 219)] [] μ out := fun out q => e_X12_plan_12 (br_f hk ⟨1, μ', q2, br_f (by decide) q⟩)
        rcases ih κ' pl' e' c' P' (a + 1) σ' μ' (by omega) (by omega) h' with ⟨σ2, μ2, r1, r2, ft, f3, f4⟩ | ⟨P2, a2, σ2, μ2, r1, r2, r3, f3, f4, nf2⟩
        · exact Or.inl ⟨σ2, μ2, q1 _ r1, to12 _ r2, ft, CT_tr f1 f3, CM_tr f2 f4⟩
        · exact Or.inr ⟨P2, a2, σ2, μ2, q1 _ r1, fun out q => to12 _ (r2 out q), r3, CT_tr f1 f3, CM_tr f2 f4, nf2.1.trans nf.1, nf2.2.trans nf.2⟩
/-- what comes of plan() -/
def PQ_ (σ σ' μ1 μ' : St_) (b p p' : Nat) (B : Nat → Nat → Nat) : Prop :=
  (CT_ p' (p' + 4) σ σ' ∧ CM_ [228] [] [2, 3, 4, 24] μ1 μ') ∨
  (∃ P' a', (σ'.2.2 0 14 = some p' ∧ σ'.2.2 0 15 = some p ∧ (∀ o i, ¬ (o = 0 ∧ (i = 14 ∨ i = 15)) → σ'.2.2 o i = σ.2.2 o i)) ∧ (PC_ σ' p' P' a' ∧ PM_ μ' P' a' ∧ PO_ B P' a' ∧ CB_ σ' b B ∧ RX_ μ' B ∧ σ'.1 0 18 = nI 0) ∧ ((∀ o, o ≠ 1 → o ≠ 0 → ¬ (p' ≤ o ∧ o ≤ p' + 4) → σ'.1 o = σ.1 o) ∧ ∀ f, f ≠ 18 → σ'.1 0 f = σ.1 0 f) ∧ (CM_ [221, 228] [] [2, 3, 4, 24] μ1 μ' ∧ ∀ i, i < 390 ∨ 800 ≤ i → μ'.1 221 i = μ1.1 221 i))
theorem plan_both (hB : isB b) (hP : isP p) (hP' : isP p') (h12 : σ.2.2 0 12 = some b) (h14 : σ.2.2 0 14 = some p) (h15 : σ.2.2 0 15 = some p') (hC : CB_ σ b B) (hl : LY_ μ μ1) (hx : RX_ μ1 B) (hT : TA_ σ μ1 n t) (hW : ∀ j, j < 20 → σ.1 3 j = W_ j) : ∃ v σ' μ', f_X11_plan KC [.ref 0] σ = some (some (.int v), σ') ∧ f_X12_plan KC [.ref 219] μ = some (some (.int v), μ') ∧ TA_ σ' μ' 0 t ∧ σ'.1 1 9 = μ'.1 219 10 ∧ PQ_ σ σ' μ1 μ' b p p' B := by
  have gp := p_ge hP'
  have gb := isB_ge hB
  have hbp : ∀ o, b ≤ o → o ≤ b + 27 → ¬ (p' ≤ o ∧ o ≤ p' + 4) := fun o o1 o2 => by unfold isB at hB; unfold isP at hP'; omega
  obtain ⟨κ, pl, e, c, σ0, μ0, a1, a2, a3, a4, ⟨a5, a6⟩, a7, a8, a9, a10⟩ := begin_both (L := 700) hl hT hW (by omega)
  obtain ⟨⟨hn, ht⟩, ⟨t1, t2⟩, t3, t4⟩ := hT
  have hcl := p_clear hP' σ0
  generalize hσa : sI_ σ0 p' 4 0 = σa at hcl
  generalize hμa : sI_ μ0 219 24 0 = μa
  have ea : ∀ o i, ¬ (o = p' ∧ i = 4) → σa.1 o i = σ0.1 o i := fun o i h => by
    rw [← hσa, sI_at, if_neg h]
  have er : ∀ o, o ≠ p' → σa.1 o = σ0.1 o := fun o h => by
    rw [← hσa, sI_row _ _ _ _ h]
  have ea2 : σa.2 = σ0.2 := by rw [← hσa]; rfl
  have mr : ∀ o, o ≠ 219 → μa.1 o = μ0.1 o := fun o h => by rw [← hμa, sI_row _ _ _ _ h]
  have ma : ∀ i, i ≠ 24 → μa.1 219 i = μ0.1 219 i := fun i h => by rw [← hμa, sI_at, if_neg (fun z => h z.2)]
  have ma2 : μa.2 = μ0.2 := by rw [← hμa]; rfl
  have hC0 : CB_ σa b B := CB_row hB (CB_row hB hC (fun o o1 o2 => a5.1 o (by simp; omega)) hx.2) (fun o o1 o2 => er o (fun z => hbp o o1 o2 (by omega))) hx.2
  have hx0 : RX_ μa B := by
    rw [← hμa]
    exact RX_sI (RX_fm hx a7 (by decide) (by decide)) (by decide)
  have hPI : PI_ σa μa b p' n t 700 κ pl e c B (fun _ _ => 0) 0 := by
    refine ⟨PR_cg a3 (fun f _ _ => ea 1 f (by omega)) (er 2 (by omega)) (er 3 (by omega)) (fun f _ _ => ma f (by omega)) (mr 220 (by decide)) (by rw [ma2]), ⟨hC0, hx0⟩, ⟨?_, fun i hi => absurd hi (Nat.not_lt_zero i)⟩, ⟨?_, fun i hi => absurd hi (Nat.not_lt_zero i)⟩, ⟨Nat.zero_le _, fun i hi => absurd hi (Nat.not_lt_zero i)⟩⟩
    · rw [← hσa, sI_at, if_pos ⟨rfl, rfl⟩]
      rfl
    · rw [← hμa, sI_at, if_pos ⟨rfl, rfl⟩]
      rfl
  have f0 : CT_ p' (p' + 4) σ0 σa := ⟨fun o _ h2 => er o (fun z => h2 (by omega)), ea2⟩
  have g0 : CM_ [228] [] [2, 3, 4, 24] μ1 μa := ⟨fm_tr (fm_mono a7 (by simp) (by simp)) (by rw [← hμa]; exact fm_sI (by simp)), fun f hf hn => by
    rw [ma f (fun z => hn (by rw [z]; simp))]
    simp only [List.mem_cons, List.not_mem_nil, or_false] at hn
    exact a8 f (by omega)⟩
  have h219 : μa.1 219 2 = nI 0 ∧ μa.1 219 10 = nI 0 := ⟨by rw [ma _ (by omega)]; exact a9, by rw [ma _ (by omega)]; exact a10⟩
  have h1 : σa.1 1 9 = nI 0 := by rw [ea _ _ (by omega)]; exact a6
  have rc : ∀ out, Ev_ (P_X6_readFrom KC) 6 [some (.ref p'), some (.ref 1), some (.ref b), some (.int 0)] [] σa out → f_X6_readFrom KC [.ref p', .ref 1, .ref b] σ0 = some out := fun out q => z_X6_readFrom (e_X6_readFrom_0 hP' hB ⟨σa, hcl, q⟩)
  have rm : ∀ out, Ev_ (P_X12_plan KC) 12 [some (.ref 219)] [] μa out → f_X12_plan KC [.ref 219] μ = some out := fun out q => by
    refine z_X12_plan (e_X12_plan_0 ⟨μ0, a2, ?_⟩)
    rw [hμa]
    exact q
  have tape : ∀ {σ2 μ2 : St_}, CT_ p' (p' + 4) σa σ2 → CM_ [228] [] [24] μa μ2 → (∀ i, σ2.1 2 i = b8_ (t i)) ∧ μ2.1 219 2 = nI 0 ∧ ∀ i, μ2.1 220 i = nI (t i) := fun {σ2 μ2} f g => ⟨fun i => by
      rw [f.1 2 (by omega) (by omega), er 2 (by omega), a5.1 2 (by decide)]
      exact t2 i, by
      rw [g.2 2 (by omega) (by decide)]
      exact h219.1, fun i => by
      rw [g.1.1 220 (by decide), mr 220 (by omega), a7.1 220 (by decide)]
      exact t4 i⟩
  have mw : ∀ {x y : St_}, CM_ [228] [] [24] x y → CM_ [228] [] [2, 3, 4, 24] x y := fun h => CM_mono h (by simp) (by simp) (by simp)
  rcases pl_loop hP' hB 61 κ pl e c _ 0 σa μa (by omega) (by omega) hPI with ⟨σ2, μ2, q1, q2, ft, f1, f2⟩ | ⟨P', a', σ2, μ2, q1, q2, ⟨r1, r2, r3, r4, r5⟩, f1, f2, nf⟩
  · obtain ⟨k1, k2⟩ := FT_ans ft
    obtain ⟨u1, u2, u3⟩ := tape f1 f2
    refine ⟨-1 - μ2.1 219 11, sI_ σ2 1 2 0, μ2, z_X11_plan (e_X11_plan_0 ⟨σ0, a1, p', by rw [a5.2]; exact h15, hP', b, by rw [a5.2]; exact h12, hB, 0, σ2, rc _ q1, br_t rfl ⟨_, _, z_X8_faultAnswer (e_X8_faultAnswer_0 rfl), ?_⟩⟩), rm _ q2, ⟨⟨by omega, ht⟩, ⟨by rw [sI_at, if_pos ⟨rfl, rfl⟩]; rfl, fun i => by rw [sI_row _ _ _ _ (by decide)]; exact u1 i⟩, u2, u3⟩, ?_, Or.inl ⟨⟨fun o h1 h2 => ?_, ?_⟩, CM_tr g0 (mw f2)⟩⟩
    · rw [sI_at, if_neg (by decide), k1]
    · rw [sI_at, if_neg (by decide), k2]
    · rw [sI_row _ _ _ _ h1, f1.1 o h1 h2, f0.1 o h1 h2, a5.1 o (by simp; exact h1)]
    · rw [sI_2, f1.2, f0.2, a5.2]
  · obtain ⟨u1, u2, u3⟩ := tape f1 f2
    have hb16 := BO_c hx.2
    obtain ⟨μ3, v1, v2, v3, v4⟩ := m_plans r2 r3.1
    have e2 : σ2.2 = σ.2 := by rw [f1.2, ea2, a5.2]
    generalize hσ3 : sR_ (sR_ (sI_ σ2 1 2 0) 0 14 (some p')) 0 15 (some p) = σ3
    have x1 : σ3.1 = (sI_ σ2 1 2 0).1 := by rw [← hσ3]; rfl
    have x2 : ∀ o i, σ3.2.2 o i = if o = 0 ∧ i = 15 then some p else if o = 0 ∧ i = 14 then some p' else σ.2.2 o i := fun o i => by
      rw [← hσ3, sR_at, sR_at]
      show (if _ then _ else if _ then _ else σ2.2.2 o i) = _
      rw [e2]
    generalize hσ4 : sI_ σ3 0 18 0 = σ4
    have y1 : ∀ o i, ¬ (o = 0 ∧ i = 18) → ¬ (o = 1 ∧ i = 2) → σ4.1 o i = σ2.1 o i := fun o i z3 z4 => by
      rw [← hσ4, sI_at, if_neg z3, x1, sI_at, if_neg z4]
    have y2 : σ4.2.2 = σ3.2.2 := by rw [← hσ4]; rfl
    have row : ∀ o, o ≠ 0 → o ≠ 1 → σ4.1 o = σ2.1 o := fun o o1 o2 => by
      funext i
      exact y1 o i (by omega) (by omega)
    refine ⟨nI a', σ4, μ3, z_X11_plan (e_X11_plan_0 ⟨σ0, a1, p', by rw [a5.2]; exact h15, hP', b, by rw [a5.2]; exact h12, hB, 1, σ2, rc _ q1, br_f (by decide) ⟨p, ?_, hP, p', ?_, hP', ?_⟩⟩), rm _ (q2 _ ⟨nI a', μ3, v1, rfl⟩), ⟨⟨by omega, ht⟩, ⟨?_, fun i => by rw [row 2 (by omega) (by omega)]; exact u1 i⟩, ?_, fun i => by rw [v3.1 220 (by decide)]; exact u3 i⟩, ?_, Or.inr ⟨P', a', ⟨by rw [y2, x2]; simp, by rw [y2, x2]; simp, fun o i h => by rw [y2, x2, if_neg (by omega), if_neg (by omega)]⟩, ⟨PC_cg r1 (fun o o1 o2 => row o (by omega) (by omega)), v2, r3, CB_row hB r4 (fun o o1 o2 => row o (by omega) (by omega)) hx.2, ⟨MB_cg r5.1 (fun i hi => ?_) (fun i hi => by rw [v3.2]), hx.2⟩, ?_⟩, ⟨fun o o1 o2 o3 => ?_, fun f hf => ?_⟩, CM_tr (CM_mono g0 (by simp) (by simp) (by simp)) (CM_tr (CM_mono f2 (by simp) (by simp) (by simp)) ⟨fr_fm (fr_mono v3 (by simp)), fun f _ _ => by rw [v3.1 219 (by decide)]⟩), fun i hi => ?_⟩⟩
    · rw [sI_2, e2]; exact h14
    · rw [sI_2, e2]; exact h15
    · rw [hσ3, hσ4, row p' (by omega) (by omega), r1.1]
    · rw [← hσ4, sI_at, if_neg (by decide), x1, sI_at, if_pos ⟨rfl, rfl⟩]; rfl
    · rw [v3.1 219 (by decide)]; exact u2
    · rw [y1 1 9 (by omega) (by omega), nf.1, h1, v3.1 219 (by decide), nf.2, h219.2]
    · rw [Nat.zero_add]
      exact v4 i (by unfold rM_ at hi; omega)
    · rw [← hσ4, sI_at, if_pos ⟨rfl, rfl⟩]; rfl
    · rw [row o o2 o1, f1.1 o o1 o3, f0.1 o o1 o3, a5.1 o (by simp; exact o1)]
    · rw [y1 0 f (by omega) (by omega), f1.1 0 (by omega) (by omega), f0.1 0 (by omega) (by omega), a5.1 0 (by decide)]
    · rw [v4 i hi, f2.1.1 221 (by decide), mr 221 (by decide), a7.1 221 (by decide)]
end PC3
