/-! the call SENTENCE, on both sides -/
/-- the SENTENCE: the class's in the rows from s on, the reference's in the row r from o on -/
def SE_ (σ μ : St_) (s r o : Nat) (B : Nat → Nat → Nat) : Prop := (σ.1 s 5 = nI 0 ∧ σ.1 s 4 = nI 0 ∧ μ.1 r (o + 800) = nI 0) ∨
  ∃ Q V N O D, (1 ≤ N ∧ N ≤ 40 ∧ 1 ≤ O ∧ O ≤ 20 ∧ lc2_ Q N ≤ 20) ∧ (∀ j, j < N → QV_ B (Q j)) ∧ (ES_ B Q 0 N D ∧ EN_ B V N (N - 1) D) ∧ (PC_ σ s Q N ∧ σ.1 s 5 = nI O) ∧ (μ.1 r (o + 800) = nI 1 ∧ μ.1 r (o + 801) = nI (N - 1) ∧ ∀ j i, j < N → i < 4 → μ.1 r (o + 810 + 4 * j + i) = nI (V j i))
/-- what comes of sentence() -/
def SQ_ (σ σ' μ1 μ' : St_) (b s s' : Nat) (B : Nat → Nat → Nat) : Prop :=
  (CT_ s' (s' + 4) σ σ' ∧ CM_ [245] [] [2, 3, 4, 59, 60, 61, 62] μ1 μ') ∨
  ((σ'.2.2 0 16 = some s' ∧ σ'.2.2 0 17 = some s ∧ (∀ o i, ¬ (o = 0 ∧ (i = 16 ∨ i = 17)) → σ'.2.2 o i = σ.2.2 o i)) ∧ SE_ σ' μ' s' 221 0 B ∧ (∀ o, o ≠ 1 → ¬ (s' ≤ o ∧ o ≤ s' + 4) → σ'.1 o = σ.1 o) ∧ CM_ [221, 245] [] [2, 3, 4, 59, 60, 61, 62] μ1 μ' ∧ ∀ i, i < 800 → μ'.1 221 i = μ1.1 221 i)
section SQ
variable {σ μ μ1 : St_} {b s s' n : Nat} {t : Nat → Nat} {B : Nat → Nat → Nat}
theorem m_sent79 : ∀ k i (μ : St_), i + k = 240 → ∃ μ', Ev_ (P_X12_sentence KC) 79 [some (.ref 219), some (.int (nI i))] [] μ (some (.int (μ.1 219 60)), μ') ∧ fr_ [221] μ μ' ∧ (∀ j, μ'.1 221 j = if 810 + i ≤ j ∧ j < 1050 then μ.1 245 (j - 810) else μ.1 221 j)
  | 0, i, μ, h => by
    refine ⟨μ, e_X12_sentence_79 (pk_le 240 i (fun _ => rfl) (fun z => by omega)), fr_rf _ _, fun j => by rw [if_neg (by omega)]⟩
  | k + 1, i, μ, h => by
    obtain ⟨μ', q1, q2, q3⟩ := m_sent79 k (i + 1) (sI_ μ 221 (810 + i) (μ.1 245 i)) (by omega)
    have l810 : (810 : Int32) = nI 810 := rfl
    refine ⟨μ', e_X12_sentence_79 (pk_le 240 i (fun z => by omega) (fun _ => ⟨vpin_n (by omega), ?_⟩)), fr_tr (fr_sI (by simp)) q2, fun j => ?_⟩
    · rw [l810, nI_add, cl_ (by omega), cl_ (by omega), nI_1]
      exact ⟨vpin_n (by omega), q1⟩
    · have e5 : ∀ j, (sI_ μ 221 (810 + i) (μ.1 245 i)).1 245 j = μ.1 245 j := fun j => by rw [sI_row _ _ _ _ (by decide)]
      rw [q3 j, e5, sI_at]
      by_cases e : j = 810 + i
      · subst e
        rw [if_neg (by omega), if_pos ⟨rfl, rfl⟩, if_pos (by omega), Nat.add_sub_cancel_left]
      · rw [if_neg (show ¬ (221 = 221 ∧ j = 810 + i) from fun z => e z.2)]
        by_cases e2 : 810 + (i + 1) ≤ j ∧ j < 1050
        · rw [if_pos e2, if_pos (by omega)]
        · rw [if_neg e2, if_neg (by omega)]
theorem sentence_both (hB : isB b) (hS : isS s) (hS' : isS s') (h12 : σ.2.2 0 12 = some b) (h16 : σ.2.2 0 16 = some s) (h17 : σ.2.2 0 17 = some s') (hC : CB_ σ b B) (hl : LY_ μ μ1) (hx : RX_ μ1 B) (hT : TA_ σ μ1 n t) (hW : ∀ j, j < 20 → σ.1 3 j = W_ j) : ∃ v σ' μ', f_X11_sentence KC [.ref 0] σ = some (some (.int v), σ') ∧ f_X12_sentence KC [.ref 219] μ = some (some (.int v), μ') ∧ TA_ σ' μ' 0 t ∧ σ'.1 1 9 = μ'.1 219 10 ∧ SQ_ σ σ' μ1 μ' b s s' B := by
  have gs := s_ge hS'
  have gb := isB_ge hB
  have hbs : ∀ o, b ≤ o → o ≤ b + 27 → ¬ (s' ≤ o ∧ o ≤ s' + 4) := fun o o1 o2 => by unfold isB at hB; unfold isS at hS'; omega
  obtain ⟨κ, pl, e, c, σ0, μ0, a1, a2, a3, a4, ⟨a5, a6⟩, a7, a8, a9, a10⟩ := begin_both (L := 200) hl hT hW (by omega)
  obtain ⟨⟨hn, ht⟩, ⟨t1, t2⟩, t3, t4⟩ := hT
  have hcl := s_clear hS' σ0
  generalize hσa : sI_ (sI_ σ0 s' 4 0) s' 5 0 = σa at hcl
  generalize hμa : sI_ (sI_ (sI_ μ0 219 59 0) 219 60 0) 219 61 0 = μa
  have er : ∀ o, o ≠ s' → σa.1 o = σ0.1 o := fun o h => by
    rw [← hσa, sI_row _ _ _ _ h, sI_row _ _ _ _ h]
  have ea2 : σa.2 = σ0.2 := by rw [← hσa]; rfl
  have mr : ∀ o, o ≠ 219 → μa.1 o = μ0.1 o := fun o h => by rw [← hμa, sI_row _ _ _ _ h, sI_row _ _ _ _ h, sI_row _ _ _ _ h]
  have ma : ∀ i, i ≠ 59 → i ≠ 60 → i ≠ 61 → μa.1 219 i = μ0.1 219 i := fun i h1 h2 h3 => by rw [← hμa, sI_at, if_neg (fun z => h3 z.2), sI_at, if_neg (fun z => h2 z.2), sI_at, if_neg (fun z => h1 z.2)]
  have ma2 : μa.2 = μ0.2 := by rw [← hμa]; rfl
  have hC0 : CB_ σa b B := CB_row hB (CB_row hB hC (fun o o1 o2 => a5.1 o (by simp; omega)) hx.2) (fun o o1 o2 => er o (fun z => hbs o o1 o2 (by omega))) hx.2
  have hx0 : RX_ μa B := by
    rw [← hμa]
    exact RX_sI (RX_sI (RX_sI (RX_fm hx a7 (by decide) (by decide)) (by decide)) (by decide)) (by decide)
  have hSI : SI_ σa μa s' b n t 200 κ pl e c B (fun _ _ => 0) (fun _ _ => 0) 0 0 0 := by
    refine ⟨PR_cg a3 (fun f _ _ => by rw [er 1 (by omega)]) (er 2 (by omega)) (er 3 (by omega)) (fun f _ _ => ma f (by omega) (by omega) (by omega)) (mr 220 (by decide)) (by rw [ma2]), ⟨hC0, hx0⟩, ⟨⟨?_, fun i hi => absurd hi (Nat.not_lt_zero i)⟩, ?_⟩, ⟨?_, fun i hi => absurd hi (Nat.not_lt_zero i)⟩, ?_, ?_⟩
    · rw [← hσa, sI_at, if_neg (by omega), sI_at, if_pos ⟨rfl, rfl⟩]
      rfl
    · rw [← hσa, sI_at, if_pos ⟨rfl, rfl⟩]
      rfl
    · rw [← hμa, sI_at, if_neg (by omega), sI_at, if_neg (by omega), sI_at, if_pos ⟨rfl, rfl⟩]
      rfl
    · rw [← hμa, sI_at, if_neg (by omega), sI_at, if_pos ⟨rfl, rfl⟩]
      rfl
    · rw [← hμa, sI_at, if_pos ⟨rfl, rfl⟩]
      rfl
  have f0 : CT_ s' (s' + 4) σ0 σa := ⟨fun o _ h2 => er o (fun z => h2 (by omega)), ea2⟩
  have g0 : CM_ [245] [] [2, 3, 4, 59, 60, 61, 62] μ1 μa := ⟨fm_tr (fm_mono a7 (by simp) (by simp)) (by rw [← hμa]; exact fm_tr (fm_sI (by simp)) (fm_tr (fm_sI (by simp)) (fm_sI (by simp)))), fun f hf hn => by
    simp only [List.mem_cons, List.not_mem_nil, or_false] at hn
    rw [ma f (by omega) (by omega) (by omega)]
    exact a8 f (by omega)⟩
  have h219 : μa.1 219 2 = nI 0 ∧ μa.1 219 10 = nI 0 := ⟨by rw [ma _ (by omega) (by omega) (by omega)]; exact a9, by rw [ma _ (by omega) (by omega) (by omega)]; exact a10⟩
  have h1 : σa.1 1 9 = nI 0 := by rw [er 1 (by omega)]; exact a6
  have tape : ∀ {σ2 μ2 : St_}, CT_ s' (s' + 4) σa σ2 → CM_ [245] [] sfl_ μa μ2 → (∀ i, σ2.1 2 i = b8_ (t i)) ∧ μ2.1 219 2 = nI 0 ∧ ∀ i, μ2.1 220 i = nI (t i) := fun {σ2 μ2} f g => ⟨fun i => by
      rw [f.1 2 (by omega) (by omega), er 2 (by omega), a5.1 2 (by decide)]
      exact t2 i, by
      rw [g.2 2 (by omega) (by decide)]
      exact h219.1, fun i => by
      rw [g.1.1 220 (by decide), mr 220 (by omega), a7.1 220 (by decide)]
      exact t4 i⟩
  have mw : ∀ {x y : St_}, CM_ [245] [] sfl_ x y → CM_ [245] [] [2, 3, 4, 59, 60, 61, 62] x y := fun h => CM_mono h (by simp) (by simp) (by decide)
  -- both fail
  have bad : ∀ (σ2 μ2 : St_), f_X9_readFrom KC [.ref s', .ref 1, .ref b] σ0 = some (some (.int 0), σ2) → f_X12_sentence KC [.ref 219] μ = some (some (.int (-1 - μ2.1 219 11)), μ2) → FT_ σ2 μ2 → CT_ s' (s' + 4) σa σ2 → CM_ [245] [] sfl_ μa μ2 → ∃ v σ' μ', f_X11_sentence KC [.ref 0] σ = some (some (.int v), σ') ∧ f_X12_sentence KC [.ref 219] μ = some (some (.int v), μ') ∧ TA_ σ' μ' 0 t ∧ σ'.1 1 9 = μ'.1 219 10 ∧ SQ_ σ σ' μ1 μ' b s s' B := by
    intro σ2 μ2 q1 q2 ft f1 f2
    obtain ⟨k1, k2⟩ := FT_ans ft
    obtain ⟨u1, u2, u3⟩ := tape f1 f2
    refine ⟨-1 - μ2.1 219 11, sI_ σ2 1 2 0, μ2, z_X11_sentence (e_X11_sentence_0 ⟨σ0, a1, s', by rw [a5.2]; exact h17, hS', b, by rw [a5.2]; exact h12, hB, 0, σ2, q1, br_t rfl ⟨_, _, z_X8_faultAnswer (e_X8_faultAnswer_0 rfl), ?_⟩⟩), q2, ⟨⟨by omega, ht⟩, ⟨by rw [sI_at, if_pos ⟨rfl, rfl⟩]; rfl, fun i => by rw [sI_row _ _ _ _ (by decide)]; exact u1 i⟩, u2, u3⟩, ?_, Or.inl ⟨⟨fun o h1 h2 => ?_, ?_⟩, CM_tr g0 (mw f2)⟩⟩
    · rw [sI_at, if_neg (by decide), k1]
    · rw [sI_at, if_neg (by decide), k2]
    · rw [sI_row _ _ _ _ h1, f1.1 o h1 h2, f0.1 o h1 h2, a5.1 o (by simp; exact h1)]
    · rw [sI_2, f1.2, f0.2, a5.2]
  rcases cond_pair hS' hB (one_pair hS' hB 8 0 (by omega) 79 78 (by omega) (by omega)) hSI (fun j hj => absurd hj (Nat.not_lt_zero j)) (by omega) (by omega) with ⟨σ2, μ2, q1, q2, ft, f1, f2⟩ | ⟨Q, V, N, O, D, κ2, pl2, e2, c2, σ2, μ2, ⟨q1, q2⟩, hI, hq, ⟨⟨g1, g2, g3, g4, g5⟩, -⟩, ⟨es, en⟩, top, f1, f2, nf⟩
  · have q2' : f_X12_readOr KC 80 [.ref 219] μa = some (some (.int 0), μ2) := q2
    have q1' : f_X9_readCond KC 80 [.ref s', .ref 1, .ref b, .int 1] σa = some (some (.int 0), σ2) := q1
    exact bad σ2 μ2 (z_X9_readFrom (e_X9_readFrom_0 hS' hB ⟨σa, hcl, 0, σ2, q1', br_t rfl rfl⟩)) (z_X12_sentence (e_X12_sentence_0 ⟨μ0, a2, 0, μ2, by rw [hμa]; exact q2', br_t rfl rfl⟩)) ft f1 f2
  · have q2' : f_X12_readOr KC 80 [.ref 219] μa = some (some (.int 1), μ2) := q2
    have q1' : f_X9_readCond KC 80 [.ref s', .ref 1, .ref b, .int 1] σa = some (some (.int 1), σ2) := q1
    have hT2 := hI.1.2.2.2.1
    have hTC2 := hI.1.2.2.2.2.1
    have hTM2 := hI.1.2.2.2.2.2
    have hκ2 := hT2.1
    have hrl := rk_lt κ2
    by_cases h0 : κ2 = 0
    · obtain ⟨u1, u2, u3⟩ := tape f1 f2
      have kC : σ2.1 1 6 = 0 := by rw [hTC2.1, h0]; rfl
      have kM : μ2.1 219 7 = 0 := by rw [hTM2.1, h0]; rfl
      generalize hμ3 : sI_ (sI_ μ2 221 800 1) 221 801 (nI (N - 1)) = μ3
      have w0 : ∀ o, o ≠ 221 → μ3.1 o = μ2.1 o := fun o h => by rw [← hμ3, sI_row _ _ _ _ h, sI_row _ _ _ _ h]
      have w1 : ∀ i, i ≠ 800 → i ≠ 801 → μ3.1 221 i = μ2.1 221 i := fun i h1 h2 => by rw [← hμ3, sI_at, if_neg (fun z => h2 z.2), sI_at, if_neg (fun z => h1 z.2)]
      obtain ⟨μ4, v1, v2, v3⟩ := m_sent79 240 0 μ3 (by omega)
      have ho : μ3.1 219 60 = nI O := by rw [w0 219 (by decide)]; exact hI.2.2.2.2.1
      have he2 : (sI_ μ2 221 800 1).1 219 62 = nI (N - 1) := by rw [sI_row _ _ _ _ (by decide)]; exact top
      have e2 : σ2.2 = σ.2 := by rw [f1.2, ea2, a5.2]
      generalize hσ3 : sR_ (sR_ (sI_ σ2 1 2 0) 0 16 (some s')) 0 17 (some s) = σ3
      have x1 : σ3.1 = (sI_ σ2 1 2 0).1 := by rw [← hσ3]; rfl
      have x2 : ∀ o i, σ3.2.2 o i = if o = 0 ∧ i = 17 then some s else if o = 0 ∧ i = 16 then some s' else σ.2.2 o i := fun o i => by
        rw [← hσ3, sR_at, sR_at]
        show (if _ then _ else if _ then _ else σ2.2.2 o i) = _
        rw [e2]
      have row : ∀ o, o ≠ 1 → σ3.1 o = σ2.1 o := fun o o1 => by rw [x1, sI_row _ _ _ _ o1]
      refine ⟨nI O, σ3, μ4, z_X11_sentence (e_X11_sentence_0 ⟨σ0, a1, s', by rw [a5.2]; exact h17, hS', b, by rw [a5.2]; exact h12, hB, 1, σ2, z_X9_readFrom (e_X9_readFrom_0 hS' hB ⟨σa, hcl, 1, σ2, q1', br_f (by decide) (br_t kC rfl)⟩), br_f (by decide) ⟨s, ?_, hS, s', ?_, hS', ?_⟩⟩), z_X12_sentence (e_X12_sentence_0 ⟨μ0, a2, 1, μ2, by rw [hμa]; exact q2', br_f (by decide) (br_t kM ⟨by decide, by decide, ?_⟩)⟩), ⟨⟨by omega, ht⟩, ⟨?_, fun i => by rw [row 2 (by omega)]; exact u1 i⟩, ?_, fun i => by rw [v2.1 220 (by decide), w0 220 (by decide)]; exact u3 i⟩, ?_, Or.inr ⟨⟨by rw [x2]; simp, by rw [x2]; simp, fun o i h => by rw [x2, if_neg (by omega), if_neg (by omega)]⟩, Or.inr ⟨Q, V, N, O, D, ⟨by omega, by omega, by omega, g3, ?_⟩, hq, ⟨es, en⟩, ⟨PC_cg hI.2.2.1.1 (fun o o1 o2 => row o (by omega)), ?_⟩, ⟨?_, ?_, fun j i hj hi => ?_⟩⟩, fun o o1 o2 => ?_, CM_tr (CM_mono g0 (by simp) (by simp) (by simp)) (CM_tr (CM_mono (mw f2) (by simp) (by simp) (by simp)) ⟨fm_tr (by rw [← hμ3]; exact fm_tr (fm_sI (by simp)) (fm_sI (by simp))) (fr_fm (fr_mono v2 (by simp))), fun f _ _ => by rw [v2.1 219 (by decide), w0 219 (by decide)]⟩), fun i hi => ?_⟩⟩
      · rw [sI_2, e2]; exact h16
      · rw [sI_2, e2]; exact h17
      · rw [hσ3, row s' (by omega), hI.2.2.1.2]
      · have c8 : Int32.toNatClampNeg (800 : Int32) = 800 := rfl
        have c9 : Int32.toNatClampNeg (801 : Int32) = 801 := rfl
        rw [c8, c9, he2, hμ3]
        rw [ho] at v1
        exact v1
      · rw [x1, sI_at, if_pos ⟨rfl, rfl⟩]; rfl
      · rw [v2.1 219 (by decide), w0 219 (by decide)]; exact u2
      · rw [x1, sI_at, if_neg (by decide), nf.1, h1, v2.1 219 (by decide), w0 219 (by decide), nf.2, h219.2]
      · have z0 : lc2_ (fun _ _ => 0) 0 = 0 := rfl
        rw [z0] at g5
        omega
      · rw [row s' (by omega)]; exact hI.2.2.1.2
      · rw [v3, if_neg (by omega), ← hμ3, sI_at, if_neg (by omega), sI_at, if_pos ⟨rfl, rfl⟩]; rfl
      · rw [v3, if_neg (by omega), ← hμ3, sI_at, if_pos ⟨rfl, rfl⟩]
      · have hv := hI.2.2.2.1.2 j hj
        rw [v3, if_pos (by omega), show 0 + 810 + 4 * j + i - 810 = 4 * j + i by omega, w0 245 (by decide)]
        rcases (show i = 0 ∨ i = 1 ∨ i = 2 ∨ i = 3 by omega) with rfl | rfl | rfl | rfl
        · exact hv.1
        · exact hv.2.1
        · exact hv.2.2.1
        · exact hv.2.2.2
      · rw [row o o1, f1.1 o o1 o2, f0.1 o o1 o2, a5.1 o (by simp; exact o1)]
      · rw [v3, if_neg (by omega), w1 i (by omega) (by omega), f2.1.1 221 (by decide), mr 221 (by decide), a7.1 221 (by decide)]
    · have kC : ¬ σ2.1 1 6 = 0 := fun z => h0 ((nI_eq (by omega) (by omega)).mp (hTC2.1.symm.trans z))
      have kM : ¬ μ2.1 219 7 = 0 := fun z => h0 ((rk_0 hκ2).mp ((nI_eq (by omega) (by omega)).mp (hTM2.1.symm.trans z)))
      obtain ⟨⟨σ3, z1, z2, z3, z4⟩, ⟨μ3, y1, y2, y3, y4⟩, hpl⟩ := fail_both 1 hI.1 (by omega) (by omega) (by omega)
      exact bad σ3 μ3 (z_X9_readFrom (e_X9_readFrom_0 hS' hB ⟨σa, hcl, 1, σ2, q1', br_f (by decide) (br_f kC ⟨0, σ3, z1, br_t rfl rfl⟩)⟩)) (z_X12_sentence (e_X12_sentence_0 ⟨μ0, a2, 1, μ2, by rw [hμa]; exact q2', br_f (by decide) (br_f kM ⟨0, μ3, y1, rfl⟩)⟩)) ⟨1, pl2, by omega, by omega, hpl, z3, y3, z4, y4⟩ (CT_tr f1 (CT_SF z2)) (CM_tr f2 (CM_MF y2))
end SQ
