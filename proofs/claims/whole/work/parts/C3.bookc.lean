/-! the call BOOK, on both sides -/
/-- what the class changes while it reads a text into the rows from q to r; the reference -/
def CT_ (q r : Nat) (σ σ' : St_) : Prop := (∀ o, o ≠ 1 → ¬ (q ≤ o ∧ o ≤ r) → σ'.1 o = σ.1 o) ∧ σ'.2 = σ.2
def CM_ (S SJ ff : List Nat) (μ μ' : St_) : Prop := fm_ (219 :: S) (219 :: SJ) μ μ' ∧ ∀ f, (2 ≤ f ∧ f < 5 ∨ 13 < f) → f ∉ ff → μ'.1 219 f = μ.1 219 f
section BK
variable {σ μ μ1 : St_} {b b' p s n : Nat} {t : Nat → Nat}
theorem c_bclear (hb : isB b) (σ : St_) : f_X0_clear KC [.ref b] σ = some (none, sI_ (sI_ (sI_ (sI_ (sI_ (sI_ (sI_ σ b 11 0) b 12 0) b 13 0) b 14 20) b 15 8) b 16 0) b 17 0) := z_X0_clear (e_X0_clear_0 hb rfl)
theorem s_clear (hs : isS s) (σ : St_) : f_X9_clear KC [.ref s] σ = some (none, sI_ (sI_ σ s 4 0) s 5 0) := z_X9_clear (e_X9_clear_0 hs rfl)
theorem p_clear (hp : isP p) (σ : St_) : f_X6_clear KC [.ref p] σ = some (none, sI_ σ p 4 0) := z_X6_clear (e_X6_clear_0 hp rfl)
/-- what comes of book() -/
def BQ_ (σ σ' μ1 μ' : St_) (b b' p s : Nat) : Prop :=
  (CT_ b' (b' + 27) σ σ' ∧ CM_ [222] [225] [2, 3, 4, 22] μ1 μ') ∨
  (∃ B', (σ'.2.2 0 12 = some b' ∧ σ'.2.2 0 13 = some b ∧ (∀ o i, ¬ (o = 0 ∧ (i = 12 ∨ i = 13)) → σ'.2.2 o i = σ.2.2 o i)) ∧ (CB_ σ' b' B' ∧ RX_ μ' B') ∧ (σ'.1 p 4 = nI 0 ∧ σ'.1 s 4 = nI 0 ∧ σ'.1 s 5 = nI 0 ∧ σ'.1 0 18 = nI 0 ∧ μ'.1 221 390 = nI 0 ∧ μ'.1 221 800 = nI 0) ∧ ((∀ o, o ≠ 1 → o ≠ 0 → o ≠ p → o ≠ s → ¬ (b' ≤ o ∧ o ≤ b' + 27) → σ'.1 o = σ.1 o) ∧ ∀ f, f ≠ 18 → σ'.1 0 f = σ.1 0 f) ∧ CM_ [221, 222] [224, 225] [2, 3, 4, 22] μ1 μ')
theorem book_both (hB : isB b) (hB' : isB b') (hP : isP p) (hS : isS s) (h12 : σ.2.2 0 12 = some b) (h13 : σ.2.2 0 13 = some b') (h14 : σ.2.2 0 14 = some p) (h16 : σ.2.2 0 16 = some s) (hl : LY_ μ μ1) (hT : TA_ σ μ1 n t) (hW : ∀ j, j < 20 → σ.1 3 j = W_ j) : ∃ v σ' μ', f_X11_book KC [.ref 0] σ = some (some (.int v), σ') ∧ f_X12_book KC [.ref 219] μ = some (some (.int v), μ') ∧ TA_ σ' μ' 0 t ∧ σ'.1 1 9 = μ'.1 219 10 ∧ BQ_ σ σ' μ1 μ' b b' p s := by
  have gb := isB_ge hB'
  obtain ⟨κ, pl, e, c, σ0, μ0, a1, a2, a3, a4, ⟨a5, a6⟩, a7, a8, a9, a10⟩ := begin_both (L := 1000) hl hT hW (by omega)
  obtain ⟨⟨hn, ht⟩, ⟨t1, t2⟩, t3, t4⟩ := hT
  have c0 : Int32.toNatClampNeg (0 : Int32) = 0 := rfl
  have c1 : Int32.toNatClampNeg (1 : Int32) = 1 := rfl
  have c2 : Int32.toNatClampNeg (2 : Int32) = 2 := rfl
  have c3 : Int32.toNatClampNeg (3 : Int32) = 3 := rfl
  have hcl := c_bclear hB' σ0
  generalize hσa : sI_ (sI_ (sI_ (sI_ (sI_ (sI_ (sI_ σ0 b' 11 0) b' 12 0) b' 13 0) b' 14 20) b' 15 8) b' 16 0) b' 17 0 = σa at hcl
  generalize hμa : sI_ (sI_ (sI_ (sI_ (sI_ μ0 222 0 0) 222 1 0) 222 2 20) 222 3 8) 219 22 0 = μa
  have ea : ∀ o i, ¬ (o = b' ∧ (i = 11 ∨ i = 12 ∨ i = 13 ∨ i = 14 ∨ i = 15 ∨ i = 16 ∨ i = 17)) → σa.1 o i = σ0.1 o i := fun o i h => by
    rw [← hσa]
    simp only [sI_at]
    rw [if_neg (by omega), if_neg (by omega), if_neg (by omega), if_neg (by omega), if_neg (by omega), if_neg (by omega), if_neg (by omega)]
  have ea2 : σa.2 = σ0.2 := by rw [← hσa]; rfl
  have ma : ∀ o i, ¬ (o = 222 ∧ i < 4) → ¬ (o = 219 ∧ i = 22) → μa.1 o i = μ0.1 o i := fun o i h h' => by
    rw [← hμa]
    simp only [sI_at]
    rw [if_neg (by omega), if_neg (by omega), if_neg (by omega), if_neg (by omega), if_neg (by omega)]
  have ma2 : μa.2 = μ0.2 := by rw [← hμa]; rfl
  have hLI : LI_ σa μa b' n t 1000 κ pl e c B0_ 0 0 0 := by
    refine ⟨PR_cg a3 (fun f _ _ => ea 1 f (by omega)) (by funext i; exact ea 2 i (by omega)) (by funext i; exact ea 3 i (by omega)) (fun f _ _ => ma 219 f (by omega) (by omega)) (by funext i; exact ma 220 i (by omega) (by omega)) (by rw [ma2]), ⟨⟨⟨?_, ?_, ?_, ?_⟩, fun c hc => absurd hc (Nat.not_lt_zero c), fun r hr => absurd hr (Nat.not_lt_zero r)⟩, ⟨⟨?_, ?_, ?_, ?_⟩, fun c hc => absurd hc (Nat.not_lt_zero c), fun r hr => absurd hr (Nat.not_lt_zero r)⟩, B0_ok⟩, ⟨by omega, by omega, ?_, ?_, ?_⟩, ?_⟩
    all_goals first
      | (rw [← hσa]; simp only [sI_at]; simp; done)
      | (rw [← hσa]; simp only [sI_at]; simp; rfl)
      | (rw [← hμa]; simp only [sI_at]; simp; done)
      | (rw [← hμa]; simp only [sI_at]; simp; rfl)
  have f0 : BF_ b' bl_ σ0 σa := by
    rw [← hσa]
    exact BF_tr (BF_tr (BF_tr (BF_tr (BF_tr (BF_tr (BF_sb hB' (by decide)) (BF_sb hB' (by decide))) (BF_sb hB' (by decide))) (BF_sb hB' (by decide))) (BF_sb hB' (by decide))) (BF_sb hB' (by decide))) (BF_sb hB' (by decide))
  have g0 : CM_ [222] [225] [2, 3, 4, 22] μ1 μa := by
    rw [← hμa]
    refine ⟨fm_tr (fm_mono a7 (by simp) (by simp)) (fm_tr (fm_tr (fm_tr (fm_tr (fm_sI (by simp)) (fm_sI (by simp))) (fm_sI (by simp))) (fm_sI (by simp))) (fm_sI (by simp))), fun f hf hn => ?_⟩
    simp only [List.mem_cons, List.not_mem_nil, or_false] at hn
    simp only [sI_at]
    rw [if_neg (by omega), if_neg (by omega), if_neg (by omega), if_neg (by omega), if_neg (by omega)]
    exact a8 f (by omega)
  have h219 : μa.1 219 2 = nI 0 ∧ μa.1 219 10 = nI 0 := ⟨by rw [ma _ _ (by omega) (by omega)]; exact a9, by rw [ma _ _ (by omega) (by omega)]; exact a10⟩
  have h1 : σa.1 1 9 = nI 0 := by rw [ea _ _ (by omega)]; exact a6
  have rc : ∀ out, Ev_ (P_X0_readFrom KC) 6 [some (.ref b'), some (.ref 1), some (.int 0), none] [] σa out → f_X0_readFrom KC [.ref b', .ref 1] σ0 = some out := fun out q => z_X0_readFrom (e_X0_readFrom_0 hB' ⟨σa, hcl, q⟩)
  have rm : ∀ out, Ev_ (P_X12_book KC) 44 [some (.ref 219), some (.int 0), none] [] μa out → f_X12_book KC [.ref 219] μ = some out := fun out q => by
    refine z_X12_book (e_X12_book_0 ⟨μ0, a2, by decide, by decide, by decide, by decide, ?_⟩)
    rw [c0, c1, c2, c3, hμa]
    exact q
  have far : ∀ {x y : St_}, BF_ b' bl_ x y → CT_ b' (b' + 27) x y := fun h => ⟨h.1, h.2.1⟩
  have mfar : ∀ {x y : St_}, BM_ [22] x y → CM_ [222] [225] [2, 3, 4, 22] x y := fun h => ⟨fm_mono h.1 (by simp) (by simp), fun f hf hn => h.2 f (by omega) (fun z => hn (by simp at z ⊢; omega))⟩
  have tape : ∀ {σ2 μ2 : St_}, BF_ b' bl_ σa σ2 → BM_ [22] μa μ2 → (∀ i, σ2.1 2 i = b8_ (t i)) ∧ μ2.1 219 2 = nI 0 ∧ ∀ i, μ2.1 220 i = nI (t i) := fun {σ2 μ2} f g => ⟨fun i => by
      rw [f.1 2 (by omega) (by omega), ea 2 i (by omega), a5.1 2 (by decide)]
      exact t2 i, by
      rw [g.2 2 (by omega) (by decide)]
      exact h219.1, fun i => by
      rw [g.1.1 220 (by decide), ma 220 i (by omega) (by omega), a7.1 220 (by decide)]
      exact t4 i⟩
  have n0 : (nI 0 : Int32) = 0 := rfl
  rcases bk_loop hB' 1041 κ pl e c B0_ 0 0 0 σa μa (by omega) hLI (fun z => a4 z) (by omega) with ⟨σ2, μ2, q1, q2, ft, f1, f2⟩ | ⟨B', N', σ2, μ2, q1, q2, ⟨r1, r2, r3⟩, r4, f1, f2, nf⟩
  · obtain ⟨k1, k2⟩ := FT_ans ft
    obtain ⟨u1, u2, u3⟩ := tape f1 f2
    refine ⟨-1 - μ2.1 219 11, sI_ σ2 1 2 0, μ2, z_X11_book (e_X11_book_0 ⟨σ0, a1, b', by rw [a5.2]; exact h13, hB', 0, σ2, rc _ q1, br_t rfl ⟨_, _, z_X8_faultAnswer (e_X8_faultAnswer_0 rfl), ?_⟩⟩), rm _ q2, ⟨⟨by omega, ht⟩, ⟨by rw [sI_at, if_pos ⟨rfl, rfl⟩]; rfl, fun i => by rw [sI_row _ _ _ _ (by decide)]; exact u1 i⟩, u2, u3⟩, ?_, Or.inl ⟨⟨fun o h1 h2 => ?_, ?_⟩, ?_⟩⟩
    · rw [sI_at, if_neg (by decide), k1]
    · rw [sI_at, if_neg (by decide), k2]
    · rw [sI_row _ _ _ _ h1, f1.1 o h1 h2, f0.1 o h1 h2, a5.1 o (by simp; exact h1)]
    · rw [sI_2, f1.2.1, f0.2.1, a5.2]
    · exact ⟨fm_tr g0.1 (mfar f2).1, fun f h1 h2 => ((mfar f2).2 f h1 h2).trans (g0.2 f h1 h2)⟩
  · obtain ⟨u1, u2, u3⟩ := tape f1 f2
    obtain ⟨μ3, v1, v2, v3⟩ := m_book73 (nI N') 390 0 μ2 (by omega)
    obtain ⟨μ4, w1, w2, w3, w4⟩ := m_book100 (nI N') 25 0 μ3 (by omega)
    have e2 : σ2.2 = σ.2 := by rw [f1.2.1, ea2, a5.2]
    have hps : p ≠ 0 ∧ p ≠ 1 ∧ p ≠ 2 ∧ ¬ (b' ≤ p ∧ p ≤ b' + 27) := by unfold isP at hP; unfold isB at hB'; omega
    have hss : s ≠ 0 ∧ s ≠ 1 ∧ s ≠ 2 ∧ s ≠ p ∧ ¬ (b' ≤ s ∧ s ≤ b' + 27) := by unfold isP at hP; unfold isB at hB'; unfold isS at hS; omega
    -- the class's end
    generalize hσ3 : sR_ (sR_ (sI_ σ2 1 2 0) 0 12 (some b')) 0 13 (some b) = σ3
    have x1 : σ3.1 = (sI_ σ2 1 2 0).1 := by rw [← hσ3]; rfl
    have x2 : ∀ o i, σ3.2.2 o i = if o = 0 ∧ i = 13 then some b else if o = 0 ∧ i = 12 then some b' else σ.2.2 o i := fun o i => by
      rw [← hσ3, sR_at, sR_at]
      show (if _ then _ else if _ then _ else σ2.2.2 o i) = _
      rw [e2]
    generalize hσ4 : sI_ (sI_ (sI_ (sI_ σ3 p 4 0) s 4 0) s 5 0) 0 18 0 = σ4
    have y1 : ∀ o i, ¬ (o = p ∧ i = 4) → ¬ (o = s ∧ (i = 4 ∨ i = 5)) → ¬ (o = 0 ∧ i = 18) → ¬ (o = 1 ∧ i = 2) → σ4.1 o i = σ2.1 o i := fun o i z1 z2 z3 z4 => by
      rw [← hσ4]
      simp only [sI_at]
      rw [if_neg (by omega), if_neg (by omega), if_neg (by omega), if_neg (by omega), x1, sI_at, if_neg (by omega)]
    have y2 : σ4.2.2 = σ3.2.2 := by rw [← hσ4]; rfl
    have y12 : σ4.1 1 2 = 0 := by
      rw [← hσ4]
      simp only [sI_at]
      rw [if_neg (by omega), if_neg (by omega), if_neg (by omega), if_neg (by omega), x1, sI_at, if_pos ⟨rfl, rfl⟩]
    have rowb : ∀ o, b' ≤ o → o ≤ b' + 27 → σ4.1 o = σ2.1 o := fun o o1 o2 => by
      funext i
      exact y1 o i (by omega) (by omega) (by omega) (by omega)
    refine ⟨nI N', σ4, sI_ (sI_ μ4 221 390 0) 221 800 0, z_X11_book (e_X11_book_0 ⟨σ0, a1, b', by rw [a5.2]; exact h13, hB', 1, σ2, rc _ q1, br_f (by decide) ⟨b, ?_, hB, b', ?_, hB', p, ?_, hP, _, p_clear hP _, s, ?_, hS, _, s_clear hS _, b', ?_, hB', ?_⟩⟩), rm _ (q2 _ (v1 _ w1)), ⟨⟨by omega, ht⟩, ⟨y12, fun i => by rw [y1 2 i (by omega) (by omega) (by omega) (by omega)]; exact u1 i⟩, ?_, ?_⟩, ?_, Or.inr ⟨B', ⟨by rw [y2, x2]; simp, by rw [y2, x2]; simp, fun o i h => by rw [y2, x2, if_neg (by omega), if_neg (by omega)]⟩, ⟨CB_row hB' r1 rowb r3, ⟨?_, r3⟩⟩, ⟨?_, ?_, ?_, ?_, ?_, ?_⟩, ⟨fun o o1 o2 o3 o4 o5 => ?_, fun f hf => ?_⟩, ⟨?_, fun f h1 h2 => ?_⟩⟩⟩
    · rw [sI_2, e2]; exact h12
    · rw [sI_2, e2]; exact h13
    · rw [hσ3, x2, if_neg (by omega), if_neg (by omega)]; exact h14
    · rw [hσ3, sI_2, x2, if_neg (by omega), if_neg (by omega)]; exact h16
    · rw [hσ3, hσ4, y2, x2]; simp
    · rw [hσ3, hσ4, rowb b' (by omega) (by omega), r4]
    · rw [sI_row _ _ _ _ (by decide), sI_row _ _ _ _ (by decide), w2, v2.1 219 (by decide)]; exact u2
    · intro i
      rw [sI_row _ _ _ _ (by decide), sI_row _ _ _ _ (by decide), w2, v2.1 220 (by decide)]
      exact u3 i
    · rw [y1 1 9 (by omega) (by omega) (by omega) (by omega), nf.1, h1, sI_row _ _ _ _ (by decide), sI_row _ _ _ _ (by decide), w2, v2.1 219 (by decide), nf.2, h219.2]
    · refine MB_of r2 (fun i hi => ?_) (fun i hi => ?_) r3
      · rw [sI_at, if_neg (by omega), sI_at, if_neg (by omega), w2, v3, if_pos (by omega)]
      · rw [sI_2, sI_2, w4, if_pos (by omega), v2.2]
    · rw [← hσ4, sI_at, if_neg (by omega), sI_at, if_neg (by omega), sI_at, if_neg (by omega), sI_at, if_pos ⟨rfl, rfl⟩]; rfl
    · rw [← hσ4, sI_at, if_neg (by omega), sI_at, if_neg (by omega), sI_at, if_pos ⟨rfl, rfl⟩]; rfl
    · rw [← hσ4, sI_at, if_neg (by omega), sI_at, if_pos ⟨rfl, rfl⟩]; rfl
    · rw [← hσ4, sI_at, if_pos ⟨rfl, rfl⟩]; rfl
    · rw [sI_at, if_neg (by omega), sI_at, if_pos ⟨rfl, rfl⟩]; rfl
    · rw [sI_at, if_pos ⟨rfl, rfl⟩]; rfl
    · funext i
      rw [y1 o i (by omega) (by omega) (by omega) (by omega), f1.1 o o1 o5, f0.1 o o1 o5, a5.1 o (by simp; exact o1)]
    · rw [y1 0 f (by omega) (by omega) (by omega) (by omega), f1.1 0 (by omega) (by omega), f0.1 0 (by omega) (by omega), a5.1 0 (by decide)]
    · exact fm_tr (fm_mono g0.1 (by simp) (by simp)) (fm_tr (fm_mono (mfar f2).1 (by simp) (by simp)) (fm_tr (fr_fm (fr_mono v2 (by simp))) (fm_tr (fm_mono w3 (by simp) (by simp)) (fm_tr (fm_sI (by simp)) (fm_sI (by simp))))))
    · rw [sI_row _ _ _ _ (by decide), sI_row _ _ _ _ (by decide), w2, v2.1 219 (by decide), (mfar f2).2 f h1 h2, g0.2 f h1 h2]
end BK
