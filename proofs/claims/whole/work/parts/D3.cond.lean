/-! ONES joined by and, by or -/
def AC_ (B Q0 V0 : Nat → Nat → Nat) (N0 O0 : Nat) (Q V : Nat → Nat → Nat) (N O : Nat) (D : M_) : Prop := (∀ j, j < N → QV_ B (Q j)) ∧ GR_ Q0 Q V0 V N0 N O0 O ∧ ES_ B Q N0 (N - N0) D ∧ EN_ B V N (N - 1) D
section AJ
variable {B Q0 V0 Q V Q' V' : Nat → Nat → Nat} {N0 O0 N O N' O' : Nat} {D D' : M_}
theorem QV_add {kd : Nat} (h : ∀ j, j < N → QV_ B (Q j)) (h1 : 15 ≤ kd ∧ kd < 18) : ∀ j, j < N + 1 → QV_ B (pu_ Q N kd 0 0 0 j) := fun j hj => by
  by_cases e : j = N
  · subst e
    rw [show pu_ Q j kd 0 0 0 j = (fun i => if i = 0 then kd else if i = 1 then 0 else if i = 2 then 0 else 0) from by
      funext i
      unfold pu_
      rw [if_pos rfl]]
    exact QV_mk (by omega) (fun z => by omega)
  · rw [pu_lo (by omega)]
    exact h j (by omega)
theorem AC_join {kd vd : Nat} (h : AC_ B Q0 V0 N0 O0 Q V N O D) (h' : AC_ B Q V N O Q' V' N' O' D') (hk : kd = 16 ∧ vd = 2 ∨ kd = 15 ∧ vd = 3) : AC_ B Q0 V0 N0 O0 (pu_ Q' N' kd 0 0 0) (pu_ V' N' vd (N - 1) (N' - 1) 0) (N' + 1) O' (fun k r => if kd = 16 then D k r ∧ D' k r else D k r ∨ D' k r) := by
  obtain ⟨a1, ⟨⟨g1, g2, g3, g4, g5⟩, g6⟩, a3, a4⟩ := h
  obtain ⟨b1, ⟨⟨k1, k2, k3, k4, k5⟩, k6⟩, b3, b4⟩ := h'
  obtain ⟨p0, p1, p2, p3⟩ := pu_at (Q := Q') (N := N') (q0 := kd) (q1 := 0) (q2 := 0) (q3 := 0)
  obtain ⟨v0, v1, v2, v3⟩ := pu_at (Q := V') (N := N') (q0 := vd) (q1 := N - 1) (q2 := N' - 1) (q3 := 0)
  have e1 : ES_ B (pu_ Q' N' kd 0 0 0) N0 (N - N0) D := ES_cg a3 (fun j hj => by rw [pu_lo (by omega), (k6 j (by omega)).1])
  have e2 : ES_ B (pu_ Q' N' kd 0 0 0) (N0 + (N - N0)) (N' - N) D' := by
    rw [show N0 + (N - N0) = N by omega]
    exact ES_cg b3 (fun j hj => by rw [pu_lo (by omega)])
  have n1 : EN_ B (pu_ V' N' vd (N - 1) (N' - 1) 0) N' (N - 1) D := EN_cg _ _ _ (fun j hj => by rw [pu_lo (by omega), (k6 j (by omega)).2]) (EN_mono N N' _ _ (by omega) a4)
  have n2 : EN_ B (pu_ V' N' vd (N - 1) (N' - 1) 0) N' (N' - 1) D' := EN_cg _ _ _ (fun j hj => by rw [pu_lo (by omega)]) b4
  refine ⟨QV_add b1 (by omega), ⟨⟨by omega, by omega, by omega, by omega, ?_⟩, fun j hj => ⟨by rw [pu_lo (by omega), (k6 j (by omega)).1, (g6 j hj).1], by rw [pu_lo (by omega), (k6 j (by omega)).2, (g6 j hj).2]⟩⟩, ?_, ?_⟩
  · rw [lc2_pu, if_neg (by omega)]
    omega
  · rw [show N' + 1 - N0 = (N - N0) + (N' - N) + 1 by omega]
    rcases hk with ⟨rfl, rfl⟩ | ⟨rfl, rfl⟩
    · exact ES_and e1 e2 (by rw [show N0 + ((N - N0) + (N' - N)) = N' by omega]; exact p0)
    · exact ES_or e1 e2 (by rw [show N0 + ((N - N0) + (N' - N)) = N' by omega]; exact p0)
  · show EN_ B _ (N' + 1) (N' + 1 - 1) _
    rw [Nat.add_sub_cancel]
    rcases hk with ⟨rfl, rfl⟩ | ⟨rfl, rfl⟩
    · exact Or.inr (Or.inl ⟨v0, ⟨by rw [v1]; omega, by rw [v2]; omega⟩, D, D', by rw [v1]; exact n1, by rw [v2]; exact n2, rfl⟩)
    · exact Or.inr (Or.inr (Or.inl ⟨v0, ⟨by rw [v1]; omega, by rw [v2]; omega⟩, D, D', by rw [v1]; exact n1, by rw [v2]; exact n2, rfl⟩))
end AJ
/-- ONES at w can be read -/
def Hone_ (s b n : Nat) (t : Nat → Nat) (L : Nat) (B : Nat → Nat → Nat) (w dC dM : Nat) : Prop := ∀ (σ μ : St_) (κ pl e c : Nat) (Q V : Nat → Nat → Nat) (N O : Nat), SI_ σ μ s b n t L κ pl e c B Q V N O w → (∀ j, j < N → QV_ B (Q j)) → N ≤ 2 * O → O ≤ 20 → SRes_ σ μ s b n t L B Q V N O w w (fun o => f_X9_readOne KC dC [.ref s, .ref 1, .ref b, .int (nI (w + 1))] σ = some o) (fun u => f_X12_readOne KC dM [.ref 219] μ = some u)
section CN
variable {s b n : Nat} {t : Nat → Nat} {L : Nat} {B : Nat → Nat → Nat} {w dC dM : Nat}
theorem and_loop (hs : isS s) (hb : isB b) (H : Hone_ s b n t L B w dC dM) {o : Nat} (ho : o ≤ 1) {Q0 V0 : Nat → Nat → Nat} {N0 O0 : Nat} (hN0 : N0 ≤ 2 * O0) : ∀ m (σ μ : St_) κ pl e c Q V N O D i, 20 - O < m → SI_ σ μ s b n t L κ pl e c B Q V N O w → AC_ B Q0 V0 N0 O0 Q V N O D → i + 1 ≤ O →
    (∃ σ' μ', Ev_ (P_X9_readCond KC (f_X9_readCond KC dC) (f_X9_readOne KC dC)) 42 [some (.ref s), some (.ref 1), some (.ref b), some (.int (nI (w + 1))), none, some (.int (nI o)), some (.int (nI i))] [] σ (some (.int 0), σ') ∧ Ev_ (P_X12_readAnd KC (f_X12_readOr KC dM) (f_X12_readAnd KC dM) (f_X12_readOne KC dM) (f_X12_readBracket KC dM) (f_X12_readNot KC dM)) 14 [some (.ref 219), some (.int (nI (N - 1)))] [] μ (some (.int 0), μ') ∧ FT_ σ' μ' ∧ CT_ s (s + 4) σ σ' ∧ CM_ [245] [] sfl_ μ μ') ∨
    (∃ Q' V' N' O' D' i' κ' pl' e' c' σ' μ', (∀ out, Ev_ (P_X9_readCond KC (f_X9_readCond KC dC) (f_X9_readOne KC dC)) 42 [some (.ref s), some (.ref 1), some (.ref b), some (.int (nI (w + 1))), none, some (.int (nI o)), some (.int (nI i'))] [] σ' out → Ev_ (P_X9_readCond KC (f_X9_readCond KC dC) (f_X9_readOne KC dC)) 42 [some (.ref s), some (.ref 1), some (.ref b), some (.int (nI (w + 1))), none, some (.int (nI o)), some (.int (nI i))] [] σ out) ∧ Ev_ (P_X12_readAnd KC (f_X12_readOr KC dM) (f_X12_readAnd KC dM) (f_X12_readOne KC dM) (f_X12_readBracket KC dM) (f_X12_readNot KC dM)) 14 [some (.ref 219), some (.int (nI (N - 1)))] [] μ (some (.int 1), μ') ∧ κ' ≠ 16 ∧ SI_ σ' μ' s b n t L κ' pl' e' c' B Q' V' N' O' w ∧ AC_ B Q0 V0 N0 O0 Q' V' N' O' D' ∧ i' + 1 ≤ O' ∧ μ'.1 219 62 = nI (N' - 1) ∧ CT_ s (s + 4) σ σ' ∧ CM_ [245] [] sfl_ μ μ' ∧ NF_ σ μ σ' μ') := by
  intro m
  induction m with
  | zero => intro σ μ κ pl e c Q V N O D i h; omega
  | succ m ih =>
    intro σ μ κ pl e c Q V N O D i hm h hA hi
    obtain ⟨hq, ⟨⟨g1, g2, g3, g4, g5⟩, g6⟩, hE, hV⟩ := id hA
    have hT := h.1.2.2.2.1
    have hTC := h.1.2.2.2.2.1
    have hw12 := m_isWord (k := 12) hT h.1.2.2.2.2.2 (by omega)
    rw [show kk_ 12 = 16 from rfl] at hw12
    have hκ := hT.1
    by_cases h16 : κ = 16
    · rw [if_pos h16] at hw12
      obtain ⟨κ1, pl1, e1, c1, σ1, μ1, a1, a2, a3, ⟨a4, -⟩, ⟨a5, -⟩, a6⟩ := adv h.1 (by omega)
      have hI1 := SI_SM hs hb h a3 a4 a5
      -- to the place 9 of the class
      have to9 : ∀ out, Ev_ (P_X9_readCond KC (f_X9_readCond KC dC) (f_X9_readOne KC dC)) 9 [some (.ref s), some (.ref 1), some (.ref b), some (.int (nI (w + 1))), some (.int 1), some (.int (nI o)), some (.int (nI (i + 1)))] [] σ1 out → Ev_ (P_X9_readCond KC (f_X9_readCond KC dC) (f_X9_readOne KC dC)) 42 [some (.ref s), some (.ref 1), some (.ref b), some (.int (nI (w + 1))), none, some (.int (nI o)), some (.int (nI i))] [] σ out := by
        intro out q
        refine e_X9_readCond_42 hs hb (br_t (by rw [hTC.1, h16]; rfl) (e_X9_readCond_77 hs hb (br_f (by decide) ?_)))
        rcases (show o = 0 ∨ o = 1 by omega) with rfl | rfl
        · exact br_t rfl (br_f (by decide) ⟨σ1, a1, by rw [nI_1]; exact q⟩)
        · exact br_f (by decide) ⟨σ1, a1, by rw [nI_1]; exact q⟩
      rcases H σ1 μ1 κ1 pl1 e1 c1 Q V N O hI1 hq (by omega) g3 with ⟨σ2, μ2, r1, r2, ft, f1, f2⟩ | ⟨Q2, V2, N2, O2, D2, κ2, pl2, e2, c2, σ2, μ2, ⟨r1, r2⟩, hI2, q2, gr2, ⟨es2, en2⟩, top2, f1, f2, n2⟩
      · exact Or.inl ⟨σ2, μ2, to9 _ (e_X9_readCond_9 hs hb (pk_lt 20 (i + 1) (fun z => by omega) (fun _ => ⟨0, σ2, r1, br_t rfl rfl⟩))), e_X12_readAnd_14 ⟨1, μ, hw12, br_f (by decide) ⟨μ1, a2, 0, μ2, r2, br_t rfl rfl⟩⟩, ft, CT_tr (CT_SF a4) f1, CM_tr (CM_MF a5) f2⟩
      · obtain ⟨⟨k1, k2, k3, k4, k5⟩, k6⟩ := id gr2
        obtain ⟨σ3, μ3, b1, b2, b3, b4, b5, b6⟩ := add2 (q0 := 16) (q1 := 0) (q2 := 0) (q3 := 0) (v0 := 2) (v1 := N - 1) (v2 := N2 - 1) (v3 := 0) hs hb hI2 (by omega)
        have hA2 := AC_join (kd := 16) (vd := 2) hA ⟨q2, gr2, es2, en2⟩ (Or.inl ⟨rfl, rfl⟩)
        have to42 : ∀ out, Ev_ (P_X9_readCond KC (f_X9_readCond KC dC) (f_X9_readOne KC dC)) 42 [some (.ref s), some (.ref 1), some (.ref b), some (.int (nI (w + 1))), none, some (.int (nI o)), some (.int (nI (i + 1)))] [] σ3 out → Ev_ (P_X9_readCond KC (f_X9_readCond KC dC) (f_X9_readOne KC dC)) 42 [some (.ref s), some (.ref 1), some (.ref b), some (.int (nI (w + 1))), none, some (.int (nI o)), some (.int (nI i))] [] σ out := fun out q => to9 _ (e_X9_readCond_9 hs hb (pk_lt 20 (i + 1) (fun z => by omega) (fun _ => ⟨1, σ2, r1, br_f (by decide) (br_f (by decide) ⟨σ3, b1, q⟩)⟩)))
        have to14 : ∀ out, Ev_ (P_X12_readAnd KC (f_X12_readOr KC dM) (f_X12_readAnd KC dM) (f_X12_readOne KC dM) (f_X12_readBracket KC dM) (f_X12_readNot KC dM)) 14 [some (.ref 219), some (.int (nI N2))] [] μ3 out → Ev_ (P_X12_readAnd KC (f_X12_readOr KC dM) (f_X12_readAnd KC dM) (f_X12_readOne KC dM) (f_X12_readBracket KC dM) (f_X12_readNot KC dM)) 14 [some (.ref 219), some (.int (nI (N - 1)))] [] μ out := fun out q => e_X12_readAnd_14 ⟨1, μ, hw12, br_f (by decide) ⟨μ1, a2, 1, μ2, r2, br_f (by decide) ⟨nI N2, μ3, by rw [top2]; exact b2, q⟩⟩⟩
        rcases ih σ3 μ3 κ2 pl2 e2 c2 _ _ (N2 + 1) O2 _ (i + 1) (by omega) b3 hA2 (by omega) with ⟨σ4, μ4, u1, u2, ft, f3, f4⟩ | ⟨Q4, V4, N4, O4, D4, i4, κ4, pl4, e4, c4, σ4, μ4, u1, u2, u3, u4, u5, u6, u7, f3, f4, n4⟩
        · exact Or.inl ⟨σ4, μ4, to42 _ u1, to14 _ u2, ft, CT_tr (CT_SF a4) (CT_tr f1 (CT_tr b4 f3)), CM_tr (CM_MF a5) (CM_tr f2 (CM_tr b5 f4))⟩
        · exact Or.inr ⟨Q4, V4, N4, O4, D4, i4, κ4, pl4, e4, c4, σ4, μ4, fun out q => to42 _ (u1 out q), to14 _ u2, u3, u4, u5, u6, u7, CT_tr (CT_SF a4) (CT_tr f1 (CT_tr b4 f3)), CM_tr (CM_MF a5) (CM_tr f2 (CM_tr b5 f4)), n4.1.trans (b6.1.trans (n2.1.trans a6.1)), n4.2.trans (b6.2.trans (n2.2.trans a6.2))⟩
    · rw [if_neg h16] at hw12
      exact Or.inr ⟨Q, V, N, O, D, i, κ, pl, e, c, σ, sI_ μ 219 62 (nI (N - 1)), fun out q => q, e_X12_readAnd_14 ⟨0, μ, hw12, br_t rfl rfl⟩, h16, SI_62 h _, hA, hi, by rw [sI_at, if_pos ⟨rfl, rfl⟩], CT_rf _ _ _, CM_62 _ _, rfl, by rw [sI_at, if_neg (by decide)]⟩
/-- ONES joined by 'and', from the class's place 9 -/
theorem and_run (hs : isS s) (hb : isB b) (H : Hone_ s b n t L B w dC dM) {o : Nat} (ho : o ≤ 1) {σ μ : St_} {κ pl e c : Nat} {Q V : Nat → Nat → Nat} {N O i : Nat} (h : SI_ σ μ s b n t L κ pl e c B Q V N O w) (hq : ∀ j, j < N → QV_ B (Q j)) (hN : N ≤ 2 * O) (hO : O ≤ 20) (hi : i ≤ O) :
    (∃ σ' μ', Ev_ (P_X9_readCond KC (f_X9_readCond KC dC) (f_X9_readOne KC dC)) 9 [some (.ref s), some (.ref 1), some (.ref b), some (.int (nI (w + 1))), some (.int 0), some (.int (nI o)), some (.int (nI i))] [] σ (some (.int 0), σ') ∧ f_X12_readAnd KC (dM + 1) [.ref 219] μ = some (some (.int 0), μ') ∧ FT_ σ' μ' ∧ CT_ s (s + 4) σ σ' ∧ CM_ [245] [] sfl_ μ μ') ∨
    (∃ Q' V' N' O' D' i' κ' pl' e' c' σ' μ', (∀ out, Ev_ (P_X9_readCond KC (f_X9_readCond KC dC) (f_X9_readOne KC dC)) 42 [some (.ref s), some (.ref 1), some (.ref b), some (.int (nI (w + 1))), none, some (.int (nI o)), some (.int (nI i'))] [] σ' out → Ev_ (P_X9_readCond KC (f_X9_readCond KC dC) (f_X9_readOne KC dC)) 9 [some (.ref s), some (.ref 1), some (.ref b), some (.int (nI (w + 1))), some (.int 0), some (.int (nI o)), some (.int (nI i))] [] σ out) ∧ f_X12_readAnd KC (dM + 1) [.ref 219] μ = some (some (.int 1), μ') ∧ κ' ≠ 16 ∧ SI_ σ' μ' s b n t L κ' pl' e' c' B Q' V' N' O' w ∧ AC_ B Q V N O Q' V' N' O' D' ∧ i' + 1 ≤ O' ∧ μ'.1 219 62 = nI (N' - 1) ∧ CT_ s (s + 4) σ σ' ∧ CM_ [245] [] sfl_ μ μ' ∧ NF_ σ μ σ' μ') := by
  rcases H σ μ κ pl e c Q V N O h hq hN hO with ⟨σ2, μ2, r1, r2, ft, f1, f2⟩ | ⟨Q2, V2, N2, O2, D2, κ2, pl2, e2, c2, σ2, μ2, ⟨r1, r2⟩, hI2, q2, gr2, ⟨es2, en2⟩, top2, f1, f2, n2⟩
  · exact Or.inl ⟨σ2, μ2, e_X9_readCond_9 hs hb (pk_lt 20 i (fun z => by omega) (fun _ => ⟨0, σ2, r1, br_t rfl rfl⟩)), z_X12_readAnd (e_X12_readAnd_0 ⟨0, μ2, r2, br_t rfl rfl⟩), ft, f1, f2⟩
  · obtain ⟨⟨k1, k2, k3, k4, k5⟩, k6⟩ := id gr2
    have to42 : ∀ out, Ev_ (P_X9_readCond KC (f_X9_readCond KC dC) (f_X9_readOne KC dC)) 42 [some (.ref s), some (.ref 1), some (.ref b), some (.int (nI (w + 1))), none, some (.int (nI o)), some (.int (nI i))] [] σ2 out → Ev_ (P_X9_readCond KC (f_X9_readCond KC dC) (f_X9_readOne KC dC)) 9 [some (.ref s), some (.ref 1), some (.ref b), some (.int (nI (w + 1))), some (.int 0), some (.int (nI o)), some (.int (nI i))] [] σ out := fun out q => e_X9_readCond_9 hs hb (pk_lt 20 i (fun z => by omega) (fun _ => ⟨1, σ2, r1, br_f (by decide) (br_t rfl q)⟩))
    have to14 : ∀ out, Ev_ (P_X12_readAnd KC (f_X12_readOr KC dM) (f_X12_readAnd KC dM) (f_X12_readOne KC dM) (f_X12_readBracket KC dM) (f_X12_readNot KC dM)) 14 [some (.ref 219), some (.int (nI (N2 - 1)))] [] μ2 out → f_X12_readAnd KC (dM + 1) [.ref 219] μ = some out := fun out q => z_X12_readAnd (e_X12_readAnd_0 ⟨1, μ2, r2, br_f (by decide) (by rw [top2]; exact q)⟩)
    rcases and_loop hs hb H ho hN (21) σ2 μ2 κ2 pl2 e2 c2 Q2 V2 N2 O2 D2 i (by omega) hI2 ⟨q2, gr2, es2, en2⟩ (by omega) with ⟨σ4, μ4, u1, u2, ft, f3, f4⟩ | ⟨Q4, V4, N4, O4, D4, i4, κ4, pl4, e4, c4, σ4, μ4, u1, u2, u3, u4, u5, u6, u7, f3, f4, n4⟩
    · exact Or.inl ⟨σ4, μ4, to42 _ u1, to14 _ u2, ft, CT_tr f1 f3, CM_tr f2 f4⟩
    · exact Or.inr ⟨Q4, V4, N4, O4, D4, i4, κ4, pl4, e4, c4, σ4, μ4, fun out q => to42 _ (u1 out q), to14 _ u2, u3, u4, u5, u6, u7, CT_tr f1 f3, CM_tr f2 f4, n4.1.trans n2.1, n4.2.trans n2.2⟩
theorem or_loop (hs : isS s) (hb : isB b) (H : Hone_ s b n t L B w dC dM) {Q0 V0 : Nat → Nat → Nat} {N0 O0 : Nat} (hN0 : N0 ≤ 2 * O0) : ∀ m (σ μ : St_) κ pl e c Q V N O D i o, o ≤ 1 → 20 - O < m → SI_ σ μ s b n t L κ pl e c B Q V N O w → AC_ B Q0 V0 N0 O0 Q V N O D → i + 1 ≤ O → κ ≠ 16 →
    SRes_ σ μ s b n t L B Q0 V0 N0 O0 w w (fun u0 => Ev_ (P_X9_readCond KC (f_X9_readCond KC dC) (f_X9_readOne KC dC)) 77 [some (.ref s), some (.ref 1), some (.ref b), some (.int (nI (w + 1))), some (.int 0), some (.int (nI o)), some (.int (nI i))] [] σ u0) (fun u => Ev_ (P_X12_readOr KC (f_X12_readOr KC (dM + 1)) (f_X12_readAnd KC (dM + 1)) (f_X12_readOne KC (dM + 1)) (f_X12_readBracket KC (dM + 1)) (f_X12_readNot KC (dM + 1))) 14 [some (.ref 219), some (.int (nI (N - 1)))] [] μ u) := by
  intro m
  induction m with
  | zero => intro σ μ κ pl e c Q V N O D i o _ h; omega
  | succ m ih =>
    intro σ μ κ pl e c Q V N O D i o ho hm h hA hi h16
    obtain ⟨hq, ⟨⟨g1, g2, g3, g4, g5⟩, g6⟩, hE, hV⟩ := id hA
    have hT := h.1.2.2.2.1
    have hTC := h.1.2.2.2.2.1
    have hκ := hT.1
    have hw11 := m_isWord (k := 11) hT h.1.2.2.2.2.2 (by omega)
    rw [show kk_ 11 = 15 from rfl] at hw11
    by_cases h15 : κ = 15
    · rw [if_pos h15] at hw11
      obtain ⟨κ1, pl1, e1, c1, σ1, μ1, a1, a2, a3, ⟨a4, -⟩, ⟨a5, -⟩, a6⟩ := adv h.1 (by omega)
      have hI1 := SI_SM hs hb h a3 a4 a5
      have to9 : ∀ out, Ev_ (P_X9_readCond KC (f_X9_readCond KC dC) (f_X9_readOne KC dC)) 9 [some (.ref s), some (.ref 1), some (.ref b), some (.int (nI (w + 1))), some (.int 0), some (.int (nI 1)), some (.int (nI (i + 1)))] [] σ1 out → Ev_ (P_X9_readCond KC (f_X9_readCond KC dC) (f_X9_readOne KC dC)) 77 [some (.ref s), some (.ref 1), some (.ref b), some (.int (nI (w + 1))), some (.int 0), some (.int (nI o)), some (.int (nI i))] [] σ out := by
        intro out q
        refine e_X9_readCond_77 hs hb (br_t rfl (br_t (by rw [hTC.1, h15]; rfl) ?_))
        rcases (show o = 0 ∨ o = 1 by omega) with rfl | rfl
        · exact br_t rfl (br_t rfl ⟨σ1, a1, by rw [nI_1]; exact q⟩)
        · exact br_f (by decide) ⟨σ1, a1, by rw [nI_1]; exact q⟩
      rcases and_run hs hb H (o := 1) (by omega) (i := i + 1) hI1 hq (by omega) g3 (by omega) with ⟨σ2, μ2, r1, r2, ft, f1, f2⟩ | ⟨Q2, V2, N2, O2, D2, i2, κ2, pl2, e2, c2, σ2, μ2, r1, r2, r3, hI2, hA2, hi2, top2, f1, f2, n2⟩
      · exact Or.inl ⟨σ2, μ2, to9 _ r1, e_X12_readOr_14 ⟨1, μ, hw11, br_f (by decide) ⟨μ1, a2, 0, μ2, r2, br_t rfl rfl⟩⟩, ft, CT_tr (CT_SF a4) f1, CM_tr (CM_MF a5) f2⟩
      · obtain ⟨-, ⟨⟨k1, k2, k3, k4, k5⟩, k6⟩, -⟩ := id hA2
        obtain ⟨σ3, μ3, b1, b2, b3, b4, b5, b6⟩ := add2 (q0 := 15) (q1 := 0) (q2 := 0) (q3 := 0) (v0 := 3) (v1 := N - 1) (v2 := N2 - 1) (v3 := 0) hs hb hI2 (by omega)
        have hA3 := AC_join (kd := 15) (vd := 3) hA hA2 (Or.inr ⟨rfl, rfl⟩)
        have hTC2 := hI2.1.2.2.2.2.1
        have hκ2 := hI2.1.2.2.2.1.1
        have n16 : ¬ σ2.1 1 6 = (16 : Int32) := fun z => r3 ((nI_eq (by omega) (by omega)).mp (hTC2.1.symm.trans z))
        have to77 : ∀ out, Ev_ (P_X9_readCond KC (f_X9_readCond KC dC) (f_X9_readOne KC dC)) 77 [some (.ref s), some (.ref 1), some (.ref b), some (.int (nI (w + 1))), some (.int 0), some (.int (nI 1)), some (.int (nI i2))] [] σ3 out → Ev_ (P_X9_readCond KC (f_X9_readCond KC dC) (f_X9_readOne KC dC)) 77 [some (.ref s), some (.ref 1), some (.ref b), some (.int (nI (w + 1))), some (.int 0), some (.int (nI o)), some (.int (nI i))] [] σ out := fun out q => to9 _ (r1 _ (e_X9_readCond_42 hs hb (br_f n16 (br_f (by decide) ⟨σ3, b1, q⟩))))
        have to14 : ∀ out, Ev_ (P_X12_readOr KC (f_X12_readOr KC (dM + 1)) (f_X12_readAnd KC (dM + 1)) (f_X12_readOne KC (dM + 1)) (f_X12_readBracket KC (dM + 1)) (f_X12_readNot KC (dM + 1))) 14 [some (.ref 219), some (.int (nI N2))] [] μ3 out → Ev_ (P_X12_readOr KC (f_X12_readOr KC (dM + 1)) (f_X12_readAnd KC (dM + 1)) (f_X12_readOne KC (dM + 1)) (f_X12_readBracket KC (dM + 1)) (f_X12_readNot KC (dM + 1))) 14 [some (.ref 219), some (.int (nI (N - 1)))] [] μ out := fun out q => e_X12_readOr_14 ⟨1, μ, hw11, br_f (by decide) ⟨μ1, a2, 1, μ2, r2, br_f (by decide) ⟨nI N2, μ3, by rw [top2]; exact b2, q⟩⟩⟩
        have := ih σ3 μ3 κ2 pl2 e2 c2 _ _ (N2 + 1) O2 _ i2 1 (by omega) (by omega) b3 hA3 (by omega) r3
        exact SRes_cg this (fun out q => to77 out q) (fun out q => to14 out q) (CT_tr (CT_SF a4) (CT_tr f1 b4)) (CM_tr (CM_MF a5) (CM_tr f2 b5)) ⟨b6.1.trans (n2.1.trans a6.1), b6.2.trans (n2.2.trans a6.2)⟩
    · rw [if_neg h15] at hw11
      have n15 : ¬ σ.1 1 6 = (15 : Int32) := fun z => h15 ((nI_eq (by omega) (by omega)).mp (hTC.1.symm.trans z))
      exact Or.inr ⟨Q, V, N, O, D, κ, pl, e, c, σ, sI_ μ 219 62 (nI (N - 1)), ⟨e_X9_readCond_77 hs hb (br_t rfl (br_f n15 rfl)), e_X12_readOr_14 ⟨0, μ, hw11, br_t rfl rfl⟩⟩, SI_62 h _, hq, ⟨⟨g1, g2, g3, g4, g5⟩, g6⟩, ⟨hE, hV⟩, by rw [sI_at, if_pos ⟨rfl, rfl⟩], CT_rf _ _ _, CM_62 _ _, rfl, by rw [sI_at, if_neg (by decide)]⟩
/-- a COND -/
theorem cond_pair (hs : isS s) (hb : isB b) (H : Hone_ s b n t L B w dC dM) {σ μ : St_} {κ pl e c : Nat} {Q V : Nat → Nat → Nat} {N O : Nat} (h : SI_ σ μ s b n t L κ pl e c B Q V N O w) (hq : ∀ j, j < N → QV_ B (Q j)) (hN : N ≤ 2 * O) (hO : O ≤ 20) :
    SRes_ σ μ s b n t L B Q V N O w w (fun o => f_X9_readCond KC (dC + 1) [.ref s, .ref 1, .ref b, .int (nI (w + 1))] σ = some o) (fun u => f_X12_readOr KC (dM + 2) [.ref 219] μ = some u) := by
  have to9 : ∀ out, Ev_ (P_X9_readCond KC (f_X9_readCond KC dC) (f_X9_readOne KC dC)) 9 [some (.ref s), some (.ref 1), some (.ref b), some (.int (nI (w + 1))), some (.int 0), some (.int (nI 0)), some (.int (nI 0))] [] σ out → f_X9_readCond KC (dC + 1) [.ref s, .ref 1, .ref b, .int (nI (w + 1))] σ = some out := fun out q => z_X9_readCond (e_X9_readCond_0 hs hb q)
  rcases and_run hs hb H (o := 0) (by omega) (i := 0) h hq hN hO (by omega) with ⟨σ2, μ2, r1, r2, ft, f1, f2⟩ | ⟨Q2, V2, N2, O2, D2, i2, κ2, pl2, e2, c2, σ2, μ2, r1, r2, r3, hI2, hA2, hi2, top2, f1, f2, n2⟩
  · exact Or.inl ⟨σ2, μ2, to9 _ r1, z_X12_readOr (e_X12_readOr_0 ⟨0, μ2, r2, br_t rfl rfl⟩), ft, f1, f2⟩
  · have hTC2 := hI2.1.2.2.2.2.1
    have hκ2 := hI2.1.2.2.2.1.1
    have n16 : ¬ σ2.1 1 6 = (16 : Int32) := fun z => r3 ((nI_eq (by omega) (by omega)).mp (hTC2.1.symm.trans z))
    have := or_loop hs hb H hN 21 σ2 μ2 κ2 pl2 e2 c2 Q2 V2 N2 O2 D2 i2 0 (by omega) (by omega) hI2 hA2 hi2 r3
    exact SRes_cg this (fun out q => to9 _ (r1 _ (e_X9_readCond_42 hs hb (br_f n16 (br_t rfl q))))) (fun out q => z_X12_readOr (e_X12_readOr_0 ⟨1, μ2, r2, br_f (by decide) (by rw [top2]; exact q)⟩)) f1 f2 n2
end CN
