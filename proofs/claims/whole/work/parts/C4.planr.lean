/-! reading a PLAN: NAMES, a CHAP, who listens -/
section PL
variable {σ μ : St_} {n : Nat} {t : Nat → Nat} {L κ pl e c b : Nat} {B : Nat → Nat → Nat}
theorem RX_SJ {S SJ : List Nat} {μ' : St_} (h : RX_ μ B) (hf : fm_ S SJ μ μ') (h1 : 221 ∉ S) (h2 : 224 ∉ SJ) : RX_ μ' B := RX_fm h hf h1 h2
theorem RX_MF {μ' : St_} (h : RX_ μ B) (hf : MF_ μ μ') : RX_ μ' B := RX_fm h hf.1 (by decide) (by decide)
theorem m_named {o m : Nat} {g : Nat → Nat} (hT : TO_ n κ pl e c) (hM : TM_ μ κ pl e c) (hm : m ≤ 16) (ho : o + m ≤ 25) (hg : ∀ j, j < m → μ.2.1 224 (o + j) = lN (cm_ (g j)) ∧ okc_ (g j)) : f_X12_named KC [.ref 219, .int (nI o), .int (nI m)] μ = some (some (.int (if κ = 2 then on_ (idx_ g c m 0) else -2)), μ) := by
  have hnm := m_isName hT hM
  by_cases h2 : κ = 2
  · rw [if_pos h2] at hnm ⊢
    obtain ⟨hok, -⟩ := hT.2.2.2.2.1 (Or.inl h2)
    have hw : μ.2.1 219 12 = lN (cm_ c) := hM.2.2.2.2.1 (Or.inl h2)
    have hcv := cm_lt hok
    have l1 : ∀ k i, i + k = m → Ev_ (P_X12_named KC) 12 [some (.ref 219), some (.int (nI o)), some (.int (nI m)), some (.int (nI i))] [] μ (some (.int (on_ (idx_ g c k i))), μ) := by
      intro k
      induction k with
      | zero =>
        intro i hi
        exact e_X12_named_12 (pk_le m i (fun _ => rfl) (fun z => by omega))
      | succ k ih =>
        intro i hi
        refine e_X12_named_12 (pk_le m i (fun z => by omega) (fun _ => ?_))
        rw [nI_add, cl_ (by omega)]
        refine ⟨vpin_n (by omega), ?_⟩
        obtain ⟨hn, ho2⟩ := hg i (by omega)
        have hlt := cm_lt ho2
        rw [hn, hw]
        refine ek_if ((lg_0 _ _).trans ((lN_eq (by omega) (by omega)).trans ⟨fun z => cm_inj ho2 hok z, fun z => by rw [z]⟩)) (fun z => ?_) (fun z => ?_)
        · rw [idx_, if_pos z]
          rfl
        · rw [idx_, if_neg z, nI_1]
          exact ih (i + 1) (by omega)
    exact z_X12_named (e_X12_named_0 ⟨1, μ, hnm, br_f (by decide) (l1 m 0 (by omega))⟩)
  · rw [if_neg h2] at hnm ⊢
    exact z_X12_named (e_X12_named_0 ⟨0, μ, hnm, br_t rfl rfl⟩)
theorem m_namedR (h : PR_ σ μ n t L κ pl e c) (hx : RX_ μ B) : f_X12_named KC [.ref 219, .int (nI 16), .int (nI (B 0 1))] μ = some (some (.int (if κ = 2 then on_ (idx_ (B 10) c (B 0 1) 0) else -2)), μ) := by
  have hb := BO_c hx.2
  exact m_named h.2.2.2.1 h.2.2.2.2.2 (by omega) (by omega) (fun j hj => ⟨by have := (hx.1.2.2 j hj).1; rwa [Nat.zero_add] at this, (hx.2.2.2 j hj).1⟩)
theorem m_namedC (h : PR_ σ μ n t L κ pl e c) (hx : RX_ μ B) : f_X12_named KC [.ref 219, .int (nI 0), .int (nI (B 0 0))] μ = some (some (.int (if κ = 2 then on_ (idx_ (B 9) c (B 0 0) 0) else -2)), μ) := by
  have hb := BO_c hx.2
  exact m_named h.2.2.2.1 h.2.2.2.2.2 (by omega) (by omega) (fun j hj => ⟨(hx.1.2.1 j hj).1, (hx.2.2.1 j hj).1⟩)
theorem nI_le0 {i : Nat} (h : i < 2 ^ 31) : (0 : Int32) ≤ nI i := (nI_leI (a := 0) (by omega) h).mpr (Nat.zero_le _)
/-- a CHAP is taken -/
theorem ct_pair (h : PR_ σ μ n t L κ pl e c) (hb : isB b) (hC : CB_ σ b B) (hx : RX_ μ B) : (∃ σ' μ', f_X8_takeChap KC [.ref 1, .ref b] σ = some (some (.int 0), σ') ∧ f_X12_readNamed KC [.ref 219, .int 0, .int (nI (B 0 0))] μ = some (some (.int 0), μ') ∧ FT_ σ' μ' ∧ SF_ σ σ' ∧ MF_ μ μ') ∨ (∃ d κ' pl' e' c' σ' μ', f_X8_takeChap KC [.ref 1, .ref b] σ = some (some (.int 1), σ') ∧ f_X12_readNamed KC [.ref 219, .int 0, .int (nI (B 0 0))] μ = some (some (.int 1), μ') ∧ d < B 0 0 ∧ PR_ σ' μ' n t L κ' pl' e' c' ∧ σ'.1 1 8 = nI d ∧ μ'.1 219 13 = nI d ∧ SF_ σ σ' ∧ MF_ μ μ' ∧ NF_ σ μ σ' μ') := by
  have hTC := h.2.2.2.2.1
  have hT := h.2.2.2.1
  have hκ := hT.1
  have hO := hx.2
  have hb16 := BO_c hO
  have hnm : f_X12_named KC [.ref 219, .int 0, .int (nI (B 0 0))] μ = _ := m_namedC h hx
  by_cases h2 : κ = 2
  · rw [if_pos h2] at hnm
    obtain ⟨hok, -⟩ := hT.2.2.2.2.1 (Or.inl h2)
    have hlt := okc_lt hok
    have hv : σ.1 1 7 = nI c := hTC.2.2.2 (by omega) (by omega)
    have hcn := c_chapNamed (v := c) hb hC hO (by omega)
    cases hi : idx_ (B 9) c (B 0 0) 0 with
    | none =>
      left
      rw [hi] at hcn hnm
      obtain ⟨⟨σ', g1, g2, g3, g4⟩, ⟨μ', k1, k2, k3, k4⟩, hpl⟩ := fail_both 3 h (by omega) (by omega) (by omega)
      exact ⟨σ', μ', z_X8_takeChap (e_X8_takeChap_0 hb (pk_eq κ 2 (fun _ => ⟨_, σ, by rw [hv]; exact hcn, br_t rfl ⟨0, σ', g1, Or.inl rfl, rfl⟩⟩) (fun z => absurd h2 z) hTC.1)), z_X12_readNamed (e_X12_readNamed_0 ⟨_, μ, hnm, br_f (by decide) (br_t rfl ⟨0, μ', k1, Or.inl rfl, rfl⟩)⟩), ⟨3, pl, by omega, by omega, hpl, g3, k3, g4, k4⟩, g2, k2⟩
    | some d =>
      right
      have hd := idx_lt _ _ _ hi
      rw [hi] at hcn hnm
      have hdm : ¬ nI d = -1 := nI_m1 (by omega)
      obtain ⟨κ', pl', e', c', σ', μ', g1, g2, g3, g4, g5, g6⟩ := adv (PR_13 h (nI d)) (by omega)
      refine ⟨d, κ', pl', e', c', sI_ σ' 1 8 (nI d), μ', z_X8_takeChap (e_X8_takeChap_0 hb (pk_eq κ 2 (fun _ => ⟨_, σ, by rw [hv]; exact hcn, br_f hdm ⟨σ', g1, rfl⟩⟩) (fun z => absurd h2 z) hTC.1)), z_X12_readNamed (e_X12_readNamed_0 ⟨nI d, μ, hnm, br_t (nI_le0 (by omega)) ⟨μ', g2, rfl⟩⟩), by omega, PR_8 g3 _, by rw [sI_at, if_pos ⟨rfl, rfl⟩], by rw [g5.2, sI_at, if_pos ⟨rfl, rfl⟩], SF_tr g4.1 (SF_8 _ _), MF_tr ⟨fm_sI (by simp), fun f hf => by simp [sI_at, show ¬ f = 13 by omega]⟩ g5.1, ?_, ?_⟩
      · rw [sI_at, if_neg (by omega)]
        exact g6.1
      · rw [g6.2, sI_at, if_neg (by omega)]
  · left
    rw [if_neg h2] at hnm
    obtain ⟨⟨σ', g1, g2, g3, g4⟩, ⟨μ', k1, k2, k3, k4⟩, hpl⟩ := fail_both 1 h (by omega) (by omega) (by omega)
    exact ⟨σ', μ', z_X8_takeChap (e_X8_takeChap_0 hb (pk_eq κ 2 (fun z => absurd z h2) (fun _ => ⟨0, σ', g1, Or.inl rfl, rfl⟩) hTC.1)), z_X12_readNamed (e_X12_readNamed_0 ⟨_, μ, hnm, br_f (by decide) (br_f (by decide) ⟨0, μ', k1, Or.inl rfl, rfl⟩)⟩), ⟨1, pl, by omega, by omega, hpl, g3, k3, g4, k4⟩, g2, k2⟩
/-- what comes of who listens: both fail; the class goes on, and the reference does, or fails at a WORD that is no NAME -/
def LQs_ (b r i : Nat) (l : Nat) (B : Nat → Nat → Nat) (n : Nat) (t : Nat → Nat) (L : Nat) (σ μ : St_) (T : Out_ → Prop) (U : Out_ → Prop) : Prop :=
  (∃ σ' μ', T (some (.int 0), σ') ∧ U (some (.int 0), μ') ∧ FT_ σ' μ' ∧ SF_ σ σ' ∧ MF_ μ μ') ∨
  (∃ l' κ' pl' e' c' σ' μ', T (some (.int 1), sI_ σ' 1 8 (nI l')) ∧ PR_ σ' μ' n t L κ' pl' e' c' ∧ l' < 2 ^ B 0 1 ∧ SF_ σ σ' ∧ MF_ μ μ' ∧ NF_ σ μ σ' μ' ∧ (U (some (.int 1), sI_ μ' 219 13 (nI l')) ∨ (κ' ≠ 59 ∧ ∃ μ2, f_X12_bad KC [.ref 219, .int (nI 1)] μ' = some (some (.int 0), μ2) ∧ U (some (.int 0), μ2))))
theorem ls_loop (hb : isB b) {r : Nat} (hr : r < B 0 1) : ∀ m i l κ pl e c (σ μ : St_), 9 - i < m → PR_ σ μ n t L κ pl e c → κ = 2 → CB_ σ b B → RX_ μ B → l < 2 ^ B 0 1 → l.testBit r = false → fb_ct (fun k => l.testBit k) (B 0 1) = i →
    LQs_ b r i l B n t L σ μ (fun o => Ev_ (P_X6_readListeners KC) 60 [some (.ref 1), some (.ref b), some (.int (nI r)), some (.int (nI l)), some (.int (nI i)), none] [] σ o) (fun u => Ev_ (P_X12_readListeners KC) 47 [some (.ref 219), some (.int (nI r)), some (.int (nI l)), none] [] μ u) := by
  intro m
  induction m with
  | zero => intro i l κ pl e c σ μ h; omega
  | succ m ih =>
    intro i l κ pl e c σ μ hm h h2 hC hx hl hlr hct
    have hTC := h.2.2.2.2.1
    have hT := h.2.2.2.1
    have hκ := hT.1
    have hO := hx.2
    have hb16 := BO_c hO
    have hi9 : i < 9 := by
      have h1 := fb_ct_le (fun k => l.testBit k) (B 0 1)
      have h3 : fb_ct (fun k => l.testBit k) (B 0 1) ≠ B 0 1 := fun z => by
        have := fb_ct_all.mp z r hr
        rw [hlr] at this
        exact absurd this (by decide)
      omega
    have hl9 : l < 2 ^ 9 := Nat.lt_of_lt_of_le hl (Nat.pow_le_pow_right (by decide) hb16.2)
    have hnm := m_namedR h hx
    rw [if_pos h2] at hnm
    obtain ⟨hok, -⟩ := hT.2.2.2.2.1 (Or.inl h2)
    have hlt := okc_lt hok
    have hv : σ.1 1 7 = nI c := hTC.2.2.2 (by omega) (by omega)
    have hrn := c_readerNamed (v := c) hb hC hO (by omega)
    have hrd := m_readers hx
    -- the class and the reference, at this NAME
    have cls : ∀ (y : Int32) (out : Out_), f_X0_readerNamed KC [.ref b, .int (nI c)] σ = some (some (.int y), σ) → _ → Ev_ (P_X6_readListeners KC) 60 [some (.ref 1), some (.ref b), some (.int (nI r)), some (.int (nI l)), some (.int (nI i)), none] [] σ out := fun y out q1 q2 => e_X6_readListeners_60 hb (pk_le 9 i (fun z => by omega) (fun _ => pk_eq κ 2 (fun _ => ⟨y, σ, by rw [hv]; exact q1, q2⟩) (fun z => absurd h2 z) hTC.1))
    obtain ⟨⟨σ', g1, g2, g3, g4⟩, ⟨μ', k1, k2, k3, k4⟩, hpl⟩ := fail_both 3 h (by omega) (by omega) (by omega)
    have hFT : FT_ σ' μ' := ⟨3, pl, by omega, by omega, hpl, g3, k3, g4, k4⟩
    have f1 : ∃ (v : Int32) (σ2 : St_), f_X8_fail KC [.ref 1, .int (3 : Int32)] σ = some (some (.int v), σ2) ∧ (v = 0 ∨ v = 1) ∧ ((some (.int 0), σ') : Out_) = (some (.int v), σ2) := ⟨0, σ', g1, Or.inl rfl, rfl⟩
    have f2 : ∃ (v : Int32) (μ2 : St_), f_X12_bad KC [.ref 219, .int (3 : Int32)] μ = some (some (.int v), μ2) ∧ (v = 0 ∨ v = 1) ∧ ((some (.int 0), μ') : Out_) = (some (.int v), μ2) := ⟨0, μ', k1, Or.inl rfl, rfl⟩
    cases hidx : idx_ (B 10) c (B 0 1) 0 with
    | none =>
      rw [hidx] at hrn hnm
      exact Or.inl ⟨σ', μ', cls _ _ hrn (br_t rfl f1), e_X12_readListeners_47 ⟨_, μ, hrd, _, μ, hnm, br_t (by decide) (br_f (by decide) f2)⟩, hFT, g2, k2⟩
    | some d =>
      have hd := idx_lt _ _ _ hidx
      rw [hidx] at hrn hnm
      rw [show on_ (some d) = nI d from rfl] at hrn hnm
      have hdm : ¬ nI d = -1 := nI_m1 (by omega)
      have hd2 : ¬ nI d = -2 := fun z => by
        have h1 := nI_toInt (show d < 2 ^ 31 by omega)
        rw [z] at h1
        have h3 : (-2 : Int32).toInt = -2 := by decide
        rw [h3] at h1
        omega
      have hd0 : ¬ nI d < 0 := nI_pos (by omega)
      by_cases hdr : d = r
      · exact Or.inl ⟨σ', μ', cls _ _ hrn (br_f hdm (br_t (by rw [hdr]) f1)), e_X12_readListeners_47 ⟨_, μ, hrd, _, μ, hnm, br_f hd0 (br_t (by rw [hdr]) (br_f hd2 f2))⟩, hFT, g2, k2⟩
      · have hne : ¬ nI d = nI r := fun z => hdr ((nI_eq (by omega) (by omega)).mp z)
        have hhas := m_hasK (nI l) d μ
        have hbn := hb_n (x := l) (i := d) (by omega) (by omega)
        have hb0 := hb_0 (nI l) d
        by_cases hbit : l.testBit d = true
        · rw [if_pos (by rw [hbn]; exact hbit)] at hhas
          have hz : ¬ (nI l >>> (nI d &&& 31)) &&& (1 : Int32) = 0 := fun z => by
            have : (nI l >>> (nI d &&& 31)) &&& nI 1 = nI 0 := z
            rw [hb0, hbn] at this
            exact this hbit
          exact Or.inl ⟨σ', μ', cls _ _ hrn (br_f hdm (br_f hne (br_f hz f1))), e_X12_readListeners_47 ⟨_, μ, hrd, _, μ, hnm, br_f hd0 (br_f hne ⟨_, μ, hhas, br_f (by decide) (br_f hd2 f2)⟩)⟩, hFT, g2, k2⟩
        · rw [if_neg (by rw [hbn]; exact hbit)] at hhas
          have hz : (nI l >>> (nI d &&& 31)) &&& (1 : Int32) = 0 := by
            have : ((nI l >>> (nI d &&& 31)) &&& nI 1 = nI 0) = ¬ hb_ (nI l) d := hb0
            rw [hbn] at this
            exact this.mpr hbit
          have hor : nI l ||| ((1 : Int32) <<< (nI d &&& 31)) = nI (l ||| 2 ^ d) := by
            rw [show (1 : Int32) <<< (nI d &&& 31) = nI (2 ^ d) from sh_1 (by omega), fa_or]
          obtain ⟨κ1, pl1, e1, c1, σ1, μ1, a1, a2, a3, ⟨a4, -⟩, ⟨a5, -⟩, a6⟩ := adv h (by omega)
          have hl' : l ||| 2 ^ d < 2 ^ B 0 1 := or_lt hl (two_lt (by omega))
          have hκ1 := a3.2.2.2.1.1
          have hrl := rk_lt κ1
          have hk7 := a3.2.2.2.2.2.1
          have hk6 := a3.2.2.2.2.1.1
          have ct' : fb_ct (fun k => (l ||| 2 ^ d).testBit k) (B 0 1) = i + 1 := by
            have hu : fb_ct (fun k => if k = d then true else l.testBit k) (B 0 1) + (if l.testBit d = true then 1 else 0) = fb_ct (fun k => l.testBit k) (B 0 1) + (if true = true then 1 else 0) := fb_ct_upd (fun k => l.testBit k) true (i := d) (n := B 0 1) (by omega)
            have hg : fb_ct (fun k => (l ||| 2 ^ d).testBit k) (B 0 1) = fb_ct (fun k => if k = d then true else l.testBit k) (B 0 1) := fb_ct_cong (fun k _ => by
              rw [fb_bit_set]
              by_cases e : k = d
              · simp [e]
              · simp [e])
            rw [if_neg hbit, if_pos rfl] at hu
            omega
          have lr' : (l ||| 2 ^ d).testBit r = false := by
            rw [fb_bit_set, hlr, decide_eq_false (fun z => hdr z.symm)]
            rfl
          have toC : ∀ out, Ev_ (P_X6_readListeners KC) 60 [some (.ref 1), some (.ref b), some (.int (nI r)), some (.int (nI (l ||| 2 ^ d))), some (.int (nI (i + 1))), none] [] σ1 out → Ev_ (P_X6_readListeners KC) 60 [some (.ref 1), some (.ref b), some (.int (nI r)), some (.int (nI l)), some (.int (nI i)), none] [] σ out := fun out q => cls _ _ hrn (br_f hdm (br_f hne (br_t hz ⟨σ1, a1, by rw [hor, nI_1]; exact q⟩)))
          have toM : ∀ out, ((μ1.1 219 7 = (2 : Int32) → Ev_ (P_X12_readListeners KC) 47 [some (.ref 219), some (.int (nI r)), some (.int (nI (l ||| 2 ^ d))), none] [] μ1 out) ∧ (¬ μ1.1 219 7 = (2 : Int32) → out = (some (.int (1 : Int32)), sI_ μ1 219 13 (nI (l ||| 2 ^ d))))) → Ev_ (P_X12_readListeners KC) 47 [some (.ref 219), some (.int (nI r)), some (.int (nI l)), none] [] μ out := fun out q => e_X12_readListeners_47 ⟨_, μ, hrd, _, μ, hnm, br_f hd0 (br_f hne ⟨_, μ, hhas, br_t rfl ⟨μ1, a2, by rw [hor]; exact q⟩⟩)⟩
          by_cases hw : wd_ κ1
          · have w7 : μ1.1 219 7 = (2 : Int32) := by
              rw [hk7, (rk_2 hκ1).mpr hw]
              rfl
            by_cases hk2 : κ1 = 2
            · rcases ih (i + 1) (l ||| 2 ^ d) κ1 pl1 e1 c1 σ1 μ1 (by omega) a3 hk2 (CB_SF hb hC a4) (RX_MF hx a5) hl' lr' ct' with ⟨σ2, μ2, r1, r2, r3, r4, r5⟩ | ⟨l2, κ2, pl2, e2, c2, σ2, μ2, r1, r2, r3, r4, r5, r6, r7⟩
              · exact Or.inl ⟨σ2, μ2, toC _ r1, toM _ (br_t w7 r2), r3, SF_tr a4 r4, MF_tr a5 r5⟩
              · refine Or.inr ⟨l2, κ2, pl2, e2, c2, σ2, μ2, toC _ r1, r2, r3, SF_tr a4 r4, MF_tr a5 r5, ⟨r6.1.trans a6.1, r6.2.trans a6.2⟩, ?_⟩
                rcases r7 with s2 | ⟨s1, μ3, s2, s3⟩
                · exact Or.inl (toM _ (br_t w7 s2))
                · exact Or.inr ⟨s1, μ3, s2, toM _ (br_t w7 s3)⟩
            · obtain ⟨-, ⟨μ3, u1, u2, u3, u4⟩, -⟩ := fail_both 1 a3 (by omega) (by omega) (by omega)
              have hnm1 := m_namedR a3 (RX_MF hx a5)
              rw [if_neg hk2] at hnm1
              refine Or.inr ⟨l ||| 2 ^ d, κ1, pl1, e1, c1, σ1, μ1, toC _ (e_X6_readListeners_60 hb (by
                by_cases h99 : 9 ≤ i + 1
                · exact pk_le 9 (i + 1) (fun _ => rfl) (fun z => by omega)
                · exact pk_le 9 (i + 1) (fun z => by omega) (fun _ => pk_eq κ1 2 (fun z => absurd z hk2) (fun _ => rfl) hk6))), a3, hl', a4, a5, a6, Or.inr ⟨by omega, μ3, u1, toM _ (br_t w7 (e_X12_readListeners_47 ⟨_, μ1, m_readers (RX_MF hx a5), _, μ1, hnm1, br_t (by decide) (br_t rfl ⟨0, μ3, u1, Or.inl rfl, rfl⟩)⟩))⟩⟩
          · have w7 : ¬ μ1.1 219 7 = (2 : Int32) := fun z => hw ((rk_2 hκ1).mp ((nI_eq (by omega) (by omega)).mp (hk7.symm.trans z)))
            have hk2 : κ1 ≠ 2 := fun z => hw (Or.inl z)
            exact Or.inr ⟨l ||| 2 ^ d, κ1, pl1, e1, c1, σ1, μ1, toC _ (e_X6_readListeners_60 hb (by
              by_cases h99 : 9 ≤ i + 1
              · exact pk_le 9 (i + 1) (fun _ => rfl) (fun z => by omega)
              · exact pk_le 9 (i + 1) (fun z => by omega) (fun _ => pk_eq κ1 2 (fun z => absurd z hk2) (fun _ => rfl) hk6))), a3, hl', a4, a5, a6, Or.inl (toM _ (br_f w7 rfl))⟩
end PL
