/-! reading on, both sides -/
def PR_ (σ μ : St_) (n : Nat) (t : Nat → Nat) (L κ pl e c : Nat) : Prop := ((∀ i, t i < 256) ∧ n ≤ 1040 ∧ L ≤ 1040) ∧ (CT σ n t ∧ σ.1 1 3 = nI L ∧ ∀ j, j < 20 → σ.1 3 j = W_ j) ∧ (MX μ n t ∧ μ.1 219 4 = nI L) ∧ TO_ n κ pl e c ∧ TC_ σ κ pl e c ∧ TM_ μ κ pl e c
theorem PR_cg {σ μ σ2 μ2 : St_} {n : Nat} {t : Nat → Nat} {L κ pl e c : Nat} (h : PR_ σ μ n t L κ pl e c) (h1 : ∀ f, 2 ≤ f → f ≤ 7 → σ2.1 1 f = σ.1 1 f) (h2 : σ2.1 2 = σ.1 2) (h3 : σ2.1 3 = σ.1 3) (m1 : ∀ f, 3 ≤ f → f ≤ 9 → μ2.1 219 f = μ.1 219 f) (m2 : μ2.1 220 = μ.1 220) (m3 : μ2.2.1 219 12 = μ.2.1 219 12) : PR_ σ2 μ2 n t L κ pl e c := by
  obtain ⟨a, ⟨b1, b2, b3⟩, ⟨c1, c2⟩, d, ⟨e1, e2, e3, e4⟩, f1, f2, f3, f4, f5, f6⟩ := h
  refine ⟨a, ⟨⟨by rw [h1 2 (by omega) (by omega)]; exact b1.1, b1.2.1, fun i => by rw [h2]; exact b1.2.2 i⟩, by rw [h1 3 (by omega) (by omega)]; exact b2, fun j hj => by rw [h3]; exact b3 j hj⟩, ⟨⟨by rw [m1 3 (by omega) (by omega)]; exact c1.1, c1.2.1, fun i => by rw [m2]; exact c1.2.2 i⟩, by rw [m1 4 (by omega) (by omega)]; exact c2⟩, d, ⟨by rw [h1 6 (by omega) (by omega)]; exact e1, by rw [h1 5 (by omega) (by omega)]; exact e2, by rw [h1 4 (by omega) (by omega)]; exact e3, fun z1 z2 => by rw [h1 7 (by omega) (by omega)]; exact e4 z1 z2⟩, by rw [m1 7 (by omega) (by omega)]; exact f1, by rw [m1 6 (by omega) (by omega)]; exact f2, fun z => by rw [m1 5 (by omega) (by omega)]; exact f3 z, fun z => by rw [m1 8 (by omega) (by omega)]; exact f4 z, fun z => by rw [m3]; exact f5 z, fun z => by rw [m1 9 (by omega) (by omega)]; exact f6 z⟩
/-- the place behind the TOKEN doesn't fall; rises; what the class changes while it reads on, and the reference -/
def mo_ (σ σ' : St_) : Prop := Int32.toNatClampNeg (σ.1 1 4) ≤ Int32.toNatClampNeg (σ'.1 1 4)
def lt_ (σ σ' : St_) : Prop := Int32.toNatClampNeg (σ.1 1 4) < Int32.toNatClampNeg (σ'.1 1 4)
theorem mo_eq {σ σ' : St_} (h : σ'.1 1 4 = σ.1 1 4) : mo_ σ σ' := by unfold mo_; rw [h]; exact Nat.le_refl _
theorem mo_tr {a b c : St_} (h : mo_ a b) (h2 : mo_ b c) : mo_ a c := Nat.le_trans h h2
theorem lt_mo {a b c : St_} (h : lt_ a b) (h2 : mo_ b c) : lt_ a c := Nat.lt_of_lt_of_le h h2
theorem mo_lt {a b c : St_} (h : mo_ a b) (h2 : lt_ b c) : lt_ a c := Nat.lt_of_le_of_lt h h2
def SF_ (σ σ' : St_) : Prop := fr_ [1] σ σ' ∧ (∀ f, f < 4 → σ'.1 1 f = σ.1 1 f) ∧ mo_ σ σ'
def MF_ (μ μ' : St_) : Prop := fm_ [219] [219] μ μ' ∧ ∀ f, (f < 5 ∨ 13 < f) → μ'.1 219 f = μ.1 219 f
theorem SF_rf (σ : St_) : SF_ σ σ := ⟨fr_rf _ _, fun _ _ => rfl, mo_eq rfl⟩
theorem SF_8 (σ : St_) (x : Int32) : SF_ σ (sI_ σ 1 8 x) := ⟨fr_sI (by simp), fun f hf => by simp [sI_at, show ¬ f = 8 by omega], mo_eq (by simp [sI_at])⟩
theorem MF_rf (σ : St_) : MF_ σ σ := ⟨fm_rf _ _ _, fun _ _ => rfl⟩
theorem SF_tr {a b c : St_} (h : SF_ a b) (h2 : SF_ b c) : SF_ a c := ⟨fr_tr h.1 h2.1, fun f hf => (h2.2.1 f hf).trans (h.2.1 f hf), mo_tr h.2.2 h2.2.2⟩
theorem MF_tr {a b c : St_} (h : MF_ a b) (h2 : MF_ b c) : MF_ a c := ⟨fm_tr h.1 h2.1, fun f hf => (h2.2 f hf).trans (h.2 f hf)⟩
/-- both have the same FAULT -/
def FT_ (σ μ : St_) : Prop := ∃ k pl, 1 ≤ k ∧ k ≤ 4 ∧ pl ≤ 1040 ∧ σ.1 1 9 = nI k ∧ μ.1 219 10 = nI k ∧ σ.1 1 10 = nI pl ∧ μ.1 219 11 = nI pl
/-- no FAULT came -/
def NF_ (σ μ σ' μ' : St_) : Prop := σ'.1 1 9 = σ.1 1 9 ∧ μ'.1 219 10 = μ.1 219 10
theorem adv {σ μ : St_} {n : Nat} {t : Nat → Nat} {L κ pl e c : Nat} (h : PR_ σ μ n t L κ pl e c) (hκ : κ ≠ 1) : ∃ κ' pl' e' c' σ' μ', f_X8_next KC [.ref 1] σ = some (none, σ') ∧ f_X12_go KC [.ref 219] μ = some (none, μ') ∧ PR_ σ' μ' n t L κ' pl' e' c' ∧ (SF_ σ σ' ∧ σ'.1 1 8 = σ.1 1 8 ∧ (2 ≤ κ' → lt_ σ σ')) ∧ (MF_ μ μ' ∧ μ'.1 219 13 = μ.1 219 13) ∧ NF_ σ μ σ' μ' := by
  obtain ⟨⟨a1, a2, a3⟩, ⟨b1, b2, b3⟩, ⟨c1, c2⟩, d, e1, f1⟩ := h
  obtain ⟨κ', pl', e', c', h0, hmo, hc, hm⟩ := tok_both (t := t) (n := n) (L := L) (p := e) a1 a2 a3 d.2.2.1
  obtain ⟨σ', g1, g2, g3, g4⟩ := hc σ b1 b2 e1.2.2.1 b3
  have he0 : Int32.toNatClampNeg (σ.1 1 4) = e := by rw [e1.2.2.1]; exact cl_ (by have := d.2.2.1; omega)
  have he1 : Int32.toNatClampNeg (σ'.1 1 4) = e' := by rw [g4.2.2.1]; exact cl_ (by have := h0.2.2.1; omega)
  obtain ⟨μ', k1, k2, k3, k4⟩ := hm μ c1 c2 (f1.2.2.1 hκ)
  refine ⟨κ', pl', e', c', σ', μ', g1, k1, ⟨⟨a1, a2, a3⟩, ⟨⟨by rw [g3 2 (by decide) (by decide) (by decide) (by decide)]; exact b1.1, b1.2.1, fun i => by rw [g2.1 2 (by decide)]; exact b1.2.2 i⟩, by rw [g3 3 (by decide) (by decide) (by decide) (by decide)]; exact b2, fun j hj => by rw [g2.1 3 (by decide)]; exact b3 j hj⟩, ⟨⟨by rw [k3 3 (by decide) (by decide) (by decide) (by decide) (by decide)]; exact c1.1, c1.2.1, fun i => by rw [k2.1 220 (by decide)]; exact c1.2.2 i⟩, by rw [k3 4 (by decide) (by decide) (by decide) (by decide) (by decide)]; exact c2⟩, h0, g4, k4⟩, ⟨⟨g2, fun f hf => g3 f (by omega) (by omega) (by omega) (by omega), by unfold mo_; rw [he0, he1]; exact hmo.1⟩, g3 8 (by decide) (by decide) (by decide) (by decide), fun z => by unfold lt_; rw [he0, he1]; exact hmo.2 z⟩, ⟨⟨k2, fun f hf => k3 f (by omega) (by omega) (by omega) (by omega) (by omega)⟩, k3 13 (by decide) (by decide) (by decide) (by decide) (by decide)⟩, g3 9 (by decide) (by decide) (by decide) (by decide), k3 10 (by decide) (by decide) (by decide) (by decide) (by decide)⟩
/-- both fail: the class by k, the reference by k, too (a TOKEN that is none has a FAULT 1) -/
theorem fail_both {σ μ : St_} {n : Nat} {t : Nat → Nat} {L κ pl e c : Nat} (k : Nat) (h : PR_ σ μ n t L κ pl e c) (hk : 1 ≤ k) (hk2 : k ≤ 4) (h1 : κ = 1 → k = 1) : (∃ σ', f_X8_fail KC [.ref 1, .int (nI k)] σ = some (some (.int 0), σ') ∧ SF_ σ σ' ∧ σ'.1 1 9 = nI k ∧ σ'.1 1 10 = nI pl) ∧ (∃ μ', f_X12_bad KC [.ref 219, .int (nI k)] μ = some (some (.int 0), μ') ∧ MF_ μ μ' ∧ μ'.1 219 10 = nI k ∧ μ'.1 219 11 = nI pl) ∧ pl ≤ 1040 := by
  obtain ⟨a, b, cc, d, e1, f1⟩ := h
  obtain ⟨σ', g1, g2, g3, g4, g5⟩ := c_fail k e1
  obtain ⟨μ', k1, k2, k3, k4, k5⟩ := m_bad k d f1
  refine ⟨⟨σ', g1, ⟨g4, fun f hf => g5 f (by omega) (by omega), mo_eq (g5 4 (by omega) (by omega))⟩, g2, g3⟩, ⟨μ', k1, ⟨fr_fm k4, fun f hf => k5 f (by omega) (by omega)⟩, ?_, k3⟩, d.2.1⟩
  rw [k2]
  split
  · rw [h1 (by assumption)]
  · rfl
theorem PR_8 {σ μ : St_} {n : Nat} {t : Nat → Nat} {L κ pl e c : Nat} (h : PR_ σ μ n t L κ pl e c) (x : Int32) : PR_ (sI_ σ 1 8 x) μ n t L κ pl e c := PR_cg h (fun f h1 h2 => by simp [sI_at, show ¬ f = 8 by omega]) (sI_row _ _ _ _ (by decide)) (sI_row _ _ _ _ (by decide)) (fun _ _ _ => rfl) rfl rfl
theorem PR_13 {σ μ : St_} {n : Nat} {t : Nat → Nat} {L κ pl e c : Nat} (h : PR_ σ μ n t L κ pl e c) (x : Int32) : PR_ σ (sI_ μ 219 13 x) n t L κ pl e c := PR_cg h (fun _ _ _ => rfl) rfl rfl (fun f h1 h2 => by simp [sI_at, show ¬ f = 13 by omega]) (sI_row _ _ _ _ (by decide)) rfl
theorem m_isIn {x a b : Nat} (hx : x < 2 ^ 31) (ha : a < 2 ^ 31) (hb : b < 2 ^ 31) (σ : St_) : f_X12_isIn KC [.int (nI x), .int (nI a), .int (nI b)] σ = some (some (.int (if a ≤ x ∧ x ≤ b then 1 else 0)), σ) := by
  refine z_X12_isIn (e_X12_isIn_0 (pk_lt x a (fun z => ?_) (fun z => pk_lt b x (fun z2 => ?_) (fun z2 => ?_))))
  · rw [if_neg (by omega)]
  · rw [if_neg (by omega)]
  · rw [if_pos (by omega)]
theorem num_pair {σ μ : St_} {n : Nat} {t : Nat → Nat} {L κ pl e c : Nat} (a b : Nat) (h : PR_ σ μ n t L κ pl e c) (ha : a < 2 ^ 30) (hb : b < 2 ^ 30) : (∃ σ' μ', f_X8_takeNumber KC [.ref 1, .int (nI a), .int (nI b)] σ = some (some (.int 0), σ') ∧ f_X12_readNumber KC [.ref 219, .int (nI a), .int (nI b)] μ = some (some (.int 0), μ') ∧ FT_ σ' μ' ∧ SF_ σ σ' ∧ MF_ μ μ') ∨ (∃ κ' pl' e' c' σ' μ', f_X8_takeNumber KC [.ref 1, .int (nI a), .int (nI b)] σ = some (some (.int 1), σ') ∧ f_X12_readNumber KC [.ref 219, .int (nI a), .int (nI b)] μ = some (some (.int 1), μ') ∧ (κ = 3 ∧ a ≤ c) ∧ c ≤ b ∧ PR_ σ' μ' n t L κ' pl' e' c' ∧ σ'.1 1 8 = nI c ∧ μ'.1 219 13 = nI c ∧ SF_ σ σ' ∧ MF_ μ μ' ∧ NF_ σ μ σ' μ') := by
  have hC := h.2.2.2.2.1
  have hM := h.2.2.2.2.2
  have hT := h.2.2.2.1
  have hκ := hT.1
  have hrl := rk_lt κ
  by_cases h3 : κ = 3
  · have hc := hT.2.2.2.1 h3
    have hv := hC.2.2.2 (by omega) (by omega)
    have hu := hM.2.2.2.1 h3
    have hin := m_isIn (x := c) (a := a) (b := b) (by omega) (by omega) (by omega) μ
    by_cases hr : a ≤ c ∧ c ≤ b
    · right
      rw [if_pos hr] at hin
      obtain ⟨κ', pl', e', c', σ', μ', g1, g2, g3, g4, g5, g6⟩ := adv (PR_13 (PR_8 h (nI c)) (nI c)) (by omega)
      refine ⟨κ', pl', e', c', σ', μ', z_X8_takeNumber (e_X8_takeNumber_0 (pk_eq κ 3 (fun _ => pk_lt c a (fun z => by omega) (fun _ => pk_le c b (fun _ => ⟨σ', by rw [hv]; exact g1, rfl⟩) (fun z => by omega) hv) hv) (fun z => absurd h3 z) hC.1)), z_X12_readNumber (e_X12_readNumber_0 (pk_eq (rk_ κ) 3 (fun _ => ⟨1, μ, by rw [hu]; exact hin, br_f (by decide) ⟨μ', by rw [hu]; exact g2, rfl⟩⟩) (fun z => absurd ((rk_3 hκ).mpr h3) z) hM.1)), ⟨h3, hr.1⟩, hr.2, g3, by rw [g4.2.1]; simp [sI_at], by rw [g5.2]; simp [sI_at], SF_tr (SF_8 _ _) g4.1, MF_tr ⟨fm_sI (by simp), fun f hf => by simp [sI_at, show ¬ f = 13 by omega]⟩ g5.1, g6.1, g6.2⟩
    · left
      rw [if_neg hr] at hin
      obtain ⟨⟨σ', g1, g2, g3, g4⟩, ⟨μ', k1, k2, k3, k4⟩, hpl⟩ := fail_both 2 h (by omega) (by omega) (by omega)
      refine ⟨σ', μ', z_X8_takeNumber (e_X8_takeNumber_0 (pk_eq κ 3 (fun _ => pk_lt c a (fun z => ⟨0, σ', g1, Or.inl rfl, rfl⟩) (fun _ => pk_le c b (fun _ => by omega) (fun z => ⟨0, σ', g1, Or.inl rfl, rfl⟩) hv) hv) (fun z => absurd h3 z) hC.1)), z_X12_readNumber (e_X12_readNumber_0 (pk_eq (rk_ κ) 3 (fun _ => ⟨0, μ, by rw [hu]; exact hin, br_t rfl ⟨0, μ', k1, Or.inl rfl, rfl⟩⟩) (fun z => absurd ((rk_3 hκ).mpr h3) z) hM.1)), ⟨2, pl, by omega, by omega, hpl, g3, k3, g4, k4⟩, g2, k2⟩
  · left
    obtain ⟨⟨σ', g1, g2, g3, g4⟩, ⟨μ', k1, k2, k3, k4⟩, hpl⟩ := fail_both 1 h (by omega) (by omega) (by omega)
    exact ⟨σ', μ', z_X8_takeNumber (e_X8_takeNumber_0 (pk_eq κ 3 (fun z => absurd z h3) (fun z => ⟨0, σ', g1, Or.inl rfl, rfl⟩) hC.1)), z_X12_readNumber (e_X12_readNumber_0 (pk_eq (rk_ κ) 3 (fun z => absurd ((rk_3 hκ).mp z) h3) (fun z => ⟨0, μ', k1, Or.inl rfl, rfl⟩) hM.1)), ⟨1, pl, by omega, by omega, hpl, g3, k3, g4, k4⟩, g2, k2⟩
/-- the class takes what is wanted, and reads on; the reference reads on -/
theorem take_ok {σ μ : St_} {n : Nat} {t : Nat → Nat} {L κ pl e c : Nat} (h : PR_ σ μ n t L κ pl e c) (hκ : κ ≠ 1) : ∃ κ' pl' e' c' σ' μ', f_X8_take KC [.ref 1, .int (nI κ)] σ = some (some (.int 1), σ') ∧ f_X12_go KC [.ref 219] μ = some (none, μ') ∧ PR_ σ' μ' n t L κ' pl' e' c' ∧ (SF_ σ σ' ∧ (2 ≤ κ → κ ≤ 23 → σ'.1 1 8 = nI c)) ∧ (MF_ μ μ' ∧ μ'.1 219 13 = μ.1 219 13) ∧ NF_ σ μ σ' μ' := by
  have hC := h.2.2.2.2.1
  have hk := h.2.2.2.1.1
  obtain ⟨κ', pl', e', c', σ', μ', g1, g2, g3, g4, g5, g6⟩ := adv (PR_8 h (σ.1 1 7)) hκ
  refine ⟨κ', pl', e', c', σ', μ', z_X8_take (e_X8_take_0 (pk_eq κ κ (fun _ => ⟨σ', g1, rfl⟩) (fun z => absurd rfl z) hC.1)), g2, g3, ⟨SF_tr (SF_8 _ _) g4.1, fun z1 z2 => by rw [g4.2.1]; simp [sI_at, hC.2.2.2 z1 z2]⟩, g5, g6.1, g6.2⟩
theorem take_no {σ μ : St_} {n : Nat} {t : Nat → Nat} {L κ pl e c : Nat} (w : Nat) (h : PR_ σ μ n t L κ pl e c) (hw : κ ≠ w) (hw2 : w < 64) : (∃ σ', f_X8_take KC [.ref 1, .int (nI w)] σ = some (some (.int 0), σ') ∧ SF_ σ σ' ∧ σ'.1 1 9 = nI 1 ∧ σ'.1 1 10 = nI pl) ∧ (∃ μ', f_X12_bad KC [.ref 219, .int (nI 1)] μ = some (some (.int 0), μ') ∧ MF_ μ μ' ∧ μ'.1 219 10 = nI 1 ∧ μ'.1 219 11 = nI pl) ∧ pl ≤ 1040 := by
  have hC := h.2.2.2.2.1
  have hk := h.2.2.2.1.1
  obtain ⟨⟨σ', g1, g2, g3, g4⟩, hm, hpl⟩ := fail_both 1 h (by omega) (by omega) (by omega)
  exact ⟨⟨σ', z_X8_take (e_X8_take_0 (pk_eq κ w (fun z => absurd z hw) (fun _ => ⟨0, σ', g1, Or.inl rfl, rfl⟩) hC.1)), g2, g3, g4⟩, hm, hpl⟩
/-- the end of a LINE or an ACT -/
theorem end_pair {σ μ : St_} {n : Nat} {t : Nat → Nat} {L κ pl e c : Nat} (h : PR_ σ μ n t L κ pl e c) : (∃ σ' μ', f_X8_take KC [.ref 1, .int (nI 59)] σ = some (some (.int 0), σ') ∧ f_X12_readEnd KC [.ref 219] μ = some (some (.int 0), μ') ∧ FT_ σ' μ' ∧ SF_ σ σ' ∧ MF_ μ μ') ∨ (∃ κ' pl' e' c' σ' μ', f_X8_take KC [.ref 1, .int (nI 59)] σ = some (some (.int 1), σ') ∧ f_X12_readEnd KC [.ref 219] μ = some (some (.int 1), μ') ∧ PR_ σ' μ' n t L κ' pl' e' c' ∧ SF_ σ σ' ∧ MF_ μ μ' ∧ NF_ σ μ σ' μ') := by
  have hs := m_isSign (ch := 59) h.2.2.2.1 h.2.2.2.2.2 (by omega) (by omega)
  by_cases hκ : κ = 59
  · right
    obtain ⟨κ', pl', e', c', σ', μ', g1, g2, g3, g4, g5, g6⟩ := take_ok h (by omega)
    rw [hκ] at g1
    rw [if_pos hκ] at hs
    exact ⟨κ', pl', e', c', σ', μ', g1, z_X12_readEnd (e_X12_readEnd_0 ⟨1, μ, hs, br_f (by decide) ⟨μ', g2, rfl⟩⟩), g3, g4.1, g5.1, g6⟩
  · left
    obtain ⟨⟨σ', g1, g2, g3, g4⟩, ⟨μ', k1, k2, k3, k4⟩, hpl⟩ := take_no 59 h hκ (by omega)
    rw [if_neg hκ] at hs
    exact ⟨σ', μ', g1, z_X12_readEnd (e_X12_readEnd_0 ⟨0, μ, hs, br_t rfl ⟨0, μ', k1, Or.inl rfl, rfl⟩⟩), ⟨1, pl, by omega, by omega, hpl, g3, k3, g4, k4⟩, g2, k2⟩
