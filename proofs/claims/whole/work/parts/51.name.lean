/-! a new NAME -/
theorem nI_m1 {i : Nat} (h : i < 2 ^ 31) : ¬ nI i = -1 := fun z => by
  have h1 := nI_toInt h
  rw [z] at h1
  have h2 : (-1 : Int32).toInt = -1 := by decide
  rw [h2] at h1
  omega
theorem on_m1 {o : Option Nat} (h : ∀ i, o = some i → i < 2 ^ 31) : on_ o = -1 ↔ o = none := by
  cases o with
  | none => exact ⟨fun _ => rfl, fun _ => rfl⟩
  | some i => exact ⟨fun z => absurd z (nI_m1 (h i rfl)), fun z => by cases z⟩
theorem idx_b {g : Nat → Nat} {v k : Nat} (hk : k ≤ 16) : ∀ i, idx_ g v k 0 = some i → i < 2 ^ 31 := fun i h => by
  have := idx_lt k 0 i h
  omega
theorem fn2_none {B : Nat → Nat → Nat} {v : Nat} : fn2_ B v = none ↔ idx_ (B 9) v (B 0 0) 0 = none ∧ idx_ (B 10) v (B 0 1) 0 = none := by
  unfold fn2_
  cases h1 : idx_ (B 9) v (B 0 0) 0 with
  | some i => simp
  | none =>
    cases h2 : idx_ (B 10) v (B 0 1) 0 with
    | some i => simp
    | none => simp
theorem fn2_b {B : Nat → Nat → Nat} {v : Nat} (hO : BO_ B) : ∀ i, fn2_ B v = some i → i < 2 ^ 31 := by
  intro i h
  have b0 := hO.1.1
  have b1 := hO.1.2.1
  unfold fn2_ at h
  cases h1 : idx_ (B 9) v (B 0 0) 0 with
  | some j =>
    rw [h1] at h
    cases h
    exact idx_b b0 _ h1
  | none =>
    rw [h1] at h
    cases h2 : idx_ (B 10) v (B 0 1) 0 with
    | some j =>
      rw [h2] at h
      cases h
      have := idx_lt _ _ _ h2
      omega
    | none =>
      rw [h2] at h
      cases h
theorem PR_J {σ μ : St_} {n : Nat} {t : Nat → Nat} {L κ pl e c : Nat} (h : PR_ σ μ n t L κ pl e c) {o : Nat} (ho : o ≠ 219) (i : Nat) (x : Int64) : PR_ σ (sJ_ μ o i x) n t L κ pl e c := PR_cg h (fun _ _ _ => rfl) rfl rfl (fun _ _ _ => rfl) rfl (by rw [sJ_at, if_neg (fun z => ho z.1.symm)])
theorem new_pair {σ μ : St_} {n : Nat} {t : Nat → Nat} {L κ pl e c b : Nat} {B : Nat → Nat → Nat} (slot : Nat) (h : PR_ σ μ n t L κ pl e c) (hb : isB b) (hC : CB_ σ b B) (hM : MB_ μ 222 0 225 0 B) (hO : BO_ B) (hs : slot < 25) : (∃ σ' μ', f_X0_takeNewName KC [.ref b, .ref 1] σ = some (some (.int 0), σ') ∧ f_X12_readNew KC [.ref 219, .int (nI slot)] μ = some (some (.int 0), μ') ∧ FT_ σ' μ' ∧ SF_ σ σ' ∧ MF_ μ μ') ∨ (∃ κ' pl' e' c' σ' μ', f_X0_takeNewName KC [.ref b, .ref 1] σ = some (some (.int 1), σ') ∧ f_X12_readNew KC [.ref 219, .int (nI slot)] μ = some (some (.int 1), μ') ∧ okc_ c ∧ (κ = 2 ∧ fn2_ B c = none) ∧ PR_ σ' μ' n t L κ' pl' e' c' ∧ σ'.1 1 8 = nI c ∧ SF_ σ σ' ∧ MF_ (sJ_ μ 225 slot (lN (cm_ c))) μ' ∧ NF_ σ μ σ' μ') := by
  have hTC := h.2.2.2.2.1
  have hTM := h.2.2.2.2.2
  have hT := h.2.2.2.1
  have hκ := hT.1
  have hnm := m_isName hT hTM
  by_cases h2 : κ = 2
  · rw [if_pos h2] at hnm
    obtain ⟨hok, -⟩ := hT.2.2.2.2.1 (Or.inl h2)
    have hlt := okc_lt hok
    have hv : σ.1 1 7 = nI c := hTC.2.2.2 (by omega) (by omega)
    have hw : μ.2.1 219 12 = lN (cm_ c) := hTM.2.2.2.2.1 (Or.inl h2)
    have hcn := c_chapNamed (v := c) hb hC hO (by omega)
    have hrn := c_readerNamed (v := c) hb hC hO (by omega)
    have hfr := m_findRead hM hO hok hw
    have i1 := on_m1 (idx_b (g := B 9) (v := c) hO.1.1)
    have i2 := on_m1 (idx_b (g := B 10) (v := c) (k := B 0 1) (by have := hO.1.2.1; omega))
    have i3 := on_m1 (fn2_b (v := c) hO)
    by_cases hf : fn2_ B c = none
    · right
      obtain ⟨f1, f2⟩ := fn2_none.mp hf
      obtain ⟨κ', pl', e', c', σ', μ', g1, g2, g3, g4, g5, g6⟩ := take_ok (PR_J h (o := 225) (by decide) slot (lN (cm_ c))) (by omega)
      rw [h2] at g1
      refine ⟨κ', pl', e', c', σ', μ', z_X0_takeNewName (e_X0_takeNewName_0 hb (pk_eq κ 2 (fun _ => ⟨_, σ, by rw [hv]; exact hcn, br_t (i1.mpr f1) ⟨_, σ, by rw [hv]; exact hrn, br_t (i2.mpr f2) ⟨1, σ', g1, Or.inr rfl, rfl⟩⟩⟩) (fun z => absurd h2 z) hTC.1)), z_X12_readNew (e_X12_readNew_0 ⟨1, μ, hnm, br_f (by decide) ⟨_, μ, hfr, br_t (i3.mpr hf) ⟨vpin_n hs, μ', ?_, rfl⟩⟩⟩), hok, ⟨h2, hf⟩, g3, g4.2 (by omega) (by omega), g4.1, g5.1, g6.1, g6.2⟩
      rw [cl_ (by omega), hw]
      exact g2
    · left
      obtain ⟨⟨σ', g1, g2, g3, g4⟩, ⟨μ', k1, k2, k3, k4⟩, hpl⟩ := fail_both 3 h (by omega) (by omega) (by omega)
      have hcls : f_X0_takeNewName KC [.ref b, .ref 1] σ = some (some (.int 0), σ') := by
        refine z_X0_takeNewName (e_X0_takeNewName_0 hb (pk_eq κ 2 (fun _ => ⟨_, σ, by rw [hv]; exact hcn, ?_⟩) (fun z => absurd h2 z) hTC.1))
        refine ek_if i1 (fun f1 => ⟨_, σ, by rw [hv]; exact hrn, br_f (fun z => hf (fn2_none.mpr ⟨f1, i2.mp z⟩)) ⟨0, σ', g1, Or.inl rfl, rfl⟩⟩) (fun f1 => ⟨0, σ', g1, Or.inl rfl, rfl⟩)
      exact ⟨σ', μ', hcls, z_X12_readNew (e_X12_readNew_0 ⟨1, μ, hnm, br_f (by decide) ⟨_, μ, hfr, br_f (fun z => hf (i3.mp z)) ⟨0, μ', k1, Or.inl rfl, rfl⟩⟩⟩), ⟨3, pl, by omega, by omega, hpl, g3, k3, g4, k4⟩, g2, k2⟩
  · left
    rw [if_neg h2] at hnm
    obtain ⟨⟨σ', g1, g2, g3, g4⟩, ⟨μ', k1, k2, k3, k4⟩, hpl⟩ := fail_both 1 h (by omega) (by omega) (by omega)
    exact ⟨σ', μ', z_X0_takeNewName (e_X0_takeNewName_0 hb (pk_eq κ 2 (fun z => absurd z h2) (fun _ => ⟨0, σ', g1, Or.inl rfl, rfl⟩) hTC.1)), z_X12_readNew (e_X12_readNew_0 ⟨0, μ, hnm, br_t rfl ⟨0, μ', k1, Or.inl rfl, rfl⟩⟩), ⟨1, pl, by omega, by omega, hpl, g3, k3, g4, k4⟩, g2, k2⟩
