set_option maxRecDepth 20000 in
theorem e_X12_makeTwice_0 {x1 : Int32} {σ : St_} {out : Out_}  (h : Ev_ (P_X12_makeTwice KC) 4 [some (.ref 219), some (.int x1), some (.int (0 : Int32)), some (.int (0 : Int32)), none, none] [] σ out) : Ev_ (P_X12_makeTwice KC) 0 [some (.ref 219), some (.int x1), none, none, none, none] [] σ out := by
  refine ev_n 4 (fun _ => rfl) ?_
  exact h
set_option maxRecDepth 20000 in
theorem e_X12_makeTwice_4 {x1 : Int32} {x2 : Int32} {x3 : Int32} {σ : St_} {out : Out_}  (h : ((x1 ≤ x3 → out = (none, σ)) ∧ (¬ (x1 ≤ x3) → (∃ (v2 : Int32) (σ1 : St_), f_X12_chaps KC [.ref 219] σ = some (some (.int v2), σ1) ∧ ((v2 ≤ x3 → out = (none, σ1)) ∧ (¬ (v2 ≤ x3) → Ev_ (P_X12_makeTwice KC) 23 [some (.ref 219), some (.int x1), some (.int x2), some (.int x3), some (.int ((-1) : Int32)), some (.int (0 : Int32))] [] σ1 out)))))) : Ev_ (P_X12_makeTwice KC) 4 [some (.ref 219), some (.int x1), some (.int x2), some (.int x3), none, none] [] σ out := by
  refine ev_n 2 (fun _ => rfl) ?_
  refine ev_if (c := x1 ≤ x3) rfl (fun _ => rfl) (fun hc => ?_) (fun hc => ?_)
  · replace h := h.1 hc
    exact ev_ret rfl (fun _ => rfl) h
  · replace h := h.2 hc
    refine ev_n 2 (fun _ => rfl) ?_
    obtain ⟨v2, σ1, hf, h⟩ := h
    refine ev_go rfl (w_callV rfl rfl rfl (Nat.le_of_ble_eq_true rfl) hf) ?_
    refine ev_if (c := v2 ≤ x3) rfl (fun _ => rfl) (fun hc => ?_) (fun hc => ?_)
    · replace h := h.1 hc
      exact ev_ret rfl (fun _ => rfl) h
    · replace h := h.2 hc
      refine ev_n 4 (fun _ => rfl) ?_
      exact h
set_option maxRecDepth 20000 in
theorem e_X12_makeTwice_23 {x1 : Int32} {x2 : Int32} {x3 : Int32} {x4 : Int32} {x5 : Int32} {σ : St_} {out : Out_}  (h : (∃ (v2 : Int32) (σ1 : St_), f_X12_chaps KC [.ref 219] σ = some (some (.int v2), σ1) ∧ ((v2 ≤ x5 → (∃ (v4 : Int32) (σ3 : St_), f_X12_idlest KC [.ref 219, .int x4] σ1 = some (some (.int v4), σ3) ∧ ((v4 = ((-1) : Int32) → Ev_ (P_X12_makeTwice KC) 4 [some (.ref 219), some (.int x1), some (.int (x2 ||| ((1 : Int32) <<< (x4 &&& 31)))), some (.int (x3 + 1)), none, none] [] σ3 out) ∧ (¬ (v4 = ((-1) : Int32)) → (∃ (v6 : Int32) (σ5 : St_), f_X12_tries KC [.ref 219, .int v4, .int x4, .int (0 : Int32), .int (0 : Int32)] σ3 = some (some (.int v6), σ5) ∧ Ev_ (P_X12_makeTwice KC) 4 [some (.ref 219), some (.int x1), some (.int (x2 ||| ((1 : Int32) <<< (x4 &&& 31)))), some (.int (x3 + 1)), none, none] [] σ5 out))))) ∧ (¬ (v2 ≤ x5) → (∃ (v8 : Int32) (σ7 : St_), f_X12_has KC [.int x2, .int x5] σ1 = some (some (.int v8), σ7) ∧ ((v8 = 0 → ((x4 = ((-1) : Int32) → Ev_ (P_X12_makeTwice KC) 23 [some (.ref 219), some (.int x1), some (.int x2), some (.int x3), some (.int x5), some (.int (x5 + 1))] [] σ7 out) ∧ (¬ (x4 = ((-1) : Int32)) → (∃ (v10 : Int32) (σ9 : St_), f_X12_chapOf KC [.ref 219, .int x5, .int (1 : Int32)] σ7 = some (some (.int v10), σ9) ∧ (∃ (v12 : Int32) (σ11 : St_), f_X12_chapOf KC [.ref 219, .int x4, .int (1 : Int32)] σ9 = some (some (.int v12), σ11) ∧ ((v10 ≤ v12 → Ev_ (P_X12_makeTwice KC) 23 [some (.ref 219), some (.int x1), some (.int x2), some (.int x3), some (.int x4), some (.int (x5 + 1))] [] σ11 out) ∧ (¬ (v10 ≤ v12) → Ev_ (P_X12_makeTwice KC) 23 [some (.ref 219), some (.int x1), some (.int x2), some (.int x3), some (.int x5), some (.int (x5 + 1))] [] σ11 out))))))) ∧ (¬ (v8 = 0) → Ev_ (P_X12_makeTwice KC) 23 [some (.ref 219), some (.int x1), some (.int x2), some (.int x3), some (.int x4), some (.int (x5 + 1))] [] σ7 out))))))) : Ev_ (P_X12_makeTwice KC) 23 [some (.ref 219), some (.int x1), some (.int x2), some (.int x3), some (.int x4), some (.int x5)] [] σ out := by
  refine ev_n 2 (fun _ => rfl) ?_
  obtain ⟨v2, σ1, hf, h⟩ := h
  refine ev_go rfl (w_callV rfl rfl rfl (Nat.le_of_ble_eq_true rfl) hf) ?_
  refine ev_if (c := v2 ≤ x5) rfl (fun _ => rfl) (fun hc => ?_) (fun hc => ?_)
  · replace h := h.1 hc
    refine ev_n 8 (fun _ => rfl) ?_
    obtain ⟨v4, σ3, hf, h⟩ := h
    refine ev_go rfl (w_callV rfl rfl rfl (Nat.le_of_ble_eq_true rfl) hf) ?_
    refine ev_n 3 (fun _ => rfl) ?_
    refine ev_if (c := v4 = ((-1) : Int32)) rfl (fun _ => rfl) (fun hc => ?_) (fun hc => ?_)
    · replace h := h.1 hc
      refine ev_n 2 (fun _ => rfl) ?_
      exact h
    · replace h := h.2 hc
      refine ev_n 5 (fun _ => rfl) ?_
      obtain ⟨v6, σ5, hf, h⟩ := h
      refine ev_go rfl (w_callV rfl rfl rfl (Nat.le_of_ble_eq_true rfl) hf) ?_
      refine ev_n 3 (fun _ => rfl) ?_
      exact h
  · replace h := h.2 hc
    refine ev_n 2 (fun _ => rfl) ?_
    obtain ⟨v8, σ7, hf, h⟩ := h
    refine ev_go rfl (w_callS ⟨Nat.le_of_ble_eq_true rfl, Nat.le_of_ble_eq_true rfl⟩ hf) ?_
    refine ev_if (c := v8 = 0) rfl (fun _ => rfl) (fun hc => ?_) (fun hc => ?_)
    · replace h := h.1 hc
      refine ev_n 2 (fun _ => rfl) ?_
      refine ev_if (c := x4 = ((-1) : Int32)) rfl (fun _ => rfl) (fun hc => ?_) (fun hc => ?_)
      · replace h := h.1 hc
        refine ev_n 4 (fun _ => rfl) ?_
        exact h
      · replace h := h.2 hc
        refine ev_n 3 (fun _ => rfl) ?_
        obtain ⟨v10, σ9, hf, h⟩ := h
        refine ev_go rfl (w_callV rfl rfl rfl (Nat.le_of_ble_eq_true rfl) hf) ?_
        refine ev_n 3 (fun _ => rfl) ?_
        obtain ⟨v12, σ11, hf, h⟩ := h
        refine ev_go rfl (w_callV rfl rfl rfl (Nat.le_of_ble_eq_true rfl) hf) ?_
        refine ev_if (c := v10 ≤ v12) rfl (fun _ => rfl) (fun hc => ?_) (fun hc => ?_)
        · replace h := h.1 hc
          refine ev_n 2 (fun _ => rfl) ?_
          exact h
        · replace h := h.2 hc
          refine ev_n 4 (fun _ => rfl) ?_
          exact h
    · replace h := h.2 hc
      refine ev_n 2 (fun _ => rfl) ?_
      exact h
theorem m_X12_makeTwice : ∀ pc o, (P_X12_makeTwice KC).lookup pc = some o → Mon_ o := all_mon (a_X12_makeTwice (l := launch0) (E := EC0) EC0_ok)
theorem z_X12_makeTwice {x1 : Int32} {σ : St_} {out : Out_} (h : Ev_ (P_X12_makeTwice KC) 0 [some (.ref 219), some (.int x1), none, none, none, none] [] σ out) : f_X12_makeTwice KC [.ref 219, .int x1] σ = some out := fn_eq m_X12_makeTwice rfl h
set_option maxRecDepth 20000 in
theorem e_X12_makeChain_0 {x1 : Int32} {σ : St_} {out : Out_}  (h : Ev_ (P_X12_makeChain KC) 2 [some (.ref 219), some (.int x1), some (.int (0 : Int32)), none, none, none] [] σ out) : Ev_ (P_X12_makeChain KC) 0 [some (.ref 219), some (.int x1), none, none, none, none] [] σ out := by
  refine ev_n 2 (fun _ => rfl) ?_
  exact h
set_option maxRecDepth 20000 in
theorem e_X12_makeChain_2 {x1 : Int32} {x2 : Int32} {σ : St_} {out : Out_}  (h : (∃ (v2 : Int32) (σ1 : St_), f_X12_chaps KC [.ref 219] σ = some (some (.int v2), σ1) ∧ ((v2 ≤ x2 → out = (none, σ1)) ∧ (¬ (v2 ≤ x2) → Ev_ (P_X12_makeChain KC) 12 [some (.ref 219), some (.int x1), some (.int x2), some (.int (0 : Int32)), none, none] [] σ1 out)))) : Ev_ (P_X12_makeChain KC) 2 [some (.ref 219), some (.int x1), some (.int x2), none, none, none] [] σ out := by
  refine ev_n 2 (fun _ => rfl) ?_
  obtain ⟨v2, σ1, hf, h⟩ := h
  refine ev_go rfl (w_callV rfl rfl rfl (Nat.le_of_ble_eq_true rfl) hf) ?_
  refine ev_if (c := v2 ≤ x2) rfl (fun _ => rfl) (fun hc => ?_) (fun hc => ?_)
  · replace h := h.1 hc
    exact ev_ret rfl (fun _ => rfl) h
  · replace h := h.2 hc
    refine ev_n 2 (fun _ => rfl) ?_
    exact h
set_option maxRecDepth 20000 in
theorem e_X12_makeChain_12 {x1 : Int32} {x2 : Int32} {x3 : Int32} {σ : St_} {out : Out_}  (h : (∃ (v2 : Int32) (σ1 : St_), f_X12_readers KC [.ref 219] σ = some (some (.int v2), σ1) ∧ ((v2 ≤ x3 → (∃ (v4 : Int32) (σ3 : St_), f_X12_readers KC [.ref 219] σ1 = some (some (.int v4), σ3) ∧ ((v4 ≤ x3 → Ev_ (P_X12_makeChain KC) 54 [some (.ref 219), some (.int x1), some (.int x2), some (.int x3), some (.int (0 : Int32)), none] [] σ3 out) ∧ (¬ (v4 ≤ x3) → Ev_ (P_X12_makeChain KC) 54 [some (.ref 219), some (.int x1), some (.int x2), some (.int x3), some (.int (1 : Int32)), none] [] σ3 out)))) ∧ (¬ (v2 ≤ x3) → (vpin_ x3 9 = true) ∧ (∃ (v6 : Int32) (σ5 : St_), f_X12_has KC [.int (σ1.1 231 (Int32.toNatClampNeg x3)), .int x2] σ1 = some (some (.int v6), σ5) ∧ ((v6 = 0 → Ev_ (P_X12_makeChain KC) 12 [some (.ref 219), some (.int x1), some (.int x2), some (.int (x3 + 1)), none, none] [] σ5 out) ∧ (¬ (v6 = 0) → (∃ (v8 : Int32) (σ7 : St_), f_X12_readers KC [.ref 219] σ5 = some (some (.int v8), σ7) ∧ ((v8 ≤ x3 → Ev_ (P_X12_makeChain KC) 54 [some (.ref 219), some (.int x1), some (.int x2), some (.int x3), some (.int (0 : Int32)), none] [] σ7 out) ∧ (¬ (v8 ≤ x3) → Ev_ (P_X12_makeChain KC) 54 [some (.ref 219), some (.int x1), some (.int x2), some (.int x3), some (.int (1 : Int32)), none] [] σ7 out)))))))))) : Ev_ (P_X12_makeChain KC) 12 [some (.ref 219), some (.int x1), some (.int x2), some (.int x3), none, none] [] σ out := by
  refine ev_n 2 (fun _ => rfl) ?_
  obtain ⟨v2, σ1, hf, h⟩ := h
  refine ev_go rfl (w_callV rfl rfl rfl (Nat.le_of_ble_eq_true rfl) hf) ?_
  refine ev_if (c := v2 ≤ x3) rfl (fun _ => rfl) (fun hc => ?_) (fun hc => ?_)
  · replace h := h.1 hc
    refine ev_n 2 (fun _ => rfl) ?_
    obtain ⟨v4, σ3, hf, h⟩ := h
    refine ev_go rfl (w_callV rfl rfl rfl (Nat.le_of_ble_eq_true rfl) hf) ?_
    refine ev_if (c := v4 ≤ x3) rfl (fun _ => rfl) (fun hc => ?_) (fun hc => ?_)
    · replace h := h.1 hc
      refine ev_n 2 (fun _ => rfl) ?_
      exact h
    · replace h := h.2 hc
      refine ev_n 3 (fun _ => rfl) ?_
      exact h
  · replace h := h.2 hc
    refine ev_n 1 (fun _ => rfl) ?_
    refine ev_go rfl (w_gF rfl rfl) ?_
    refine ev_n 1 (fun _ => rfl) ?_
    obtain ⟨h0, h⟩ := h
    refine ev_go rfl (w_iald rfl h0) ?_
    refine ev_n 1 (fun _ => rfl) ?_
    obtain ⟨v6, σ5, hf, h⟩ := h
    refine ev_go rfl (w_callS ⟨Nat.le_of_ble_eq_true rfl, Nat.le_of_ble_eq_true rfl⟩ hf) ?_
    refine ev_if (c := v6 = 0) rfl (fun _ => rfl) (fun hc => ?_) (fun hc => ?_)
    · replace h := h.1 hc
      refine ev_n 2 (fun _ => rfl) ?_
      exact h
    · replace h := h.2 hc
      refine ev_n 2 (fun _ => rfl) ?_
      obtain ⟨v8, σ7, hf, h⟩ := h
      refine ev_go rfl (w_callV rfl rfl rfl (Nat.le_of_ble_eq_true rfl) hf) ?_
      refine ev_if (c := v8 ≤ x3) rfl (fun _ => rfl) (fun hc => ?_) (fun hc => ?_)
      · replace h := h.1 hc
        refine ev_n 2 (fun _ => rfl) ?_
        exact h
      · replace h := h.2 hc
        refine ev_n 3 (fun _ => rfl) ?_
        exact h
set_option maxRecDepth 20000 in
theorem e_X12_makeChain_54 {x1 : Int32} {x2 : Int32} {x3 : Int32} {x4 : Int32} {σ : St_} {out : Out_}  (h : ((x4 = 0 → Ev_ (P_X12_makeChain KC) 2 [some (.ref 219), some (.int x1), some (.int (x2 + 1)), none, none, none] [] σ out) ∧ (¬ (x4 = 0) → (∃ (v2 : Int32) (σ1 : St_), f_X12_readers KC [.ref 219] σ = some (some (.int v2), σ1) ∧ (¬ v2 = 0) ∧ (vpin_ ((x3 + (1 : Int32)) - (x3 + (1 : Int32)) / v2 * v2) 9 = true) ∧ (∃ (v4 : Int32) (σ3 : St_), f_X12_has KC [.int (σ1.1 231 (Int32.toNatClampNeg ((x3 + (1 : Int32)) - (x3 + (1 : Int32)) / v2 * v2))), .int x2] σ1 = some (some (.int v4), σ3) ∧ ((v4 = 0 → (∃ (v6 : Int32) (σ5 : St_), f_X12_tries KC [.ref 219, .int x3, .int x2, .int x1, .int ((1 : Int32) <<< (((x3 + (1 : Int32)) - (x3 + (1 : Int32)) / v2 * v2) &&& 31))] σ3 = some (some (.int v6), σ5) ∧ ((v6 = 0 → Ev_ (P_X12_makeChain KC) 54 [some (.ref 219), some (.int x1), some (.int x2), some (.int ((x3 + (1 : Int32)) - (x3 + (1 : Int32)) / v2 * v2)), some (.int (0 : Int32)), none] [] σ5 out) ∧ (¬ (v6 = 0) → Ev_ (P_X12_makeChain KC) 54 [some (.ref 219), some (.int x1), some (.int x2), some (.int ((x3 + (1 : Int32)) - (x3 + (1 : Int32)) / v2 * v2)), some (.int (1 : Int32)), none] [] σ5 out)))) ∧ (¬ (v4 = 0) → Ev_ (P_X12_makeChain KC) 54 [some (.ref 219), some (.int x1), some (.int x2), some (.int ((x3 + (1 : Int32)) - (x3 + (1 : Int32)) / v2 * v2)), some (.int (0 : Int32)), none] [] σ3 out))))))) : Ev_ (P_X12_makeChain KC) 54 [some (.ref 219), some (.int x1), some (.int x2), some (.int x3), some (.int x4), none] [] σ out := by
  refine ev_n 1 (fun _ => rfl) ?_
  refine ev_if (c := x4 = 0) rfl (fun _ => rfl) (fun hc => ?_) (fun hc => ?_)
  · replace h := h.1 hc
    refine ev_n 2 (fun _ => rfl) ?_
    exact h
  · replace h := h.2 hc
    refine ev_n 4 (fun _ => rfl) ?_
    obtain ⟨v2, σ1, hf, h⟩ := h
    refine ev_go rfl (w_callV rfl rfl rfl (Nat.le_of_ble_eq_true rfl) hf) ?_
    obtain ⟨h0, h⟩ := h
    refine ev_go rfl (w_rem h0) ?_
    refine ev_n 2 (fun _ => rfl) ?_
    refine ev_go rfl (w_gF rfl rfl) ?_
    refine ev_n 1 (fun _ => rfl) ?_
    obtain ⟨h0, h⟩ := h
    refine ev_go rfl (w_iald rfl h0) ?_
    refine ev_n 1 (fun _ => rfl) ?_
    obtain ⟨v4, σ3, hf, h⟩ := h
    refine ev_go rfl (w_callS ⟨Nat.le_of_ble_eq_true rfl, Nat.le_of_ble_eq_true rfl⟩ hf) ?_
    refine ev_if (c := v4 = 0) rfl (fun _ => rfl) (fun hc => ?_) (fun hc => ?_)
    · replace h := h.1 hc
      refine ev_n 7 (fun _ => rfl) ?_
      obtain ⟨v6, σ5, hf, h⟩ := h
      refine ev_go rfl (w_callV rfl rfl rfl (Nat.le_of_ble_eq_true rfl) hf) ?_
      refine ev_if (c := v6 = 0) rfl (fun _ => rfl) (fun hc => ?_) (fun hc => ?_)
      · replace h := h.1 hc
        refine ev_n 5 (fun _ => rfl) ?_
        exact h
      · replace h := h.2 hc
        refine ev_n 6 (fun _ => rfl) ?_
        exact h
    · replace h := h.2 hc
      refine ev_n 5 (fun _ => rfl) ?_
      exact h
theorem m_X12_makeChain : ∀ pc o, (P_X12_makeChain KC).lookup pc = some o → Mon_ o := all_mon (a_X12_makeChain (l := launch0) (E := EC0) EC0_ok)
theorem z_X12_makeChain {x1 : Int32} {σ : St_} {out : Out_} (h : Ev_ (P_X12_makeChain KC) 0 [some (.ref 219), some (.int x1), none, none, none, none] [] σ out) : f_X12_makeChain KC [.ref 219, .int x1] σ = some out := fn_eq m_X12_makeChain rfl h
set_option maxRecDepth 20000 in
theorem e_X12_makeRound_0 {x1 : Int32} {σ : St_} {out : Out_}  (h : Ev_ (P_X12_makeRound KC) 2 [some (.ref 219), some (.int x1), some (.int (0 : Int32)), none, none, none] [] σ out) : Ev_ (P_X12_makeRound KC) 0 [some (.ref 219), some (.int x1), none, none, none, none] [] σ out := by
  refine ev_n 2 (fun _ => rfl) ?_
  exact h
set_option maxRecDepth 20000 in
theorem e_X12_makeRound_2 {x1 : Int32} {x2 : Int32} {σ : St_} {out : Out_}  (h : (∃ (v2 : Int32) (σ1 : St_), f_X12_readers KC [.ref 219] σ = some (some (.int v2), σ1) ∧ ((v2 ≤ x2 → out = (none, σ1)) ∧ (¬ (v2 ≤ x2) → Ev_ (P_X12_makeRound KC) 12 [some (.ref 219), some (.int x1), some (.int x2), some (.int (0 : Int32)), none, none] [] σ1 out)))) : Ev_ (P_X12_makeRound KC) 2 [some (.ref 219), some (.int x1), some (.int x2), none, none, none] [] σ out := by
  refine ev_n 2 (fun _ => rfl) ?_
  obtain ⟨v2, σ1, hf, h⟩ := h
  refine ev_go rfl (w_callV rfl rfl rfl (Nat.le_of_ble_eq_true rfl) hf) ?_
  refine ev_if (c := v2 ≤ x2) rfl (fun _ => rfl) (fun hc => ?_) (fun hc => ?_)
  · replace h := h.1 hc
    exact ev_ret rfl (fun _ => rfl) h
  · replace h := h.2 hc
    refine ev_n 2 (fun _ => rfl) ?_
    exact h
set_option maxRecDepth 20000 in
theorem e_X12_makeRound_12 {x1 : Int32} {x2 : Int32} {x3 : Int32} {σ : St_} {out : Out_}  (h : (∃ (v2 : Int32) (σ1 : St_), f_X12_chaps KC [.ref 219] σ = some (some (.int v2), σ1) ∧ ((v2 ≤ x3 → Ev_ (P_X12_makeRound KC) 2 [some (.ref 219), some (.int x1), some (.int (x2 + 1)), none, none, none] [] σ1 out) ∧ (¬ (v2 ≤ x3) → (vpin_ x2 9 = true) ∧ (∃ (v4 : Int32) (σ3 : St_), f_X12_has KC [.int (σ1.1 231 (Int32.toNatClampNeg x2)), .int x3] σ1 = some (some (.int v4), σ3) ∧ ((v4 = 0 → Ev_ (P_X12_makeRound KC) 12 [some (.ref 219), some (.int x1), some (.int x2), some (.int (x3 + 1)), none, none] [] σ3 out) ∧ (¬ (v4 = 0) → Ev_ (P_X12_makeRound KC) 42 [some (.ref 219), some (.int x1), some (.int x2), some (.int x3), some (.int (0 : Int32)), some (.int (0 : Int32))] [] σ3 out))))))) : Ev_ (P_X12_makeRound KC) 12 [some (.ref 219), some (.int x1), some (.int x2), some (.int x3), none, none] [] σ out := by
  refine ev_n 2 (fun _ => rfl) ?_
  obtain ⟨v2, σ1, hf, h⟩ := h
  refine ev_go rfl (w_callV rfl rfl rfl (Nat.le_of_ble_eq_true rfl) hf) ?_
  refine ev_if (c := v2 ≤ x3) rfl (fun _ => rfl) (fun hc => ?_) (fun hc => ?_)
  · replace h := h.1 hc
    refine ev_n 2 (fun _ => rfl) ?_
    exact h
  · replace h := h.2 hc
    refine ev_n 1 (fun _ => rfl) ?_
    refine ev_go rfl (w_gF rfl rfl) ?_
    refine ev_n 1 (fun _ => rfl) ?_
    obtain ⟨h0, h⟩ := h
    refine ev_go rfl (w_iald rfl h0) ?_
    refine ev_n 1 (fun _ => rfl) ?_
    obtain ⟨v4, σ3, hf, h⟩ := h
    refine ev_go rfl (w_callS ⟨Nat.le_of_ble_eq_true rfl, Nat.le_of_ble_eq_true rfl⟩ hf) ?_
    refine ev_if (c := v4 = 0) rfl (fun _ => rfl) (fun hc => ?_) (fun hc => ?_)
    · replace h := h.1 hc
      refine ev_n 3 (fun _ => rfl) ?_
      exact h
    · replace h := h.2 hc
      refine ev_n 4 (fun _ => rfl) ?_
      exact h
set_option maxRecDepth 20000 in
theorem e_X12_makeRound_42 {x1 : Int32} {x2 : Int32} {x3 : Int32} {x4 : Int32} {x5 : Int32} {σ : St_} {out : Out_}  (h : (∃ (v2 : Int32) (σ1 : St_), f_X12_readers KC [.ref 219] σ = some (some (.int v2), σ1) ∧ ((v2 ≤ x5 → ((x4 = 0 → Ev_ (P_X12_makeRound KC) 12 [some (.ref 219), some (.int x1), some (.int x2), some (.int (x3 + 1)), none, none] [] σ1 out) ∧ (¬ (x4 = 0) → (∃ (v4 : Int32) (σ3 : St_), f_X12_tries KC [.ref 219, .int x2, .int x3, .int x1, .int x4] σ1 = some (some (.int v4), σ3) ∧ Ev_ (P_X12_makeRound KC) 12 [some (.ref 219), some (.int x1), some (.int x2), some (.int (x3 + 1)), none, none] [] σ3 out)))) ∧ (¬ (v2 ≤ x5) → ((x5 = x2 → Ev_ (P_X12_makeRound KC) 42 [some (.ref 219), some (.int x1), some (.int x2), some (.int x3), some (.int x4), some (.int (x5 + 1))] [] σ1 out) ∧ (¬ (x5 = x2) → (vpin_ x5 9 = true) ∧ (∃ (v6 : Int32) (σ5 : St_), f_X12_timeToTell KC [.ref 219, .int x3, .int x1] σ1 = some (some (.int v6), σ5) ∧ (((σ1.1 230 (Int32.toNatClampNeg x5)) < v6 → Ev_ (P_X12_makeRound KC) 42 [some (.ref 219), some (.int x1), some (.int x2), some (.int x3), some (.int x4), some (.int (x5 + 1))] [] σ5 out) ∧ (¬ ((σ1.1 230 (Int32.toNatClampNeg x5)) < v6) → Ev_ (P_X12_makeRound KC) 42 [some (.ref 219), some (.int x1), some (.int x2), some (.int x3), some (.int (x4 ||| ((1 : Int32) <<< (x5 &&& 31)))), some (.int (x5 + 1))] [] σ5 out))))))))) : Ev_ (P_X12_makeRound KC) 42 [some (.ref 219), some (.int x1), some (.int x2), some (.int x3), some (.int x4), some (.int x5)] [] σ out := by
  refine ev_n 2 (fun _ => rfl) ?_
  obtain ⟨v2, σ1, hf, h⟩ := h
  refine ev_go rfl (w_callV rfl rfl rfl (Nat.le_of_ble_eq_true rfl) hf) ?_
  refine ev_if (c := v2 ≤ x5) rfl (fun _ => rfl) (fun hc => ?_) (fun hc => ?_)
  · replace h := h.1 hc
    refine ev_n 1 (fun _ => rfl) ?_
    refine ev_if (c := x4 = 0) rfl (fun _ => rfl) (fun hc => ?_) (fun hc => ?_)
    · replace h := h.1 hc
      refine ev_n 2 (fun _ => rfl) ?_
      exact h
    · replace h := h.2 hc
      refine ev_n 5 (fun _ => rfl) ?_
      obtain ⟨v4, σ3, hf, h⟩ := h
      refine ev_go rfl (w_callV rfl rfl rfl (Nat.le_of_ble_eq_true rfl) hf) ?_
      refine ev_n 3 (fun _ => rfl) ?_
      exact h
  · replace h := h.2 hc
    refine ev_n 2 (fun _ => rfl) ?_
    refine ev_if (c := x5 = x2) rfl (fun _ => rfl) (fun hc => ?_) (fun hc => ?_)
    · replace h := h.1 hc
      refine ev_n 2 (fun _ => rfl) ?_
      exact h
    · replace h := h.2 hc
      refine ev_n 1 (fun _ => rfl) ?_
      refine ev_go rfl (w_gF rfl rfl) ?_
      refine ev_n 1 (fun _ => rfl) ?_
      obtain ⟨h0, h⟩ := h
      refine ev_go rfl (w_iald rfl h0) ?_
      refine ev_n 3 (fun _ => rfl) ?_
      obtain ⟨v6, σ5, hf, h⟩ := h
      refine ev_go rfl (w_callV rfl rfl rfl (Nat.le_of_ble_eq_true rfl) hf) ?_
      refine ev_if (c := (σ1.1 230 (Int32.toNatClampNeg x5)) < v6) rfl (fun _ => rfl) (fun hc => ?_) (fun hc => ?_)
      · replace h := h.1 hc
        refine ev_n 2 (fun _ => rfl) ?_
        exact h
      · replace h := h.2 hc
        refine ev_n 8 (fun _ => rfl) ?_
        exact h
theorem m_X12_makeRound : ∀ pc o, (P_X12_makeRound KC).lookup pc = some o → Mon_ o := all_mon (a_X12_makeRound (l := launch0) (E := EC0) EC0_ok)
theorem z_X12_makeRound {x1 : Int32} {σ : St_} {out : Out_} (h : Ev_ (P_X12_makeRound KC) 0 [some (.ref 219), some (.int x1), none, none, none, none] [] σ out) : f_X12_makeRound KC [.ref 219, .int x1] σ = some out := fn_eq m_X12_makeRound rfl h
set_option maxRecDepth 20000 in
theorem e_X12_make_0 {x1 : Int32} {x2 : Int32} {σ : St_} {out : Out_}  (h : (∃ (σ1 : St_), f_X12_lay KC [.ref 219] (sI_ σ 219 0 (0 : Int32)) = some (none, σ1) ∧ (∃ (v3 : Int32) (σ2 : St_), f_X12_isIn KC [.int x1, .int (0 : Int32), .int (4 : Int32)] σ1 = some (some (.int v3), σ2) ∧ ((v3 = 0 → out = (some (.int ((-1) : Int32)), σ2)) ∧ (¬ (v3 = 0) → ((x1 = (1 : Int32) → (∃ (v5 : Int32) (σ4 : St_), f_X12_isIn KC [.int x2, .int (1 : Int32), .int (10 : Int32)] σ2 = some (some (.int v5), σ4) ∧ ((v5 = 0 → out = (some (.int ((-1) : Int32)), σ4)) ∧ (¬ (v5 = 0) → Ev_ (P_X12_make KC) 33 [some (.ref 219), some (.int x1), some (.int x2)] [] σ4 out)))) ∧ (¬ (x1 = (1 : Int32)) → Ev_ (P_X12_make KC) 33 [some (.ref 219), some (.int x1), some (.int x2)] [] σ2 out))))))) : Ev_ (P_X12_make KC) 0 [some (.ref 219), some (.int x1), some (.int x2)] [] σ out := by
  refine ev_n 2 (fun _ => rfl) ?_
  refine ev_go rfl (w_pI rfl) ?_
  refine ev_n 1 (fun _ => rfl) ?_
  obtain ⟨σ1, hf, h⟩ := h
  refine ev_go rfl (w_callV rfl rfl rfl (Nat.le_of_ble_eq_true rfl) hf) ?_
  refine ev_n 3 (fun _ => rfl) ?_
  obtain ⟨v3, σ2, hf, h⟩ := h
  refine ev_go rfl (w_callS ⟨Nat.le_of_ble_eq_true rfl, Nat.le_of_ble_eq_true rfl⟩ hf) ?_
  refine ev_if (c := v3 = 0) rfl (fun _ => rfl) (fun hc => ?_) (fun hc => ?_)
  · replace h := h.1 hc
    refine ev_n 1 (fun _ => rfl) ?_
    exact ev_ret rfl (fun _ => rfl) h
  · replace h := h.2 hc
    refine ev_n 2 (fun _ => rfl) ?_
    refine ev_if (c := x1 = (1 : Int32)) rfl (fun _ => rfl) (fun hc => ?_) (fun hc => ?_)
    · replace h := h.1 hc
      refine ev_n 3 (fun _ => rfl) ?_
      obtain ⟨v5, σ4, hf, h⟩ := h
      refine ev_go rfl (w_callS ⟨Nat.le_of_ble_eq_true rfl, Nat.le_of_ble_eq_true rfl⟩ hf) ?_
      refine ev_if (c := v5 = 0) rfl (fun _ => rfl) (fun hc => ?_) (fun hc => ?_)
      · replace h := h.1 hc
        refine ev_n 1 (fun _ => rfl) ?_
        exact ev_ret rfl (fun _ => rfl) h
      · replace h := h.2 hc
        exact h
    · replace h := h.2 hc
      exact h
set_option maxRecDepth 20000 in
theorem e_X12_make_33 {x1 : Int32} {x2 : Int32} {σ : St_} {out : Out_}  (h : ((x1 = (2 : Int32) → (∃ (v2 : Int32) (σ1 : St_), f_X12_isIn KC [.int x2, .int (1 : Int32), .int (16 : Int32)] σ = some (some (.int v2), σ1) ∧ ((v2 = 0 → out = (some (.int ((-1) : Int32)), σ1)) ∧ (¬ (v2 = 0) → ((x1 ≤ (2 : Int32) → Ev_ (P_X12_make KC) 64 [some (.ref 219), some (.int x1), some (.int x2)] [] σ1 out) ∧ (¬ (x1 ≤ (2 : Int32)) → (∃ (v4 : Int32) (σ3 : St_), f_X12_isIn KC [.int x2, .int (1 : Int32), .int (4 : Int32)] σ1 = some (some (.int v4), σ3) ∧ ((v4 = 0 → out = (some (.int ((-1) : Int32)), σ3)) ∧ (¬ (v4 = 0) → Ev_ (P_X12_make KC) 64 [some (.ref 219), some (.int x1), some (.int x2)] [] σ3 out))))))))) ∧ (¬ (x1 = (2 : Int32)) → ((x1 ≤ (2 : Int32) → Ev_ (P_X12_make KC) 64 [some (.ref 219), some (.int x1), some (.int x2)] [] σ out) ∧ (¬ (x1 ≤ (2 : Int32)) → (∃ (v6 : Int32) (σ5 : St_), f_X12_isIn KC [.int x2, .int (1 : Int32), .int (4 : Int32)] σ = some (some (.int v6), σ5) ∧ ((v6 = 0 → out = (some (.int ((-1) : Int32)), σ5)) ∧ (¬ (v6 = 0) → Ev_ (P_X12_make KC) 64 [some (.ref 219), some (.int x1), some (.int x2)] [] σ5 out)))))))) : Ev_ (P_X12_make KC) 33 [some (.ref 219), some (.int x1), some (.int x2)] [] σ out := by
  refine ev_n 2 (fun _ => rfl) ?_
  refine ev_if (c := x1 = (2 : Int32)) rfl (fun _ => rfl) (fun hc => ?_) (fun hc => ?_)
  · replace h := h.1 hc
    refine ev_n 3 (fun _ => rfl) ?_
    obtain ⟨v2, σ1, hf, h⟩ := h
    refine ev_go rfl (w_callS ⟨Nat.le_of_ble_eq_true rfl, Nat.le_of_ble_eq_true rfl⟩ hf) ?_
    refine ev_if (c := v2 = 0) rfl (fun _ => rfl) (fun hc => ?_) (fun hc => ?_)
    · replace h := h.1 hc
      refine ev_n 1 (fun _ => rfl) ?_
      exact ev_ret rfl (fun _ => rfl) h
    · replace h := h.2 hc
      refine ev_n 2 (fun _ => rfl) ?_
      refine ev_if (c := x1 ≤ (2 : Int32)) rfl (fun _ => rfl) (fun hc => ?_) (fun hc => ?_)
      · replace h := h.1 hc
        exact h
      · replace h := h.2 hc
        refine ev_n 3 (fun _ => rfl) ?_
        obtain ⟨v4, σ3, hf, h⟩ := h
        refine ev_go rfl (w_callS ⟨Nat.le_of_ble_eq_true rfl, Nat.le_of_ble_eq_true rfl⟩ hf) ?_
        refine ev_if (c := v4 = 0) rfl (fun _ => rfl) (fun hc => ?_) (fun hc => ?_)
        · replace h := h.1 hc
          refine ev_n 1 (fun _ => rfl) ?_
          exact ev_ret rfl (fun _ => rfl) h
        · replace h := h.2 hc
          exact h
  · replace h := h.2 hc
    refine ev_n 2 (fun _ => rfl) ?_
    refine ev_if (c := x1 ≤ (2 : Int32)) rfl (fun _ => rfl) (fun hc => ?_) (fun hc => ?_)
    · replace h := h.1 hc
      exact h
    · replace h := h.2 hc
      refine ev_n 3 (fun _ => rfl) ?_
      obtain ⟨v6, σ5, hf, h⟩ := h
      refine ev_go rfl (w_callS ⟨Nat.le_of_ble_eq_true rfl, Nat.le_of_ble_eq_true rfl⟩ hf) ?_
      refine ev_if (c := v6 = 0) rfl (fun _ => rfl) (fun hc => ?_) (fun hc => ?_)
      · replace h := h.1 hc
        refine ev_n 1 (fun _ => rfl) ?_
        exact ev_ret rfl (fun _ => rfl) h
      · replace h := h.2 hc
        exact h
set_option maxRecDepth 20000 in
theorem e_X12_make_64 {x1 : Int32} {x2 : Int32} {σ : St_} {out : Out_}  (h : (∃ (σ1 : St_), f_X12_dawn KC [.ref 219] (sI_ σ 219 24 (0 : Int32)) = some (none, σ1) ∧ ((x1 = (1 : Int32) → (∃ (σ2 : St_), f_X12_makeLean KC [.ref 219, .int x2] σ1 = some (none, σ2) ∧ ((x1 = (2 : Int32) → (∃ (σ3 : St_), f_X12_makeTwice KC [.ref 219, .int x2] σ2 = some (none, σ3) ∧ Ev_ (P_X12_make KC) 100 [some (.ref 219), some (.int x1), some (.int x2)] [] σ3 out)) ∧ (¬ (x1 = (2 : Int32)) → Ev_ (P_X12_make KC) 100 [some (.ref 219), some (.int x1), some (.int x2)] [] σ2 out)))) ∧ (¬ (x1 = (1 : Int32)) → (∃ (σ4 : St_), f_X12_makeRows KC [.ref 219] σ1 = some (none, σ4) ∧ ((x1 = (2 : Int32) → (∃ (σ5 : St_), f_X12_makeTwice KC [.ref 219, .int x2] σ4 = some (none, σ5) ∧ Ev_ (P_X12_make KC) 100 [some (.ref 219), some (.int x1), some (.int x2)] [] σ5 out)) ∧ (¬ (x1 = (2 : Int32)) → Ev_ (P_X12_make KC) 100 [some (.ref 219), some (.int x1), some (.int x2)] [] σ4 out))))))) : Ev_ (P_X12_make KC) 64 [some (.ref 219), some (.int x1), some (.int x2)] [] σ out := by
  refine ev_n 2 (fun _ => rfl) ?_
  refine ev_go rfl (w_pI rfl) ?_
  refine ev_n 1 (fun _ => rfl) ?_
  obtain ⟨σ1, hf, h⟩ := h
  refine ev_go rfl (w_callV rfl rfl rfl (Nat.le_of_ble_eq_true rfl) hf) ?_
  refine ev_n 2 (fun _ => rfl) ?_
  refine ev_if (c := x1 = (1 : Int32)) rfl (fun _ => rfl) (fun hc => ?_) (fun hc => ?_)
  · replace h := h.1 hc
    refine ev_n 2 (fun _ => rfl) ?_
    obtain ⟨σ2, hf, h⟩ := h
    refine ev_go rfl (w_callV rfl rfl rfl (Nat.le_of_ble_eq_true rfl) hf) ?_
    refine ev_n 3 (fun _ => rfl) ?_
    refine ev_if (c := x1 = (2 : Int32)) rfl (fun _ => rfl) (fun hc => ?_) (fun hc => ?_)
    · replace h := h.1 hc
      refine ev_n 2 (fun _ => rfl) ?_
      obtain ⟨σ3, hf, h⟩ := h
      refine ev_go rfl (w_callV rfl rfl rfl (Nat.le_of_ble_eq_true rfl) hf) ?_
      exact h
    · replace h := h.2 hc
      exact h
  · replace h := h.2 hc
    refine ev_n 1 (fun _ => rfl) ?_
    obtain ⟨σ4, hf, h⟩ := h
    refine ev_go rfl (w_callV rfl rfl rfl (Nat.le_of_ble_eq_true rfl) hf) ?_
    refine ev_n 2 (fun _ => rfl) ?_
    refine ev_if (c := x1 = (2 : Int32)) rfl (fun _ => rfl) (fun hc => ?_) (fun hc => ?_)
    · replace h := h.1 hc
      refine ev_n 2 (fun _ => rfl) ?_
      obtain ⟨σ5, hf, h⟩ := h
      refine ev_go rfl (w_callV rfl rfl rfl (Nat.le_of_ble_eq_true rfl) hf) ?_
      exact h
    · replace h := h.2 hc
      exact h
set_option maxRecDepth 20000 in
theorem e_X12_make_100 {x1 : Int32} {x2 : Int32} {σ : St_} {out : Out_}  (h : ((x1 = (3 : Int32) → (∃ (σ1 : St_), f_X12_makeChain KC [.ref 219, .int x2] σ = some (none, σ1) ∧ ((x1 = (4 : Int32) → (∃ (σ2 : St_), f_X12_makeRound KC [.ref 219, .int x2] σ1 = some (none, σ2) ∧ (∃ (v4 : Int32) (σ3 : St_), f_X12_plans KC [.ref 219] σ2 = some (some (.int v4), σ3) ∧ out = (some (.int v4), σ3)))) ∧ (¬ (x1 = (4 : Int32)) → (∃ (v6 : Int32) (σ5 : St_), f_X12_plans KC [.ref 219] σ1 = some (some (.int v6), σ5) ∧ out = (some (.int v6), σ5)))))) ∧ (¬ (x1 = (3 : Int32)) → ((x1 = (4 : Int32) → (∃ (σ7 : St_), f_X12_makeRound KC [.ref 219, .int x2] σ = some (none, σ7) ∧ (∃ (v9 : Int32) (σ8 : St_), f_X12_plans KC [.ref 219] σ7 = some (some (.int v9), σ8) ∧ out = (some (.int v9), σ8)))) ∧ (¬ (x1 = (4 : Int32)) → (∃ (v11 : Int32) (σ10 : St_), f_X12_plans KC [.ref 219] σ = some (some (.int v11), σ10) ∧ out = (some (.int v11), σ10))))))) : Ev_ (P_X12_make KC) 100 [some (.ref 219), some (.int x1), some (.int x2)] [] σ out := by
  refine ev_n 2 (fun _ => rfl) ?_
  refine ev_if (c := x1 = (3 : Int32)) rfl (fun _ => rfl) (fun hc => ?_) (fun hc => ?_)
  · replace h := h.1 hc
    refine ev_n 2 (fun _ => rfl) ?_
    obtain ⟨σ1, hf, h⟩ := h
    refine ev_go rfl (w_callV rfl rfl rfl (Nat.le_of_ble_eq_true rfl) hf) ?_
    refine ev_n 2 (fun _ => rfl) ?_
    refine ev_if (c := x1 = (4 : Int32)) rfl (fun _ => rfl) (fun hc => ?_) (fun hc => ?_)
    · replace h := h.1 hc
      refine ev_n 2 (fun _ => rfl) ?_
      obtain ⟨σ2, hf, h⟩ := h
      refine ev_go rfl (w_callV rfl rfl rfl (Nat.le_of_ble_eq_true rfl) hf) ?_
      refine ev_n 1 (fun _ => rfl) ?_
      obtain ⟨v4, σ3, hf, h⟩ := h
      refine ev_go rfl (w_callV rfl rfl rfl (Nat.le_of_ble_eq_true rfl) hf) ?_
      exact ev_ret rfl (fun _ => rfl) h
    · replace h := h.2 hc
      refine ev_n 1 (fun _ => rfl) ?_
      obtain ⟨v6, σ5, hf, h⟩ := h
      refine ev_go rfl (w_callV rfl rfl rfl (Nat.le_of_ble_eq_true rfl) hf) ?_
      exact ev_ret rfl (fun _ => rfl) h
  · replace h := h.2 hc
    refine ev_n 2 (fun _ => rfl) ?_
    refine ev_if (c := x1 = (4 : Int32)) rfl (fun _ => rfl) (fun hc => ?_) (fun hc => ?_)
    · replace h := h.1 hc
      refine ev_n 2 (fun _ => rfl) ?_
      obtain ⟨σ7, hf, h⟩ := h
      refine ev_go rfl (w_callV rfl rfl rfl (Nat.le_of_ble_eq_true rfl) hf) ?_
      refine ev_n 1 (fun _ => rfl) ?_
      obtain ⟨v9, σ8, hf, h⟩ := h
      refine ev_go rfl (w_callV rfl rfl rfl (Nat.le_of_ble_eq_true rfl) hf) ?_
      exact ev_ret rfl (fun _ => rfl) h
    · replace h := h.2 hc
      refine ev_n 1 (fun _ => rfl) ?_
      obtain ⟨v11, σ10, hf, h⟩ := h
      refine ev_go rfl (w_callV rfl rfl rfl (Nat.le_of_ble_eq_true rfl) hf) ?_
      exact ev_ret rfl (fun _ => rfl) h
theorem m_X12_make : ∀ pc o, (P_X12_make KC).lookup pc = some o → Mon_ o := all_mon (a_X12_make (l := launch0) (E := EC0) EC0_ok)
theorem z_X12_make {x1 : Int32} {x2 : Int32} {σ : St_} {out : Out_} (h : Ev_ (P_X12_make KC) 0 [some (.ref 219), some (.int x1), some (.int x2)] [] σ out) : f_X12_make KC [.ref 219, .int x1, .int x2] σ = some out := fn_eq m_X12_make rfl h
set_option maxRecDepth 20000 in
theorem e_X12_draw_0 {x1 : Int32} {σ : St_} {out : Out_}  (h : (¬ x1 = 0) ∧ out = (some (.int ((Int32.toUInt32 ((sI_ σ 219 33 (((σ.1 219 33) * (1103515245 : Int32)) + (12345 : Int32))).1 219 33) >>> (Int32.toUInt32 (8 : Int32) &&& Int32.toUInt32 31)).toInt32 - (Int32.toUInt32 ((sI_ σ 219 33 (((σ.1 219 33) * (1103515245 : Int32)) + (12345 : Int32))).1 219 33) >>> (Int32.toUInt32 (8 : Int32) &&& Int32.toUInt32 31)).toInt32 / x1 * x1)), (sI_ σ 219 33 (((σ.1 219 33) * (1103515245 : Int32)) + (12345 : Int32))))) : Ev_ (P_X12_draw KC) 0 [some (.ref 219), some (.int x1)] [] σ out := by
  refine ev_n 2 (fun _ => rfl) ?_
  refine ev_go rfl (w_gI rfl) ?_
  refine ev_n 4 (fun _ => rfl) ?_
  refine ev_go rfl (w_pI rfl) ?_
  refine ev_n 1 (fun _ => rfl) ?_
  refine ev_go rfl (w_gI rfl) ?_
  refine ev_n 3 (fun _ => rfl) ?_
  obtain ⟨h0, h⟩ := h
  refine ev_go rfl (w_rem h0) ?_
  exact ev_ret rfl (fun _ => rfl) h
theorem m_X12_draw : ∀ pc o, (P_X12_draw KC).lookup pc = some o → Mon_ o := all_mon (a_X12_draw (l := launch0) (E := EC0) EC0_ok)
theorem z_X12_draw {x1 : Int32} {σ : St_} {out : Out_} (h : Ev_ (P_X12_draw KC) 0 [some (.ref 219), some (.int x1)] [] σ out) : f_X12_draw KC [.ref 219, .int x1] σ = some out := fn_eq m_X12_draw rfl h
set_option maxRecDepth 20000 in
theorem e_X12_drawn_0 {x1 : Int32} {x2 : Int32} {σ : St_} {out : Out_}  (h : (∃ (σ1 : St_), f_X12_lay KC [.ref 219] (sI_ σ 219 0 (0 : Int32)) = some (none, σ1) ∧ (∃ (v3 : Int32) (σ2 : St_), f_X12_isIn KC [.int x1, .int (1 : Int32), .int (60 : Int32)] σ1 = some (some (.int v3), σ2) ∧ ((v3 = 0 → out = (some (.int ((-1) : Int32)), σ2)) ∧ (¬ (v3 = 0) → (∃ (v5 : Int32) (σ4 : St_), f_X12_readers KC [.ref 219] σ2 = some (some (.int v5), σ4) ∧ ((v5 < (2 : Int32) → out = (some (.int ((-1) : Int32)), σ4)) ∧ (¬ (v5 < (2 : Int32)) → (∃ (v7 : Int32) (σ6 : St_), f_X12_chaps KC [.ref 219] σ4 = some (some (.int v7), σ6) ∧ ((v7 = 0 → out = (some (.int ((-1) : Int32)), σ6)) ∧ (¬ (v7 = 0) → Ev_ (P_X12_drawn KC) 48 [some (.ref 219), some (.int x1), some (.int x2), some (.int (0 : Int32)), none, none] [] (sI_ (sI_ σ6 219 33 x2) 219 24 (0 : Int32)) out))))))))))) : Ev_ (P_X12_drawn KC) 0 [some (.ref 219), some (.int x1), some (.int x2), none, none, none] [] σ out := by
  refine ev_n 2 (fun _ => rfl) ?_
  refine ev_go rfl (w_pI rfl) ?_
  refine ev_n 1 (fun _ => rfl) ?_
  obtain ⟨σ1, hf, h⟩ := h
  refine ev_go rfl (w_callV rfl rfl rfl (Nat.le_of_ble_eq_true rfl) hf) ?_
  refine ev_n 3 (fun _ => rfl) ?_
  obtain ⟨v3, σ2, hf, h⟩ := h
  refine ev_go rfl (w_callS ⟨Nat.le_of_ble_eq_true rfl, Nat.le_of_ble_eq_true rfl⟩ hf) ?_
  refine ev_if (c := v3 = 0) rfl (fun _ => rfl) (fun hc => ?_) (fun hc => ?_)
  · replace h := h.1 hc
    refine ev_n 1 (fun _ => rfl) ?_
    exact ev_ret rfl (fun _ => rfl) h
  · replace h := h.2 hc
    refine ev_n 1 (fun _ => rfl) ?_
    obtain ⟨v5, σ4, hf, h⟩ := h
    refine ev_go rfl (w_callV rfl rfl rfl (Nat.le_of_ble_eq_true rfl) hf) ?_
    refine ev_n 1 (fun _ => rfl) ?_
    refine ev_if (c := v5 < (2 : Int32)) rfl (fun _ => rfl) (fun hc => ?_) (fun hc => ?_)
    · replace h := h.1 hc
      refine ev_n 1 (fun _ => rfl) ?_
      exact ev_ret rfl (fun _ => rfl) h
    · replace h := h.2 hc
      refine ev_n 1 (fun _ => rfl) ?_
      obtain ⟨v7, σ6, hf, h⟩ := h
      refine ev_go rfl (w_callV rfl rfl rfl (Nat.le_of_ble_eq_true rfl) hf) ?_
      refine ev_if (c := v7 = 0) rfl (fun _ => rfl) (fun hc => ?_) (fun hc => ?_)
      · replace h := h.1 hc
        refine ev_n 1 (fun _ => rfl) ?_
        exact ev_ret rfl (fun _ => rfl) h
      · replace h := h.2 hc
        refine ev_n 2 (fun _ => rfl) ?_
        refine ev_go rfl (w_pI rfl) ?_
        refine ev_n 2 (fun _ => rfl) ?_
        refine ev_go rfl (w_pI rfl) ?_
        refine ev_n 2 (fun _ => rfl) ?_
        exact h
set_option maxRecDepth 20000 in
theorem e_X12_drawn_48 {x1 : Int32} {x2 : Int32} {x3 : Int32} {σ : St_} {out : Out_}  (h : ((x1 ≤ x3 → (∃ (v2 : Int32) (σ1 : St_), f_X12_plans KC [.ref 219] σ = some (some (.int v2), σ1) ∧ out = (some (.int v2), σ1))) ∧ (¬ (x1 ≤ x3) → (∃ (v4 : Int32) (σ3 : St_), f_X12_readers KC [.ref 219] σ = some (some (.int v4), σ3) ∧ (∃ (v6 : Int32) (σ5 : St_), f_X12_draw KC [.ref 219, .int v4] σ3 = some (some (.int v6), σ5) ∧ (∃ (v8 : Int32) (σ7 : St_), f_X12_chaps KC [.ref 219] σ5 = some (some (.int v8), σ7) ∧ (∃ (v10 : Int32) (σ9 : St_), f_X12_draw KC [.ref 219, .int v8] σ7 = some (some (.int v10), σ9) ∧ (∃ (v12 : Int32) (σ11 : St_), f_X12_draw KC [.ref 219, .int (4 : Int32)] σ9 = some (some (.int v12), σ11) ∧ ((v12 = 0 → (∃ (v14 : Int32) (σ13 : St_), f_X12_draw KC [.ref 219, .int (4 : Int32)] σ11 = some (some (.int v14), σ13) ∧ (∃ (v16 : Int32) (σ15 : St_), f_X12_readers KC [.ref 219] σ13 = some (some (.int v16), σ15) ∧ (∃ (v18 : Int32) (σ17 : St_), f_X12_addAct KC [.ref 219, .int v6, .int v10, .int ((1 : Int32) + v14), .int ((((1 : Int32) <<< (v16 &&& 31)) - (1 : Int32)) &&& (((1 : Int32) <<< (v6 &&& 31)) ^^^ ((-1) : Int32)))] σ15 = some (some (.int v18), σ17) ∧ Ev_ (P_X12_drawn KC) 48 [some (.ref 219), some (.int x1), some (.int x2), some (.int (x3 + 1)), none, none] [] σ17 out)))) ∧ (¬ (v12 = 0) → (∃ (v20 : Int32) (σ19 : St_), f_X12_addAct KC [.ref 219, .int v6, .int v10, .int (0 : Int32), .int (0 : Int32)] σ11 = some (some (.int v20), σ19) ∧ Ev_ (P_X12_drawn KC) 48 [some (.ref 219), some (.int x1), some (.int x2), some (.int (x3 + 1)), none, none] [] σ19 out))))))))))) : Ev_ (P_X12_drawn KC) 48 [some (.ref 219), some (.int x1), some (.int x2), some (.int x3), none, none] [] σ out := by
  refine ev_n 2 (fun _ => rfl) ?_
  refine ev_if (c := x1 ≤ x3) rfl (fun _ => rfl) (fun hc => ?_) (fun hc => ?_)
  · replace h := h.1 hc
    refine ev_n 1 (fun _ => rfl) ?_
    obtain ⟨v2, σ1, hf, h⟩ := h
    refine ev_go rfl (w_callV rfl rfl rfl (Nat.le_of_ble_eq_true rfl) hf) ?_
    exact ev_ret rfl (fun _ => rfl) h
  · replace h := h.2 hc
    refine ev_n 2 (fun _ => rfl) ?_
    obtain ⟨v4, σ3, hf, h⟩ := h
    refine ev_go rfl (w_callV rfl rfl rfl (Nat.le_of_ble_eq_true rfl) hf) ?_
    obtain ⟨v6, σ5, hf, h⟩ := h
    refine ev_go rfl (w_callV rfl rfl rfl (Nat.le_of_ble_eq_true rfl) hf) ?_
    refine ev_n 3 (fun _ => rfl) ?_
    obtain ⟨v8, σ7, hf, h⟩ := h
    refine ev_go rfl (w_callV rfl rfl rfl (Nat.le_of_ble_eq_true rfl) hf) ?_
    obtain ⟨v10, σ9, hf, h⟩ := h
    refine ev_go rfl (w_callV rfl rfl rfl (Nat.le_of_ble_eq_true rfl) hf) ?_
    refine ev_n 3 (fun _ => rfl) ?_
    obtain ⟨v12, σ11, hf, h⟩ := h
    refine ev_go rfl (w_callV rfl rfl rfl (Nat.le_of_ble_eq_true rfl) hf) ?_
    refine ev_if (c := v12 = 0) rfl (fun _ => rfl) (fun hc => ?_) (fun hc => ?_)
    · replace h := h.1 hc
      refine ev_n 6 (fun _ => rfl) ?_
      obtain ⟨v14, σ13, hf, h⟩ := h
      refine ev_go rfl (w_callV rfl rfl rfl (Nat.le_of_ble_eq_true rfl) hf) ?_
      refine ev_n 3 (fun _ => rfl) ?_
      obtain ⟨v16, σ15, hf, h⟩ := h
      refine ev_go rfl (w_callV rfl rfl rfl (Nat.le_of_ble_eq_true rfl) hf) ?_
      refine ev_n 8 (fun _ => rfl) ?_
      refine ev_n 1 (fun _ => rfl) ?_
      obtain ⟨v18, σ17, hf, h⟩ := h
      refine ev_go rfl (w_callV rfl rfl rfl (Nat.le_of_ble_eq_true rfl) hf) ?_
      refine ev_n 4 (fun _ => rfl) ?_
      exact h
    · replace h := h.2 hc
      refine ev_n 5 (fun _ => rfl) ?_
      obtain ⟨v20, σ19, hf, h⟩ := h
      refine ev_go rfl (w_callV rfl rfl rfl (Nat.le_of_ble_eq_true rfl) hf) ?_
      refine ev_n 3 (fun _ => rfl) ?_
      exact h
theorem m_X12_drawn : ∀ pc o, (P_X12_drawn KC).lookup pc = some o → Mon_ o := all_mon (a_X12_drawn (l := launch0) (E := EC0) EC0_ok)
theorem z_X12_drawn {x1 : Int32} {x2 : Int32} {σ : St_} {out : Out_} (h : Ev_ (P_X12_drawn KC) 0 [some (.ref 219), some (.int x1), some (.int x2), none, none, none] [] σ out) : f_X12_drawn KC [.ref 219, .int x1, .int x2] σ = some out := fn_eq m_X12_drawn rfl h
set_option maxRecDepth 20000 in
theorem e_X12_tryReaders_0 {x1 : Int32} {r_X12_tryReaders : Fn_} {σ : St_} {out : Out_}  (h : (((σ.1 219 38) ≤ x1 → (∃ (σ1 : St_), f_X12_dawn KC [.ref 219] σ = some (none, σ1) ∧ Ev_ (P_X12_tryReaders KC r_X12_tryReaders) 45 [some (.ref 219), some (.int x1), some (.int (0 : Int32)), none, none] [] σ1 out)) ∧ (¬ ((σ.1 219 38) ≤ x1) → Ev_ (P_X12_tryReaders KC r_X12_tryReaders) 10 [some (.ref 219), some (.int x1), some (.int (0 : Int32)), none, none] [] σ out))) : Ev_ (P_X12_tryReaders KC r_X12_tryReaders) 0 [some (.ref 219), some (.int x1), none, none, none] [] σ out := by
  refine ev_n 2 (fun _ => rfl) ?_
  refine ev_go rfl (w_gI rfl) ?_
  refine ev_if (c := (σ.1 219 38) ≤ x1) rfl (fun _ => rfl) (fun hc => ?_) (fun hc => ?_)
  · replace h := h.1 hc
    refine ev_n 1 (fun _ => rfl) ?_
    obtain ⟨σ1, hf, h⟩ := h
    refine ev_go rfl (w_callV rfl rfl rfl (Nat.le_of_ble_eq_true rfl) hf) ?_
    refine ev_n 2 (fun _ => rfl) ?_
    exact h
  · replace h := h.2 hc
    refine ev_n 2 (fun _ => rfl) ?_
    exact h
set_option maxRecDepth 20000 in
theorem e_X12_tryReaders_45 {x1 : Int32} {r_X12_tryReaders : Fn_} {x2 : Int32} {σ : St_} {out : Out_}  (h : (((σ.1 219 38) ≤ x2 → Ev_ (P_X12_tryReaders KC r_X12_tryReaders) 101 [some (.ref 219), some (.int x1), some (.int (0 : Int32)), none, none] [] σ out) ∧ (¬ ((σ.1 219 38) ≤ x2) → (vpin_ x2 6 = true) ∧ (((σ.1 234 (Int32.toNatClampNeg x2)) = (σ.1 219 39) → Ev_ (P_X12_tryReaders KC r_X12_tryReaders) 45 [some (.ref 219), some (.int x1), some (.int (x2 + 1)), none, none] [] σ out) ∧ (¬ ((σ.1 234 (Int32.toNatClampNeg x2)) = (σ.1 219 39)) → (vpin_ (σ.1 234 (Int32.toNatClampNeg x2)) 9 = true) ∧ (∃ (v2 : Int32) (σ1 : St_), f_X12_timeToRead KC [.ref 219, .int (σ.1 234 (Int32.toNatClampNeg x2)), .int x2] σ = some (some (.int v2), σ1) ∧ ((v2 ≤ (σ.1 230 (Int32.toNatClampNeg (σ.1 234 (Int32.toNatClampNeg x2)))) → (∃ (σ3 : St_), f_X12_reads KC [.ref 219, .int (σ.1 234 (Int32.toNatClampNeg x2)), .int x2] σ1 = some (none, σ3) ∧ Ev_ (P_X12_tryReaders KC r_X12_tryReaders) 45 [some (.ref 219), some (.int x1), some (.int (x2 + 1)), none, none] [] σ3 out)) ∧ (¬ (v2 ≤ (σ.1 230 (Int32.toNatClampNeg (σ.1 234 (Int32.toNatClampNeg x2))))) → out = (none, σ1))))))))) : Ev_ (P_X12_tryReaders KC r_X12_tryReaders) 45 [some (.ref 219), some (.int x1), some (.int x2), none, none] [] σ out := by
  refine ev_n 2 (fun _ => rfl) ?_
  refine ev_go rfl (w_gI rfl) ?_
  refine ev_if (c := (σ.1 219 38) ≤ x2) rfl (fun _ => rfl) (fun hc => ?_) (fun hc => ?_)
  · replace h := h.1 hc
    refine ev_n 2 (fun _ => rfl) ?_
    exact h
  · replace h := h.2 hc
    refine ev_n 1 (fun _ => rfl) ?_
    refine ev_go rfl (w_gF rfl rfl) ?_
    refine ev_n 1 (fun _ => rfl) ?_
    obtain ⟨h0, h⟩ := h
    refine ev_go rfl (w_iald rfl h0) ?_
    refine ev_n 3 (fun _ => rfl) ?_
    refine ev_go rfl (w_gI rfl) ?_
    refine ev_if (c := (σ.1 234 (Int32.toNatClampNeg x2)) = (σ.1 219 39)) rfl (fun _ => rfl) (fun hc => ?_) (fun hc => ?_)
    · replace h := h.1 hc
      refine ev_n 3 (fun _ => rfl) ?_
      exact h
    · replace h := h.2 hc
      refine ev_n 1 (fun _ => rfl) ?_
      refine ev_go rfl (w_gF rfl rfl) ?_
      refine ev_n 1 (fun _ => rfl) ?_
      obtain ⟨h0, h⟩ := h
      refine ev_go rfl (w_iald rfl h0) ?_
      refine ev_n 3 (fun _ => rfl) ?_
      obtain ⟨v2, σ1, hf, h⟩ := h
      refine ev_go rfl (w_callV rfl rfl rfl (Nat.le_of_ble_eq_true rfl) hf) ?_
      refine ev_if (c := v2 ≤ (σ.1 230 (Int32.toNatClampNeg (σ.1 234 (Int32.toNatClampNeg x2))))) rfl (fun _ => rfl) (fun hc => ?_) (fun hc => ?_)
      · replace h := h.1 hc
        refine ev_n 3 (fun _ => rfl) ?_
        obtain ⟨σ3, hf, h⟩ := h
        refine ev_go rfl (w_callV rfl rfl rfl (Nat.le_of_ble_eq_true rfl) hf) ?_
        refine ev_n 2 (fun _ => rfl) ?_
        exact h
      · replace h := h.2 hc
        exact ev_ret rfl (fun _ => rfl) h
set_option maxRecDepth 20000 in
theorem e_X12_tryReaders_10 {x1 : Int32} {r_X12_tryReaders : Fn_} {x2 : Int32} {σ : St_} {out : Out_}  (h : (((σ.1 219 39) < x2 → out = (none, σ)) ∧ (¬ ((σ.1 219 39) < x2) → (vpin_ x1 6 = true) ∧ (∃ (σ1 : St_), r_X12_tryReaders [.ref 219, .int (x1 + (1 : Int32))] (sI_ σ 234 (Int32.toNatClampNeg x1) x2) = some (none, σ1) ∧ Ev_ (P_X12_tryReaders KC r_X12_tryReaders) 10 [some (.ref 219), some (.int x1), some (.int (x2 + 1)), none, none] [] σ1 out)))) : Ev_ (P_X12_tryReaders KC r_X12_tryReaders) 10 [some (.ref 219), some (.int x1), some (.int x2), none, none] [] σ out := by
  refine ev_n 2 (fun _ => rfl) ?_
  refine ev_go rfl (w_gI rfl) ?_
  refine ev_if (c := (σ.1 219 39) < x2) rfl (fun _ => rfl) (fun hc => ?_) (fun hc => ?_)
  · replace h := h.1 hc
    exact ev_ret rfl (fun _ => rfl) h
  · replace h := h.2 hc
    refine ev_n 1 (fun _ => rfl) ?_
    refine ev_go rfl (w_gF rfl rfl) ?_
    refine ev_n 2 (fun _ => rfl) ?_
    obtain ⟨h0, h⟩ := h
    refine ev_go rfl (w_iast rfl h0) ?_
    refine ev_n 4 (fun _ => rfl) ?_
    obtain ⟨σ1, hf, h⟩ := h
    refine ev_go rfl (w_callV rfl rfl rfl (Nat.le_of_ble_eq_true rfl) hf) ?_
    refine ev_n 2 (fun _ => rfl) ?_
    exact h
set_option maxRecDepth 20000 in
theorem e_X12_tryReaders_101 {x1 : Int32} {r_X12_tryReaders : Fn_} {x2 : Int32} {σ : St_} {out : Out_}  (h : (((σ.1 219 38) ≤ x2 → (∃ (v2 : Int32) (σ1 : St_), f_X12_sum KC [.ref 219, .int (σ.1 219 39)] σ = some (some (.int v2), σ1) ∧ (((σ1.1 219 37) < v2 → Ev_ (P_X12_tryReaders KC r_X12_tryReaders) 205 [some (.ref 219), some (.int x1), none, some (.int (0 : Int32)), none] [] (sI_ σ1 219 37 v2) out) ∧ (¬ ((σ1.1 219 37) < v2) → out = (none, σ1))))) ∧ (¬ ((σ.1 219 38) ≤ x2) → (vpin_ x2 6 = true) ∧ (((σ.1 234 (Int32.toNatClampNeg x2)) = (σ.1 219 39) → Ev_ (P_X12_tryReaders KC r_X12_tryReaders) 101 [some (.ref 219), some (.int x1), some (.int (x2 + 1)), none, none] [] σ out) ∧ (¬ ((σ.1 234 (Int32.toNatClampNeg x2)) = (σ.1 219 39)) → (vpin_ (((16 : Int32) * (σ.1 234 (Int32.toNatClampNeg x2))) + x2) 144 = true) ∧ (((σ.1 229 (Int32.toNatClampNeg (((16 : Int32) * (σ.1 234 (Int32.toNatClampNeg x2))) + x2))) = 0 → Ev_ (P_X12_tryReaders KC r_X12_tryReaders) 101 [some (.ref 219), some (.int x1), some (.int (x2 + 1)), none, none] [] σ out) ∧ (¬ ((σ.1 229 (Int32.toNatClampNeg (((16 : Int32) * (σ.1 234 (Int32.toNatClampNeg x2))) + x2))) = 0) → Ev_ (P_X12_tryReaders KC r_X12_tryReaders) 144 [some (.ref 219), some (.int x1), some (.int x2), some (.int (σ.1 234 (Int32.toNatClampNeg x2))), some (.int (0 : Int32))] [] σ out))))))) : Ev_ (P_X12_tryReaders KC r_X12_tryReaders) 101 [some (.ref 219), some (.int x1), some (.int x2), none, none] [] σ out := by
  refine ev_n 2 (fun _ => rfl) ?_
  refine ev_go rfl (w_gI rfl) ?_
  refine ev_if (c := (σ.1 219 38) ≤ x2) rfl (fun _ => rfl) (fun hc => ?_) (fun hc => ?_)
  · replace h := h.1 hc
    refine ev_n 2 (fun _ => rfl) ?_
    refine ev_go rfl (w_gI rfl) ?_
    obtain ⟨v2, σ1, hf, h⟩ := h
    refine ev_go rfl (w_callV rfl rfl rfl (Nat.le_of_ble_eq_true rfl) hf) ?_
    refine ev_n 3 (fun _ => rfl) ?_
    refine ev_go rfl (w_gI rfl) ?_
    refine ev_if (c := (σ1.1 219 37) < v2) rfl (fun _ => rfl) (fun hc => ?_) (fun hc => ?_)
    · replace h := h.1 hc
      refine ev_n 2 (fun _ => rfl) ?_
      refine ev_go rfl (w_pI rfl) ?_
      refine ev_n 2 (fun _ => rfl) ?_
      exact h
    · replace h := h.2 hc
      exact ev_ret rfl (fun _ => rfl) h
  · replace h := h.2 hc
    refine ev_n 1 (fun _ => rfl) ?_
    refine ev_go rfl (w_gF rfl rfl) ?_
    refine ev_n 1 (fun _ => rfl) ?_
    obtain ⟨h0, h⟩ := h
    refine ev_go rfl (w_iald rfl h0) ?_
    refine ev_n 3 (fun _ => rfl) ?_
    refine ev_go rfl (w_gI rfl) ?_
    refine ev_if (c := (σ.1 234 (Int32.toNatClampNeg x2)) = (σ.1 219 39)) rfl (fun _ => rfl) (fun hc => ?_) (fun hc => ?_)
    · replace h := h.1 hc
      refine ev_n 2 (fun _ => rfl) ?_
      exact h
    · replace h := h.2 hc
      refine ev_n 1 (fun _ => rfl) ?_
      refine ev_go rfl (w_gF rfl rfl) ?_
      refine ev_n 5 (fun _ => rfl) ?_
      obtain ⟨h0, h⟩ := h
      refine ev_go rfl (w_iald rfl h0) ?_
      refine ev_if (c := (σ.1 229 (Int32.toNatClampNeg (((16 : Int32) * (σ.1 234 (Int32.toNatClampNeg x2))) + x2))) = 0) rfl (fun _ => rfl) (fun hc => ?_) (fun hc => ?_)
      · replace h := h.1 hc
        refine ev_n 3 (fun _ => rfl) ?_
        exact h
      · replace h := h.2 hc
        refine ev_n 2 (fun _ => rfl) ?_
        exact h
set_option maxRecDepth 20000 in
theorem e_X12_tryReaders_205 {x1 : Int32} {r_X12_tryReaders : Fn_} {x3 : Int32} {σ : St_} {out : Out_}  (h : (((σ.1 219 38) ≤ x3 → out = (none, σ)) ∧ (¬ ((σ.1 219 38) ≤ x3) → (vpin_ x3 6 = true) ∧ (vpin_ x3 6 = true) ∧ Ev_ (P_X12_tryReaders KC r_X12_tryReaders) 205 [some (.ref 219), some (.int x1), none, some (.int (x3 + 1)), none] [] (sI_ σ 235 (Int32.toNatClampNeg x3) (σ.1 234 (Int32.toNatClampNeg x3))) out))) : Ev_ (P_X12_tryReaders KC r_X12_tryReaders) 205 [some (.ref 219), some (.int x1), none, some (.int x3), none] [] σ out := by
  refine ev_n 2 (fun _ => rfl) ?_
  refine ev_go rfl (w_gI rfl) ?_
  refine ev_if (c := (σ.1 219 38) ≤ x3) rfl (fun _ => rfl) (fun hc => ?_) (fun hc => ?_)
  · replace h := h.1 hc
    exact ev_ret rfl (fun _ => rfl) h
  · replace h := h.2 hc
    refine ev_n 1 (fun _ => rfl) ?_
    refine ev_go rfl (w_gF rfl rfl) ?_
    refine ev_n 2 (fun _ => rfl) ?_
    refine ev_go rfl (w_gF rfl rfl) ?_
    refine ev_n 1 (fun _ => rfl) ?_
    obtain ⟨h0, h⟩ := h
    refine ev_go rfl (w_iald rfl h0) ?_
    obtain ⟨h0, h⟩ := h
    refine ev_go rfl (w_iast rfl h0) ?_
    refine ev_n 2 (fun _ => rfl) ?_
    exact h
set_option maxRecDepth 20000 in
theorem e_X12_tryReaders_144 {x1 : Int32} {r_X12_tryReaders : Fn_} {x2 : Int32} {x3 : Int32} {x4 : Int32} {σ : St_} {out : Out_}  (h : (((σ.1 219 39) ≤ x4 → Ev_ (P_X12_tryReaders KC r_X12_tryReaders) 101 [some (.ref 219), some (.int x1), some (.int (x2 + 1)), none, none] [] σ out) ∧ (¬ ((σ.1 219 39) ≤ x4) → ((x4 = x3 → Ev_ (P_X12_tryReaders KC r_X12_tryReaders) 144 [some (.ref 219), some (.int x1), some (.int x2), some (.int x3), some (.int (x4 + 1))] [] σ out) ∧ (¬ (x4 = x3) → (∃ (σ1 : St_), f_X12_gets KC [.ref 219, .int x3, .int x4, .int x2, .int (4 : Int32)] σ = some (none, σ1) ∧ Ev_ (P_X12_tryReaders KC r_X12_tryReaders) 144 [some (.ref 219), some (.int x1), some (.int x2), some (.int x3), some (.int (x4 + 1))] [] σ1 out)))))) : Ev_ (P_X12_tryReaders KC r_X12_tryReaders) 144 [some (.ref 219), some (.int x1), some (.int x2), some (.int x3), some (.int x4)] [] σ out := by
  refine ev_n 2 (fun _ => rfl) ?_
  refine ev_go rfl (w_gI rfl) ?_
  refine ev_if (c := (σ.1 219 39) ≤ x4) rfl (fun _ => rfl) (fun hc => ?_) (fun hc => ?_)
  · replace h := h.1 hc
    refine ev_n 2 (fun _ => rfl) ?_
    exact h
  · replace h := h.2 hc
    refine ev_n 2 (fun _ => rfl) ?_
    refine ev_if (c := x4 = x3) rfl (fun _ => rfl) (fun hc => ?_) (fun hc => ?_)
    · replace h := h.1 hc
      refine ev_n 2 (fun _ => rfl) ?_
      exact h
    · replace h := h.2 hc
      refine ev_n 5 (fun _ => rfl) ?_
      obtain ⟨σ1, hf, h⟩ := h
      refine ev_go rfl (w_callV rfl rfl rfl (Nat.le_of_ble_eq_true rfl) hf) ?_
      refine ev_n 2 (fun _ => rfl) ?_
      exact h
theorem m_X12_tryReaders (d : Nat) : ∀ pc o, (P_X12_tryReaders KC (f_X12_tryReaders KC d)).lookup pc = some o → Mon_ o := all_mon (a_X12_tryReaders (l := launch0) (E := EC0) EC0_ok (t_X12_tryReaders EC0_ok d))
theorem z_X12_tryReaders {x1 : Int32} {σ : St_} {out : Out_} {d : Nat} (h : Ev_ (P_X12_tryReaders KC (f_X12_tryReaders KC d)) 0 [some (.ref 219), some (.int x1), none, none, none] [] σ out) : f_X12_tryReaders KC (d + 1) [.ref 219, .int x1] σ = some out := show fn_ (P_X12_tryReaders KC (f_X12_tryReaders KC d)) 5 [.ref 219, .int x1] σ = some out from fn_eq (m_X12_tryReaders d) rfl h
set_option maxRecDepth 20000 in
theorem e_X12_best_0 {x1 : Int32} {x2 : Int32} {σ : St_} {out : Out_}  (h : (∃ (σ1 : St_), f_X12_lay KC [.ref 219] (sI_ σ 219 0 (0 : Int32)) = some (none, σ1) ∧ (∃ (v3 : Int32) (σ2 : St_), f_X12_isIn KC [.int x1, .int (1 : Int32), .int (6 : Int32)] σ1 = some (some (.int v3), σ2) ∧ ((v3 = 0 → out = (some (.int ((-1) : Int32)), σ2)) ∧ (¬ (v3 = 0) → (∃ (v5 : Int32) (σ4 : St_), f_X12_isIn KC [.int x2, .int (1 : Int32), .int (4 : Int32)] σ2 = some (some (.int v5), σ4) ∧ ((v5 = 0 → out = (some (.int ((-1) : Int32)), σ4)) ∧ (¬ (v5 = 0) → (∃ (v7 : Int32) (σ6 : St_), f_X12_chaps KC [.ref 219] σ4 = some (some (.int v7), σ6) ∧ ((v7 < x1 → out = (some (.int ((-1) : Int32)), σ6)) ∧ (¬ (v7 < x1) → (∃ (v9 : Int32) (σ8 : St_), f_X12_readers KC [.ref 219] σ6 = some (some (.int v9), σ8) ∧ ((x2 ≤ v9 → (∃ (σ10 : St_), f_X12_tryReaders KC 80 [.ref 219, .int (0 : Int32)] (sI_ (sI_ (sI_ σ8 219 38 x1) 219 39 x2) 219 37 ((-1) : Int32)) = some (none, σ10) ∧ Ev_ (P_X12_best KC) 73 [some (.ref 219), some (.int x1), some (.int x2), some (.int (0 : Int32))] [] (sI_ σ10 219 40 x1) out)) ∧ (¬ (x2 ≤ v9) → out = (some (.int ((-1) : Int32)), σ8))))))))))))))) : Ev_ (P_X12_best KC) 0 [some (.ref 219), some (.int x1), some (.int x2), none] [] σ out := by
  refine ev_n 2 (fun _ => rfl) ?_
  refine ev_go rfl (w_pI rfl) ?_
  refine ev_n 1 (fun _ => rfl) ?_
  obtain ⟨σ1, hf, h⟩ := h
  refine ev_go rfl (w_callV rfl rfl rfl (Nat.le_of_ble_eq_true rfl) hf) ?_
  refine ev_n 3 (fun _ => rfl) ?_
  obtain ⟨v3, σ2, hf, h⟩ := h
  refine ev_go rfl (w_callS ⟨Nat.le_of_ble_eq_true rfl, Nat.le_of_ble_eq_true rfl⟩ hf) ?_
  refine ev_if (c := v3 = 0) rfl (fun _ => rfl) (fun hc => ?_) (fun hc => ?_)
  · replace h := h.1 hc
    refine ev_n 1 (fun _ => rfl) ?_
    exact ev_ret rfl (fun _ => rfl) h
  · replace h := h.2 hc
    refine ev_n 3 (fun _ => rfl) ?_
    obtain ⟨v5, σ4, hf, h⟩ := h
    refine ev_go rfl (w_callS ⟨Nat.le_of_ble_eq_true rfl, Nat.le_of_ble_eq_true rfl⟩ hf) ?_
    refine ev_if (c := v5 = 0) rfl (fun _ => rfl) (fun hc => ?_) (fun hc => ?_)
    · replace h := h.1 hc
      refine ev_n 1 (fun _ => rfl) ?_
      exact ev_ret rfl (fun _ => rfl) h
    · replace h := h.2 hc
      refine ev_n 2 (fun _ => rfl) ?_
      obtain ⟨v7, σ6, hf, h⟩ := h
      refine ev_go rfl (w_callV rfl rfl rfl (Nat.le_of_ble_eq_true rfl) hf) ?_
      refine ev_if (c := v7 < x1) rfl (fun _ => rfl) (fun hc => ?_) (fun hc => ?_)
      · replace h := h.1 hc
        refine ev_n 1 (fun _ => rfl) ?_
        exact ev_ret rfl (fun _ => rfl) h
      · replace h := h.2 hc
        refine ev_n 2 (fun _ => rfl) ?_
        obtain ⟨v9, σ8, hf, h⟩ := h
        refine ev_go rfl (w_callV rfl rfl rfl (Nat.le_of_ble_eq_true rfl) hf) ?_
        refine ev_if (c := x2 ≤ v9) rfl (fun _ => rfl) (fun hc => ?_) (fun hc => ?_)
        · replace h := h.1 hc
          refine ev_n 2 (fun _ => rfl) ?_
          refine ev_go rfl (w_pI rfl) ?_
          refine ev_n 2 (fun _ => rfl) ?_
          refine ev_go rfl (w_pI rfl) ?_
          refine ev_n 2 (fun _ => rfl) ?_
          refine ev_go rfl (w_pI rfl) ?_
          refine ev_n 2 (fun _ => rfl) ?_
          obtain ⟨σ10, hf, h⟩ := h
          refine ev_go rfl (w_callV rfl rfl rfl (Nat.le_of_ble_eq_true rfl) hf) ?_
          refine ev_n 2 (fun _ => rfl) ?_
          refine ev_go rfl (w_pI rfl) ?_
          refine ev_n 2 (fun _ => rfl) ?_
          exact h
        · replace h := h.2 hc
          refine ev_n 1 (fun _ => rfl) ?_
          exact ev_ret rfl (fun _ => rfl) h
set_option maxRecDepth 20000 in
theorem e_X12_best_73 {x1 : Int32} {x2 : Int32} {x3 : Int32} {σ : St_} {out : Out_}  (h : ((x1 ≤ x3 → out = (some (.int (σ.1 219 37)), σ)) ∧ (¬ (x1 ≤ x3) → (vpin_ x3 6 = true) ∧ (((σ.1 235 (Int32.toNatClampNeg x3)) = x2 → (vpin_ x3 6 = true) ∧ Ev_ (P_X12_best KC) 73 [some (.ref 219), some (.int x1), some (.int x2), some (.int (x3 + 1))] [] (sI_ σ 236 (Int32.toNatClampNeg x3) ((-1) : Int32)) out) ∧ (¬ ((σ.1 235 (Int32.toNatClampNeg x3)) = x2) → (vpin_ x3 6 = true) ∧ (vpin_ x3 6 = true) ∧ Ev_ (P_X12_best KC) 73 [some (.ref 219), some (.int x1), some (.int x2), some (.int (x3 + 1))] [] (sI_ σ 236 (Int32.toNatClampNeg x3) (σ.1 235 (Int32.toNatClampNeg x3))) out))))) : Ev_ (P_X12_best KC) 73 [some (.ref 219), some (.int x1), some (.int x2), some (.int x3)] [] σ out := by
  refine ev_n 2 (fun _ => rfl) ?_
  refine ev_if (c := x1 ≤ x3) rfl (fun _ => rfl) (fun hc => ?_) (fun hc => ?_)
  · replace h := h.1 hc
    refine ev_n 1 (fun _ => rfl) ?_
    refine ev_go rfl (w_gI rfl) ?_
    exact ev_ret rfl (fun _ => rfl) h
  · replace h := h.2 hc
    refine ev_n 1 (fun _ => rfl) ?_
    refine ev_go rfl (w_gF rfl rfl) ?_
    refine ev_n 2 (fun _ => rfl) ?_
    refine ev_go rfl (w_gF rfl rfl) ?_
    refine ev_n 1 (fun _ => rfl) ?_
    obtain ⟨h0, h⟩ := h
    refine ev_go rfl (w_iald rfl h0) ?_
    refine ev_n 1 (fun _ => rfl) ?_
    refine ev_if (c := (σ.1 235 (Int32.toNatClampNeg x3)) = x2) rfl (fun _ => rfl) (fun hc => ?_) (fun hc => ?_)
    · replace h := h.1 hc
      refine ev_n 2 (fun _ => rfl) ?_
      obtain ⟨h0, h⟩ := h
      refine ev_go rfl (w_iast rfl h0) ?_
      refine ev_n 2 (fun _ => rfl) ?_
      exact h
    · replace h := h.2 hc
      refine ev_n 1 (fun _ => rfl) ?_
      refine ev_go rfl (w_gF rfl rfl) ?_
      refine ev_n 1 (fun _ => rfl) ?_
      obtain ⟨h0, h⟩ := h
      refine ev_go rfl (w_iald rfl h0) ?_
      obtain ⟨h0, h⟩ := h
      refine ev_go rfl (w_iast rfl h0) ?_
      refine ev_n 2 (fun _ => rfl) ?_
      exact h
theorem m_X12_best : ∀ pc o, (P_X12_best KC).lookup pc = some o → Mon_ o := all_mon (a_X12_best (l := launch0) (E := EC0) EC0_ok)
theorem z_X12_best {x1 : Int32} {x2 : Int32} {σ : St_} {out : Out_} (h : Ev_ (P_X12_best KC) 0 [some (.ref 219), some (.int x1), some (.int x2), none] [] σ out) : f_X12_best KC [.ref 219, .int x1, .int x2] σ = some out := fn_eq m_X12_best rfl h
set_option maxRecDepth 20000 in
theorem e_X12_bestOf_0 {x1 : Int32} {σ : St_} {out : Out_}  (h : ((x1 < 0 → out = (some (.int ((-1) : Int32)), (sI_ σ 219 0 (0 : Int32)))) ∧ (¬ (x1 < 0) → ((((sI_ σ 219 0 (0 : Int32)).1 219 40) ≤ x1 → out = (some (.int ((-1) : Int32)), (sI_ σ 219 0 (0 : Int32)))) ∧ (¬ (((sI_ σ 219 0 (0 : Int32)).1 219 40) ≤ x1) → (vpin_ x1 6 = true) ∧ out = (some (.int ((sI_ σ 219 0 (0 : Int32)).1 236 (Int32.toNatClampNeg x1))), (sI_ σ 219 0 (0 : Int32)))))))) : Ev_ (P_X12_bestOf KC) 0 [some (.ref 219), some (.int x1)] [] σ out := by
  refine ev_n 2 (fun _ => rfl) ?_
  refine ev_go rfl (w_pI rfl) ?_
  refine ev_n 1 (fun _ => rfl) ?_
  refine ev_if (c := x1 < 0) rfl (fun _ => rfl) (fun hc => ?_) (fun hc => ?_)
  · replace h := h.1 hc
    refine ev_n 1 (fun _ => rfl) ?_
    exact ev_ret rfl (fun _ => rfl) h
  · replace h := h.2 hc
    refine ev_n 2 (fun _ => rfl) ?_
    refine ev_go rfl (w_gI rfl) ?_
    refine ev_if (c := ((sI_ σ 219 0 (0 : Int32)).1 219 40) ≤ x1) rfl (fun _ => rfl) (fun hc => ?_) (fun hc => ?_)
    · replace h := h.1 hc
      refine ev_n 1 (fun _ => rfl) ?_
      exact ev_ret rfl (fun _ => rfl) h
    · replace h := h.2 hc
      refine ev_n 1 (fun _ => rfl) ?_
      refine ev_go rfl (w_gF rfl rfl) ?_
      refine ev_n 1 (fun _ => rfl) ?_
      obtain ⟨h0, h⟩ := h
      refine ev_go rfl (w_iald rfl h0) ?_
      refine ev_n 1 (fun _ => rfl) ?_
      exact ev_ret rfl (fun _ => rfl) h
theorem m_X12_bestOf : ∀ pc o, (P_X12_bestOf KC).lookup pc = some o → Mon_ o := all_mon (a_X12_bestOf (l := launch0) (E := EC0) EC0_ok)
theorem z_X12_bestOf {x1 : Int32} {σ : St_} {out : Out_} (h : Ev_ (P_X12_bestOf KC) 0 [some (.ref 219), some (.int x1)] [] σ out) : f_X12_bestOf KC [.ref 219, .int x1] σ = some out := fn_eq m_X12_bestOf rfl h
set_option maxRecDepth 20000 in
theorem e_X12_stretch_0 {x1 : Int32} {x2 : Int32} {σ : St_} {out : Out_}  (h : Ev_ (P_X12_stretch KC) 2 [some (.ref 219), some (.int x1), some (.int x2), some (.int (0 : Int32))] [] σ out) : Ev_ (P_X12_stretch KC) 0 [some (.ref 219), some (.int x1), some (.int x2), none] [] σ out := by
  refine ev_n 2 (fun _ => rfl) ?_
  exact h
set_option maxRecDepth 20000 in
theorem e_X12_stretch_2 {x1 : Int32} {x2 : Int32} {x3 : Int32} {σ : St_} {out : Out_}  (h : (((x2 - (1 : Int32)) ≤ x3 → out = (some (.int x3), σ)) ∧ (¬ ((x2 - (1 : Int32)) ≤ x3) → (vpin_ x3 9 = true) ∧ ((x1 ≤ (σ.1 237 (Int32.toNatClampNeg x3)) → out = (some (.int x3), σ)) ∧ (¬ (x1 ≤ (σ.1 237 (Int32.toNatClampNeg x3))) → Ev_ (P_X12_stretch KC) 2 [some (.ref 219), some (.int x1), some (.int x2), some (.int (x3 + 1))] [] σ out))))) : Ev_ (P_X12_stretch KC) 2 [some (.ref 219), some (.int x1), some (.int x2), some (.int x3)] [] σ out := by
  refine ev_n 4 (fun _ => rfl) ?_
  refine ev_if (c := (x2 - (1 : Int32)) ≤ x3) rfl (fun _ => rfl) (fun hc => ?_) (fun hc => ?_)
  · replace h := h.1 hc
    refine ev_n 1 (fun _ => rfl) ?_
    exact ev_ret rfl (fun _ => rfl) h
  · replace h := h.2 hc
    refine ev_n 1 (fun _ => rfl) ?_
    refine ev_go rfl (w_gF rfl rfl) ?_
    refine ev_n 1 (fun _ => rfl) ?_
    obtain ⟨h0, h⟩ := h
    refine ev_go rfl (w_iald rfl h0) ?_
    refine ev_n 1 (fun _ => rfl) ?_
    refine ev_if (c := x1 ≤ (σ.1 237 (Int32.toNatClampNeg x3))) rfl (fun _ => rfl) (fun hc => ?_) (fun hc => ?_)
    · replace h := h.1 hc
      refine ev_n 1 (fun _ => rfl) ?_
      exact ev_ret rfl (fun _ => rfl) h
    · replace h := h.2 hc
      refine ev_n 2 (fun _ => rfl) ?_
      exact h
theorem m_X12_stretch : ∀ pc o, (P_X12_stretch KC).lookup pc = some o → Mon_ o := all_mon (a_X12_stretch (l := launch0) (E := EC0) EC0_ok)
theorem z_X12_stretch {x1 : Int32} {x2 : Int32} {σ : St_} {out : Out_} (h : Ev_ (P_X12_stretch KC) 0 [some (.ref 219), some (.int x1), some (.int x2), none] [] σ out) : f_X12_stretch KC [.ref 219, .int x1, .int x2] σ = some out := fn_eq m_X12_stretch rfl h
set_option maxRecDepth 20000 in
theorem e_X12_over_0 {x1 : Int32} {σ : St_} {out : Out_}  (h : Ev_ (P_X12_over KC) 4 [some (.ref 219), some (.int x1), some (.int (0 : Int32)), some (.int (0 : Int32)), none] [] σ out) : Ev_ (P_X12_over KC) 0 [some (.ref 219), some (.int x1), none, none, none] [] σ out := by
  refine ev_n 4 (fun _ => rfl) ?_
  exact h
set_option maxRecDepth 20000 in
theorem e_X12_over_4 {x1 : Int32} {x2 : Int32} {x3 : Int32} {σ : St_} {out : Out_}  (h : (∃ (v2 : Int32) (σ1 : St_), f_X12_chaps KC [.ref 219] σ = some (some (.int v2), σ1) ∧ ((v2 ≤ x3 → out = (some (.int x2), σ1)) ∧ (¬ (v2 ≤ x3) → Ev_ (P_X12_over KC) 15 [some (.ref 219), some (.int x1), some (.int x2), some (.int x3), some (.int (0 : Int32))] [] σ1 out)))) : Ev_ (P_X12_over KC) 4 [some (.ref 219), some (.int x1), some (.int x2), some (.int x3), none] [] σ out := by
  refine ev_n 2 (fun _ => rfl) ?_
  obtain ⟨v2, σ1, hf, h⟩ := h
  refine ev_go rfl (w_callV rfl rfl rfl (Nat.le_of_ble_eq_true rfl) hf) ?_
  refine ev_if (c := v2 ≤ x3) rfl (fun _ => rfl) (fun hc => ?_) (fun hc => ?_)
  · replace h := h.1 hc
    refine ev_n 1 (fun _ => rfl) ?_
    exact ev_ret rfl (fun _ => rfl) h
  · replace h := h.2 hc
    refine ev_n 2 (fun _ => rfl) ?_
    exact h
set_option maxRecDepth 20000 in
theorem e_X12_over_15 {x1 : Int32} {x2 : Int32} {x3 : Int32} {x4 : Int32} {σ : St_} {out : Out_}  (h : ((x3 ≤ x4 → Ev_ (P_X12_over KC) 4 [some (.ref 219), some (.int x1), some (.int x2), some (.int (x3 + 1)), none] [] σ out) ∧ (¬ (x3 ≤ x4) → (∃ (v2 : Int32) (σ1 : St_), f_X12_stretch KC [.ref 219, .int x3, .int x1] σ = some (some (.int v2), σ1) ∧ (∃ (v4 : Int32) (σ3 : St_), f_X12_stretch KC [.ref 219, .int x4, .int x1] σ1 = some (some (.int v4), σ3) ∧ ((v2 = v4 → Ev_ (P_X12_over KC) 15 [some (.ref 219), some (.int x1), some (.int x2), some (.int x3), some (.int (x4 + 1))] [] σ3 out) ∧ (¬ (v2 = v4) → (∃ (v6 : Int32) (σ5 : St_), f_X12_leanOf KC [.ref 219, .int x3, .int x4] σ3 = some (some (.int v6), σ5) ∧ Ev_ (P_X12_over KC) 15 [some (.ref 219), some (.int x1), some (.int (x2 + v6)), some (.int x3), some (.int (x4 + 1))] [] σ5 out)))))))) : Ev_ (P_X12_over KC) 15 [some (.ref 219), some (.int x1), some (.int x2), some (.int x3), some (.int x4)] [] σ out := by
  refine ev_n 2 (fun _ => rfl) ?_
  refine ev_if (c := x3 ≤ x4) rfl (fun _ => rfl) (fun hc => ?_) (fun hc => ?_)
  · replace h := h.1 hc
    refine ev_n 2 (fun _ => rfl) ?_
    exact h
  · replace h := h.2 hc
    refine ev_n 3 (fun _ => rfl) ?_
    obtain ⟨v2, σ1, hf, h⟩ := h
    refine ev_go rfl (w_callV rfl rfl rfl (Nat.le_of_ble_eq_true rfl) hf) ?_
    refine ev_n 3 (fun _ => rfl) ?_
    obtain ⟨v4, σ3, hf, h⟩ := h
    refine ev_go rfl (w_callV rfl rfl rfl (Nat.le_of_ble_eq_true rfl) hf) ?_
    refine ev_if (c := v2 = v4) rfl (fun _ => rfl) (fun hc => ?_) (fun hc => ?_)
    · replace h := h.1 hc
      refine ev_n 2 (fun _ => rfl) ?_
      exact h
    · replace h := h.2 hc
      refine ev_n 4 (fun _ => rfl) ?_
      obtain ⟨v6, σ5, hf, h⟩ := h
      refine ev_go rfl (w_callV rfl rfl rfl (Nat.le_of_ble_eq_true rfl) hf) ?_
      refine ev_n 4 (fun _ => rfl) ?_
      exact h
theorem m_X12_over : ∀ pc o, (P_X12_over KC).lookup pc = some o → Mon_ o := all_mon (a_X12_over (l := launch0) (E := EC0) EC0_ok)
theorem z_X12_over {x1 : Int32} {σ : St_} {out : Out_} (h : Ev_ (P_X12_over KC) 0 [some (.ref 219), some (.int x1), none, none, none] [] σ out) : f_X12_over KC [.ref 219, .int x1] σ = some out := fn_eq m_X12_over rfl h
set_option maxRecDepth 20000 in
theorem e_X12_tryEnds_0 {x1 : Int32} {x2 : Int32} {x3 : Int32} {r_X12_tryEnds : Fn_} {σ : St_} {out : Out_}  (h : Ev_ (P_X12_tryEnds KC r_X12_tryEnds) 6 [some (.ref 219), some (.int x1), some (.int x2), some (.int x3), some (.int (0 : Int32)), some (.int x3), none, none] [] σ out) : Ev_ (P_X12_tryEnds KC r_X12_tryEnds) 0 [some (.ref 219), some (.int x1), some (.int x2), some (.int x3), none, none, none, none] [] σ out := by
  refine ev_n 4 (fun _ => rfl) ?_
  exact h
set_option maxRecDepth 20000 in
theorem e_X12_tryEnds_6 {x1 : Int32} {x2 : Int32} {x3 : Int32} {r_X12_tryEnds : Fn_} {x4 : Int32} {x5 : Int32} {σ : St_} {out : Out_}  (h : (∃ (v2 : Int32) (σ1 : St_), f_X12_chaps KC [.ref 219] σ = some (some (.int v2), σ1) ∧ ((v2 ≤ x5 → out = (none, σ1)) ∧ (¬ (v2 ≤ x5) → (∃ (v4 : Int32) (σ3 : St_), f_X12_chapOf KC [.ref 219, .int x5, .int (0 : Int32)] σ1 = some (some (.int v4), σ3) ∧ (((x4 + v4) ≤ (σ3.1 219 45) → ((x1 = (x2 - (1 : Int32)) → (∃ (v6 : Int32) (σ5 : St_), f_X12_chaps KC [.ref 219] σ3 = some (some (.int v6), σ5) ∧ (((v6 - (1 : Int32)) ≤ x5 → Ev_ (P_X12_tryEnds KC r_X12_tryEnds) 78 [some (.ref 219), some (.int x1), some (.int x2), some (.int x3), some (.int (x4 + v4)), some (.int x5), none, none] [] σ5 out) ∧ (¬ ((v6 - (1 : Int32)) ≤ x5) → Ev_ (P_X12_tryEnds KC r_X12_tryEnds) 6 [some (.ref 219), some (.int x1), some (.int x2), some (.int x3), some (.int (x4 + v4)), some (.int (x5 + 1)), none, none] [] σ5 out)))) ∧ (¬ (x1 = (x2 - (1 : Int32))) → (∃ (v8 : Int32) (σ7 : St_), f_X12_chaps KC [.ref 219] σ3 = some (some (.int v8), σ7) ∧ ((((x2 - (1 : Int32)) - x1) ≤ ((v8 - (1 : Int32)) - x5) → Ev_ (P_X12_tryEnds KC r_X12_tryEnds) 78 [some (.ref 219), some (.int x1), some (.int x2), some (.int x3), some (.int (x4 + v4)), some (.int x5), none, none] [] σ7 out) ∧ (¬ (((x2 - (1 : Int32)) - x1) ≤ ((v8 - (1 : Int32)) - x5)) → Ev_ (P_X12_tryEnds KC r_X12_tryEnds) 6 [some (.ref 219), some (.int x1), some (.int x2), some (.int x3), some (.int (x4 + v4)), some (.int (x5 + 1)), none, none] [] σ7 out)))))) ∧ (¬ ((x4 + v4) ≤ (σ3.1 219 45)) → out = (none, σ3)))))))) : Ev_ (P_X12_tryEnds KC r_X12_tryEnds) 6 [some (.ref 219), some (.int x1), some (.int x2), some (.int x3), some (.int x4), some (.int x5), none, none] [] σ out := by
  refine ev_n 2 (fun _ => rfl) ?_
  obtain ⟨v2, σ1, hf, h⟩ := h
  refine ev_go rfl (w_callV rfl rfl rfl (Nat.le_of_ble_eq_true rfl) hf) ?_
  refine ev_if (c := v2 ≤ x5) rfl (fun _ => rfl) (fun hc => ?_) (fun hc => ?_)
  · replace h := h.1 hc
    exact ev_ret rfl (fun _ => rfl) h
  · replace h := h.2 hc
    refine ev_n 4 (fun _ => rfl) ?_
    obtain ⟨v4, σ3, hf, h⟩ := h
    refine ev_go rfl (w_callV rfl rfl rfl (Nat.le_of_ble_eq_true rfl) hf) ?_
    refine ev_n 4 (fun _ => rfl) ?_
    refine ev_go rfl (w_gI rfl) ?_
    refine ev_if (c := (x4 + v4) ≤ (σ3.1 219 45)) rfl (fun _ => rfl) (fun hc => ?_) (fun hc => ?_)
    · replace h := h.1 hc
      refine ev_n 4 (fun _ => rfl) ?_
      refine ev_if (c := x1 = (x2 - (1 : Int32))) rfl (fun _ => rfl) (fun hc => ?_) (fun hc => ?_)
      · replace h := h.1 hc
        refine ev_n 2 (fun _ => rfl) ?_
        obtain ⟨v6, σ5, hf, h⟩ := h
        refine ev_go rfl (w_callV rfl rfl rfl (Nat.le_of_ble_eq_true rfl) hf) ?_
        refine ev_n 2 (fun _ => rfl) ?_
        refine ev_if (c := (v6 - (1 : Int32)) ≤ x5) rfl (fun _ => rfl) (fun hc => ?_) (fun hc => ?_)
        · replace h := h.1 hc
          exact h
        · replace h := h.2 hc
          refine ev_n 3 (fun _ => rfl) ?_
          exact h
      · replace h := h.2 hc
        refine ev_n 1 (fun _ => rfl) ?_
        obtain ⟨v8, σ7, hf, h⟩ := h
        refine ev_go rfl (w_callV rfl rfl rfl (Nat.le_of_ble_eq_true rfl) hf) ?_
        refine ev_n 8 (fun _ => rfl) ?_
        refine ev_n 1 (fun _ => rfl) ?_
        refine ev_if (c := ((x2 - (1 : Int32)) - x1) ≤ ((v8 - (1 : Int32)) - x5)) rfl (fun _ => rfl) (fun hc => ?_) (fun hc => ?_)
        · replace h := h.1 hc
          exact h
        · replace h := h.2 hc
          refine ev_n 3 (fun _ => rfl) ?_
          exact h
    · replace h := h.2 hc
      exact ev_ret rfl (fun _ => rfl) h
set_option maxRecDepth 20000 in
theorem e_X12_tryEnds_78 {x1 : Int32} {x2 : Int32} {x3 : Int32} {r_X12_tryEnds : Fn_} {x4 : Int32} {x5 : Int32} {σ : St_} {out : Out_}  (h : (vpin_ x1 9 = true) ∧ (((x2 - (1 : Int32)) ≤ x1 → (∃ (v2 : Int32) (σ1 : St_), f_X12_over KC [.ref 219, .int x2] (sI_ σ 237 (Int32.toNatClampNeg x1) x5) = some (some (.int v2), σ1) ∧ (((σ1.1 219 43) = ((-1) : Int32) → Ev_ (P_X12_tryEnds KC r_X12_tryEnds) 144 [some (.ref 219), some (.int x1), some (.int x2), some (.int x3), some (.int x4), some (.int x5), none, some (.int (0 : Int32))] [] (sI_ σ1 219 43 v2) out) ∧ (¬ ((σ1.1 219 43) = ((-1) : Int32)) → ((v2 < (σ1.1 219 43) → Ev_ (P_X12_tryEnds KC r_X12_tryEnds) 144 [some (.ref 219), some (.int x1), some (.int x2), some (.int x3), some (.int x4), some (.int x5), none, some (.int (0 : Int32))] [] (sI_ σ1 219 43 v2) out) ∧ (¬ (v2 < (σ1.1 219 43)) → Ev_ (P_X12_tryEnds KC r_X12_tryEnds) 6 [some (.ref 219), some (.int x1), some (.int x2), some (.int x3), some (.int x4), some (.int (x5 + 1)), none, none] [] σ1 out)))))) ∧ (¬ ((x2 - (1 : Int32)) ≤ x1) → (∃ (σ3 : St_), r_X12_tryEnds [.ref 219, .int (x1 + (1 : Int32)), .int x2, .int (x5 + (1 : Int32))] (sI_ σ 237 (Int32.toNatClampNeg x1) x5) = some (none, σ3) ∧ Ev_ (P_X12_tryEnds KC r_X12_tryEnds) 6 [some (.ref 219), some (.int x1), some (.int x2), some (.int x3), some (.int x4), some (.int (x5 + 1)), none, none] [] σ3 out)))) : Ev_ (P_X12_tryEnds KC r_X12_tryEnds) 78 [some (.ref 219), some (.int x1), some (.int x2), some (.int x3), some (.int x4), some (.int x5), none, none] [] σ out := by
  refine ev_n 1 (fun _ => rfl) ?_
  refine ev_go rfl (w_gF rfl rfl) ?_
  refine ev_n 2 (fun _ => rfl) ?_
  obtain ⟨h0, h⟩ := h
  refine ev_go rfl (w_iast rfl h0) ?_
  refine ev_n 4 (fun _ => rfl) ?_
  refine ev_if (c := (x2 - (1 : Int32)) ≤ x1) rfl (fun _ => rfl) (fun hc => ?_) (fun hc => ?_)
  · replace h := h.1 hc
    refine ev_n 2 (fun _ => rfl) ?_
    obtain ⟨v2, σ1, hf, h⟩ := h
    refine ev_go rfl (w_callV rfl rfl rfl (Nat.le_of_ble_eq_true rfl) hf) ?_
    refine ev_n 2 (fun _ => rfl) ?_
    refine ev_go rfl (w_gI rfl) ?_
    refine ev_n 1 (fun _ => rfl) ?_
    refine ev_if (c := (σ1.1 219 43) = ((-1) : Int32)) rfl (fun _ => rfl) (fun hc => ?_) (fun hc => ?_)
    · replace h := h.1 hc
      refine ev_n 2 (fun _ => rfl) ?_
      refine ev_go rfl (w_pI rfl) ?_
      refine ev_n 2 (fun _ => rfl) ?_
      exact h
    · replace h := h.2 hc
      refine ev_n 2 (fun _ => rfl) ?_
      refine ev_go rfl (w_gI rfl) ?_
      refine ev_if (c := v2 < (σ1.1 219 43)) rfl (fun _ => rfl) (fun hc => ?_) (fun hc => ?_)
      · replace h := h.1 hc
        refine ev_n 2 (fun _ => rfl) ?_
        refine ev_go rfl (w_pI rfl) ?_
        refine ev_n 2 (fun _ => rfl) ?_
        exact h
      · replace h := h.2 hc
        refine ev_n 3 (fun _ => rfl) ?_
        exact h
  · replace h := h.2 hc
    refine ev_n 8 (fun _ => rfl) ?_
    obtain ⟨σ3, hf, h⟩ := h
    refine ev_go rfl (w_callV rfl rfl rfl (Nat.le_of_ble_eq_true rfl) hf) ?_
    refine ev_n 3 (fun _ => rfl) ?_
    exact h
set_option maxRecDepth 20000 in
theorem e_X12_tryEnds_144 {x1 : Int32} {x2 : Int32} {x3 : Int32} {r_X12_tryEnds : Fn_} {x4 : Int32} {x5 : Int32} {x7 : Int32} {σ : St_} {out : Out_}  (h : ((x2 ≤ x7 → Ev_ (P_X12_tryEnds KC r_X12_tryEnds) 6 [some (.ref 219), some (.int x1), some (.int x2), some (.int x3), some (.int x4), some (.int (x5 + 1)), none, none] [] σ out) ∧ (¬ (x2 ≤ x7) → (vpin_ x7 9 = true) ∧ (vpin_ x7 9 = true) ∧ Ev_ (P_X12_tryEnds KC r_X12_tryEnds) 144 [some (.ref 219), some (.int x1), some (.int x2), some (.int x3), some (.int x4), some (.int x5), none, some (.int (x7 + 1))] [] (sI_ σ 239 (Int32.toNatClampNeg x7) (σ.1 237 (Int32.toNatClampNeg x7))) out))) : Ev_ (P_X12_tryEnds KC r_X12_tryEnds) 144 [some (.ref 219), some (.int x1), some (.int x2), some (.int x3), some (.int x4), some (.int x5), none, some (.int x7)] [] σ out := by
  refine ev_n 2 (fun _ => rfl) ?_
  refine ev_if (c := x2 ≤ x7) rfl (fun _ => rfl) (fun hc => ?_) (fun hc => ?_)
  · replace h := h.1 hc
    refine ev_n 2 (fun _ => rfl) ?_
    exact h
  · replace h := h.2 hc
    refine ev_n 1 (fun _ => rfl) ?_
    refine ev_go rfl (w_gF rfl rfl) ?_
    refine ev_n 2 (fun _ => rfl) ?_
    refine ev_go rfl (w_gF rfl rfl) ?_
    refine ev_n 1 (fun _ => rfl) ?_
    obtain ⟨h0, h⟩ := h
    refine ev_go rfl (w_iald rfl h0) ?_
    obtain ⟨h0, h⟩ := h
    refine ev_go rfl (w_iast rfl h0) ?_
    refine ev_n 2 (fun _ => rfl) ?_
    exact h
theorem m_X12_tryEnds (d : Nat) : ∀ pc o, (P_X12_tryEnds KC (f_X12_tryEnds KC d)).lookup pc = some o → Mon_ o := all_mon (a_X12_tryEnds (l := launch0) (E := EC0) EC0_ok (t_X12_tryEnds EC0_ok d))
theorem z_X12_tryEnds {x1 : Int32} {x2 : Int32} {x3 : Int32} {σ : St_} {out : Out_} {d : Nat} (h : Ev_ (P_X12_tryEnds KC (f_X12_tryEnds KC d)) 0 [some (.ref 219), some (.int x1), some (.int x2), some (.int x3), none, none, none, none] [] σ out) : f_X12_tryEnds KC (d + 1) [.ref 219, .int x1, .int x2, .int x3] σ = some out := show fn_ (P_X12_tryEnds KC (f_X12_tryEnds KC d)) 8 [.ref 219, .int x1, .int x2, .int x3] σ = some out from fn_eq (m_X12_tryEnds d) rfl h
set_option maxRecDepth 20000 in
theorem e_X12_cut_0 {x1 : Int32} {x2 : Int32} {σ : St_} {out : Out_}  (h : (∃ (σ1 : St_), f_X12_lay KC [.ref 219] (sI_ σ 219 0 (0 : Int32)) = some (none, σ1) ∧ (∃ (v3 : Int32) (σ2 : St_), f_X12_isIn KC [.int x1, .int (1 : Int32), .int (9 : Int32)] σ1 = some (some (.int v3), σ2) ∧ ((v3 = 0 → out = (some (.int ((-2) : Int32)), σ2)) ∧ (¬ (v3 = 0) → (∃ (v5 : Int32) (σ4 : St_), f_X12_isIn KC [.int x2, .int (1 : Int32), .int (999 : Int32)] σ2 = some (some (.int v5), σ4) ∧ ((v5 = 0 → out = (some (.int ((-2) : Int32)), σ4)) ∧ (¬ (v5 = 0) → (∃ (σ6 : St_), f_X12_tryEnds KC 80 [.ref 219, .int (0 : Int32), .int x1, .int (0 : Int32)] (sI_ (sI_ σ4 219 43 ((-1) : Int32)) 219 45 x2) = some (none, σ6) ∧ (((σ6.1 219 43) = ((-1) : Int32) → out = (some (.int ((-1) : Int32)), σ6)) ∧ (¬ ((σ6.1 219 43) = ((-1) : Int32)) → Ev_ (P_X12_cut KC) 67 [some (.ref 219), some (.int x1), some (.int x2), some (.int (0 : Int32))] [] (sI_ σ6 219 44 x1) out))))))))))) : Ev_ (P_X12_cut KC) 0 [some (.ref 219), some (.int x1), some (.int x2), none] [] σ out := by
  refine ev_n 2 (fun _ => rfl) ?_
  refine ev_go rfl (w_pI rfl) ?_
  refine ev_n 1 (fun _ => rfl) ?_
  obtain ⟨σ1, hf, h⟩ := h
  refine ev_go rfl (w_callV rfl rfl rfl (Nat.le_of_ble_eq_true rfl) hf) ?_
  refine ev_n 3 (fun _ => rfl) ?_
  obtain ⟨v3, σ2, hf, h⟩ := h
  refine ev_go rfl (w_callS ⟨Nat.le_of_ble_eq_true rfl, Nat.le_of_ble_eq_true rfl⟩ hf) ?_
  refine ev_if (c := v3 = 0) rfl (fun _ => rfl) (fun hc => ?_) (fun hc => ?_)
  · replace h := h.1 hc
    refine ev_n 1 (fun _ => rfl) ?_
    exact ev_ret rfl (fun _ => rfl) h
  · replace h := h.2 hc
    refine ev_n 3 (fun _ => rfl) ?_
    obtain ⟨v5, σ4, hf, h⟩ := h
    refine ev_go rfl (w_callS ⟨Nat.le_of_ble_eq_true rfl, Nat.le_of_ble_eq_true rfl⟩ hf) ?_
    refine ev_if (c := v5 = 0) rfl (fun _ => rfl) (fun hc => ?_) (fun hc => ?_)
    · replace h := h.1 hc
      refine ev_n 1 (fun _ => rfl) ?_
      exact ev_ret rfl (fun _ => rfl) h
    · replace h := h.2 hc
      refine ev_n 2 (fun _ => rfl) ?_
      refine ev_go rfl (w_pI rfl) ?_
      refine ev_n 2 (fun _ => rfl) ?_
      refine ev_go rfl (w_pI rfl) ?_
      refine ev_n 4 (fun _ => rfl) ?_
      obtain ⟨σ6, hf, h⟩ := h
      refine ev_go rfl (w_callV rfl rfl rfl (Nat.le_of_ble_eq_true rfl) hf) ?_
      refine ev_n 1 (fun _ => rfl) ?_
      refine ev_go rfl (w_gI rfl) ?_
      refine ev_n 1 (fun _ => rfl) ?_
      refine ev_if (c := (σ6.1 219 43) = ((-1) : Int32)) rfl (fun _ => rfl) (fun hc => ?_) (fun hc => ?_)
      · replace h := h.1 hc
        refine ev_n 1 (fun _ => rfl) ?_
        exact ev_ret rfl (fun _ => rfl) h
      · replace h := h.2 hc
        refine ev_n 2 (fun _ => rfl) ?_
        refine ev_go rfl (w_pI rfl) ?_
        refine ev_n 2 (fun _ => rfl) ?_
        exact h
set_option maxRecDepth 20000 in
theorem e_X12_cut_67 {x1 : Int32} {x2 : Int32} {x3 : Int32} {σ : St_} {out : Out_}  (h : ((x1 ≤ x3 → out = (some (.int (σ.1 219 43)), σ)) ∧ (¬ (x1 ≤ x3) → (vpin_ x3 9 = true) ∧ (vpin_ x3 9 = true) ∧ Ev_ (P_X12_cut KC) 67 [some (.ref 219), some (.int x1), some (.int x2), some (.int (x3 + 1))] [] (sI_ σ 238 (Int32.toNatClampNeg x3) (σ.1 239 (Int32.toNatClampNeg x3))) out))) : Ev_ (P_X12_cut KC) 67 [some (.ref 219), some (.int x1), some (.int x2), some (.int x3)] [] σ out := by
  refine ev_n 2 (fun _ => rfl) ?_
  refine ev_if (c := x1 ≤ x3) rfl (fun _ => rfl) (fun hc => ?_) (fun hc => ?_)
  · replace h := h.1 hc
    refine ev_n 1 (fun _ => rfl) ?_
    refine ev_go rfl (w_gI rfl) ?_
    exact ev_ret rfl (fun _ => rfl) h
  · replace h := h.2 hc
    refine ev_n 1 (fun _ => rfl) ?_
    refine ev_go rfl (w_gF rfl rfl) ?_
    refine ev_n 2 (fun _ => rfl) ?_
    refine ev_go rfl (w_gF rfl rfl) ?_
    refine ev_n 1 (fun _ => rfl) ?_
    obtain ⟨h0, h⟩ := h
    refine ev_go rfl (w_iald rfl h0) ?_
    obtain ⟨h0, h⟩ := h
    refine ev_go rfl (w_iast rfl h0) ?_
    refine ev_n 2 (fun _ => rfl) ?_
    exact h
theorem m_X12_cut : ∀ pc o, (P_X12_cut KC).lookup pc = some o → Mon_ o := all_mon (a_X12_cut (l := launch0) (E := EC0) EC0_ok)
theorem z_X12_cut {x1 : Int32} {x2 : Int32} {σ : St_} {out : Out_} (h : Ev_ (P_X12_cut KC) 0 [some (.ref 219), some (.int x1), some (.int x2), none] [] σ out) : f_X12_cut KC [.ref 219, .int x1, .int x2] σ = some out := fn_eq m_X12_cut rfl h
set_option maxRecDepth 20000 in
theorem e_X12_cutAt_0 {x1 : Int32} {σ : St_} {out : Out_}  (h : ((x1 < 0 → out = (some (.int ((-1) : Int32)), (sI_ σ 219 0 (0 : Int32)))) ∧ (¬ (x1 < 0) → ((((sI_ σ 219 0 (0 : Int32)).1 219 44) ≤ x1 → out = (some (.int ((-1) : Int32)), (sI_ σ 219 0 (0 : Int32)))) ∧ (¬ (((sI_ σ 219 0 (0 : Int32)).1 219 44) ≤ x1) → (vpin_ x1 9 = true) ∧ out = (some (.int ((sI_ σ 219 0 (0 : Int32)).1 238 (Int32.toNatClampNeg x1))), (sI_ σ 219 0 (0 : Int32)))))))) : Ev_ (P_X12_cutAt KC) 0 [some (.ref 219), some (.int x1)] [] σ out := by
  refine ev_n 2 (fun _ => rfl) ?_
  refine ev_go rfl (w_pI rfl) ?_
  refine ev_n 1 (fun _ => rfl) ?_
  refine ev_if (c := x1 < 0) rfl (fun _ => rfl) (fun hc => ?_) (fun hc => ?_)
  · replace h := h.1 hc
    refine ev_n 1 (fun _ => rfl) ?_
    exact ev_ret rfl (fun _ => rfl) h
  · replace h := h.2 hc
    refine ev_n 2 (fun _ => rfl) ?_
    refine ev_go rfl (w_gI rfl) ?_
    refine ev_if (c := ((sI_ σ 219 0 (0 : Int32)).1 219 44) ≤ x1) rfl (fun _ => rfl) (fun hc => ?_) (fun hc => ?_)
    · replace h := h.1 hc
      refine ev_n 1 (fun _ => rfl) ?_
      exact ev_ret rfl (fun _ => rfl) h
    · replace h := h.2 hc
      refine ev_n 1 (fun _ => rfl) ?_
      refine ev_go rfl (w_gF rfl rfl) ?_
      refine ev_n 1 (fun _ => rfl) ?_
      obtain ⟨h0, h⟩ := h
      refine ev_go rfl (w_iald rfl h0) ?_
      refine ev_n 1 (fun _ => rfl) ?_
      exact ev_ret rfl (fun _ => rfl) h
theorem m_X12_cutAt : ∀ pc o, (P_X12_cutAt KC).lookup pc = some o → Mon_ o := all_mon (a_X12_cutAt (l := launch0) (E := EC0) EC0_ok)
theorem z_X12_cutAt {x1 : Int32} {σ : St_} {out : Out_} (h : Ev_ (P_X12_cutAt KC) 0 [some (.ref 219), some (.int x1)] [] σ out) : f_X12_cutAt KC [.ref 219, .int x1] σ = some out := fn_eq m_X12_cutAt rfl h
set_option maxRecDepth 20000 in
theorem e_X12_net_0 {x1 : Int32} {σ : St_} {out : Out_}  (h : (∃ (σ1 : St_), f_X12_lay KC [.ref 219] (sI_ σ 219 0 (0 : Int32)) = some (none, σ1) ∧ (∃ (v3 : Int32) (σ2 : St_), f_X12_take KC [.ref 219] σ1 = some (some (.int v3), σ2) ∧ (∃ (v5 : Int32) (σ4 : St_), f_X12_isIn KC [.int v3, .int (2 : Int32), .int (10 : Int32)] σ2 = some (some (.int v5), σ4) ∧ ((v5 = 0 → out = (some (.int ((-2) : Int32)), σ4)) ∧ (¬ (v5 = 0) → (∃ (v7 : Int32) (σ6 : St_), f_X12_isIn KC [.int x1, .int (1 : Int32), .int (9999 : Int32)] σ4 = some (some (.int v7), σ6) ∧ ((v7 = 0 → out = (some (.int ((-2) : Int32)), σ6)) ∧ (¬ (v7 = 0) → Ev_ (P_X12_net KC) 43 [some (.ref 219), some (.int x1), some (.int v3), some (.int (0 : Int32)), some (.int (0 : Int32)), none, none, none, none, none, none, none] [] σ6 out))))))))) : Ev_ (P_X12_net KC) 0 [some (.ref 219), some (.int x1), none, none, none, none, none, none, none, none, none, none] [] σ out := by
  refine ev_n 2 (fun _ => rfl) ?_
  refine ev_go rfl (w_pI rfl) ?_
  refine ev_n 1 (fun _ => rfl) ?_
  obtain ⟨σ1, hf, h⟩ := h
  refine ev_go rfl (w_callV rfl rfl rfl (Nat.le_of_ble_eq_true rfl) hf) ?_
  refine ev_n 1 (fun _ => rfl) ?_
  obtain ⟨v3, σ2, hf, h⟩ := h
  refine ev_go rfl (w_callV rfl rfl rfl (Nat.le_of_ble_eq_true rfl) hf) ?_
  refine ev_n 4 (fun _ => rfl) ?_
  obtain ⟨v5, σ4, hf, h⟩ := h
  refine ev_go rfl (w_callS ⟨Nat.le_of_ble_eq_true rfl, Nat.le_of_ble_eq_true rfl⟩ hf) ?_
  refine ev_if (c := v5 = 0) rfl (fun _ => rfl) (fun hc => ?_) (fun hc => ?_)
  · replace h := h.1 hc
    refine ev_n 1 (fun _ => rfl) ?_
    exact ev_ret rfl (fun _ => rfl) h
  · replace h := h.2 hc
    refine ev_n 3 (fun _ => rfl) ?_
    obtain ⟨v7, σ6, hf, h⟩ := h
    refine ev_go rfl (w_callS ⟨Nat.le_of_ble_eq_true rfl, Nat.le_of_ble_eq_true rfl⟩ hf) ?_
    refine ev_if (c := v7 = 0) rfl (fun _ => rfl) (fun hc => ?_) (fun hc => ?_)
    · replace h := h.1 hc
      refine ev_n 1 (fun _ => rfl) ?_
      exact ev_ret rfl (fun _ => rfl) h
    · replace h := h.2 hc
      refine ev_n 4 (fun _ => rfl) ?_
      exact h
set_option maxRecDepth 20000 in
theorem e_X12_net_43 {x1 : Int32} {x2 : Int32} {x3 : Int32} {x4 : Int32} {σ : St_} {out : Out_}  (h : ((x2 ≤ x4 → Ev_ (P_X12_net KC) 107 [some (.ref 219), some (.int x1), some (.int x2), none, some (.int ((-1) : Int32)), some (.int (0 : Int32)), some (.int (1 : Int32)), none, none, none, none, none] [] σ out) ∧ (¬ (x2 ≤ x4) → (vpin_ x4 1040 = true) ∧ (∃ (v2 : Int32) (σ1 : St_), f_X12_isChap KC [.ref 219, .int (σ.1 220 (Int32.toNatClampNeg x4))] σ = some (some (.int v2), σ1) ∧ ((v2 = 0 → out = (some (.int ((-2) : Int32)), σ1)) ∧ (¬ (v2 = 0) → (vpin_ x4 1040 = true) ∧ (∃ (v4 : Int32) (σ3 : St_), f_X12_has KC [.int x3, .int (σ1.1 220 (Int32.toNatClampNeg x4))] σ1 = some (some (.int v4), σ3) ∧ ((v4 = 0 → (vpin_ x4 1040 = true) ∧ Ev_ (P_X12_net KC) 43 [some (.ref 219), some (.int x1), some (.int x2), some (.int (x3 ||| ((1 : Int32) <<< ((σ3.1 220 (Int32.toNatClampNeg x4)) &&& 31)))), some (.int (x4 + 1)), none, none, none, none, none, none, none] [] σ3 out) ∧ (¬ (v4 = 0) → out = (some (.int ((-2) : Int32)), σ3)))))))))) : Ev_ (P_X12_net KC) 43 [some (.ref 219), some (.int x1), some (.int x2), some (.int x3), some (.int x4), none, none, none, none, none, none, none] [] σ out := by
  refine ev_n 2 (fun _ => rfl) ?_
  refine ev_if (c := x2 ≤ x4) rfl (fun _ => rfl) (fun hc => ?_) (fun hc => ?_)
  · replace h := h.1 hc
    refine ev_n 6 (fun _ => rfl) ?_
    exact h
  · replace h := h.2 hc
    refine ev_n 2 (fun _ => rfl) ?_
    refine ev_go rfl (w_gF rfl rfl) ?_
    refine ev_n 1 (fun _ => rfl) ?_
    obtain ⟨h0, h⟩ := h
    refine ev_go rfl (w_iald rfl h0) ?_
    obtain ⟨v2, σ1, hf, h⟩ := h
    refine ev_go rfl (w_callV rfl rfl rfl (Nat.le_of_ble_eq_true rfl) hf) ?_
    refine ev_if (c := v2 = 0) rfl (fun _ => rfl) (fun hc => ?_) (fun hc => ?_)
    · replace h := h.1 hc
      refine ev_n 1 (fun _ => rfl) ?_
      exact ev_ret rfl (fun _ => rfl) h
    · replace h := h.2 hc
      refine ev_n 2 (fun _ => rfl) ?_
      refine ev_go rfl (w_gF rfl rfl) ?_
      refine ev_n 1 (fun _ => rfl) ?_
      obtain ⟨h0, h⟩ := h
      refine ev_go rfl (w_iald rfl h0) ?_
      obtain ⟨v4, σ3, hf, h⟩ := h
      refine ev_go rfl (w_callS ⟨Nat.le_of_ble_eq_true rfl, Nat.le_of_ble_eq_true rfl⟩ hf) ?_
      refine ev_if (c := v4 = 0) rfl (fun _ => rfl) (fun hc => ?_) (fun hc => ?_)
      · replace h := h.1 hc
        refine ev_n 3 (fun _ => rfl) ?_
        refine ev_go rfl (w_gF rfl rfl) ?_
        refine ev_n 1 (fun _ => rfl) ?_
        obtain ⟨h0, h⟩ := h
        refine ev_go rfl (w_iald rfl h0) ?_
        refine ev_n 5 (fun _ => rfl) ?_
        exact h
      · replace h := h.2 hc
        refine ev_n 1 (fun _ => rfl) ?_
        exact ev_ret rfl (fun _ => rfl) h
set_option maxRecDepth 20000 in
theorem e_X12_net_107 {x1 : Int32} {x2 : Int32} {x4 : Int32} {x5 : Int32} {x6 : Int32} {σ : St_} {out : Out_}  (h : ((((1 : Int32) <<< ((x2 - (1 : Int32)) &&& 31)) ≤ x6 → ((x4 = ((-1) : Int32) → out = (some (.int x4), σ)) ∧ (¬ (x4 = ((-1) : Int32)) → out = (some (.int x4), (sI_ σ 219 47 x5))))) ∧ (¬ (((1 : Int32) <<< ((x2 - (1 : Int32)) &&& 31)) ≤ x6) → Ev_ (P_X12_net KC) 129 [some (.ref 219), some (.int x1), some (.int x2), none, some (.int x4), some (.int x5), some (.int x6), some (.int (0 : Int32)), some (.int (0 : Int32)), some (.int (0 : Int32)), some (.int (0 : Int32)), none] [] σ out))) : Ev_ (P_X12_net KC) 107 [some (.ref 219), some (.int x1), some (.int x2), none, some (.int x4), some (.int x5), some (.int x6), none, none, none, none, none] [] σ out := by
  refine ev_n 6 (fun _ => rfl) ?_
  refine ev_if (c := ((1 : Int32) <<< ((x2 - (1 : Int32)) &&& 31)) ≤ x6) rfl (fun _ => rfl) (fun hc => ?_) (fun hc => ?_)
  · replace h := h.1 hc
    refine ev_n 2 (fun _ => rfl) ?_
    refine ev_if (c := x4 = ((-1) : Int32)) rfl (fun _ => rfl) (fun hc => ?_) (fun hc => ?_)
    · replace h := h.1 hc
      refine ev_n 1 (fun _ => rfl) ?_
      exact ev_ret rfl (fun _ => rfl) h
    · replace h := h.2 hc
      refine ev_n 2 (fun _ => rfl) ?_
      refine ev_go rfl (w_pI rfl) ?_
      refine ev_n 1 (fun _ => rfl) ?_
      exact ev_ret rfl (fun _ => rfl) h
  · replace h := h.2 hc
    refine ev_n 8 (fun _ => rfl) ?_
    exact h
set_option maxRecDepth 20000 in
theorem e_X12_net_129 {x1 : Int32} {x2 : Int32} {x4 : Int32} {x5 : Int32} {x6 : Int32} {x7 : Int32} {x8 : Int32} {x9 : Int32} {x10 : Int32} {σ : St_} {out : Out_}  (h : ((x2 ≤ x10 → ((x1 < x7 → Ev_ (P_X12_net KC) 107 [some (.ref 219), some (.int x1), some (.int x2), none, some (.int x4), some (.int x5), some (.int (x6 + 1)), none, none, none, none, none] [] σ out) ∧ (¬ (x1 < x7) → ((x1 < x8 → Ev_ (P_X12_net KC) 107 [some (.ref 219), some (.int x1), some (.int x2), none, some (.int x4), some (.int x5), some (.int (x6 + 1)), none, none, none, none, none] [] σ out) ∧ (¬ (x1 < x8) → ((x4 = ((-1) : Int32) → Ev_ (P_X12_net KC) 107 [some (.ref 219), some (.int x1), some (.int x2), none, some (.int x9), some (.int x6), some (.int (x6 + 1)), none, none, none, none, none] [] σ out) ∧ (¬ (x4 = ((-1) : Int32)) → ((x9 < x4 → Ev_ (P_X12_net KC) 107 [some (.ref 219), some (.int x1), some (.int x2), none, some (.int x9), some (.int x6), some (.int (x6 + 1)), none, none, none, none, none] [] σ out) ∧ (¬ (x9 < x4) → Ev_ (P_X12_net KC) 107 [some (.ref 219), some (.int x1), some (.int x2), none, some (.int x4), some (.int x5), some (.int (x6 + 1)), none, none, none, none, none] [] σ out))))))))) ∧ (¬ (x2 ≤ x10) → (∃ (v2 : Int32) (σ1 : St_), f_X12_has KC [.int x6, .int x10] σ = some (some (.int v2), σ1) ∧ ((v2 = 0 → (vpin_ x10 1040 = true) ∧ (∃ (v4 : Int32) (σ3 : St_), f_X12_chapOf KC [.ref 219, .int (σ1.1 220 (Int32.toNatClampNeg x10)), .int (0 : Int32)] σ1 = some (some (.int v4), σ3) ∧ Ev_ (P_X12_net KC) 185 [some (.ref 219), some (.int x1), some (.int x2), none, some (.int x4), some (.int x5), some (.int x6), some (.int x7), some (.int (x8 + v4)), some (.int x9), some (.int x10), some (.int (0 : Int32))] [] σ3 out)) ∧ (¬ (v2 = 0) → (vpin_ x10 1040 = true) ∧ (∃ (v6 : Int32) (σ5 : St_), f_X12_chapOf KC [.ref 219, .int (σ1.1 220 (Int32.toNatClampNeg x10)), .int (0 : Int32)] σ1 = some (some (.int v6), σ5) ∧ Ev_ (P_X12_net KC) 185 [some (.ref 219), some (.int x1), some (.int x2), none, some (.int x4), some (.int x5), some (.int x6), some (.int (x7 + v6)), some (.int x8), some (.int x9), some (.int x10), some (.int (0 : Int32))] [] σ5 out))))))) : Ev_ (P_X12_net KC) 129 [some (.ref 219), some (.int x1), some (.int x2), none, some (.int x4), some (.int x5), some (.int x6), some (.int x7), some (.int x8), some (.int x9), some (.int x10), none] [] σ out := by
  refine ev_n 2 (fun _ => rfl) ?_
  refine ev_if (c := x2 ≤ x10) rfl (fun _ => rfl) (fun hc => ?_) (fun hc => ?_)
  · replace h := h.1 hc
    refine ev_n 2 (fun _ => rfl) ?_
    refine ev_if (c := x1 < x7) rfl (fun _ => rfl) (fun hc => ?_) (fun hc => ?_)
    · replace h := h.1 hc
      refine ev_n 2 (fun _ => rfl) ?_
      exact h
    · replace h := h.2 hc
      refine ev_n 2 (fun _ => rfl) ?_
      refine ev_if (c := x1 < x8) rfl (fun _ => rfl) (fun hc => ?_) (fun hc => ?_)
      · replace h := h.1 hc
        refine ev_n 2 (fun _ => rfl) ?_
        exact h
      · replace h := h.2 hc
        refine ev_n 2 (fun _ => rfl) ?_
        refine ev_if (c := x4 = ((-1) : Int32)) rfl (fun _ => rfl) (fun hc => ?_) (fun hc => ?_)
        · replace h := h.1 hc
          refine ev_n 6 (fun _ => rfl) ?_
          exact h
        · replace h := h.2 hc
          refine ev_n 2 (fun _ => rfl) ?_
          refine ev_if (c := x9 < x4) rfl (fun _ => rfl) (fun hc => ?_) (fun hc => ?_)
          · replace h := h.1 hc
            refine ev_n 6 (fun _ => rfl) ?_
            exact h
          · replace h := h.2 hc
            refine ev_n 3 (fun _ => rfl) ?_
            exact h
  · replace h := h.2 hc
    refine ev_n 2 (fun _ => rfl) ?_
    obtain ⟨v2, σ1, hf, h⟩ := h
    refine ev_go rfl (w_callS ⟨Nat.le_of_ble_eq_true rfl, Nat.le_of_ble_eq_true rfl⟩ hf) ?_
    refine ev_if (c := v2 = 0) rfl (fun _ => rfl) (fun hc => ?_) (fun hc => ?_)
    · replace h := h.1 hc
      refine ev_n 3 (fun _ => rfl) ?_
      refine ev_go rfl (w_gF rfl rfl) ?_
      refine ev_n 1 (fun _ => rfl) ?_
      obtain ⟨h0, h⟩ := h
      refine ev_go rfl (w_iald rfl h0) ?_
      refine ev_n 1 (fun _ => rfl) ?_
      obtain ⟨v4, σ3, hf, h⟩ := h
      refine ev_go rfl (w_callV rfl rfl rfl (Nat.le_of_ble_eq_true rfl) hf) ?_
      refine ev_n 4 (fun _ => rfl) ?_
      exact h
    · replace h := h.2 hc
      refine ev_n 3 (fun _ => rfl) ?_
      refine ev_go rfl (w_gF rfl rfl) ?_
      refine ev_n 1 (fun _ => rfl) ?_
      obtain ⟨h0, h⟩ := h
      refine ev_go rfl (w_iald rfl h0) ?_
      refine ev_n 1 (fun _ => rfl) ?_
      obtain ⟨v6, σ5, hf, h⟩ := h
      refine ev_go rfl (w_callV rfl rfl rfl (Nat.le_of_ble_eq_true rfl) hf) ?_
      refine ev_n 5 (fun _ => rfl) ?_
      exact h
set_option maxRecDepth 20000 in
theorem e_X12_net_185 {x1 : Int32} {x2 : Int32} {x4 : Int32} {x5 : Int32} {x6 : Int32} {x7 : Int32} {x8 : Int32} {x9 : Int32} {x10 : Int32} {x11 : Int32} {σ : St_} {out : Out_}  (h : ((x2 ≤ x11 → Ev_ (P_X12_net KC) 129 [some (.ref 219), some (.int x1), some (.int x2), none, some (.int x4), some (.int x5), some (.int x6), some (.int x7), some (.int x8), some (.int x9), some (.int (x10 + 1)), none] [] σ out) ∧ (¬ (x2 ≤ x11) → (∃ (v2 : Int32) (σ1 : St_), f_X12_has KC [.int x6, .int x10] σ = some (some (.int v2), σ1) ∧ (∃ (v4 : Int32) (σ3 : St_), f_X12_has KC [.int x6, .int x11] σ1 = some (some (.int v4), σ3) ∧ ((v2 = v4 → Ev_ (P_X12_net KC) 185 [some (.ref 219), some (.int x1), some (.int x2), none, some (.int x4), some (.int x5), some (.int x6), some (.int x7), some (.int x8), some (.int x9), some (.int x10), some (.int (x11 + 1))] [] σ3 out) ∧ (¬ (v2 = v4) → (vpin_ x11 1040 = true) ∧ (vpin_ x10 1040 = true) ∧ (((σ3.1 220 (Int32.toNatClampNeg x10)) ≤ (σ3.1 220 (Int32.toNatClampNeg x11)) → Ev_ (P_X12_net KC) 185 [some (.ref 219), some (.int x1), some (.int x2), none, some (.int x4), some (.int x5), some (.int x6), some (.int x7), some (.int x8), some (.int x9), some (.int x10), some (.int (x11 + 1))] [] σ3 out) ∧ (¬ ((σ3.1 220 (Int32.toNatClampNeg x10)) ≤ (σ3.1 220 (Int32.toNatClampNeg x11))) → (vpin_ x10 1040 = true) ∧ (vpin_ x11 1040 = true) ∧ (∃ (v6 : Int32) (σ5 : St_), f_X12_leanOf KC [.ref 219, .int (σ3.1 220 (Int32.toNatClampNeg x10)), .int (σ3.1 220 (Int32.toNatClampNeg x11))] σ3 = some (some (.int v6), σ5) ∧ Ev_ (P_X12_net KC) 185 [some (.ref 219), some (.int x1), some (.int x2), none, some (.int x4), some (.int x5), some (.int x6), some (.int x7), some (.int x8), some (.int (x9 + v6)), some (.int x10), some (.int (x11 + 1))] [] σ5 out)))))))))) : Ev_ (P_X12_net KC) 185 [some (.ref 219), some (.int x1), some (.int x2), none, some (.int x4), some (.int x5), some (.int x6), some (.int x7), some (.int x8), some (.int x9), some (.int x10), some (.int x11)] [] σ out := by
  refine ev_n 2 (fun _ => rfl) ?_
  refine ev_if (c := x2 ≤ x11) rfl (fun _ => rfl) (fun hc => ?_) (fun hc => ?_)
  · replace h := h.1 hc
    refine ev_n 2 (fun _ => rfl) ?_
    exact h
  · replace h := h.2 hc
    refine ev_n 2 (fun _ => rfl) ?_
    obtain ⟨v2, σ1, hf, h⟩ := h
    refine ev_go rfl (w_callS ⟨Nat.le_of_ble_eq_true rfl, Nat.le_of_ble_eq_true rfl⟩ hf) ?_
    refine ev_n 2 (fun _ => rfl) ?_
    obtain ⟨v4, σ3, hf, h⟩ := h
    refine ev_go rfl (w_callS ⟨Nat.le_of_ble_eq_true rfl, Nat.le_of_ble_eq_true rfl⟩ hf) ?_
    refine ev_if (c := v2 = v4) rfl (fun _ => rfl) (fun hc => ?_) (fun hc => ?_)
    · replace h := h.1 hc
      refine ev_n 2 (fun _ => rfl) ?_
      exact h
    · replace h := h.2 hc
      refine ev_n 1 (fun _ => rfl) ?_
      refine ev_go rfl (w_gF rfl rfl) ?_
      refine ev_n 1 (fun _ => rfl) ?_
      obtain ⟨h0, h⟩ := h
      refine ev_go rfl (w_iald rfl h0) ?_
      refine ev_n 1 (fun _ => rfl) ?_
      refine ev_go rfl (w_gF rfl rfl) ?_
      refine ev_n 1 (fun _ => rfl) ?_
      obtain ⟨h0, h⟩ := h
      refine ev_go rfl (w_iald rfl h0) ?_
      refine ev_if (c := (σ3.1 220 (Int32.toNatClampNeg x10)) ≤ (σ3.1 220 (Int32.toNatClampNeg x11))) rfl (fun _ => rfl) (fun hc => ?_) (fun hc => ?_)
      · replace h := h.1 hc
        refine ev_n 2 (fun _ => rfl) ?_
        exact h
      · replace h := h.2 hc
        refine ev_n 3 (fun _ => rfl) ?_
        refine ev_go rfl (w_gF rfl rfl) ?_
        refine ev_n 1 (fun _ => rfl) ?_
        obtain ⟨h0, h⟩ := h
        refine ev_go rfl (w_iald rfl h0) ?_
        refine ev_n 1 (fun _ => rfl) ?_
        refine ev_go rfl (w_gF rfl rfl) ?_
        refine ev_n 1 (fun _ => rfl) ?_
        obtain ⟨h0, h⟩ := h
        refine ev_go rfl (w_iald rfl h0) ?_
        obtain ⟨v6, σ5, hf, h⟩ := h
        refine ev_go rfl (w_callV rfl rfl rfl (Nat.le_of_ble_eq_true rfl) hf) ?_
        refine ev_n 4 (fun _ => rfl) ?_
        exact h
theorem m_X12_net : ∀ pc o, (P_X12_net KC).lookup pc = some o → Mon_ o := all_mon (a_X12_net (l := launch0) (E := EC0) EC0_ok)
theorem z_X12_net {x1 : Int32} {σ : St_} {out : Out_} (h : Ev_ (P_X12_net KC) 0 [some (.ref 219), some (.int x1), none, none, none, none, none, none, none, none, none, none] [] σ out) : f_X12_net KC [.ref 219, .int x1] σ = some out := fn_eq m_X12_net rfl h
set_option maxRecDepth 20000 in
theorem e_X12_netSide_0  {σ : St_} {out : Out_}  (h : out = (some (.int ((sI_ σ 219 0 (0 : Int32)).1 219 47)), (sI_ σ 219 0 (0 : Int32)))) : Ev_ (P_X12_netSide KC) 0 [some (.ref 219)] [] σ out := by
  refine ev_n 2 (fun _ => rfl) ?_
  refine ev_go rfl (w_pI rfl) ?_
  refine ev_n 1 (fun _ => rfl) ?_
  refine ev_go rfl (w_gI rfl) ?_
  exact ev_ret rfl (fun _ => rfl) h
theorem m_X12_netSide : ∀ pc o, (P_X12_netSide KC).lookup pc = some o → Mon_ o := all_mon (a_X12_netSide (l := launch0) (E := EC0) EC0_ok)
theorem z_X12_netSide  {σ : St_} {out : Out_} (h : Ev_ (P_X12_netSide KC) 0 [some (.ref 219)] [] σ out) : f_X12_netSide KC [.ref 219] σ = some out := fn_eq m_X12_netSide rfl h
set_option maxRecDepth 20000 in
theorem e_X12_tryChain_0 {x1 : Int32} {x2 : Int32} {x3 : Int32} {x4 : Int32} {r_X12_tryChain : Fn_} {σ : St_} {out : Out_}  (h : ((x1 = (σ.1 219 54) → (((σ.1 219 52) < x4 → Ev_ (P_X12_tryChain KC r_X12_tryChain) 27 [some (.ref 219), some (.int x1), some (.int x2), some (.int x3), some (.int x4), some (.int (0 : Int32)), none] [] (sI_ σ 219 52 x4) out) ∧ (¬ ((σ.1 219 52) < x4) → out = (none, σ)))) ∧ (¬ (x1 = (σ.1 219 54)) → Ev_ (P_X12_tryChain KC r_X12_tryChain) 57 [some (.ref 219), some (.int x1), some (.int x2), some (.int x3), some (.int x4), some (.int (0 : Int32)), none] [] σ out))) : Ev_ (P_X12_tryChain KC r_X12_tryChain) 0 [some (.ref 219), some (.int x1), some (.int x2), some (.int x3), some (.int x4), none, none] [] σ out := by
  refine ev_n 2 (fun _ => rfl) ?_
  refine ev_go rfl (w_gI rfl) ?_
  refine ev_if (c := x1 = (σ.1 219 54)) rfl (fun _ => rfl) (fun hc => ?_) (fun hc => ?_)
  · replace h := h.1 hc
    refine ev_n 2 (fun _ => rfl) ?_
    refine ev_go rfl (w_gI rfl) ?_
    refine ev_if (c := (σ.1 219 52) < x4) rfl (fun _ => rfl) (fun hc => ?_) (fun hc => ?_)
    · replace h := h.1 hc
      refine ev_n 2 (fun _ => rfl) ?_
      refine ev_go rfl (w_pI rfl) ?_
      refine ev_n 2 (fun _ => rfl) ?_
      exact h
    · replace h := h.2 hc
      exact ev_ret rfl (fun _ => rfl) h
  · replace h := h.2 hc
    refine ev_n 2 (fun _ => rfl) ?_
    exact h
set_option maxRecDepth 20000 in
theorem e_X12_tryChain_27 {x1 : Int32} {x2 : Int32} {x3 : Int32} {x4 : Int32} {r_X12_tryChain : Fn_} {x5 : Int32} {σ : St_} {out : Out_}  (h : ((x1 ≤ x5 → out = (none, σ)) ∧ (¬ (x1 ≤ x5) → (vpin_ x5 7 = true) ∧ (vpin_ x5 7 = true) ∧ Ev_ (P_X12_tryChain KC r_X12_tryChain) 27 [some (.ref 219), some (.int x1), some (.int x2), some (.int x3), some (.int x4), some (.int (x5 + 1)), none] [] (sI_ σ 242 (Int32.toNatClampNeg x5) (σ.1 240 (Int32.toNatClampNeg x5))) out))) : Ev_ (P_X12_tryChain KC r_X12_tryChain) 27 [some (.ref 219), some (.int x1), some (.int x2), some (.int x3), some (.int x4), some (.int x5), none] [] σ out := by
  refine ev_n 2 (fun _ => rfl) ?_
  refine ev_if (c := x1 ≤ x5) rfl (fun _ => rfl) (fun hc => ?_) (fun hc => ?_)
  · replace h := h.1 hc
    exact ev_ret rfl (fun _ => rfl) h
  · replace h := h.2 hc
    refine ev_n 1 (fun _ => rfl) ?_
    refine ev_go rfl (w_gF rfl rfl) ?_
    refine ev_n 2 (fun _ => rfl) ?_
    refine ev_go rfl (w_gF rfl rfl) ?_
    refine ev_n 1 (fun _ => rfl) ?_
    obtain ⟨h0, h⟩ := h
    refine ev_go rfl (w_iald rfl h0) ?_
    obtain ⟨h0, h⟩ := h
    refine ev_go rfl (w_iast rfl h0) ?_
    refine ev_n 2 (fun _ => rfl) ?_
    exact h
set_option maxRecDepth 20000 in
theorem e_X12_tryChain_57 {x1 : Int32} {x2 : Int32} {x3 : Int32} {x4 : Int32} {r_X12_tryChain : Fn_} {x5 : Int32} {σ : St_} {out : Out_}  (h : (((σ.1 219 54) ≤ x5 → out = (none, σ)) ∧ (¬ ((σ.1 219 54) ≤ x5) → (∃ (v2 : Int32) (σ1 : St_), f_X12_has KC [.int x2, .int x5] σ = some (some (.int v2), σ1) ∧ ((v2 = 0 → ((x1 = 0 → ((x5 ≤ 0 → Ev_ (P_X12_tryChain KC r_X12_tryChain) 87 [some (.ref 219), some (.int x1), some (.int x2), some (.int x3), some (.int x4), some (.int x5), none] [] σ1 out) ∧ (¬ (x5 ≤ 0) → Ev_ (P_X12_tryChain KC r_X12_tryChain) 57 [some (.ref 219), some (.int x1), some (.int x2), some (.int x3), some (.int x4), some (.int (x5 + 1)), none] [] σ1 out))) ∧ (¬ (x1 = 0) → Ev_ (P_X12_tryChain KC r_X12_tryChain) 87 [some (.ref 219), some (.int x1), some (.int x2), some (.int x3), some (.int x4), some (.int x5), none] [] σ1 out))) ∧ (¬ (v2 = 0) → Ev_ (P_X12_tryChain KC r_X12_tryChain) 57 [some (.ref 219), some (.int x1), some (.int x2), some (.int x3), some (.int x4), some (.int (x5 + 1)), none] [] σ1 out)))))) : Ev_ (P_X12_tryChain KC r_X12_tryChain) 57 [some (.ref 219), some (.int x1), some (.int x2), some (.int x3), some (.int x4), some (.int x5), none] [] σ out := by
  refine ev_n 2 (fun _ => rfl) ?_
  refine ev_go rfl (w_gI rfl) ?_
  refine ev_if (c := (σ.1 219 54) ≤ x5) rfl (fun _ => rfl) (fun hc => ?_) (fun hc => ?_)
  · replace h := h.1 hc
    exact ev_ret rfl (fun _ => rfl) h
  · replace h := h.2 hc
    refine ev_n 2 (fun _ => rfl) ?_
    obtain ⟨v2, σ1, hf, h⟩ := h
    refine ev_go rfl (w_callS ⟨Nat.le_of_ble_eq_true rfl, Nat.le_of_ble_eq_true rfl⟩ hf) ?_
    refine ev_if (c := v2 = 0) rfl (fun _ => rfl) (fun hc => ?_) (fun hc => ?_)
    · replace h := h.1 hc
      refine ev_n 1 (fun _ => rfl) ?_
      refine ev_if (c := x1 = 0) rfl (fun _ => rfl) (fun hc => ?_) (fun hc => ?_)
      · replace h := h.1 hc
        refine ev_n 1 (fun _ => rfl) ?_
        refine ev_if (c := x5 ≤ 0) rfl (fun _ => rfl) (fun hc => ?_) (fun hc => ?_)
        · replace h := h.1 hc
          exact h
        · replace h := h.2 hc
          refine ev_n 3 (fun _ => rfl) ?_
          exact h
      · replace h := h.2 hc
        exact h
    · replace h := h.2 hc
      refine ev_n 2 (fun _ => rfl) ?_
      exact h
set_option maxRecDepth 20000 in
theorem e_X12_tryChain_87 {x1 : Int32} {x2 : Int32} {x3 : Int32} {x4 : Int32} {r_X12_tryChain : Fn_} {x5 : Int32} {σ : St_} {out : Out_}  (h : (vpin_ x5 7 = true) ∧ (vpin_ x1 7 = true) ∧ ((x1 = 0 → Ev_ (P_X12_tryChain KC r_X12_tryChain) 141 [some (.ref 219), some (.int x1), some (.int x2), some (.int x3), some (.int x4), some (.int x5), none] [.int (1000000 : Int32)] (sI_ σ 240 (Int32.toNatClampNeg x1) (σ.1 243 (Int32.toNatClampNeg x5))) out) ∧ (¬ (x1 = 0) → (vpin_ (x1 - (1 : Int32)) 7 = true) ∧ ((x1 = (1 : Int32) → (vpin_ x5 7 = true) ∧ (∃ (v2 : Int32) (σ1 : St_), f_X12_given KC [.ref 219, .int ((sI_ σ 240 (Int32.toNatClampNeg x1) (σ.1 243 (Int32.toNatClampNeg x5))).1 240 (Int32.toNatClampNeg (x1 - (1 : Int32)))), .int x3, .int (1 : Int32), .int ((sI_ σ 240 (Int32.toNatClampNeg x1) (σ.1 243 (Int32.toNatClampNeg x5))).1 243 (Int32.toNatClampNeg x5)), .int (4 : Int32)] (sI_ σ 240 (Int32.toNatClampNeg x1) (σ.1 243 (Int32.toNatClampNeg x5))) = some (some (.int v2), σ1) ∧ Ev_ (P_X12_tryChain KC r_X12_tryChain) 141 [some (.ref 219), some (.int x1), some (.int x2), some (.int x3), some (.int x4), some (.int x5), none] [.int v2] σ1 out)) ∧ (¬ (x1 = (1 : Int32)) → (vpin_ x5 7 = true) ∧ (∃ (v4 : Int32) (σ3 : St_), f_X12_given KC [.ref 219, .int ((sI_ σ 240 (Int32.toNatClampNeg x1) (σ.1 243 (Int32.toNatClampNeg x5))).1 240 (Int32.toNatClampNeg (x1 - (1 : Int32)))), .int x3, .int (0 : Int32), .int ((sI_ σ 240 (Int32.toNatClampNeg x1) (σ.1 243 (Int32.toNatClampNeg x5))).1 243 (Int32.toNatClampNeg x5)), .int (4 : Int32)] (sI_ σ 240 (Int32.toNatClampNeg x1) (σ.1 243 (Int32.toNatClampNeg x5))) = some (some (.int v4), σ3) ∧ Ev_ (P_X12_tryChain KC r_X12_tryChain) 141 [some (.ref 219), some (.int x1), some (.int x2), some (.int x3), some (.int x4), some (.int x5), none] [.int v4] σ3 out)))))) : Ev_ (P_X12_tryChain KC r_X12_tryChain) 87 [some (.ref 219), some (.int x1), some (.int x2), some (.int x3), some (.int x4), some (.int x5), none] [] σ out := by
  refine ev_n 1 (fun _ => rfl) ?_
  refine ev_go rfl (w_gF rfl rfl) ?_
  refine ev_n 2 (fun _ => rfl) ?_
  refine ev_go rfl (w_gF rfl rfl) ?_
  refine ev_n 1 (fun _ => rfl) ?_
  obtain ⟨h0, h⟩ := h
  refine ev_go rfl (w_iald rfl h0) ?_
  obtain ⟨h0, h⟩ := h
  refine ev_go rfl (w_iast rfl h0) ?_
  refine ev_n 1 (fun _ => rfl) ?_
  refine ev_if (c := x1 = 0) rfl (fun _ => rfl) (fun hc => ?_) (fun hc => ?_)
  · replace h := h.1 hc
    refine ev_n 2 (fun _ => rfl) ?_
    exact h
  · replace h := h.2 hc
    refine ev_n 2 (fun _ => rfl) ?_
    refine ev_go rfl (w_gF rfl rfl) ?_
    refine ev_n 3 (fun _ => rfl) ?_
    obtain ⟨h0, h⟩ := h
    refine ev_go rfl (w_iald rfl h0) ?_
    refine ev_n 3 (fun _ => rfl) ?_
    refine ev_if (c := x1 = (1 : Int32)) rfl (fun _ => rfl) (fun hc => ?_) (fun hc => ?_)
    · replace h := h.1 hc
      refine ev_n 3 (fun _ => rfl) ?_
      refine ev_go rfl (w_gF rfl rfl) ?_
      refine ev_n 1 (fun _ => rfl) ?_
      obtain ⟨h0, h⟩ := h
      refine ev_go rfl (w_iald rfl h0) ?_
      refine ev_n 1 (fun _ => rfl) ?_
      obtain ⟨v2, σ1, hf, h⟩ := h
      refine ev_goA rfl (w_callV rfl rfl rfl (Nat.le_of_ble_eq_true rfl) hf) rfl ?_
      exact h
    · replace h := h.2 hc
      refine ev_n 2 (fun _ => rfl) ?_
      refine ev_go rfl (w_gF rfl rfl) ?_
      refine ev_n 1 (fun _ => rfl) ?_
      obtain ⟨h0, h⟩ := h
      refine ev_go rfl (w_iald rfl h0) ?_
      refine ev_n 1 (fun _ => rfl) ?_
      obtain ⟨v4, σ3, hf, h⟩ := h
      refine ev_goA rfl (w_callV rfl rfl rfl (Nat.le_of_ble_eq_true rfl) hf) rfl ?_
      exact h
set_option maxRecDepth 20000 in
theorem e_X12_tryChain_141 {x1 : Int32} {x2 : Int32} {x3 : Int32} {x4 : Int32} {r_X12_tryChain : Fn_} {x5 : Int32} {y0 : Int32} {σ : St_} {out : Out_}  (h : (∃ (σ1 : St_), r_X12_tryChain [.ref 219, .int (x1 + (1 : Int32)), .int (x2 ||| ((1 : Int32) <<< (x5 &&& 31))), .int y0, .int (x4 + y0)] σ = some (none, σ1) ∧ Ev_ (P_X12_tryChain KC r_X12_tryChain) 57 [some (.ref 219), some (.int x1), some (.int x2), some (.int x3), some (.int x4), some (.int (x5 + 1)), none] [] σ1 out)) : Ev_ (P_X12_tryChain KC r_X12_tryChain) 141 [some (.ref 219), some (.int x1), some (.int x2), some (.int x3), some (.int x4), some (.int x5), none] [.int y0] σ out := by
  refine ev_n 8 (fun _ => rfl) ?_
  refine ev_n 6 (fun _ => rfl) ?_
  obtain ⟨σ1, hf, h⟩ := h
  refine ev_go rfl (w_callV rfl rfl rfl (Nat.le_of_ble_eq_true rfl) hf) ?_
  refine ev_n 2 (fun _ => rfl) ?_
  exact h
theorem m_X12_tryChain (d : Nat) : ∀ pc o, (P_X12_tryChain KC (f_X12_tryChain KC d)).lookup pc = some o → Mon_ o := all_mon (a_X12_tryChain (l := launch0) (E := EC0) EC0_ok (t_X12_tryChain EC0_ok d))
theorem z_X12_tryChain {x1 : Int32} {x2 : Int32} {x3 : Int32} {x4 : Int32} {σ : St_} {out : Out_} {d : Nat} (h : Ev_ (P_X12_tryChain KC (f_X12_tryChain KC d)) 0 [some (.ref 219), some (.int x1), some (.int x2), some (.int x3), some (.int x4), none, none] [] σ out) : f_X12_tryChain KC (d + 1) [.ref 219, .int x1, .int x2, .int x3, .int x4] σ = some out := show fn_ (P_X12_tryChain KC (f_X12_tryChain KC d)) 7 [.ref 219, .int x1, .int x2, .int x3, .int x4] σ = some out from fn_eq (m_X12_tryChain d) rfl h
set_option maxRecDepth 20000 in
theorem e_X12_chain_0  {σ : St_} {out : Out_}  (h : (∃ (σ1 : St_), f_X12_lay KC [.ref 219] (sI_ σ 219 0 (0 : Int32)) = some (none, σ1) ∧ (∃ (v3 : Int32) (σ2 : St_), f_X12_take KC [.ref 219] σ1 = some (some (.int v3), σ2) ∧ (∃ (v5 : Int32) (σ4 : St_), f_X12_isIn KC [.int ((sI_ σ2 219 54 v3).1 219 54), .int (2 : Int32), .int (7 : Int32)] (sI_ σ2 219 54 v3) = some (some (.int v5), σ4) ∧ ((v5 = 0 → out = (some (.int ((-1) : Int32)), σ4)) ∧ (¬ (v5 = 0) → Ev_ (P_X12_chain KC) 36 [some (.ref 219), some (.int (0 : Int32)), some (.int (0 : Int32))] [] σ4 out)))))) : Ev_ (P_X12_chain KC) 0 [some (.ref 219), none, none] [] σ out := by
  refine ev_n 2 (fun _ => rfl) ?_
  refine ev_go rfl (w_pI rfl) ?_
  refine ev_n 1 (fun _ => rfl) ?_
  obtain ⟨σ1, hf, h⟩ := h
  refine ev_go rfl (w_callV rfl rfl rfl (Nat.le_of_ble_eq_true rfl) hf) ?_
  refine ev_n 2 (fun _ => rfl) ?_
  obtain ⟨v3, σ2, hf, h⟩ := h
  refine ev_go rfl (w_callV rfl rfl rfl (Nat.le_of_ble_eq_true rfl) hf) ?_
  refine ev_go rfl (w_pI rfl) ?_
  refine ev_n 1 (fun _ => rfl) ?_
  refine ev_go rfl (w_gI rfl) ?_
  refine ev_n 2 (fun _ => rfl) ?_
  obtain ⟨v5, σ4, hf, h⟩ := h
  refine ev_go rfl (w_callS ⟨Nat.le_of_ble_eq_true rfl, Nat.le_of_ble_eq_true rfl⟩ hf) ?_
  refine ev_if (c := v5 = 0) rfl (fun _ => rfl) (fun hc => ?_) (fun hc => ?_)
  · replace h := h.1 hc
    refine ev_n 1 (fun _ => rfl) ?_
    exact ev_ret rfl (fun _ => rfl) h
  · replace h := h.2 hc
    refine ev_n 4 (fun _ => rfl) ?_
    exact h
set_option maxRecDepth 20000 in
theorem e_X12_chain_36 {x1 : Int32} {x2 : Int32} {σ : St_} {out : Out_}  (h : (((σ.1 219 54) ≤ x2 → (∃ (σ1 : St_), f_X12_tryChain KC 80 [.ref 219, .int (0 : Int32), .int (0 : Int32), .int (0 : Int32), .int (0 : Int32)] (sI_ σ 219 52 ((-1) : Int32)) = some (none, σ1) ∧ Ev_ (P_X12_chain KC) 124 [some (.ref 219), none, some (.int (0 : Int32))] [] (sI_ σ1 219 53 (σ1.1 219 54)) out)) ∧ (¬ ((σ.1 219 54) ≤ x2) → (vpin_ x2 1040 = true) ∧ (∃ (v3 : Int32) (σ2 : St_), f_X12_isReader KC [.ref 219, .int (σ.1 220 (Int32.toNatClampNeg x2))] σ = some (some (.int v3), σ2) ∧ ((v3 = 0 → out = (some (.int ((-1) : Int32)), σ2)) ∧ (¬ (v3 = 0) → (vpin_ x2 1040 = true) ∧ (∃ (v5 : Int32) (σ4 : St_), f_X12_has KC [.int x1, .int (σ2.1 220 (Int32.toNatClampNeg x2))] σ2 = some (some (.int v5), σ4) ∧ ((v5 = 0 → (vpin_ x2 1040 = true) ∧ (vpin_ x2 1040 = true) ∧ (vpin_ x2 7 = true) ∧ Ev_ (P_X12_chain KC) 36 [some (.ref 219), some (.int (x1 ||| ((1 : Int32) <<< ((σ4.1 220 (Int32.toNatClampNeg x2)) &&& 31)))), some (.int (x2 + 1))] [] (sI_ σ4 243 (Int32.toNatClampNeg x2) (σ4.1 220 (Int32.toNatClampNeg x2))) out) ∧ (¬ (v5 = 0) → out = (some (.int ((-1) : Int32)), σ4)))))))))) : Ev_ (P_X12_chain KC) 36 [some (.ref 219), some (.int x1), some (.int x2)] [] σ out := by
  refine ev_n 2 (fun _ => rfl) ?_
  refine ev_go rfl (w_gI rfl) ?_
  refine ev_if (c := (σ.1 219 54) ≤ x2) rfl (fun _ => rfl) (fun hc => ?_) (fun hc => ?_)
  · replace h := h.1 hc
    refine ev_n 2 (fun _ => rfl) ?_
    refine ev_go rfl (w_pI rfl) ?_
    refine ev_n 5 (fun _ => rfl) ?_
    obtain ⟨σ1, hf, h⟩ := h
    refine ev_go rfl (w_callV rfl rfl rfl (Nat.le_of_ble_eq_true rfl) hf) ?_
    refine ev_n 2 (fun _ => rfl) ?_
    refine ev_go rfl (w_gI rfl) ?_
    refine ev_go rfl (w_pI rfl) ?_
    refine ev_n 2 (fun _ => rfl) ?_
    exact h
  · replace h := h.2 hc
    refine ev_n 2 (fun _ => rfl) ?_
    refine ev_go rfl (w_gF rfl rfl) ?_
    refine ev_n 1 (fun _ => rfl) ?_
    obtain ⟨h0, h⟩ := h
    refine ev_go rfl (w_iald rfl h0) ?_
    obtain ⟨v3, σ2, hf, h⟩ := h
    refine ev_go rfl (w_callV rfl rfl rfl (Nat.le_of_ble_eq_true rfl) hf) ?_
    refine ev_if (c := v3 = 0) rfl (fun _ => rfl) (fun hc => ?_) (fun hc => ?_)
    · replace h := h.1 hc
      refine ev_n 1 (fun _ => rfl) ?_
      exact ev_ret rfl (fun _ => rfl) h
    · replace h := h.2 hc
      refine ev_n 2 (fun _ => rfl) ?_
      refine ev_go rfl (w_gF rfl rfl) ?_
      refine ev_n 1 (fun _ => rfl) ?_
      obtain ⟨h0, h⟩ := h
      refine ev_go rfl (w_iald rfl h0) ?_
      obtain ⟨v5, σ4, hf, h⟩ := h
      refine ev_go rfl (w_callS ⟨Nat.le_of_ble_eq_true rfl, Nat.le_of_ble_eq_true rfl⟩ hf) ?_
      refine ev_if (c := v5 = 0) rfl (fun _ => rfl) (fun hc => ?_) (fun hc => ?_)
      · replace h := h.1 hc
        refine ev_n 3 (fun _ => rfl) ?_
        refine ev_go rfl (w_gF rfl rfl) ?_
        refine ev_n 1 (fun _ => rfl) ?_
        obtain ⟨h0, h⟩ := h
        refine ev_go rfl (w_iald rfl h0) ?_
        refine ev_n 4 (fun _ => rfl) ?_
        refine ev_go rfl (w_gF rfl rfl) ?_
        refine ev_n 2 (fun _ => rfl) ?_
        refine ev_go rfl (w_gF rfl rfl) ?_
        refine ev_n 1 (fun _ => rfl) ?_
        obtain ⟨h0, h⟩ := h
        refine ev_go rfl (w_iald rfl h0) ?_
        obtain ⟨h0, h⟩ := h
        refine ev_go rfl (w_iast rfl h0) ?_
        refine ev_n 2 (fun _ => rfl) ?_
        exact h
      · replace h := h.2 hc
        refine ev_n 1 (fun _ => rfl) ?_
        exact ev_ret rfl (fun _ => rfl) h
set_option maxRecDepth 20000 in
theorem e_X12_chain_124 {x2 : Int32} {σ : St_} {out : Out_}  (h : (((σ.1 219 54) ≤ x2 → out = (some (.int (σ.1 219 52)), σ)) ∧ (¬ ((σ.1 219 54) ≤ x2) → (vpin_ x2 7 = true) ∧ (vpin_ x2 7 = true) ∧ Ev_ (P_X12_chain KC) 124 [some (.ref 219), none, some (.int (x2 + 1))] [] (sI_ σ 241 (Int32.toNatClampNeg x2) (σ.1 242 (Int32.toNatClampNeg x2))) out))) : Ev_ (P_X12_chain KC) 124 [some (.ref 219), none, some (.int x2)] [] σ out := by
  refine ev_n 2 (fun _ => rfl) ?_
  refine ev_go rfl (w_gI rfl) ?_
  refine ev_if (c := (σ.1 219 54) ≤ x2) rfl (fun _ => rfl) (fun hc => ?_) (fun hc => ?_)
  · replace h := h.1 hc
    refine ev_n 1 (fun _ => rfl) ?_
    refine ev_go rfl (w_gI rfl) ?_
    exact ev_ret rfl (fun _ => rfl) h
  · replace h := h.2 hc
    refine ev_n 1 (fun _ => rfl) ?_
    refine ev_go rfl (w_gF rfl rfl) ?_
    refine ev_n 2 (fun _ => rfl) ?_
    refine ev_go rfl (w_gF rfl rfl) ?_
    refine ev_n 1 (fun _ => rfl) ?_
    obtain ⟨h0, h⟩ := h
    refine ev_go rfl (w_iald rfl h0) ?_
    obtain ⟨h0, h⟩ := h
    refine ev_go rfl (w_iast rfl h0) ?_
    refine ev_n 2 (fun _ => rfl) ?_
    exact h
theorem m_X12_chain : ∀ pc o, (P_X12_chain KC).lookup pc = some o → Mon_ o := all_mon (a_X12_chain (l := launch0) (E := EC0) EC0_ok)
theorem z_X12_chain  {σ : St_} {out : Out_} (h : Ev_ (P_X12_chain KC) 0 [some (.ref 219), none, none] [] σ out) : f_X12_chain KC [.ref 219] σ = some out := fn_eq m_X12_chain rfl h
set_option maxRecDepth 20000 in
theorem e_X12_chainAt_0 {x1 : Int32} {σ : St_} {out : Out_}  (h : ((x1 < 0 → out = (some (.int ((-1) : Int32)), (sI_ σ 219 0 (0 : Int32)))) ∧ (¬ (x1 < 0) → ((((sI_ σ 219 0 (0 : Int32)).1 219 53) ≤ x1 → out = (some (.int ((-1) : Int32)), (sI_ σ 219 0 (0 : Int32)))) ∧ (¬ (((sI_ σ 219 0 (0 : Int32)).1 219 53) ≤ x1) → (vpin_ x1 7 = true) ∧ out = (some (.int ((sI_ σ 219 0 (0 : Int32)).1 241 (Int32.toNatClampNeg x1))), (sI_ σ 219 0 (0 : Int32)))))))) : Ev_ (P_X12_chainAt KC) 0 [some (.ref 219), some (.int x1)] [] σ out := by
  refine ev_n 2 (fun _ => rfl) ?_
  refine ev_go rfl (w_pI rfl) ?_
  refine ev_n 1 (fun _ => rfl) ?_
  refine ev_if (c := x1 < 0) rfl (fun _ => rfl) (fun hc => ?_) (fun hc => ?_)
  · replace h := h.1 hc
    refine ev_n 1 (fun _ => rfl) ?_
    exact ev_ret rfl (fun _ => rfl) h
  · replace h := h.2 hc
    refine ev_n 2 (fun _ => rfl) ?_
    refine ev_go rfl (w_gI rfl) ?_
    refine ev_if (c := ((sI_ σ 219 0 (0 : Int32)).1 219 53) ≤ x1) rfl (fun _ => rfl) (fun hc => ?_) (fun hc => ?_)
    · replace h := h.1 hc
      refine ev_n 1 (fun _ => rfl) ?_
      exact ev_ret rfl (fun _ => rfl) h
    · replace h := h.2 hc
      refine ev_n 1 (fun _ => rfl) ?_
      refine ev_go rfl (w_gF rfl rfl) ?_
      refine ev_n 1 (fun _ => rfl) ?_
      obtain ⟨h0, h⟩ := h
      refine ev_go rfl (w_iald rfl h0) ?_
      refine ev_n 1 (fun _ => rfl) ?_
      exact ev_ret rfl (fun _ => rfl) h
theorem m_X12_chainAt : ∀ pc o, (P_X12_chainAt KC).lookup pc = some o → Mon_ o := all_mon (a_X12_chainAt (l := launch0) (E := EC0) EC0_ok)
theorem z_X12_chainAt {x1 : Int32} {σ : St_} {out : Out_} (h : Ev_ (P_X12_chainAt KC) 0 [some (.ref 219), some (.int x1)] [] σ out) : f_X12_chainAt KC [.ref 219, .int x1] σ = some out := fn_eq m_X12_chainAt rfl h
set_option maxRecDepth 20000 in
theorem e_X12_alone_0 {x1 : Int32} {x2 : Int32} {σ : St_} {out : Out_}  (h : (∃ (σ1 : St_), f_X12_lay KC [.ref 219] (sI_ σ 219 0 (0 : Int32)) = some (none, σ1) ∧ (∃ (v3 : Int32) (σ2 : St_), f_X12_isReader KC [.ref 219, .int x1] σ1 = some (some (.int v3), σ2) ∧ ((v3 = 0 → out = (some (.int ((-1) : Int32)), σ2)) ∧ (¬ (v3 = 0) → (∃ (v5 : Int32) (σ4 : St_), f_X12_isIn KC [.int x2, .int (0 : Int32), .int (1 : Int32)] σ2 = some (some (.int v5), σ4) ∧ ((v5 = 0 → out = (some (.int ((-1) : Int32)), σ4)) ∧ (¬ (v5 = 0) → Ev_ (P_X12_alone KC) 36 [some (.ref 219), some (.int x1), some (.int x2), some (.int (0 : Int32)), some (.int (0 : Int32)), some (.int (0 : Int32)), none, none, none] [] σ4 out)))))))) : Ev_ (P_X12_alone KC) 0 [some (.ref 219), some (.int x1), some (.int x2), none, none, none, none, none, none] [] σ out := by
  refine ev_n 2 (fun _ => rfl) ?_
  refine ev_go rfl (w_pI rfl) ?_
  refine ev_n 1 (fun _ => rfl) ?_
  obtain ⟨σ1, hf, h⟩ := h
  refine ev_go rfl (w_callV rfl rfl rfl (Nat.le_of_ble_eq_true rfl) hf) ?_
  refine ev_n 2 (fun _ => rfl) ?_
  obtain ⟨v3, σ2, hf, h⟩ := h
  refine ev_go rfl (w_callV rfl rfl rfl (Nat.le_of_ble_eq_true rfl) hf) ?_
  refine ev_if (c := v3 = 0) rfl (fun _ => rfl) (fun hc => ?_) (fun hc => ?_)
  · replace h := h.1 hc
    refine ev_n 1 (fun _ => rfl) ?_
    exact ev_ret rfl (fun _ => rfl) h
  · replace h := h.2 hc
    refine ev_n 3 (fun _ => rfl) ?_
    obtain ⟨v5, σ4, hf, h⟩ := h
    refine ev_go rfl (w_callS ⟨Nat.le_of_ble_eq_true rfl, Nat.le_of_ble_eq_true rfl⟩ hf) ?_
    refine ev_if (c := v5 = 0) rfl (fun _ => rfl) (fun hc => ?_) (fun hc => ?_)
    · replace h := h.1 hc
      refine ev_n 1 (fun _ => rfl) ?_
      exact ev_ret rfl (fun _ => rfl) h
    · replace h := h.2 hc
      refine ev_n 6 (fun _ => rfl) ?_
      exact h
set_option maxRecDepth 20000 in
theorem e_X12_alone_36 {x1 : Int32} {x2 : Int32} {x3 : Int32} {x4 : Int32} {x5 : Int32} {σ : St_} {out : Out_}  (h : (∃ (v2 : Int32) (σ1 : St_), f_X12_chaps KC [.ref 219] σ = some (some (.int v2), σ1) ∧ ((((1 : Int32) <<< (v2 &&& 31)) ≤ x5 → ((x2 = 0 → out = (some (.int x4), σ1)) ∧ (¬ (x2 = 0) → out = (some (.int x3), σ1)))) ∧ (¬ (((1 : Int32) <<< (v2 &&& 31)) ≤ x5) → Ev_ (P_X12_alone KC) 56 [some (.ref 219), some (.int x1), some (.int x2), some (.int x3), some (.int x4), some (.int x5), some (.int (0 : Int32)), some (.int (0 : Int32)), some (.int (0 : Int32))] [] σ1 out)))) : Ev_ (P_X12_alone KC) 36 [some (.ref 219), some (.int x1), some (.int x2), some (.int x3), some (.int x4), some (.int x5), none, none, none] [] σ out := by
  refine ev_n 3 (fun _ => rfl) ?_
  obtain ⟨v2, σ1, hf, h⟩ := h
  refine ev_go rfl (w_callV rfl rfl rfl (Nat.le_of_ble_eq_true rfl) hf) ?_
  refine ev_n 1 (fun _ => rfl) ?_
  refine ev_if (c := ((1 : Int32) <<< (v2 &&& 31)) ≤ x5) rfl (fun _ => rfl) (fun hc => ?_) (fun hc => ?_)
  · replace h := h.1 hc
    refine ev_n 1 (fun _ => rfl) ?_
    refine ev_if (c := x2 = 0) rfl (fun _ => rfl) (fun hc => ?_) (fun hc => ?_)
    · replace h := h.1 hc
      refine ev_n 2 (fun _ => rfl) ?_
      exact ev_ret rfl (fun _ => rfl) h
    · replace h := h.2 hc
      refine ev_n 1 (fun _ => rfl) ?_
      exact ev_ret rfl (fun _ => rfl) h
  · replace h := h.2 hc
    refine ev_n 6 (fun _ => rfl) ?_
    exact h
set_option maxRecDepth 20000 in
theorem e_X12_alone_56 {x1 : Int32} {x2 : Int32} {x3 : Int32} {x4 : Int32} {x5 : Int32} {x6 : Int32} {x7 : Int32} {x8 : Int32} {σ : St_} {out : Out_}  (h : (∃ (v2 : Int32) (σ1 : St_), f_X12_chaps KC [.ref 219] σ = some (some (.int v2), σ1) ∧ ((v2 ≤ x8 → (∃ (v4 : Int32) (σ3 : St_), f_X12_readerOf KC [.ref 219, .int x1, .int (3 : Int32)] σ1 = some (some (.int v4), σ3) ∧ ((v4 < x6 → Ev_ (P_X12_alone KC) 36 [some (.ref 219), some (.int x1), some (.int x2), some (.int x3), some (.int x4), some (.int (x5 + 1)), none, none, none] [] σ3 out) ∧ (¬ (v4 < x6) → ((x4 < x7 → Ev_ (P_X12_alone KC) 36 [some (.ref 219), some (.int x1), some (.int x2), some (.int x5), some (.int x7), some (.int (x5 + 1)), none, none, none] [] σ3 out) ∧ (¬ (x4 < x7) → Ev_ (P_X12_alone KC) 36 [some (.ref 219), some (.int x1), some (.int x2), some (.int x3), some (.int x4), some (.int (x5 + 1)), none, none, none] [] σ3 out)))))) ∧ (¬ (v2 ≤ x8) → (∃ (v6 : Int32) (σ5 : St_), f_X12_has KC [.int x5, .int x8] σ1 = some (some (.int v6), σ5) ∧ ((v6 = 0 → Ev_ (P_X12_alone KC) 56 [some (.ref 219), some (.int x1), some (.int x2), some (.int x3), some (.int x4), some (.int x5), some (.int x6), some (.int x7), some (.int (x8 + 1))] [] σ5 out) ∧ (¬ (v6 = 0) → (∃ (v8 : Int32) (σ7 : St_), f_X12_timeToRead KC [.ref 219, .int x1, .int x8] σ5 = some (some (.int v8), σ7) ∧ (∃ (v10 : Int32) (σ9 : St_), f_X12_chapOf KC [.ref 219, .int x8, .int (1 : Int32)] σ7 = some (some (.int v10), σ9) ∧ Ev_ (P_X12_alone KC) 56 [some (.ref 219), some (.int x1), some (.int x2), some (.int x3), some (.int x4), some (.int x5), some (.int (x6 + v8)), some (.int (x7 + v10)), some (.int (x8 + 1))] [] σ9 out))))))))) : Ev_ (P_X12_alone KC) 56 [some (.ref 219), some (.int x1), some (.int x2), some (.int x3), some (.int x4), some (.int x5), some (.int x6), some (.int x7), some (.int x8)] [] σ out := by
  refine ev_n 2 (fun _ => rfl) ?_
  obtain ⟨v2, σ1, hf, h⟩ := h
  refine ev_go rfl (w_callV rfl rfl rfl (Nat.le_of_ble_eq_true rfl) hf) ?_
  refine ev_if (c := v2 ≤ x8) rfl (fun _ => rfl) (fun hc => ?_) (fun hc => ?_)
  · replace h := h.1 hc
    refine ev_n 4 (fun _ => rfl) ?_
    obtain ⟨v4, σ3, hf, h⟩ := h
    refine ev_go rfl (w_callV rfl rfl rfl (Nat.le_of_ble_eq_true rfl) hf) ?_
    refine ev_if (c := v4 < x6) rfl (fun _ => rfl) (fun hc => ?_) (fun hc => ?_)
    · replace h := h.1 hc
      refine ev_n 2 (fun _ => rfl) ?_
      exact h
    · replace h := h.2 hc
      refine ev_n 2 (fun _ => rfl) ?_
      refine ev_if (c := x4 < x7) rfl (fun _ => rfl) (fun hc => ?_) (fun hc => ?_)
      · replace h := h.1 hc
        refine ev_n 6 (fun _ => rfl) ?_
        exact h
      · replace h := h.2 hc
        refine ev_n 3 (fun _ => rfl) ?_
        exact h
  · replace h := h.2 hc
    refine ev_n 2 (fun _ => rfl) ?_
    obtain ⟨v6, σ5, hf, h⟩ := h
    refine ev_go rfl (w_callS ⟨Nat.le_of_ble_eq_true rfl, Nat.le_of_ble_eq_true rfl⟩ hf) ?_
    refine ev_if (c := v6 = 0) rfl (fun _ => rfl) (fun hc => ?_) (fun hc => ?_)
    · replace h := h.1 hc
      refine ev_n 3 (fun _ => rfl) ?_
      exact h
    · replace h := h.2 hc
      refine ev_n 4 (fun _ => rfl) ?_
      obtain ⟨v8, σ7, hf, h⟩ := h
      refine ev_go rfl (w_callV rfl rfl rfl (Nat.le_of_ble_eq_true rfl) hf) ?_
      refine ev_n 6 (fun _ => rfl) ?_
      obtain ⟨v10, σ9, hf, h⟩ := h
      refine ev_go rfl (w_callV rfl rfl rfl (Nat.le_of_ble_eq_true rfl) hf) ?_
      refine ev_n 4 (fun _ => rfl) ?_
      exact h
theorem m_X12_alone : ∀ pc o, (P_X12_alone KC).lookup pc = some o → Mon_ o := all_mon (a_X12_alone (l := launch0) (E := EC0) EC0_ok)
theorem z_X12_alone {x1 : Int32} {x2 : Int32} {σ : St_} {out : Out_} (h : Ev_ (P_X12_alone KC) 0 [some (.ref 219), some (.int x1), some (.int x2), none, none, none, none, none, none] [] σ out) : f_X12_alone KC [.ref 219, .int x1, .int x2] σ = some out := fn_eq m_X12_alone rfl h
