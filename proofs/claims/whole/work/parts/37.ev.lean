set_option maxRecDepth 20000 in
theorem e_X12_quickest_0 {x1 : Int32} {σ : St_} {out : Out_}  (h : (∃ (v2 : Int32) (σ1 : St_), f_X12_timeToRead KC [.ref 219, .int (0 : Int32), .int x1] σ = some (some (.int v2), σ1) ∧ Ev_ (P_X12_quickest KC) 9 [some (.ref 219), some (.int x1), some (.int v2), some (.int (1 : Int32))] [] σ1 out)) : Ev_ (P_X12_quickest KC) 0 [some (.ref 219), some (.int x1), none, none] [] σ out := by
  refine ev_n 3 (fun _ => rfl) ?_
  obtain ⟨v2, σ1, hf, h⟩ := h
  refine ev_go rfl (w_callV rfl rfl rfl (Nat.le_of_ble_eq_true rfl) hf) ?_
  refine ev_n 3 (fun _ => rfl) ?_
  exact h
set_option maxRecDepth 20000 in
theorem e_X12_quickest_9 {x1 : Int32} {x2 : Int32} {x3 : Int32} {σ : St_} {out : Out_}  (h : (∃ (v2 : Int32) (σ1 : St_), f_X12_readers KC [.ref 219] σ = some (some (.int v2), σ1) ∧ ((v2 ≤ x3 → out = (some (.int x2), σ1)) ∧ (¬ (v2 ≤ x3) → (∃ (v4 : Int32) (σ3 : St_), f_X12_timeToRead KC [.ref 219, .int x3, .int x1] σ1 = some (some (.int v4), σ3) ∧ ((x2 ≤ v4 → Ev_ (P_X12_quickest KC) 9 [some (.ref 219), some (.int x1), some (.int x2), some (.int (x3 + 1))] [] σ3 out) ∧ (¬ (x2 ≤ v4) → (∃ (v6 : Int32) (σ5 : St_), f_X12_timeToRead KC [.ref 219, .int x3, .int x1] σ3 = some (some (.int v6), σ5) ∧ Ev_ (P_X12_quickest KC) 9 [some (.ref 219), some (.int x1), some (.int v6), some (.int (x3 + 1))] [] σ5 out)))))))) : Ev_ (P_X12_quickest KC) 9 [some (.ref 219), some (.int x1), some (.int x2), some (.int x3)] [] σ out := by
  refine ev_n 2 (fun _ => rfl) ?_
  obtain ⟨v2, σ1, hf, h⟩ := h
  refine ev_go rfl (w_callV rfl rfl rfl (Nat.le_of_ble_eq_true rfl) hf) ?_
  refine ev_if (c := v2 ≤ x3) rfl (fun _ => rfl) (fun hc => ?_) (fun hc => ?_)
  · replace h := h.1 hc
    refine ev_n 1 (fun _ => rfl) ?_
    exact ev_ret rfl (fun _ => rfl) h
  · replace h := h.2 hc
    refine ev_n 3 (fun _ => rfl) ?_
    obtain ⟨v4, σ3, hf, h⟩ := h
    refine ev_go rfl (w_callV rfl rfl rfl (Nat.le_of_ble_eq_true rfl) hf) ?_
    refine ev_n 1 (fun _ => rfl) ?_
    refine ev_if (c := x2 ≤ v4) rfl (fun _ => rfl) (fun hc => ?_) (fun hc => ?_)
    · replace h := h.1 hc
      refine ev_n 2 (fun _ => rfl) ?_
      exact h
    · replace h := h.2 hc
      refine ev_n 3 (fun _ => rfl) ?_
      obtain ⟨v6, σ5, hf, h⟩ := h
      refine ev_go rfl (w_callV rfl rfl rfl (Nat.le_of_ble_eq_true rfl) hf) ?_
      refine ev_n 3 (fun _ => rfl) ?_
      exact h
theorem m_X12_quickest : ∀ pc o, (P_X12_quickest KC).lookup pc = some o → Mon_ o := all_mon (a_X12_quickest (l := launch0) (E := EC0) EC0_ok)
theorem z_X12_quickest {x1 : Int32} {σ : St_} {out : Out_} (h : Ev_ (P_X12_quickest KC) 0 [some (.ref 219), some (.int x1), none, none] [] σ out) : f_X12_quickest KC [.ref 219, .int x1] σ = some out := fn_eq m_X12_quickest rfl h
set_option maxRecDepth 20000 in
theorem e_X12_isShut_0 {x1 : Int32} {σ : St_} {out : Out_}  (h : Ev_ (P_X12_isShut KC) 2 [some (.ref 219), some (.int x1), some (.int (0 : Int32)), none] [] σ out) : Ev_ (P_X12_isShut KC) 0 [some (.ref 219), some (.int x1), none, none] [] σ out := by
  refine ev_n 2 (fun _ => rfl) ?_
  exact h
set_option maxRecDepth 20000 in
theorem e_X12_isShut_2 {x1 : Int32} {x2 : Int32} {σ : St_} {out : Out_}  (h : (∃ (v2 : Int32) (σ1 : St_), f_X12_chaps KC [.ref 219] σ = some (some (.int v2), σ1) ∧ ((v2 ≤ x2 → out = (some (.int (1 : Int32)), σ1)) ∧ (¬ (v2 ≤ x2) → Ev_ (P_X12_isShut KC) 12 [some (.ref 219), some (.int x1), some (.int x2), some (.int (0 : Int32))] [] σ1 out)))) : Ev_ (P_X12_isShut KC) 2 [some (.ref 219), some (.int x1), some (.int x2), none] [] σ out := by
  refine ev_n 2 (fun _ => rfl) ?_
  obtain ⟨v2, σ1, hf, h⟩ := h
  refine ev_go rfl (w_callV rfl rfl rfl (Nat.le_of_ble_eq_true rfl) hf) ?_
  refine ev_if (c := v2 ≤ x2) rfl (fun _ => rfl) (fun hc => ?_) (fun hc => ?_)
  · replace h := h.1 hc
    refine ev_n 1 (fun _ => rfl) ?_
    exact v_zret (by decide) rfl h
  · replace h := h.2 hc
    refine ev_n 2 (fun _ => rfl) ?_
    exact h
set_option maxRecDepth 20000 in
theorem e_X12_isShut_12 {x1 : Int32} {x2 : Int32} {x3 : Int32} {σ : St_} {out : Out_}  (h : ((x2 ≤ x3 → Ev_ (P_X12_isShut KC) 2 [some (.ref 219), some (.int x1), some (.int (x2 + 1)), none] [] σ out) ∧ (¬ (x2 ≤ x3) → (∃ (v2 : Int32) (σ1 : St_), f_X12_has KC [.int x1, .int x3] σ = some (some (.int v2), σ1) ∧ ((v2 = 0 → Ev_ (P_X12_isShut KC) 12 [some (.ref 219), some (.int x1), some (.int x2), some (.int (x3 + 1))] [] σ1 out) ∧ (¬ (v2 = 0) → (∃ (v4 : Int32) (σ3 : St_), f_X12_has KC [.int x1, .int x2] σ1 = some (some (.int v4), σ3) ∧ ((v4 = 0 → (∃ (v6 : Int32) (σ5 : St_), f_X12_leanOf KC [.ref 219, .int x2, .int x3] σ3 = some (some (.int v6), σ5) ∧ ((v6 ≤ (4 : Int32) → Ev_ (P_X12_isShut KC) 12 [some (.ref 219), some (.int x1), some (.int x2), some (.int (x3 + 1))] [] σ5 out) ∧ (¬ (v6 ≤ (4 : Int32)) → out = (some (.int (0 : Int32)), σ5))))) ∧ (¬ (v4 = 0) → Ev_ (P_X12_isShut KC) 12 [some (.ref 219), some (.int x1), some (.int x2), some (.int (x3 + 1))] [] σ3 out))))))))) : Ev_ (P_X12_isShut KC) 12 [some (.ref 219), some (.int x1), some (.int x2), some (.int x3)] [] σ out := by
  refine ev_n 2 (fun _ => rfl) ?_
  refine ev_if (c := x2 ≤ x3) rfl (fun _ => rfl) (fun hc => ?_) (fun hc => ?_)
  · replace h := h.1 hc
    refine ev_n 2 (fun _ => rfl) ?_
    exact h
  · replace h := h.2 hc
    refine ev_n 2 (fun _ => rfl) ?_
    obtain ⟨v2, σ1, hf, h⟩ := h
    refine ev_go rfl (w_callS ⟨Nat.le_of_ble_eq_true rfl, Nat.le_of_ble_eq_true rfl⟩ hf) ?_
    refine ev_if (c := v2 = 0) rfl (fun _ => rfl) (fun hc => ?_) (fun hc => ?_)
    · replace h := h.1 hc
      refine ev_n 2 (fun _ => rfl) ?_
      exact h
    · replace h := h.2 hc
      refine ev_n 2 (fun _ => rfl) ?_
      obtain ⟨v4, σ3, hf, h⟩ := h
      refine ev_go rfl (w_callS ⟨Nat.le_of_ble_eq_true rfl, Nat.le_of_ble_eq_true rfl⟩ hf) ?_
      refine ev_if (c := v4 = 0) rfl (fun _ => rfl) (fun hc => ?_) (fun hc => ?_)
      · replace h := h.1 hc
        refine ev_n 3 (fun _ => rfl) ?_
        obtain ⟨v6, σ5, hf, h⟩ := h
        refine ev_go rfl (w_callV rfl rfl rfl (Nat.le_of_ble_eq_true rfl) hf) ?_
        refine ev_n 1 (fun _ => rfl) ?_
        refine ev_if (c := v6 ≤ (4 : Int32)) rfl (fun _ => rfl) (fun hc => ?_) (fun hc => ?_)
        · replace h := h.1 hc
          refine ev_n 2 (fun _ => rfl) ?_
          exact h
        · replace h := h.2 hc
          refine ev_n 1 (fun _ => rfl) ?_
          exact v_zret (by decide) rfl h
      · replace h := h.2 hc
        refine ev_n 2 (fun _ => rfl) ?_
        exact h
theorem m_X12_isShut : ∀ pc o, (P_X12_isShut KC).lookup pc = some o → Mon_ o := all_mon (a_X12_isShut (l := launch0) (E := EC0) EC0_ok)
theorem z_X12_isShut {x1 : Int32} {σ : St_} {out : Out_} (h : Ev_ (P_X12_isShut KC) 0 [some (.ref 219), some (.int x1), none, none] [] σ out) : f_X12_isShut KC [.ref 219, .int x1] σ = some out := fn_eq m_X12_isShut rfl h
set_option maxRecDepth 20000 in
theorem e_X12_leave_0 {x1 : Int32} {σ : St_} {out : Out_}  (h : (∃ (σ1 : St_), f_X12_lay KC [.ref 219] (sI_ σ 219 0 (0 : Int32)) = some (none, σ1) ∧ (∃ (v3 : Int32) (σ2 : St_), f_X12_isIn KC [.int x1, .int (0 : Int32), .int (1 : Int32)] σ1 = some (some (.int v3), σ2) ∧ ((v3 = 0 → out = (some (.int ((-1) : Int32)), σ2)) ∧ (¬ (v3 = 0) → (∃ (v5 : Int32) (σ4 : St_), f_X12_readers KC [.ref 219] σ2 = some (some (.int v5), σ4) ∧ ((v5 = 0 → out = (some (.int ((-1) : Int32)), σ4)) ∧ (¬ (v5 = 0) → Ev_ (P_X12_leave KC) 31 [some (.ref 219), some (.int x1), some (.int (0 : Int32)), some (.int (0 : Int32)), none, none, none, none, none] [] σ4 out)))))))) : Ev_ (P_X12_leave KC) 0 [some (.ref 219), some (.int x1), none, none, none, none, none, none, none] [] σ out := by
  refine ev_n 2 (fun _ => rfl) ?_
  refine ev_go rfl (w_pI rfl) ?_
  refine ev_n 1 (fun _ => rfl) ?_
  obtain ⟨σ1, hf, h⟩ := h
  refine ev_go rfl (w_callV rfl rfl rfl (Nat.le_of_ble_eq_true rfl) hf) ?_
  refine ev_n 3 (fun _ => rfl) ?_
  obtain ⟨v3, σ2, hf, h⟩ := h
  refine ev_go rfl (w_callS ⟨Nat.le_of_ble_eq_true rfl, Nat.le_of_ble_eq_true rfl⟩ hf) ?_
  refine ev_if (c := v3 = 0) rfl (fun _ => rfl) (fun hc => ?_) (fun hc => ?_)
  · replace h := h.1 hc
    refine ev_n 1 (fun _ => rfl) ?_
    exact ev_ret rfl (fun _ => rfl) h
  · replace h := h.2 hc
    refine ev_n 1 (fun _ => rfl) ?_
    obtain ⟨v5, σ4, hf, h⟩ := h
    refine ev_go rfl (w_callV rfl rfl rfl (Nat.le_of_ble_eq_true rfl) hf) ?_
    refine ev_if (c := v5 = 0) rfl (fun _ => rfl) (fun hc => ?_) (fun hc => ?_)
    · replace h := h.1 hc
      refine ev_n 1 (fun _ => rfl) ?_
      exact ev_ret rfl (fun _ => rfl) h
    · replace h := h.2 hc
      refine ev_n 4 (fun _ => rfl) ?_
      exact h
set_option maxRecDepth 20000 in
theorem e_X12_leave_31 {x1 : Int32} {x2 : Int32} {x3 : Int32} {σ : St_} {out : Out_}  (h : (∃ (v2 : Int32) (σ1 : St_), f_X12_readers KC [.ref 219] σ = some (some (.int v2), σ1) ∧ ((v2 ≤ x3 → Ev_ (P_X12_leave KC) 56 [some (.ref 219), some (.int x1), some (.int x2), some (.int (0 : Int32)), none, none, none, none, none] [] σ1 out) ∧ (¬ (v2 ≤ x3) → (∃ (v4 : Int32) (σ3 : St_), f_X12_readerOf KC [.ref 219, .int x3, .int (3 : Int32)] σ1 = some (some (.int v4), σ3) ∧ Ev_ (P_X12_leave KC) 31 [some (.ref 219), some (.int x1), some (.int (x2 + v4)), some (.int (x3 + 1)), none, none, none, none, none] [] σ3 out))))) : Ev_ (P_X12_leave KC) 31 [some (.ref 219), some (.int x1), some (.int x2), some (.int x3), none, none, none, none, none] [] σ out := by
  refine ev_n 2 (fun _ => rfl) ?_
  obtain ⟨v2, σ1, hf, h⟩ := h
  refine ev_go rfl (w_callV rfl rfl rfl (Nat.le_of_ble_eq_true rfl) hf) ?_
  refine ev_if (c := v2 ≤ x3) rfl (fun _ => rfl) (fun hc => ?_) (fun hc => ?_)
  · replace h := h.1 hc
    refine ev_n 2 (fun _ => rfl) ?_
    exact h
  · replace h := h.2 hc
    refine ev_n 4 (fun _ => rfl) ?_
    obtain ⟨v4, σ3, hf, h⟩ := h
    refine ev_go rfl (w_callV rfl rfl rfl (Nat.le_of_ble_eq_true rfl) hf) ?_
    refine ev_n 4 (fun _ => rfl) ?_
    exact h
set_option maxRecDepth 20000 in
theorem e_X12_leave_56 {x1 : Int32} {x2 : Int32} {x3 : Int32} {σ : St_} {out : Out_}  (h : (∃ (v2 : Int32) (σ1 : St_), f_X12_chaps KC [.ref 219] σ = some (some (.int v2), σ1) ∧ ((v2 ≤ x3 → Ev_ (P_X12_leave KC) 89 [some (.ref 219), some (.int x1), some (.int x2), some (.int ((-1) : Int32)), some (.int (0 : Int32)), some (.int (0 : Int32)), none, none, none] [] σ1 out) ∧ (¬ (v2 ≤ x3) → (∃ (v4 : Int32) (σ3 : St_), f_X12_quickest KC [.ref 219, .int x3] σ1 = some (some (.int v4), σ3) ∧ (vpin_ x3 16 = true) ∧ Ev_ (P_X12_leave KC) 56 [some (.ref 219), some (.int x1), some (.int x2), some (.int (x3 + 1)), none, none, none, none, none] [] (sI_ σ3 244 (Int32.toNatClampNeg x3) v4) out))))) : Ev_ (P_X12_leave KC) 56 [some (.ref 219), some (.int x1), some (.int x2), some (.int x3), none, none, none, none, none] [] σ out := by
  refine ev_n 2 (fun _ => rfl) ?_
  obtain ⟨v2, σ1, hf, h⟩ := h
  refine ev_go rfl (w_callV rfl rfl rfl (Nat.le_of_ble_eq_true rfl) hf) ?_
  refine ev_if (c := v2 ≤ x3) rfl (fun _ => rfl) (fun hc => ?_) (fun hc => ?_)
  · replace h := h.1 hc
    refine ev_n 6 (fun _ => rfl) ?_
    exact h
  · replace h := h.2 hc
    refine ev_n 1 (fun _ => rfl) ?_
    refine ev_go rfl (w_gF rfl rfl) ?_
    refine ev_n 3 (fun _ => rfl) ?_
    obtain ⟨v4, σ3, hf, h⟩ := h
    refine ev_go rfl (w_callV rfl rfl rfl (Nat.le_of_ble_eq_true rfl) hf) ?_
    obtain ⟨h0, h⟩ := h
    refine ev_go rfl (w_iast rfl h0) ?_
    refine ev_n 2 (fun _ => rfl) ?_
    exact h
set_option maxRecDepth 20000 in
theorem e_X12_leave_89 {x1 : Int32} {x2 : Int32} {x3 : Int32} {x4 : Int32} {x5 : Int32} {σ : St_} {out : Out_}  (h : (∃ (v2 : Int32) (σ1 : St_), f_X12_chaps KC [.ref 219] σ = some (some (.int v2), σ1) ∧ ((((1 : Int32) <<< (v2 &&& 31)) ≤ x5 → ((x1 = 0 → out = (some (.int x4), σ1)) ∧ (¬ (x1 = 0) → out = (some (.int x3), σ1)))) ∧ (¬ (((1 : Int32) <<< (v2 &&& 31)) ≤ x5) → Ev_ (P_X12_leave KC) 109 [some (.ref 219), some (.int x1), some (.int x2), some (.int x3), some (.int x4), some (.int x5), some (.int (0 : Int32)), some (.int (0 : Int32)), some (.int (0 : Int32))] [] σ1 out)))) : Ev_ (P_X12_leave KC) 89 [some (.ref 219), some (.int x1), some (.int x2), some (.int x3), some (.int x4), some (.int x5), none, none, none] [] σ out := by
  refine ev_n 3 (fun _ => rfl) ?_
  obtain ⟨v2, σ1, hf, h⟩ := h
  refine ev_go rfl (w_callV rfl rfl rfl (Nat.le_of_ble_eq_true rfl) hf) ?_
  refine ev_n 1 (fun _ => rfl) ?_
  refine ev_if (c := ((1 : Int32) <<< (v2 &&& 31)) ≤ x5) rfl (fun _ => rfl) (fun hc => ?_) (fun hc => ?_)
  · replace h := h.1 hc
    refine ev_n 1 (fun _ => rfl) ?_
    refine ev_if (c := x1 = 0) rfl (fun _ => rfl) (fun hc => ?_) (fun hc => ?_)
    · replace h := h.1 hc
      refine ev_n 2 (fun _ => rfl) ?_
      exact ev_ret rfl (fun _ => rfl) h
    · replace h := h.2 hc
      refine ev_n 1 (fun _ => rfl) ?_
      exact ev_ret rfl (fun _ => rfl) h
  · replace h := h.2 hc
    refine ev_n 6 (fun _ => rfl) ?_
    exact h
set_option maxRecDepth 20000 in
theorem e_X12_leave_109 {x1 : Int32} {x2 : Int32} {x3 : Int32} {x4 : Int32} {x5 : Int32} {x6 : Int32} {x7 : Int32} {x8 : Int32} {σ : St_} {out : Out_}  (h : (∃ (v2 : Int32) (σ1 : St_), f_X12_chaps KC [.ref 219] σ = some (some (.int v2), σ1) ∧ ((v2 ≤ x8 → ((x2 < x6 → Ev_ (P_X12_leave KC) 89 [some (.ref 219), some (.int x1), some (.int x2), some (.int x3), some (.int x4), some (.int (x5 + 1)), none, none, none] [] σ1 out) ∧ (¬ (x2 < x6) → ((x3 = ((-1) : Int32) → (∃ (v4 : Int32) (σ3 : St_), f_X12_isShut KC [.ref 219, .int x5] σ1 = some (some (.int v4), σ3) ∧ ((v4 = 0 → Ev_ (P_X12_leave KC) 89 [some (.ref 219), some (.int x1), some (.int x2), some (.int x3), some (.int x4), some (.int (x5 + 1)), none, none, none] [] σ3 out) ∧ (¬ (v4 = 0) → Ev_ (P_X12_leave KC) 89 [some (.ref 219), some (.int x1), some (.int x2), some (.int x5), some (.int x7), some (.int (x5 + 1)), none, none, none] [] σ3 out)))) ∧ (¬ (x3 = ((-1) : Int32)) → ((x4 ≤ x7 → Ev_ (P_X12_leave KC) 89 [some (.ref 219), some (.int x1), some (.int x2), some (.int x3), some (.int x4), some (.int (x5 + 1)), none, none, none] [] σ1 out) ∧ (¬ (x4 ≤ x7) → (∃ (v6 : Int32) (σ5 : St_), f_X12_isShut KC [.ref 219, .int x5] σ1 = some (some (.int v6), σ5) ∧ ((v6 = 0 → Ev_ (P_X12_leave KC) 89 [some (.ref 219), some (.int x1), some (.int x2), some (.int x3), some (.int x4), some (.int (x5 + 1)), none, none, none] [] σ5 out) ∧ (¬ (v6 = 0) → Ev_ (P_X12_leave KC) 89 [some (.ref 219), some (.int x1), some (.int x2), some (.int x5), some (.int x7), some (.int (x5 + 1)), none, none, none] [] σ5 out)))))))))) ∧ (¬ (v2 ≤ x8) → (∃ (v8 : Int32) (σ7 : St_), f_X12_has KC [.int x5, .int x8] σ1 = some (some (.int v8), σ7) ∧ ((v8 = 0 → (vpin_ x8 16 = true) ∧ Ev_ (P_X12_leave KC) 109 [some (.ref 219), some (.int x1), some (.int x2), some (.int x3), some (.int x4), some (.int x5), some (.int (x6 + (σ7.1 244 (Int32.toNatClampNeg x8)))), some (.int x7), some (.int (x8 + 1))] [] σ7 out) ∧ (¬ (v8 = 0) → (∃ (v10 : Int32) (σ9 : St_), f_X12_chapOf KC [.ref 219, .int x8, .int (1 : Int32)] σ7 = some (some (.int v10), σ9) ∧ Ev_ (P_X12_leave KC) 109 [some (.ref 219), some (.int x1), some (.int x2), some (.int x3), some (.int x4), some (.int x5), some (.int x6), some (.int (x7 + v10)), some (.int (x8 + 1))] [] σ9 out)))))))) : Ev_ (P_X12_leave KC) 109 [some (.ref 219), some (.int x1), some (.int x2), some (.int x3), some (.int x4), some (.int x5), some (.int x6), some (.int x7), some (.int x8)] [] σ out := by
  refine ev_n 2 (fun _ => rfl) ?_
  obtain ⟨v2, σ1, hf, h⟩ := h
  refine ev_go rfl (w_callV rfl rfl rfl (Nat.le_of_ble_eq_true rfl) hf) ?_
  refine ev_if (c := v2 ≤ x8) rfl (fun _ => rfl) (fun hc => ?_) (fun hc => ?_)
  · replace h := h.1 hc
    refine ev_n 2 (fun _ => rfl) ?_
    refine ev_if (c := x2 < x6) rfl (fun _ => rfl) (fun hc => ?_) (fun hc => ?_)
    · replace h := h.1 hc
      refine ev_n 2 (fun _ => rfl) ?_
      exact h
    · replace h := h.2 hc
      refine ev_n 2 (fun _ => rfl) ?_
      refine ev_if (c := x3 = ((-1) : Int32)) rfl (fun _ => rfl) (fun hc => ?_) (fun hc => ?_)
      · replace h := h.1 hc
        refine ev_n 2 (fun _ => rfl) ?_
        obtain ⟨v4, σ3, hf, h⟩ := h
        refine ev_go rfl (w_callV rfl rfl rfl (Nat.le_of_ble_eq_true rfl) hf) ?_
        refine ev_if (c := v4 = 0) rfl (fun _ => rfl) (fun hc => ?_) (fun hc => ?_)
        · replace h := h.1 hc
          refine ev_n 3 (fun _ => rfl) ?_
          exact h
        · replace h := h.2 hc
          refine ev_n 6 (fun _ => rfl) ?_
          exact h
      · replace h := h.2 hc
        refine ev_n 2 (fun _ => rfl) ?_
        refine ev_if (c := x4 ≤ x7) rfl (fun _ => rfl) (fun hc => ?_) (fun hc => ?_)
        · replace h := h.1 hc
          refine ev_n 2 (fun _ => rfl) ?_
          exact h
        · replace h := h.2 hc
          refine ev_n 2 (fun _ => rfl) ?_
          obtain ⟨v6, σ5, hf, h⟩ := h
          refine ev_go rfl (w_callV rfl rfl rfl (Nat.le_of_ble_eq_true rfl) hf) ?_
          refine ev_if (c := v6 = 0) rfl (fun _ => rfl) (fun hc => ?_) (fun hc => ?_)
          · replace h := h.1 hc
            refine ev_n 3 (fun _ => rfl) ?_
            exact h
          · replace h := h.2 hc
            refine ev_n 6 (fun _ => rfl) ?_
            exact h
  · replace h := h.2 hc
    refine ev_n 2 (fun _ => rfl) ?_
    obtain ⟨v8, σ7, hf, h⟩ := h
    refine ev_go rfl (w_callS ⟨Nat.le_of_ble_eq_true rfl, Nat.le_of_ble_eq_true rfl⟩ hf) ?_
    refine ev_if (c := v8 = 0) rfl (fun _ => rfl) (fun hc => ?_) (fun hc => ?_)
    · replace h := h.1 hc
      refine ev_n 2 (fun _ => rfl) ?_
      refine ev_go rfl (w_gF rfl rfl) ?_
      refine ev_n 1 (fun _ => rfl) ?_
      obtain ⟨h0, h⟩ := h
      refine ev_go rfl (w_iald rfl h0) ?_
      refine ev_n 4 (fun _ => rfl) ?_
      exact h
    · replace h := h.2 hc
      refine ev_n 4 (fun _ => rfl) ?_
      obtain ⟨v10, σ9, hf, h⟩ := h
      refine ev_go rfl (w_callV rfl rfl rfl (Nat.le_of_ble_eq_true rfl) hf) ?_
      refine ev_n 5 (fun _ => rfl) ?_
      exact h
theorem m_X12_leave : ∀ pc o, (P_X12_leave KC).lookup pc = some o → Mon_ o := all_mon (a_X12_leave (l := launch0) (E := EC0) EC0_ok)
theorem z_X12_leave {x1 : Int32} {σ : St_} {out : Out_} (h : Ev_ (P_X12_leave KC) 0 [some (.ref 219), some (.int x1), none, none, none, none, none, none, none] [] σ out) : f_X12_leave KC [.ref 219, .int x1] σ = some out := fn_eq m_X12_leave rfl h
set_option maxRecDepth 20000 in
theorem e_X12_extra_0 {x1 : Int32} {σ : St_} {out : Out_}  (h : (∃ (σ1 : St_), f_X12_night KC [.ref 219] (sI_ σ 219 0 (0 : Int32)) = some (none, σ1) ∧ (∃ (v3 : Int32) (σ2 : St_), f_X12_isIn KC [.int x1, .int (0 : Int32), .int (2 : Int32)] σ1 = some (some (.int v3), σ2) ∧ ((v3 = 0 → out = (some (.int ((-1) : Int32)), σ2)) ∧ (¬ (v3 = 0) → Ev_ (P_X12_extra KC) 30 [some (.ref 219), some (.int x1), some (.int ((-1) : Int32)), some (.int ((-1) : Int32)), some (.int ((-1) : Int32)), some (.int (0 : Int32)), none, none, none, none] [] σ2 out))))) : Ev_ (P_X12_extra KC) 0 [some (.ref 219), some (.int x1), none, none, none, none, none, none, none, none] [] σ out := by
  refine ev_n 2 (fun _ => rfl) ?_
  refine ev_go rfl (w_pI rfl) ?_
  refine ev_n 1 (fun _ => rfl) ?_
  obtain ⟨σ1, hf, h⟩ := h
  refine ev_go rfl (w_callV rfl rfl rfl (Nat.le_of_ble_eq_true rfl) hf) ?_
  refine ev_n 3 (fun _ => rfl) ?_
  obtain ⟨v3, σ2, hf, h⟩ := h
  refine ev_go rfl (w_callS ⟨Nat.le_of_ble_eq_true rfl, Nat.le_of_ble_eq_true rfl⟩ hf) ?_
  refine ev_if (c := v3 = 0) rfl (fun _ => rfl) (fun hc => ?_) (fun hc => ?_)
  · replace h := h.1 hc
    refine ev_n 1 (fun _ => rfl) ?_
    exact ev_ret rfl (fun _ => rfl) h
  · replace h := h.2 hc
    refine ev_n 8 (fun _ => rfl) ?_
    exact h
set_option maxRecDepth 20000 in
theorem e_X12_extra_30 {x1 : Int32} {x2 : Int32} {x3 : Int32} {x4 : Int32} {x5 : Int32} {σ : St_} {out : Out_}  (h : (∃ (v2 : Int32) (σ1 : St_), f_X12_readers KC [.ref 219] σ = some (some (.int v2), σ1) ∧ ((v2 ≤ x5 → ((x1 = 0 → out = (some (.int x2), σ1)) ∧ (¬ (x1 = 0) → ((x1 = (1 : Int32) → out = (some (.int x3), σ1)) ∧ (¬ (x1 = (1 : Int32)) → out = (some (.int x4), σ1)))))) ∧ (¬ (v2 ≤ x5) → Ev_ (P_X12_extra KC) 42 [some (.ref 219), some (.int x1), some (.int x2), some (.int x3), some (.int x4), some (.int x5), some (.int (0 : Int32)), none, none, none] [] σ1 out)))) : Ev_ (P_X12_extra KC) 30 [some (.ref 219), some (.int x1), some (.int x2), some (.int x3), some (.int x4), some (.int x5), none, none, none, none] [] σ out := by
  refine ev_n 2 (fun _ => rfl) ?_
  obtain ⟨v2, σ1, hf, h⟩ := h
  refine ev_go rfl (w_callV rfl rfl rfl (Nat.le_of_ble_eq_true rfl) hf) ?_
  refine ev_if (c := v2 ≤ x5) rfl (fun _ => rfl) (fun hc => ?_) (fun hc => ?_)
  · replace h := h.1 hc
    refine ev_n 1 (fun _ => rfl) ?_
    refine ev_if (c := x1 = 0) rfl (fun _ => rfl) (fun hc => ?_) (fun hc => ?_)
    · replace h := h.1 hc
      refine ev_n 2 (fun _ => rfl) ?_
      exact ev_ret rfl (fun _ => rfl) h
    · replace h := h.2 hc
      refine ev_n 2 (fun _ => rfl) ?_
      refine ev_if (c := x1 = (1 : Int32)) rfl (fun _ => rfl) (fun hc => ?_) (fun hc => ?_)
      · replace h := h.1 hc
        refine ev_n 2 (fun _ => rfl) ?_
        exact ev_ret rfl (fun _ => rfl) h
      · replace h := h.2 hc
        refine ev_n 1 (fun _ => rfl) ?_
        exact ev_ret rfl (fun _ => rfl) h
  · replace h := h.2 hc
    refine ev_n 2 (fun _ => rfl) ?_
    exact h
set_option maxRecDepth 20000 in
theorem e_X12_extra_42 {x1 : Int32} {x2 : Int32} {x3 : Int32} {x4 : Int32} {x5 : Int32} {x6 : Int32} {σ : St_} {out : Out_}  (h : (∃ (v2 : Int32) (σ1 : St_), f_X12_chaps KC [.ref 219] σ = some (some (.int v2), σ1) ∧ ((v2 ≤ x6 → Ev_ (P_X12_extra KC) 30 [some (.ref 219), some (.int x1), some (.int x2), some (.int x3), some (.int x4), some (.int (x5 + 1)), none, none, none, none] [] σ1 out) ∧ (¬ (v2 ≤ x6) → (vpin_ x5 9 = true) ∧ (∃ (v4 : Int32) (σ3 : St_), f_X12_has KC [.int (σ1.1 231 (Int32.toNatClampNeg x5)), .int x6] σ1 = some (some (.int v4), σ3) ∧ ((v4 = 0 → (vpin_ x5 9 = true) ∧ (∃ (v6 : Int32) (σ5 : St_), f_X12_timeToRead KC [.ref 219, .int x5, .int x6] σ3 = some (some (.int v6), σ5) ∧ ((v6 ≤ (σ3.1 230 (Int32.toNatClampNeg x5)) → (∃ (v8 : Int32) (σ7 : St_), f_X12_readers KC [.ref 219] σ5 = some (some (.int v8), σ7) ∧ (∃ (v10 : Int32) (σ9 : St_), f_X12_sum KC [.ref 219, .int v8] σ7 = some (some (.int v10), σ9) ∧ (vpin_ (((16 : Int32) * x5) + x6) 144 = true) ∧ (∃ (σ11 : St_), f_X12_reads KC [.ref 219, .int x5, .int x6] σ9 = some (none, σ11) ∧ (∃ (v13 : Int32) (σ12 : St_), f_X12_readers KC [.ref 219] σ11 = some (some (.int v13), σ12) ∧ (∃ (v15 : Int32) (σ14 : St_), f_X12_sum KC [.ref 219, .int v13] σ12 = some (some (.int v15), σ14) ∧ (vpin_ (((16 : Int32) * x5) + x6) 144 = true) ∧ (vpin_ x5 9 = true) ∧ (vpin_ x5 9 = true) ∧ (vpin_ x5 9 = true) ∧ (∃ (v17 : Int32) (σ16 : St_), f_X12_timeToRead KC [.ref 219, .int x5, .int x6] (sI_ (sI_ σ14 229 (Int32.toNatClampNeg (((16 : Int32) * x5) + x6)) (σ9.1 229 (Int32.toNatClampNeg (((16 : Int32) * x5) + x6)))) 231 (Int32.toNatClampNeg x5) (((sI_ σ14 229 (Int32.toNatClampNeg (((16 : Int32) * x5) + x6)) (σ9.1 229 (Int32.toNatClampNeg (((16 : Int32) * x5) + x6)))).1 231 (Int32.toNatClampNeg x5)) &&& (((1 : Int32) <<< (x6 &&& 31)) ^^^ ((-1) : Int32)))) = some (some (.int v17), σ16) ∧ (vpin_ x5 9 = true) ∧ ((x2 < (v15 - v10) → Ev_ (P_X12_extra KC) 42 [some (.ref 219), some (.int x1), some (.int (v15 - v10)), some (.int x5), some (.int x6), some (.int x5), some (.int (x6 + 1)), none, none, none] [] (sI_ σ16 230 (Int32.toNatClampNeg x5) (((sI_ (sI_ σ14 229 (Int32.toNatClampNeg (((16 : Int32) * x5) + x6)) (σ9.1 229 (Int32.toNatClampNeg (((16 : Int32) * x5) + x6)))) 231 (Int32.toNatClampNeg x5) (((sI_ σ14 229 (Int32.toNatClampNeg (((16 : Int32) * x5) + x6)) (σ9.1 229 (Int32.toNatClampNeg (((16 : Int32) * x5) + x6)))).1 231 (Int32.toNatClampNeg x5)) &&& (((1 : Int32) <<< (x6 &&& 31)) ^^^ ((-1) : Int32)))).1 230 (Int32.toNatClampNeg x5)) + v17)) out) ∧ (¬ (x2 < (v15 - v10)) → Ev_ (P_X12_extra KC) 42 [some (.ref 219), some (.int x1), some (.int x2), some (.int x3), some (.int x4), some (.int x5), some (.int (x6 + 1)), none, none, none] [] (sI_ σ16 230 (Int32.toNatClampNeg x5) (((sI_ (sI_ σ14 229 (Int32.toNatClampNeg (((16 : Int32) * x5) + x6)) (σ9.1 229 (Int32.toNatClampNeg (((16 : Int32) * x5) + x6)))) 231 (Int32.toNatClampNeg x5) (((sI_ σ14 229 (Int32.toNatClampNeg (((16 : Int32) * x5) + x6)) (σ9.1 229 (Int32.toNatClampNeg (((16 : Int32) * x5) + x6)))).1 231 (Int32.toNatClampNeg x5)) &&& (((1 : Int32) <<< (x6 &&& 31)) ^^^ ((-1) : Int32)))).1 230 (Int32.toNatClampNeg x5)) + v17)) out))))))))) ∧ (¬ (v6 ≤ (σ3.1 230 (Int32.toNatClampNeg x5))) → Ev_ (P_X12_extra KC) 42 [some (.ref 219), some (.int x1), some (.int x2), some (.int x3), some (.int x4), some (.int x5), some (.int (x6 + 1)), none, none, none] [] σ5 out)))) ∧ (¬ (v4 = 0) → Ev_ (P_X12_extra KC) 42 [some (.ref 219), some (.int x1), some (.int x2), some (.int x3), some (.int x4), some (.int x5), some (.int (x6 + 1)), none, none, none] [] σ3 out))))))) : Ev_ (P_X12_extra KC) 42 [some (.ref 219), some (.int x1), some (.int x2), some (.int x3), some (.int x4), some (.int x5), some (.int x6), none, none, none] [] σ out := by
  refine ev_n 2 (fun _ => rfl) ?_
  obtain ⟨v2, σ1, hf, h⟩ := h
  refine ev_go rfl (w_callV rfl rfl rfl (Nat.le_of_ble_eq_true rfl) hf) ?_
  refine ev_if (c := v2 ≤ x6) rfl (fun _ => rfl) (fun hc => ?_) (fun hc => ?_)
  · replace h := h.1 hc
    refine ev_n 2 (fun _ => rfl) ?_
    exact h
  · replace h := h.2 hc
    refine ev_n 1 (fun _ => rfl) ?_
    refine ev_go rfl (w_gF rfl rfl) ?_
    refine ev_n 1 (fun _ => rfl) ?_
    obtain ⟨h0, h⟩ := h
    refine ev_go rfl (w_iald rfl h0) ?_
    refine ev_n 1 (fun _ => rfl) ?_
    obtain ⟨v4, σ3, hf, h⟩ := h
    refine ev_go rfl (w_callS ⟨Nat.le_of_ble_eq_true rfl, Nat.le_of_ble_eq_true rfl⟩ hf) ?_
    refine ev_if (c := v4 = 0) rfl (fun _ => rfl) (fun hc => ?_) (fun hc => ?_)
    · replace h := h.1 hc
      refine ev_n 1 (fun _ => rfl) ?_
      refine ev_go rfl (w_gF rfl rfl) ?_
      refine ev_n 1 (fun _ => rfl) ?_
      obtain ⟨h0, h⟩ := h
      refine ev_go rfl (w_iald rfl h0) ?_
      refine ev_n 3 (fun _ => rfl) ?_
      obtain ⟨v6, σ5, hf, h⟩ := h
      refine ev_go rfl (w_callV rfl rfl rfl (Nat.le_of_ble_eq_true rfl) hf) ?_
      refine ev_if (c := v6 ≤ (σ3.1 230 (Int32.toNatClampNeg x5))) rfl (fun _ => rfl) (fun hc => ?_) (fun hc => ?_)
      · replace h := h.1 hc
        refine ev_n 2 (fun _ => rfl) ?_
        obtain ⟨v8, σ7, hf, h⟩ := h
        refine ev_go rfl (w_callV rfl rfl rfl (Nat.le_of_ble_eq_true rfl) hf) ?_
        obtain ⟨v10, σ9, hf, h⟩ := h
        refine ev_go rfl (w_callV rfl rfl rfl (Nat.le_of_ble_eq_true rfl) hf) ?_
        refine ev_n 2 (fun _ => rfl) ?_
        refine ev_go rfl (w_gF rfl rfl) ?_
        refine ev_n 5 (fun _ => rfl) ?_
        obtain ⟨h0, h⟩ := h
        refine ev_go rfl (w_iald rfl h0) ?_
        refine ev_n 4 (fun _ => rfl) ?_
        obtain ⟨σ11, hf, h⟩ := h
        refine ev_go rfl (w_callV rfl rfl rfl (Nat.le_of_ble_eq_true rfl) hf) ?_
        refine ev_n 2 (fun _ => rfl) ?_
        obtain ⟨v13, σ12, hf, h⟩ := h
        refine ev_go rfl (w_callV rfl rfl rfl (Nat.le_of_ble_eq_true rfl) hf) ?_
        obtain ⟨v15, σ14, hf, h⟩ := h
        refine ev_go rfl (w_callV rfl rfl rfl (Nat.le_of_ble_eq_true rfl) hf) ?_
        refine ev_n 4 (fun _ => rfl) ?_
        refine ev_go rfl (w_gF rfl rfl) ?_
        refine ev_n 6 (fun _ => rfl) ?_
        obtain ⟨h0, h⟩ := h
        refine ev_go rfl (w_iast rfl h0) ?_
        refine ev_n 1 (fun _ => rfl) ?_
        refine ev_go rfl (w_gF rfl rfl) ?_
        refine ev_n 2 (fun _ => rfl) ?_
        obtain ⟨h0, h⟩ := h
        refine ev_go rfl (w_iald rfl h0) ?_
        refine ev_n 6 (fun _ => rfl) ?_
        obtain ⟨h0, h⟩ := h
        refine ev_go rfl (w_iast rfl h0) ?_
        refine ev_n 1 (fun _ => rfl) ?_
        refine ev_go rfl (w_gF rfl rfl) ?_
        refine ev_n 2 (fun _ => rfl) ?_
        obtain ⟨h0, h⟩ := h
        refine ev_go rfl (w_iald rfl h0) ?_
        refine ev_n 3 (fun _ => rfl) ?_
        obtain ⟨v17, σ16, hf, h⟩ := h
        refine ev_go rfl (w_callV rfl rfl rfl (Nat.le_of_ble_eq_true rfl) hf) ?_
        refine ev_n 1 (fun _ => rfl) ?_
        obtain ⟨h0, h⟩ := h
        refine ev_go rfl (w_iast rfl h0) ?_
        refine ev_n 2 (fun _ => rfl) ?_
        refine ev_if (c := x2 < (v15 - v10)) rfl (fun _ => rfl) (fun hc => ?_) (fun hc => ?_)
        · replace h := h.1 hc
          refine ev_n 8 (fun _ => rfl) ?_
          exact h
        · replace h := h.2 hc
          refine ev_n 3 (fun _ => rfl) ?_
          exact h
      · replace h := h.2 hc
        refine ev_n 3 (fun _ => rfl) ?_
        exact h
    · replace h := h.2 hc
      refine ev_n 2 (fun _ => rfl) ?_
      exact h
theorem m_X12_extra : ∀ pc o, (P_X12_extra KC).lookup pc = some o → Mon_ o := all_mon (a_X12_extra (l := launch0) (E := EC0) EC0_ok)
theorem z_X12_extra {x1 : Int32} {σ : St_} {out : Out_} (h : Ev_ (P_X12_extra KC) 0 [some (.ref 219), some (.int x1), none, none, none, none, none, none, none, none] [] σ out) : f_X12_extra KC [.ref 219, .int x1] σ = some out := fn_eq m_X12_extra rfl h
set_option maxRecDepth 20000 in
theorem e_X12_ask_0  {σ : St_} {out : Out_}  (h : (∃ (σ1 : St_), f_X12_night KC [.ref 219] (sI_ σ 219 0 (0 : Int32)) = some (none, σ1) ∧ (∃ (v3 : Int32) (σ2 : St_), f_X12_take KC [.ref 219] σ1 = some (some (.int v3), σ2) ∧ (((v3 - v3 / (2 : Int32) * (2 : Int32)) = 0 → (∃ (v5 : Int32) (σ4 : St_), f_X12_isIn KC [.int (v3 / (2 : Int32)), .int (1 : Int32), .int (10 : Int32)] σ2 = some (some (.int v5), σ4) ∧ ((v5 = 0 → out = (some (.int ((-2) : Int32)), σ4)) ∧ (¬ (v5 = 0) → Ev_ (P_X12_ask KC) 41 [some (.ref 219), some (.int (v3 / (2 : Int32))), some (.int (0 : Int32)), none, none, none, none] [] σ4 out)))) ∧ (¬ ((v3 - v3 / (2 : Int32) * (2 : Int32)) = 0) → out = (some (.int ((-2) : Int32)), σ2)))))) : Ev_ (P_X12_ask KC) 0 [some (.ref 219), none, none, none, none, none, none] [] σ out := by
  refine ev_n 2 (fun _ => rfl) ?_
  refine ev_go rfl (w_pI rfl) ?_
  refine ev_n 1 (fun _ => rfl) ?_
  obtain ⟨σ1, hf, h⟩ := h
  refine ev_go rfl (w_callV rfl rfl rfl (Nat.le_of_ble_eq_true rfl) hf) ?_
  refine ev_n 1 (fun _ => rfl) ?_
  obtain ⟨v3, σ2, hf, h⟩ := h
  refine ev_go rfl (w_callV rfl rfl rfl (Nat.le_of_ble_eq_true rfl) hf) ?_
  refine ev_n 3 (fun _ => rfl) ?_
  refine ev_go rfl (w_rem (by decide)) ?_
  refine ev_if (c := (v3 - v3 / (2 : Int32) * (2 : Int32)) = 0) rfl (fun _ => rfl) (fun hc => ?_) (fun hc => ?_)
  · replace h := h.1 hc
    refine ev_n 2 (fun _ => rfl) ?_
    refine ev_go rfl (w_div (by decide)) ?_
    refine ev_n 2 (fun _ => rfl) ?_
    obtain ⟨v5, σ4, hf, h⟩ := h
    refine ev_go rfl (w_callS ⟨Nat.le_of_ble_eq_true rfl, Nat.le_of_ble_eq_true rfl⟩ hf) ?_
    refine ev_if (c := v5 = 0) rfl (fun _ => rfl) (fun hc => ?_) (fun hc => ?_)
    · replace h := h.1 hc
      refine ev_n 1 (fun _ => rfl) ?_
      exact ev_ret rfl (fun _ => rfl) h
    · replace h := h.2 hc
      refine ev_n 2 (fun _ => rfl) ?_
      refine ev_go rfl (w_div (by decide)) ?_
      refine ev_n 3 (fun _ => rfl) ?_
      exact h
  · replace h := h.2 hc
    refine ev_n 1 (fun _ => rfl) ?_
    exact ev_ret rfl (fun _ => rfl) h
set_option maxRecDepth 20000 in
theorem e_X12_ask_41 {x1 : Int32} {x2 : Int32} {σ : St_} {out : Out_}  (h : ((x1 ≤ x2 → (∃ (v2 : Int32) (σ1 : St_), f_X12_lacking KC [.ref 219] σ = some (some (.int v2), σ1) ∧ Ev_ (P_X12_ask KC) 96 [some (.ref 219), some (.int x1), some (.int v2), some (.int ((-1) : Int32)), some (.int (0 : Int32)), none, none] [] σ1 out)) ∧ (¬ (x1 ≤ x2) → (vpin_ ((2 : Int32) * x2) 1040 = true) ∧ (vpin_ (((2 : Int32) * x2) + (1 : Int32)) 1040 = true) ∧ (∃ (v4 : Int32) (σ3 : St_), f_X12_chaps KC [.ref 219] σ = some (some (.int v4), σ3) ∧ ((((((256 : Int32) * (σ.1 220 (Int32.toNatClampNeg ((2 : Int32) * x2)))) + (σ.1 220 (Int32.toNatClampNeg (((2 : Int32) * x2) + (1 : Int32))))) >>> (v4 &&& 31)) = 0 → Ev_ (P_X12_ask KC) 41 [some (.ref 219), some (.int x1), some (.int (x2 + 1)), none, none, none, none] [] σ3 out) ∧ (¬ (((((256 : Int32) * (σ.1 220 (Int32.toNatClampNeg ((2 : Int32) * x2)))) + (σ.1 220 (Int32.toNatClampNeg (((2 : Int32) * x2) + (1 : Int32))))) >>> (v4 &&& 31)) = 0) → out = (some (.int ((-2) : Int32)), σ3))))))) : Ev_ (P_X12_ask KC) 41 [some (.ref 219), some (.int x1), some (.int x2), none, none, none, none] [] σ out := by
  refine ev_n 2 (fun _ => rfl) ?_
  refine ev_if (c := x1 ≤ x2) rfl (fun _ => rfl) (fun hc => ?_) (fun hc => ?_)
  · replace h := h.1 hc
    refine ev_n 1 (fun _ => rfl) ?_
    obtain ⟨v2, σ1, hf, h⟩ := h
    refine ev_go rfl (w_callV rfl rfl rfl (Nat.le_of_ble_eq_true rfl) hf) ?_
    refine ev_n 5 (fun _ => rfl) ?_
    exact h
  · replace h := h.2 hc
    refine ev_n 2 (fun _ => rfl) ?_
    refine ev_go rfl (w_gF rfl rfl) ?_
    refine ev_n 3 (fun _ => rfl) ?_
    obtain ⟨h0, h⟩ := h
    refine ev_go rfl (w_iald rfl h0) ?_
    refine ev_n 2 (fun _ => rfl) ?_
    refine ev_go rfl (w_gF rfl rfl) ?_
    refine ev_n 5 (fun _ => rfl) ?_
    obtain ⟨h0, h⟩ := h
    refine ev_go rfl (w_iald rfl h0) ?_
    refine ev_n 2 (fun _ => rfl) ?_
    obtain ⟨v4, σ3, hf, h⟩ := h
    refine ev_go rfl (w_callV rfl rfl rfl (Nat.le_of_ble_eq_true rfl) hf) ?_
    refine ev_n 1 (fun _ => rfl) ?_
    refine ev_if (c := ((((256 : Int32) * (σ.1 220 (Int32.toNatClampNeg ((2 : Int32) * x2)))) + (σ.1 220 (Int32.toNatClampNeg (((2 : Int32) * x2) + (1 : Int32))))) >>> (v4 &&& 31)) = 0) rfl (fun _ => rfl) (fun hc => ?_) (fun hc => ?_)
    · replace h := h.1 hc
      refine ev_n 2 (fun _ => rfl) ?_
      exact h
    · replace h := h.2 hc
      refine ev_n 1 (fun _ => rfl) ?_
      exact ev_ret rfl (fun _ => rfl) h
set_option maxRecDepth 20000 in
theorem e_X12_ask_96 {x1 : Int32} {x2 : Int32} {x3 : Int32} {x4 : Int32} {σ : St_} {out : Out_}  (h : ((((1 : Int32) <<< (x1 &&& 31)) ≤ x4 → ((x3 = ((-1) : Int32) → out = (some (.int ((-1) : Int32)), σ)) ∧ (¬ (x3 = ((-1) : Int32)) → (∃ (v2 : Int32) (σ1 : St_), f_X12_bits KC [.int x3] (sI_ σ 219 56 x3) = some (some (.int v2), σ1) ∧ out = (some (.int v2), σ1))))) ∧ (¬ (((1 : Int32) <<< (x1 &&& 31)) ≤ x4) → Ev_ (P_X12_ask KC) 110 [some (.ref 219), some (.int x1), some (.int x2), some (.int x3), some (.int x4), some (.int (0 : Int32)), some (.int (0 : Int32))] [] σ out))) : Ev_ (P_X12_ask KC) 96 [some (.ref 219), some (.int x1), some (.int x2), some (.int x3), some (.int x4), none, none] [] σ out := by
  refine ev_n 4 (fun _ => rfl) ?_
  refine ev_if (c := ((1 : Int32) <<< (x1 &&& 31)) ≤ x4) rfl (fun _ => rfl) (fun hc => ?_) (fun hc => ?_)
  · replace h := h.1 hc
    refine ev_n 2 (fun _ => rfl) ?_
    refine ev_if (c := x3 = ((-1) : Int32)) rfl (fun _ => rfl) (fun hc => ?_) (fun hc => ?_)
    · replace h := h.1 hc
      refine ev_n 1 (fun _ => rfl) ?_
      exact ev_ret rfl (fun _ => rfl) h
    · replace h := h.2 hc
      refine ev_n 2 (fun _ => rfl) ?_
      refine ev_go rfl (w_pI rfl) ?_
      refine ev_n 1 (fun _ => rfl) ?_
      obtain ⟨v2, σ1, hf, h⟩ := h
      refine ev_go rfl (w_callS ⟨Nat.le_of_ble_eq_true rfl, Nat.le_of_ble_eq_true rfl⟩ hf) ?_
      exact ev_ret rfl (fun _ => rfl) h
  · replace h := h.2 hc
    refine ev_n 4 (fun _ => rfl) ?_
    exact h
set_option maxRecDepth 20000 in
theorem e_X12_ask_110 {x1 : Int32} {x2 : Int32} {x3 : Int32} {x4 : Int32} {x5 : Int32} {x6 : Int32} {σ : St_} {out : Out_}  (h : ((x1 ≤ x6 → (((x2 &&& (x5 ^^^ ((-1) : Int32))) = 0 → ((x3 = ((-1) : Int32) → Ev_ (P_X12_ask KC) 96 [some (.ref 219), some (.int x1), some (.int x2), some (.int x4), some (.int (x4 + 1)), none, none] [] σ out) ∧ (¬ (x3 = ((-1) : Int32)) → (∃ (v2 : Int32) (σ1 : St_), f_X12_bits KC [.int x4] σ = some (some (.int v2), σ1) ∧ (∃ (v4 : Int32) (σ3 : St_), f_X12_bits KC [.int x3] σ1 = some (some (.int v4), σ3) ∧ ((v2 < v4 → Ev_ (P_X12_ask KC) 96 [some (.ref 219), some (.int x1), some (.int x2), some (.int x4), some (.int (x4 + 1)), none, none] [] σ3 out) ∧ (¬ (v2 < v4) → Ev_ (P_X12_ask KC) 96 [some (.ref 219), some (.int x1), some (.int x2), some (.int x3), some (.int (x4 + 1)), none, none] [] σ3 out))))))) ∧ (¬ ((x2 &&& (x5 ^^^ ((-1) : Int32))) = 0) → Ev_ (P_X12_ask KC) 96 [some (.ref 219), some (.int x1), some (.int x2), some (.int x3), some (.int (x4 + 1)), none, none] [] σ out))) ∧ (¬ (x1 ≤ x6) → (∃ (v6 : Int32) (σ5 : St_), f_X12_has KC [.int x4, .int x6] σ = some (some (.int v6), σ5) ∧ ((v6 = 0 → Ev_ (P_X12_ask KC) 110 [some (.ref 219), some (.int x1), some (.int x2), some (.int x3), some (.int x4), some (.int x5), some (.int (x6 + 1))] [] σ5 out) ∧ (¬ (v6 = 0) → (vpin_ ((2 : Int32) * x6) 1040 = true) ∧ (vpin_ (((2 : Int32) * x6) + (1 : Int32)) 1040 = true) ∧ Ev_ (P_X12_ask KC) 110 [some (.ref 219), some (.int x1), some (.int x2), some (.int x3), some (.int x4), some (.int (x5 ||| (((256 : Int32) * (σ5.1 220 (Int32.toNatClampNeg ((2 : Int32) * x6)))) + (σ5.1 220 (Int32.toNatClampNeg (((2 : Int32) * x6) + (1 : Int32))))))), some (.int (x6 + 1))] [] σ5 out)))))) : Ev_ (P_X12_ask KC) 110 [some (.ref 219), some (.int x1), some (.int x2), some (.int x3), some (.int x4), some (.int x5), some (.int x6)] [] σ out := by
  refine ev_n 2 (fun _ => rfl) ?_
  refine ev_if (c := x1 ≤ x6) rfl (fun _ => rfl) (fun hc => ?_) (fun hc => ?_)
  · replace h := h.1 hc
    refine ev_n 5 (fun _ => rfl) ?_
    refine ev_if (c := (x2 &&& (x5 ^^^ ((-1) : Int32))) = 0) rfl (fun _ => rfl) (fun hc => ?_) (fun hc => ?_)
    · replace h := h.1 hc
      refine ev_n 2 (fun _ => rfl) ?_
      refine ev_if (c := x3 = ((-1) : Int32)) rfl (fun _ => rfl) (fun hc => ?_) (fun hc => ?_)
      · replace h := h.1 hc
        refine ev_n 4 (fun _ => rfl) ?_
        exact h
      · replace h := h.2 hc
        refine ev_n 1 (fun _ => rfl) ?_
        obtain ⟨v2, σ1, hf, h⟩ := h
        refine ev_go rfl (w_callS ⟨Nat.le_of_ble_eq_true rfl, Nat.le_of_ble_eq_true rfl⟩ hf) ?_
        refine ev_n 1 (fun _ => rfl) ?_
        obtain ⟨v4, σ3, hf, h⟩ := h
        refine ev_go rfl (w_callS ⟨Nat.le_of_ble_eq_true rfl, Nat.le_of_ble_eq_true rfl⟩ hf) ?_
        refine ev_if (c := v2 < v4) rfl (fun _ => rfl) (fun hc => ?_) (fun hc => ?_)
        · replace h := h.1 hc
          refine ev_n 4 (fun _ => rfl) ?_
          exact h
        · replace h := h.2 hc
          refine ev_n 3 (fun _ => rfl) ?_
          exact h
    · replace h := h.2 hc
      refine ev_n 2 (fun _ => rfl) ?_
      exact h
  · replace h := h.2 hc
    refine ev_n 2 (fun _ => rfl) ?_
    obtain ⟨v6, σ5, hf, h⟩ := h
    refine ev_go rfl (w_callS ⟨Nat.le_of_ble_eq_true rfl, Nat.le_of_ble_eq_true rfl⟩ hf) ?_
    refine ev_if (c := v6 = 0) rfl (fun _ => rfl) (fun hc => ?_) (fun hc => ?_)
    · replace h := h.1 hc
      refine ev_n 2 (fun _ => rfl) ?_
      exact h
    · replace h := h.2 hc
      refine ev_n 3 (fun _ => rfl) ?_
      refine ev_go rfl (w_gF rfl rfl) ?_
      refine ev_n 3 (fun _ => rfl) ?_
      obtain ⟨h0, h⟩ := h
      refine ev_go rfl (w_iald rfl h0) ?_
      refine ev_n 2 (fun _ => rfl) ?_
      refine ev_go rfl (w_gF rfl rfl) ?_
      refine ev_n 5 (fun _ => rfl) ?_
      obtain ⟨h0, h⟩ := h
      refine ev_go rfl (w_iald rfl h0) ?_
      refine ev_n 5 (fun _ => rfl) ?_
      exact h
theorem m_X12_ask : ∀ pc o, (P_X12_ask KC).lookup pc = some o → Mon_ o := all_mon (a_X12_ask (l := launch0) (E := EC0) EC0_ok)
theorem z_X12_ask  {σ : St_} {out : Out_} (h : Ev_ (P_X12_ask KC) 0 [some (.ref 219), none, none, none, none, none, none] [] σ out) : f_X12_ask KC [.ref 219] σ = some out := fn_eq m_X12_ask rfl h
set_option maxRecDepth 20000 in
theorem e_X12_asked_0  {σ : St_} {out : Out_}  (h : out = (some (.int ((sI_ σ 219 0 (0 : Int32)).1 219 56)), (sI_ σ 219 0 (0 : Int32)))) : Ev_ (P_X12_asked KC) 0 [some (.ref 219)] [] σ out := by
  refine ev_n 2 (fun _ => rfl) ?_
  refine ev_go rfl (w_pI rfl) ?_
  refine ev_n 1 (fun _ => rfl) ?_
  refine ev_go rfl (w_gI rfl) ?_
  exact ev_ret rfl (fun _ => rfl) h
theorem m_X12_asked : ∀ pc o, (P_X12_asked KC).lookup pc = some o → Mon_ o := all_mon (a_X12_asked (l := launch0) (E := EC0) EC0_ok)
theorem z_X12_asked  {σ : St_} {out : Out_} (h : Ev_ (P_X12_asked KC) 0 [some (.ref 219)] [] σ out) : f_X12_asked KC [.ref 219] σ = some out := fn_eq m_X12_asked rfl h
set_option maxRecDepth 20000 in
theorem e_X12_seen_0 {x1 : Int32} {x2 : Int32} {σ : St_} {out : Out_}  (h : (∃ (σ1 : St_), f_X12_lay KC [.ref 219] (sI_ σ 219 0 (0 : Int32)) = some (none, σ1) ∧ (∃ (v3 : Int32) (σ2 : St_), f_X12_isReader KC [.ref 219, .int x1] σ1 = some (some (.int v3), σ2) ∧ ((v3 = 0 → out = (some (.int ((-2) : Int32)), σ2)) ∧ (¬ (v3 = 0) → (∃ (v5 : Int32) (σ4 : St_), f_X12_isIn KC [.int x2, .int (1 : Int32), .int (1000000 : Int32)] σ2 = some (some (.int v5), σ4) ∧ ((v5 = 0 → out = (some (.int ((-2) : Int32)), σ4)) ∧ (¬ (v5 = 0) → (¬ (Int32.toInt64 x2) = 0) ∧ Ev_ (P_X12_seen KC) 44 [some (.ref 219), some (.int x1), some (.int x2), some (.long (1000000000000000 : Int64)), none, some (.long ((1000000000000000 : Int64) / (Int32.toInt64 x2))), none, some (.int (0 : Int32))] [] σ4 out)))))))) : Ev_ (P_X12_seen KC) 0 [some (.ref 219), some (.int x1), some (.int x2), none, none, none, none, none] [] σ out := by
  refine ev_n 2 (fun _ => rfl) ?_
  refine ev_go rfl (w_pI rfl) ?_
  refine ev_n 1 (fun _ => rfl) ?_
  obtain ⟨σ1, hf, h⟩ := h
  refine ev_go rfl (w_callV rfl rfl rfl (Nat.le_of_ble_eq_true rfl) hf) ?_
  refine ev_n 2 (fun _ => rfl) ?_
  obtain ⟨v3, σ2, hf, h⟩ := h
  refine ev_go rfl (w_callV rfl rfl rfl (Nat.le_of_ble_eq_true rfl) hf) ?_
  refine ev_if (c := v3 = 0) rfl (fun _ => rfl) (fun hc => ?_) (fun hc => ?_)
  · replace h := h.1 hc
    refine ev_n 1 (fun _ => rfl) ?_
    exact ev_ret rfl (fun _ => rfl) h
  · replace h := h.2 hc
    refine ev_n 3 (fun _ => rfl) ?_
    obtain ⟨v5, σ4, hf, h⟩ := h
    refine ev_go rfl (w_callS ⟨Nat.le_of_ble_eq_true rfl, Nat.le_of_ble_eq_true rfl⟩ hf) ?_
    refine ev_if (c := v5 = 0) rfl (fun _ => rfl) (fun hc => ?_) (fun hc => ?_)
    · replace h := h.1 hc
      refine ev_n 1 (fun _ => rfl) ?_
      exact ev_ret rfl (fun _ => rfl) h
    · replace h := h.2 hc
      refine ev_n 5 (fun _ => rfl) ?_
      obtain ⟨h0, h⟩ := h
      refine ev_go rfl (w_ldiv h0) ?_
      refine ev_n 3 (fun _ => rfl) ?_
      exact h
set_option maxRecDepth 20000 in
theorem e_X12_seen_44 {x1 : Int32} {x2 : Int32} {x3 : Int64} {x5 : Int64} {x7 : Int32} {σ : St_} {out : Out_}  (h : (((300 : Int32) < x7 → out = (some (.int ((-1) : Int32)), σ)) ∧ (¬ ((300 : Int32) < x7) → ((0 < (lg_cmp x3 x5) → (∃ (v2 : Int32) (σ1 : St_), f_X12_readerOf KC [.ref 219, .int x1, .int (4 : Int32)] σ = some (some (.int v2), σ1) ∧ Ev_ (P_X12_seen KC) 44 [some (.ref 219), some (.int x1), some (.int x2), some (.long ((x3 * (Int32.toInt64 ((10 : Int32) - v2))) / (10 : Int64))), none, some (.long x5), none, some (.int (x7 + 1))] [] σ1 out)) ∧ (¬ (0 < (lg_cmp x3 x5)) → out = (some (.int x7), σ)))))) : Ev_ (P_X12_seen KC) 44 [some (.ref 219), some (.int x1), some (.int x2), some (.long x3), none, some (.long x5), none, some (.int x7)] [] σ out := by
  refine ev_n 2 (fun _ => rfl) ?_
  refine ev_if (c := (300 : Int32) < x7) rfl (fun _ => rfl) (fun hc => ?_) (fun hc => ?_)
  · replace h := h.1 hc
    refine ev_n 1 (fun _ => rfl) ?_
    exact ev_ret rfl (fun _ => rfl) h
  · replace h := h.2 hc
    refine ev_n 3 (fun _ => rfl) ?_
    refine ev_if (c := 0 < (lg_cmp x3 x5)) rfl (fun _ => rfl) (fun hc => ?_) (fun hc => ?_)
    · replace h := h.1 hc
      refine ev_n 5 (fun _ => rfl) ?_
      obtain ⟨v2, σ1, hf, h⟩ := h
      refine ev_go rfl (w_callV rfl rfl rfl (Nat.le_of_ble_eq_true rfl) hf) ?_
      refine ev_n 4 (fun _ => rfl) ?_
      refine ev_go rfl (w_ldiv (by decide)) ?_
      refine ev_n 3 (fun _ => rfl) ?_
      exact h
    · replace h := h.2 hc
      refine ev_n 1 (fun _ => rfl) ?_
      exact ev_ret rfl (fun _ => rfl) h
theorem m_X12_seen : ∀ pc o, (P_X12_seen KC).lookup pc = some o → Mon_ o := all_mon (a_X12_seen (l := launch0) (E := EC0) EC0_ok)
theorem z_X12_seen {x1 : Int32} {x2 : Int32} {σ : St_} {out : Out_} (h : Ev_ (P_X12_seen KC) 0 [some (.ref 219), some (.int x1), some (.int x2), none, none, none, none, none] [] σ out) : f_X12_seen KC [.ref 219, .int x1, .int x2] σ = some out := fn_eq m_X12_seen rfl h
set_option maxRecDepth 20000 in
theorem e_X12_illNight_0 {x1 : Int32} {x2 : Int32} {σ : St_} {out : Out_}  (h : (∃ (σ1 : St_), f_X12_dawn KC [.ref 219] σ = some (none, σ1) ∧ Ev_ (P_X12_illNight KC) 11 [some (.ref 219), some (.int x1), some (.int x2), some (.int (0 : Int32)), none, none, none, none] [] (sI_ σ1 219 57 (0 : Int32)) out)) : Ev_ (P_X12_illNight KC) 0 [some (.ref 219), some (.int x1), some (.int x2), none, none, none, none, none] [] σ out := by
  refine ev_n 1 (fun _ => rfl) ?_
  obtain ⟨σ1, hf, h⟩ := h
  refine ev_go rfl (w_callV rfl rfl rfl (Nat.le_of_ble_eq_true rfl) hf) ?_
  refine ev_n 2 (fun _ => rfl) ?_
  refine ev_go rfl (w_pI rfl) ?_
  refine ev_n 2 (fun _ => rfl) ?_
  exact h
set_option maxRecDepth 20000 in
theorem e_X12_illNight_11 {x1 : Int32} {x2 : Int32} {x3 : Int32} {σ : St_} {out : Out_}  (h : (vpin_ (390 : Int32) 1050 = true) ∧ (((σ.1 221 (Int32.toNatClampNeg (390 : Int32))) ≤ x3 → out = (none, σ)) ∧ (¬ ((σ.1 221 (Int32.toNatClampNeg (390 : Int32))) ≤ x3) → (vpin_ (((400 : Int32) + ((4 : Int32) * x3)) + (0 : Int32)) 1050 = true) ∧ (vpin_ (((400 : Int32) + ((4 : Int32) * x3)) + (3 : Int32)) 1050 = true) ∧ ((x3 < x2 → Ev_ (P_X12_illNight KC) 69 [some (.ref 219), some (.int x1), some (.int x2), some (.int x3), some (.int ((400 : Int32) + ((4 : Int32) * x3))), some (.int (σ.1 221 (Int32.toNatClampNeg (((400 : Int32) + ((4 : Int32) * x3)) + (0 : Int32))))), some (.int (σ.1 221 (Int32.toNatClampNeg (((400 : Int32) + ((4 : Int32) * x3)) + (3 : Int32))))), none] [] σ out) ∧ (¬ (x3 < x2) → Ev_ (P_X12_illNight KC) 69 [some (.ref 219), some (.int x1), some (.int x2), some (.int x3), some (.int ((400 : Int32) + ((4 : Int32) * x3))), some (.int (σ.1 221 (Int32.toNatClampNeg (((400 : Int32) + ((4 : Int32) * x3)) + (0 : Int32))))), some (.int ((σ.1 221 (Int32.toNatClampNeg (((400 : Int32) + ((4 : Int32) * x3)) + (3 : Int32)))) &&& (((1 : Int32) <<< (x1 &&& 31)) ^^^ ((-1) : Int32)))), none] [] σ out))))) : Ev_ (P_X12_illNight KC) 11 [some (.ref 219), some (.int x1), some (.int x2), some (.int x3), none, none, none, none] [] σ out := by
  refine ev_n 2 (fun _ => rfl) ?_
  refine ev_go rfl (w_gF rfl rfl) ?_
  refine ev_n 1 (fun _ => rfl) ?_
  obtain ⟨h0, h⟩ := h
  refine ev_go rfl (w_iald rfl h0) ?_
  refine ev_if (c := (σ.1 221 (Int32.toNatClampNeg (390 : Int32))) ≤ x3) rfl (fun _ => rfl) (fun hc => ?_) (fun hc => ?_)
  · replace h := h.1 hc
    exact ev_ret rfl (fun _ => rfl) h
  · replace h := h.2 hc
    refine ev_n 7 (fun _ => rfl) ?_
    refine ev_go rfl (w_gF rfl rfl) ?_
    refine ev_n 3 (fun _ => rfl) ?_
    obtain ⟨h0, h⟩ := h
    refine ev_go rfl (w_iald rfl h0) ?_
    refine ev_n 2 (fun _ => rfl) ?_
    refine ev_go rfl (w_gF rfl rfl) ?_
    refine ev_n 3 (fun _ => rfl) ?_
    obtain ⟨h0, h⟩ := h
    refine ev_go rfl (w_iald rfl h0) ?_
    refine ev_n 3 (fun _ => rfl) ?_
    refine ev_if (c := x3 < x2) rfl (fun _ => rfl) (fun hc => ?_) (fun hc => ?_)
    · replace h := h.1 hc
      exact h
    · replace h := h.2 hc
      refine ev_n 8 (fun _ => rfl) ?_
      exact h
set_option maxRecDepth 20000 in
theorem e_X12_illNight_69 {x1 : Int32} {x2 : Int32} {x3 : Int32} {x4 : Int32} {x5 : Int32} {x6 : Int32} {σ : St_} {out : Out_}  (h : ((x3 < x2 → (vpin_ (x4 + (2 : Int32)) 1050 = true) ∧ (((σ.1 221 (Int32.toNatClampNeg (x4 + (2 : Int32)))) ≤ 0 → Ev_ (P_X12_illNight KC) 102 [some (.ref 219), some (.int x1), some (.int x2), some (.int x3), some (.int x4), some (.int x5), some (.int x6), none] [.int (0 : Int32)] σ out) ∧ (¬ ((σ.1 221 (Int32.toNatClampNeg (x4 + (2 : Int32)))) ≤ 0) → ((x6 = 0 → Ev_ (P_X12_illNight KC) 102 [some (.ref 219), some (.int x1), some (.int x2), some (.int x3), some (.int x4), some (.int x5), some (.int x6), none] [.int (1 : Int32)] σ out) ∧ (¬ (x6 = 0) → Ev_ (P_X12_illNight KC) 102 [some (.ref 219), some (.int x1), some (.int x2), some (.int x3), some (.int x4), some (.int x5), some (.int x6), none] [.int (0 : Int32)] σ out))))) ∧ (¬ (x3 < x2) → ((x5 = x1 → Ev_ (P_X12_illNight KC) 102 [some (.ref 219), some (.int x1), some (.int x2), some (.int x3), some (.int x4), some (.int x5), some (.int x6), none] [.int (1 : Int32)] σ out) ∧ (¬ (x5 = x1) → (vpin_ (x4 + (2 : Int32)) 1050 = true) ∧ (((σ.1 221 (Int32.toNatClampNeg (x4 + (2 : Int32)))) ≤ 0 → Ev_ (P_X12_illNight KC) 102 [some (.ref 219), some (.int x1), some (.int x2), some (.int x3), some (.int x4), some (.int x5), some (.int x6), none] [.int (0 : Int32)] σ out) ∧ (¬ ((σ.1 221 (Int32.toNatClampNeg (x4 + (2 : Int32)))) ≤ 0) → ((x6 = 0 → Ev_ (P_X12_illNight KC) 102 [some (.ref 219), some (.int x1), some (.int x2), some (.int x3), some (.int x4), some (.int x5), some (.int x6), none] [.int (1 : Int32)] σ out) ∧ (¬ (x6 = 0) → Ev_ (P_X12_illNight KC) 102 [some (.ref 219), some (.int x1), some (.int x2), some (.int x3), some (.int x4), some (.int x5), some (.int x6), none] [.int (0 : Int32)] σ out))))))))) : Ev_ (P_X12_illNight KC) 69 [some (.ref 219), some (.int x1), some (.int x2), some (.int x3), some (.int x4), some (.int x5), some (.int x6), none] [] σ out := by
  refine ev_n 2 (fun _ => rfl) ?_
  refine ev_if (c := x3 < x2) rfl (fun _ => rfl) (fun hc => ?_) (fun hc => ?_)
  · replace h := h.1 hc
    refine ev_n 1 (fun _ => rfl) ?_
    refine ev_go rfl (w_gF rfl rfl) ?_
    refine ev_n 3 (fun _ => rfl) ?_
    obtain ⟨h0, h⟩ := h
    refine ev_go rfl (w_iald rfl h0) ?_
    refine ev_if (c := (σ.1 221 (Int32.toNatClampNeg (x4 + (2 : Int32)))) ≤ 0) rfl (fun _ => rfl) (fun hc => ?_) (fun hc => ?_)
    · replace h := h.1 hc
      refine ev_n 1 (fun _ => rfl) ?_
      exact h
    · replace h := h.2 hc
      refine ev_n 1 (fun _ => rfl) ?_
      refine ev_if (c := x6 = 0) rfl (fun _ => rfl) (fun hc => ?_) (fun hc => ?_)
      · replace h := h.1 hc
        refine ev_n 2 (fun _ => rfl) ?_
        exact h
      · replace h := h.2 hc
        refine ev_n 1 (fun _ => rfl) ?_
        exact h
  · replace h := h.2 hc
    refine ev_n 2 (fun _ => rfl) ?_
    refine ev_if (c := x5 = x1) rfl (fun _ => rfl) (fun hc => ?_) (fun hc => ?_)
    · replace h := h.1 hc
      refine ev_n 2 (fun _ => rfl) ?_
      exact h
    · replace h := h.2 hc
      refine ev_n 1 (fun _ => rfl) ?_
      refine ev_go rfl (w_gF rfl rfl) ?_
      refine ev_n 3 (fun _ => rfl) ?_
      obtain ⟨h0, h⟩ := h
      refine ev_go rfl (w_iald rfl h0) ?_
      refine ev_if (c := (σ.1 221 (Int32.toNatClampNeg (x4 + (2 : Int32)))) ≤ 0) rfl (fun _ => rfl) (fun hc => ?_) (fun hc => ?_)
      · replace h := h.1 hc
        refine ev_n 1 (fun _ => rfl) ?_
        exact h
      · replace h := h.2 hc
        refine ev_n 1 (fun _ => rfl) ?_
        refine ev_if (c := x6 = 0) rfl (fun _ => rfl) (fun hc => ?_) (fun hc => ?_)
        · replace h := h.1 hc
          refine ev_n 2 (fun _ => rfl) ?_
          exact h
        · replace h := h.2 hc
          refine ev_n 1 (fun _ => rfl) ?_
          exact h
set_option maxRecDepth 20000 in
theorem e_X12_illNight_102 {x1 : Int32} {x2 : Int32} {x3 : Int32} {x4 : Int32} {x5 : Int32} {x6 : Int32} {y0 : Int32} {σ : St_} {out : Out_}  (h : ((y0 = 0 → (vpin_ (x4 + (1 : Int32)) 1050 = true) ∧ (vpin_ (x4 + (2 : Int32)) 1050 = true) ∧ (∃ (v2 : Int32) (σ1 : St_), f_X12_wrong KC [.ref 219, .int x5, .int (σ.1 221 (Int32.toNatClampNeg (x4 + (1 : Int32)))), .int (σ.1 221 (Int32.toNatClampNeg (x4 + (2 : Int32)))), .int x6] σ = some (some (.int v2), σ1) ∧ ((v2 = 0 → (vpin_ (x4 + (1 : Int32)) 1050 = true) ∧ (vpin_ (x4 + (2 : Int32)) 1050 = true) ∧ (∃ (σ3 : St_), f_X12_does KC [.ref 219, .int x5, .int (σ1.1 221 (Int32.toNatClampNeg (x4 + (1 : Int32)))), .int (σ1.1 221 (Int32.toNatClampNeg (x4 + (2 : Int32)))), .int x6] σ1 = some (none, σ3) ∧ Ev_ (P_X12_illNight KC) 11 [some (.ref 219), some (.int x1), some (.int x2), some (.int (x3 + 1)), none, none, none, none] [] σ3 out)) ∧ (¬ (v2 = 0) → Ev_ (P_X12_illNight KC) 11 [some (.ref 219), some (.int x1), some (.int x2), some (.int (x3 + 1)), none, none, none, none] [] (sI_ σ1 219 57 ((σ1.1 219 57) + (1 : Int32))) out)))) ∧ (¬ (y0 = 0) → Ev_ (P_X12_illNight KC) 11 [some (.ref 219), some (.int x1), some (.int x2), some (.int (x3 + 1)), none, none, none, none] [] (sI_ σ 219 57 ((σ.1 219 57) + (1 : Int32))) out))) : Ev_ (P_X12_illNight KC) 102 [some (.ref 219), some (.int x1), some (.int x2), some (.int x3), some (.int x4), some (.int x5), some (.int x6), none] [.int y0] σ out := by
  refine ev_n 2 (fun _ => rfl) ?_
  refine ev_if (c := y0 = 0) rfl (fun _ => rfl) (fun hc => ?_) (fun hc => ?_)
  · replace h := h.1 hc
    refine ev_n 3 (fun _ => rfl) ?_
    refine ev_go rfl (w_gF rfl rfl) ?_
    refine ev_n 3 (fun _ => rfl) ?_
    obtain ⟨h0, h⟩ := h
    refine ev_go rfl (w_iald rfl h0) ?_
    refine ev_n 1 (fun _ => rfl) ?_
    refine ev_go rfl (w_gF rfl rfl) ?_
    refine ev_n 3 (fun _ => rfl) ?_
    obtain ⟨h0, h⟩ := h
    refine ev_go rfl (w_iald rfl h0) ?_
    refine ev_n 1 (fun _ => rfl) ?_
    obtain ⟨v2, σ1, hf, h⟩ := h
    refine ev_go rfl (w_callV rfl rfl rfl (Nat.le_of_ble_eq_true rfl) hf) ?_
    refine ev_if (c := v2 = 0) rfl (fun _ => rfl) (fun hc => ?_) (fun hc => ?_)
    · replace h := h.1 hc
      refine ev_n 3 (fun _ => rfl) ?_
      refine ev_go rfl (w_gF rfl rfl) ?_
      refine ev_n 3 (fun _ => rfl) ?_
      obtain ⟨h0, h⟩ := h
      refine ev_go rfl (w_iald rfl h0) ?_
      refine ev_n 1 (fun _ => rfl) ?_
      refine ev_go rfl (w_gF rfl rfl) ?_
      refine ev_n 3 (fun _ => rfl) ?_
      obtain ⟨h0, h⟩ := h
      refine ev_go rfl (w_iald rfl h0) ?_
      refine ev_n 1 (fun _ => rfl) ?_
      obtain ⟨σ3, hf, h⟩ := h
      refine ev_go rfl (w_callV rfl rfl rfl (Nat.le_of_ble_eq_true rfl) hf) ?_
      refine ev_n 2 (fun _ => rfl) ?_
      exact h
    · replace h := h.2 hc
      refine ev_n 2 (fun _ => rfl) ?_
      refine ev_go rfl (w_gI rfl) ?_
      refine ev_n 2 (fun _ => rfl) ?_
      refine ev_go rfl (w_pI rfl) ?_
      refine ev_n 3 (fun _ => rfl) ?_
      exact h
  · replace h := h.2 hc
    refine ev_n 2 (fun _ => rfl) ?_
    refine ev_go rfl (w_gI rfl) ?_
    refine ev_n 2 (fun _ => rfl) ?_
    refine ev_go rfl (w_pI rfl) ?_
    refine ev_n 3 (fun _ => rfl) ?_
    exact h
theorem m_X12_illNight : ∀ pc o, (P_X12_illNight KC).lookup pc = some o → Mon_ o := all_mon (a_X12_illNight (l := launch0) (E := EC0) EC0_ok)
theorem z_X12_illNight {x1 : Int32} {x2 : Int32} {σ : St_} {out : Out_} (h : Ev_ (P_X12_illNight KC) 0 [some (.ref 219), some (.int x1), some (.int x2), none, none, none, none, none] [] σ out) : f_X12_illNight KC [.ref 219, .int x1, .int x2] σ = some out := fn_eq m_X12_illNight rfl h
set_option maxRecDepth 20000 in
theorem e_X12_helps_0 {x1 : Int32} {x2 : Int32} {x3 : Int32} {σ : St_} {out : Out_}  (h : Ev_ (P_X12_helps KC) 3 [some (.ref 219), some (.int x1), some (.int x2), some (.int x3), some (.int x3), none] [] σ out) : Ev_ (P_X12_helps KC) 0 [some (.ref 219), some (.int x1), some (.int x2), some (.int x3), none, none] [] σ out := by
  refine ev_n 2 (fun _ => rfl) ?_
  exact h
set_option maxRecDepth 20000 in
theorem e_X12_helps_3 {x1 : Int32} {x2 : Int32} {x3 : Int32} {x4 : Int32} {σ : St_} {out : Out_}  (h : (vpin_ (390 : Int32) 1050 = true) ∧ (((σ.1 221 (Int32.toNatClampNeg (390 : Int32))) ≤ x4 → out = (none, σ)) ∧ (¬ ((σ.1 221 (Int32.toNatClampNeg (390 : Int32))) ≤ x4) → (vpin_ (((400 : Int32) + ((4 : Int32) * x4)) + (0 : Int32)) 1050 = true) ∧ (((σ.1 221 (Int32.toNatClampNeg (((400 : Int32) + ((4 : Int32) * x4)) + (0 : Int32)))) = x2 → (vpin_ (((400 : Int32) + ((4 : Int32) * x4)) + (2 : Int32)) 1050 = true) ∧ ((0 < (σ.1 221 (Int32.toNatClampNeg (((400 : Int32) + ((4 : Int32) * x4)) + (2 : Int32)))) → Ev_ (P_X12_helps KC) 3 [some (.ref 219), some (.int x1), some (.int x2), some (.int x3), some (.int (x4 + 1)), none] [] σ out) ∧ (¬ (0 < (σ.1 221 (Int32.toNatClampNeg (((400 : Int32) + ((4 : Int32) * x4)) + (2 : Int32))))) → (vpin_ x1 9 = true) ∧ (vpin_ (((400 : Int32) + ((4 : Int32) * x4)) + (1 : Int32)) 1050 = true) ∧ (∃ (v2 : Int32) (σ1 : St_), f_X12_has KC [.int (σ.1 231 (Int32.toNatClampNeg x1)), .int (σ.1 221 (Int32.toNatClampNeg (((400 : Int32) + ((4 : Int32) * x4)) + (1 : Int32))))] σ = some (some (.int v2), σ1) ∧ ((v2 = 0 → (vpin_ x1 9 = true) ∧ (vpin_ (((400 : Int32) + ((4 : Int32) * x4)) + (1 : Int32)) 1050 = true) ∧ (∃ (v4 : Int32) (σ3 : St_), f_X12_timeToRead KC [.ref 219, .int x1, .int (σ1.1 221 (Int32.toNatClampNeg (((400 : Int32) + ((4 : Int32) * x4)) + (1 : Int32))))] σ1 = some (some (.int v4), σ3) ∧ ((v4 ≤ (σ1.1 230 (Int32.toNatClampNeg x1)) → (vpin_ (((400 : Int32) + ((4 : Int32) * x4)) + (1 : Int32)) 1050 = true) ∧ (∃ (σ5 : St_), f_X12_reads KC [.ref 219, .int x1, .int (σ3.1 221 (Int32.toNatClampNeg (((400 : Int32) + ((4 : Int32) * x4)) + (1 : Int32))))] σ3 = some (none, σ5) ∧ Ev_ (P_X12_helps KC) 3 [some (.ref 219), some (.int x1), some (.int x2), some (.int x3), some (.int (x4 + 1)), none] [] σ5 out)) ∧ (¬ (v4 ≤ (σ1.1 230 (Int32.toNatClampNeg x1))) → out = (none, σ3))))) ∧ (¬ (v2 = 0) → Ev_ (P_X12_helps KC) 3 [some (.ref 219), some (.int x1), some (.int x2), some (.int x3), some (.int (x4 + 1)), none] [] σ1 out)))))) ∧ (¬ ((σ.1 221 (Int32.toNatClampNeg (((400 : Int32) + ((4 : Int32) * x4)) + (0 : Int32)))) = x2) → Ev_ (P_X12_helps KC) 3 [some (.ref 219), some (.int x1), some (.int x2), some (.int x3), some (.int (x4 + 1)), none] [] σ out))))) : Ev_ (P_X12_helps KC) 3 [some (.ref 219), some (.int x1), some (.int x2), some (.int x3), some (.int x4), none] [] σ out := by
  refine ev_n 2 (fun _ => rfl) ?_
  refine ev_go rfl (w_gF rfl rfl) ?_
  refine ev_n 1 (fun _ => rfl) ?_
  obtain ⟨h0, h⟩ := h
  refine ev_go rfl (w_iald rfl h0) ?_
  refine ev_if (c := (σ.1 221 (Int32.toNatClampNeg (390 : Int32))) ≤ x4) rfl (fun _ => rfl) (fun hc => ?_) (fun hc => ?_)
  · replace h := h.1 hc
    exact ev_ret rfl (fun _ => rfl) h
  · replace h := h.2 hc
    refine ev_n 7 (fun _ => rfl) ?_
    refine ev_go rfl (w_gF rfl rfl) ?_
    refine ev_n 3 (fun _ => rfl) ?_
    obtain ⟨h0, h⟩ := h
    refine ev_go rfl (w_iald rfl h0) ?_
    refine ev_n 1 (fun _ => rfl) ?_
    refine ev_if (c := (σ.1 221 (Int32.toNatClampNeg (((400 : Int32) + ((4 : Int32) * x4)) + (0 : Int32)))) = x2) rfl (fun _ => rfl) (fun hc => ?_) (fun hc => ?_)
    · replace h := h.1 hc
      refine ev_n 1 (fun _ => rfl) ?_
      refine ev_go rfl (w_gF rfl rfl) ?_
      refine ev_n 3 (fun _ => rfl) ?_
      obtain ⟨h0, h⟩ := h
      refine ev_go rfl (w_iald rfl h0) ?_
      refine ev_if (c := 0 < (σ.1 221 (Int32.toNatClampNeg (((400 : Int32) + ((4 : Int32) * x4)) + (2 : Int32))))) rfl (fun _ => rfl) (fun hc => ?_) (fun hc => ?_)
      · replace h := h.1 hc
        refine ev_n 2 (fun _ => rfl) ?_
        exact h
      · replace h := h.2 hc
        refine ev_n 1 (fun _ => rfl) ?_
        refine ev_go rfl (w_gF rfl rfl) ?_
        refine ev_n 1 (fun _ => rfl) ?_
        obtain ⟨h0, h⟩ := h
        refine ev_go rfl (w_iald rfl h0) ?_
        refine ev_n 1 (fun _ => rfl) ?_
        refine ev_go rfl (w_gF rfl rfl) ?_
        refine ev_n 3 (fun _ => rfl) ?_
        obtain ⟨h0, h⟩ := h
        refine ev_go rfl (w_iald rfl h0) ?_
        obtain ⟨v2, σ1, hf, h⟩ := h
        refine ev_go rfl (w_callS ⟨Nat.le_of_ble_eq_true rfl, Nat.le_of_ble_eq_true rfl⟩ hf) ?_
        refine ev_if (c := v2 = 0) rfl (fun _ => rfl) (fun hc => ?_) (fun hc => ?_)
        · replace h := h.1 hc
          refine ev_n 1 (fun _ => rfl) ?_
          refine ev_go rfl (w_gF rfl rfl) ?_
          refine ev_n 1 (fun _ => rfl) ?_
          obtain ⟨h0, h⟩ := h
          refine ev_go rfl (w_iald rfl h0) ?_
          refine ev_n 3 (fun _ => rfl) ?_
          refine ev_go rfl (w_gF rfl rfl) ?_
          refine ev_n 3 (fun _ => rfl) ?_
          obtain ⟨h0, h⟩ := h
          refine ev_go rfl (w_iald rfl h0) ?_
          obtain ⟨v4, σ3, hf, h⟩ := h
          refine ev_go rfl (w_callV rfl rfl rfl (Nat.le_of_ble_eq_true rfl) hf) ?_
          refine ev_if (c := v4 ≤ (σ1.1 230 (Int32.toNatClampNeg x1))) rfl (fun _ => rfl) (fun hc => ?_) (fun hc => ?_)
          · replace h := h.1 hc
            refine ev_n 3 (fun _ => rfl) ?_
            refine ev_go rfl (w_gF rfl rfl) ?_
            refine ev_n 3 (fun _ => rfl) ?_
            obtain ⟨h0, h⟩ := h
            refine ev_go rfl (w_iald rfl h0) ?_
            obtain ⟨σ5, hf, h⟩ := h
            refine ev_go rfl (w_callV rfl rfl rfl (Nat.le_of_ble_eq_true rfl) hf) ?_
            refine ev_n 2 (fun _ => rfl) ?_
            exact h
          · replace h := h.2 hc
            exact ev_ret rfl (fun _ => rfl) h
        · replace h := h.2 hc
          refine ev_n 3 (fun _ => rfl) ?_
          exact h
    · replace h := h.2 hc
      refine ev_n 2 (fun _ => rfl) ?_
      exact h
theorem m_X12_helps : ∀ pc o, (P_X12_helps KC).lookup pc = some o → Mon_ o := all_mon (a_X12_helps (l := launch0) (E := EC0) EC0_ok)
theorem z_X12_helps {x1 : Int32} {x2 : Int32} {x3 : Int32} {σ : St_} {out : Out_} (h : Ev_ (P_X12_helps KC) 0 [some (.ref 219), some (.int x1), some (.int x2), some (.int x3), none, none] [] σ out) : f_X12_helps KC [.ref 219, .int x1, .int x2, .int x3] σ = some out := fn_eq m_X12_helps rfl h
set_option maxRecDepth 20000 in
theorem e_X12_ill_0 {x1 : Int32} {x2 : Int32} {x3 : Int32} {σ : St_} {out : Out_}  (h : (∃ (σ1 : St_), f_X12_lay KC [.ref 219] (sI_ σ 219 0 (0 : Int32)) = some (none, σ1) ∧ (∃ (v3 : Int32) (σ2 : St_), f_X12_isReader KC [.ref 219, .int x1] σ1 = some (some (.int v3), σ2) ∧ ((v3 = 0 → out = (some (.int ((-1) : Int32)), σ2)) ∧ (¬ (v3 = 0) → (vpin_ (390 : Int32) 1050 = true) ∧ (∃ (v5 : Int32) (σ4 : St_), f_X12_isIn KC [.int x2, .int (0 : Int32), .int (σ2.1 221 (Int32.toNatClampNeg (390 : Int32)))] σ2 = some (some (.int v5), σ4) ∧ ((v5 = 0 → out = (some (.int ((-1) : Int32)), σ4)) ∧ (¬ (v5 = 0) → (∃ (v7 : Int32) (σ6 : St_), f_X12_isIn KC [.int x3, .int (0 : Int32), .int (3 : Int32)] σ4 = some (some (.int v7), σ6) ∧ ((v7 = 0 → out = (some (.int ((-1) : Int32)), σ6)) ∧ (¬ (v7 = 0) → (∃ (σ8 : St_), f_X12_illNight KC [.ref 219, .int x1, .int x2] σ6 = some (none, σ8) ∧ (((2 : Int32) ≤ x3 → Ev_ (P_X12_ill KC) 84 [some (.ref 219), some (.int x1), some (.int x2), some (.int x3), some (.int ((-1) : Int32)), some (.int ((-1) : Int32)), some (.int (0 : Int32)), none] [] σ8 out) ∧ (¬ ((2 : Int32) ≤ x3) → ((x3 = 0 → (∃ (v10 : Int32) (σ9 : St_), f_X12_readers KC [.ref 219] σ8 = some (some (.int v10), σ9) ∧ (∃ (v12 : Int32) (σ11 : St_), f_X12_sum KC [.ref 219, .int v10] σ9 = some (some (.int v12), σ11) ∧ out = (some (.int v12), σ11)))) ∧ (¬ (x3 = 0) → out = (some (.int (σ8.1 219 57)), σ8))))))))))))))))) : Ev_ (P_X12_ill KC) 0 [some (.ref 219), some (.int x1), some (.int x2), some (.int x3), none, none, none, none] [] σ out := by
  refine ev_n 2 (fun _ => rfl) ?_
  refine ev_go rfl (w_pI rfl) ?_
  refine ev_n 1 (fun _ => rfl) ?_
  obtain ⟨σ1, hf, h⟩ := h
  refine ev_go rfl (w_callV rfl rfl rfl (Nat.le_of_ble_eq_true rfl) hf) ?_
  refine ev_n 2 (fun _ => rfl) ?_
  obtain ⟨v3, σ2, hf, h⟩ := h
  refine ev_go rfl (w_callV rfl rfl rfl (Nat.le_of_ble_eq_true rfl) hf) ?_
  refine ev_if (c := v3 = 0) rfl (fun _ => rfl) (fun hc => ?_) (fun hc => ?_)
  · replace h := h.1 hc
    refine ev_n 1 (fun _ => rfl) ?_
    exact ev_ret rfl (fun _ => rfl) h
  · replace h := h.2 hc
    refine ev_n 3 (fun _ => rfl) ?_
    refine ev_go rfl (w_gF rfl rfl) ?_
    refine ev_n 1 (fun _ => rfl) ?_
    obtain ⟨h0, h⟩ := h
    refine ev_go rfl (w_iald rfl h0) ?_
    obtain ⟨v5, σ4, hf, h⟩ := h
    refine ev_go rfl (w_callS ⟨Nat.le_of_ble_eq_true rfl, Nat.le_of_ble_eq_true rfl⟩ hf) ?_
    refine ev_if (c := v5 = 0) rfl (fun _ => rfl) (fun hc => ?_) (fun hc => ?_)
    · replace h := h.1 hc
      refine ev_n 1 (fun _ => rfl) ?_
      exact ev_ret rfl (fun _ => rfl) h
    · replace h := h.2 hc
      refine ev_n 3 (fun _ => rfl) ?_
      obtain ⟨v7, σ6, hf, h⟩ := h
      refine ev_go rfl (w_callS ⟨Nat.le_of_ble_eq_true rfl, Nat.le_of_ble_eq_true rfl⟩ hf) ?_
      refine ev_if (c := v7 = 0) rfl (fun _ => rfl) (fun hc => ?_) (fun hc => ?_)
      · replace h := h.1 hc
        refine ev_n 1 (fun _ => rfl) ?_
        exact ev_ret rfl (fun _ => rfl) h
      · replace h := h.2 hc
        refine ev_n 3 (fun _ => rfl) ?_
        obtain ⟨σ8, hf, h⟩ := h
        refine ev_go rfl (w_callV rfl rfl rfl (Nat.le_of_ble_eq_true rfl) hf) ?_
        refine ev_n 2 (fun _ => rfl) ?_
        refine ev_if (c := (2 : Int32) ≤ x3) rfl (fun _ => rfl) (fun hc => ?_) (fun hc => ?_)
        · replace h := h.1 hc
          refine ev_n 6 (fun _ => rfl) ?_
          exact h
        · replace h := h.2 hc
          refine ev_n 1 (fun _ => rfl) ?_
          refine ev_if (c := x3 = 0) rfl (fun _ => rfl) (fun hc => ?_) (fun hc => ?_)
          · replace h := h.1 hc
            refine ev_n 2 (fun _ => rfl) ?_
            obtain ⟨v10, σ9, hf, h⟩ := h
            refine ev_go rfl (w_callV rfl rfl rfl (Nat.le_of_ble_eq_true rfl) hf) ?_
            obtain ⟨v12, σ11, hf, h⟩ := h
            refine ev_go rfl (w_callV rfl rfl rfl (Nat.le_of_ble_eq_true rfl) hf) ?_
            refine ev_n 1 (fun _ => rfl) ?_
            exact ev_ret rfl (fun _ => rfl) h
          · replace h := h.2 hc
            refine ev_n 1 (fun _ => rfl) ?_
            refine ev_go rfl (w_gI rfl) ?_
            exact ev_ret rfl (fun _ => rfl) h
set_option maxRecDepth 20000 in
theorem e_X12_ill_84 {x1 : Int32} {x2 : Int32} {x3 : Int32} {x4 : Int32} {x5 : Int32} {x6 : Int32} {σ : St_} {out : Out_}  (h : (∃ (v2 : Int32) (σ1 : St_), f_X12_readers KC [.ref 219] σ = some (some (.int v2), σ1) ∧ ((v2 ≤ x6 → ((x3 = (2 : Int32) → out = (some (.int x4), σ1)) ∧ (¬ (x3 = (2 : Int32)) → out = (some (.int x5), σ1)))) ∧ (¬ (v2 ≤ x6) → ((x6 = x1 → Ev_ (P_X12_ill KC) 84 [some (.ref 219), some (.int x1), some (.int x2), some (.int x3), some (.int x4), some (.int x5), some (.int (x6 + 1)), none] [] σ1 out) ∧ (¬ (x6 = x1) → (∃ (σ3 : St_), f_X12_illNight KC [.ref 219, .int x1, .int x2] σ1 = some (none, σ3) ∧ (∃ (σ4 : St_), f_X12_helps KC [.ref 219, .int x6, .int x1, .int x2] σ3 = some (none, σ4) ∧ (∃ (v6 : Int32) (σ5 : St_), f_X12_readers KC [.ref 219] σ4 = some (some (.int v6), σ5) ∧ (∃ (v8 : Int32) (σ7 : St_), f_X12_sum KC [.ref 219, .int v6] σ5 = some (some (.int v8), σ7) ∧ ((x5 < v8 → Ev_ (P_X12_ill KC) 84 [some (.ref 219), some (.int x1), some (.int x2), some (.int x3), some (.int x6), some (.int v8), some (.int (x6 + 1)), none] [] σ7 out) ∧ (¬ (x5 < v8) → Ev_ (P_X12_ill KC) 84 [some (.ref 219), some (.int x1), some (.int x2), some (.int x3), some (.int x4), some (.int x5), some (.int (x6 + 1)), none] [] σ7 out)))))))))))) : Ev_ (P_X12_ill KC) 84 [some (.ref 219), some (.int x1), some (.int x2), some (.int x3), some (.int x4), some (.int x5), some (.int x6), none] [] σ out := by
  refine ev_n 2 (fun _ => rfl) ?_
  obtain ⟨v2, σ1, hf, h⟩ := h
  refine ev_go rfl (w_callV rfl rfl rfl (Nat.le_of_ble_eq_true rfl) hf) ?_
  refine ev_if (c := v2 ≤ x6) rfl (fun _ => rfl) (fun hc => ?_) (fun hc => ?_)
  · replace h := h.1 hc
    refine ev_n 2 (fun _ => rfl) ?_
    refine ev_if (c := x3 = (2 : Int32)) rfl (fun _ => rfl) (fun hc => ?_) (fun hc => ?_)
    · replace h := h.1 hc
      refine ev_n 2 (fun _ => rfl) ?_
      exact ev_ret rfl (fun _ => rfl) h
    · replace h := h.2 hc
      refine ev_n 1 (fun _ => rfl) ?_
      exact ev_ret rfl (fun _ => rfl) h
  · replace h := h.2 hc
    refine ev_n 2 (fun _ => rfl) ?_
    refine ev_if (c := x6 = x1) rfl (fun _ => rfl) (fun hc => ?_) (fun hc => ?_)
    · replace h := h.1 hc
      refine ev_n 3 (fun _ => rfl) ?_
      exact h
    · replace h := h.2 hc
      refine ev_n 3 (fun _ => rfl) ?_
      obtain ⟨σ3, hf, h⟩ := h
      refine ev_go rfl (w_callV rfl rfl rfl (Nat.le_of_ble_eq_true rfl) hf) ?_
      refine ev_n 4 (fun _ => rfl) ?_
      obtain ⟨σ4, hf, h⟩ := h
      refine ev_go rfl (w_callV rfl rfl rfl (Nat.le_of_ble_eq_true rfl) hf) ?_
      refine ev_n 2 (fun _ => rfl) ?_
      obtain ⟨v6, σ5, hf, h⟩ := h
      refine ev_go rfl (w_callV rfl rfl rfl (Nat.le_of_ble_eq_true rfl) hf) ?_
      obtain ⟨v8, σ7, hf, h⟩ := h
      refine ev_go rfl (w_callV rfl rfl rfl (Nat.le_of_ble_eq_true rfl) hf) ?_
      refine ev_n 3 (fun _ => rfl) ?_
      refine ev_if (c := x5 < v8) rfl (fun _ => rfl) (fun hc => ?_) (fun hc => ?_)
      · replace h := h.1 hc
        refine ev_n 6 (fun _ => rfl) ?_
        exact h
      · replace h := h.2 hc
        refine ev_n 3 (fun _ => rfl) ?_
        exact h
theorem m_X12_ill : ∀ pc o, (P_X12_ill KC).lookup pc = some o → Mon_ o := all_mon (a_X12_ill (l := launch0) (E := EC0) EC0_ok)
theorem z_X12_ill {x1 : Int32} {x2 : Int32} {x3 : Int32} {σ : St_} {out : Out_} (h : Ev_ (P_X12_ill KC) 0 [some (.ref 219), some (.int x1), some (.int x2), some (.int x3), none, none, none, none] [] σ out) : f_X12_ill KC [.ref 219, .int x1, .int x2, .int x3] σ = some out := fn_eq m_X12_ill rfl h
set_option maxRecDepth 20000 in
theorem e_X12_lays_0 {x1 : Int32} {x2 : Int32} {x3 : Int32} {x4 : Int32} {σ : St_} {out : Out_}  (h : (vpin_ ((4 : Int32) * (σ.1 219 59)) 240 = true) ∧ (vpin_ (((4 : Int32) * (σ.1 219 59)) + (1 : Int32)) 240 = true) ∧ (vpin_ (((4 : Int32) * (σ.1 219 59)) + (2 : Int32)) 240 = true) ∧ (vpin_ (((4 : Int32) * (σ.1 219 59)) + (3 : Int32)) 240 = true) ∧ out = (some (.int (((sI_ (sI_ (sI_ (sI_ (sI_ σ 245 (Int32.toNatClampNeg ((4 : Int32) * (σ.1 219 59))) x1) 245 (Int32.toNatClampNeg (((4 : Int32) * (σ.1 219 59)) + (1 : Int32))) x2) 245 (Int32.toNatClampNeg (((4 : Int32) * (σ.1 219 59)) + (2 : Int32))) x3) 245 (Int32.toNatClampNeg (((4 : Int32) * (σ.1 219 59)) + (3 : Int32))) x4) 219 59 (((sI_ (sI_ (sI_ (sI_ σ 245 (Int32.toNatClampNeg ((4 : Int32) * (σ.1 219 59))) x1) 245 (Int32.toNatClampNeg (((4 : Int32) * (σ.1 219 59)) + (1 : Int32))) x2) 245 (Int32.toNatClampNeg (((4 : Int32) * (σ.1 219 59)) + (2 : Int32))) x3) 245 (Int32.toNatClampNeg (((4 : Int32) * (σ.1 219 59)) + (3 : Int32))) x4).1 219 59) + (1 : Int32))).1 219 59) - (1 : Int32))), (sI_ (sI_ (sI_ (sI_ (sI_ σ 245 (Int32.toNatClampNeg ((4 : Int32) * (σ.1 219 59))) x1) 245 (Int32.toNatClampNeg (((4 : Int32) * (σ.1 219 59)) + (1 : Int32))) x2) 245 (Int32.toNatClampNeg (((4 : Int32) * (σ.1 219 59)) + (2 : Int32))) x3) 245 (Int32.toNatClampNeg (((4 : Int32) * (σ.1 219 59)) + (3 : Int32))) x4) 219 59 (((sI_ (sI_ (sI_ (sI_ σ 245 (Int32.toNatClampNeg ((4 : Int32) * (σ.1 219 59))) x1) 245 (Int32.toNatClampNeg (((4 : Int32) * (σ.1 219 59)) + (1 : Int32))) x2) 245 (Int32.toNatClampNeg (((4 : Int32) * (σ.1 219 59)) + (2 : Int32))) x3) 245 (Int32.toNatClampNeg (((4 : Int32) * (σ.1 219 59)) + (3 : Int32))) x4).1 219 59) + (1 : Int32))))) : Ev_ (P_X12_lays KC) 0 [some (.ref 219), some (.int x1), some (.int x2), some (.int x3), some (.int x4), none] [] σ out := by
  refine ev_n 2 (fun _ => rfl) ?_
  refine ev_go rfl (w_gI rfl) ?_
  refine ev_n 3 (fun _ => rfl) ?_
  refine ev_go rfl (w_gF rfl rfl) ?_
  refine ev_n 2 (fun _ => rfl) ?_
  obtain ⟨h0, h⟩ := h
  refine ev_go rfl (w_iast rfl h0) ?_
  refine ev_n 1 (fun _ => rfl) ?_
  refine ev_go rfl (w_gF rfl rfl) ?_
  refine ev_n 4 (fun _ => rfl) ?_
  obtain ⟨h0, h⟩ := h
  refine ev_go rfl (w_iast rfl h0) ?_
  refine ev_n 1 (fun _ => rfl) ?_
  refine ev_go rfl (w_gF rfl rfl) ?_
  refine ev_n 4 (fun _ => rfl) ?_
  obtain ⟨h0, h⟩ := h
  refine ev_go rfl (w_iast rfl h0) ?_
  refine ev_n 1 (fun _ => rfl) ?_
  refine ev_go rfl (w_gF rfl rfl) ?_
  refine ev_n 4 (fun _ => rfl) ?_
  obtain ⟨h0, h⟩ := h
  refine ev_go rfl (w_iast rfl h0) ?_
  refine ev_n 2 (fun _ => rfl) ?_
  refine ev_go rfl (w_gI rfl) ?_
  refine ev_n 2 (fun _ => rfl) ?_
  refine ev_go rfl (w_pI rfl) ?_
  refine ev_n 1 (fun _ => rfl) ?_
  refine ev_go rfl (w_gI rfl) ?_
  refine ev_n 2 (fun _ => rfl) ?_
  exact ev_ret rfl (fun _ => rfl) h
theorem m_X12_lays : ∀ pc o, (P_X12_lays KC).lookup pc = some o → Mon_ o := all_mon (a_X12_lays (l := launch0) (E := EC0) EC0_ok)
theorem z_X12_lays {x1 : Int32} {x2 : Int32} {x3 : Int32} {x4 : Int32} {σ : St_} {out : Out_} (h : Ev_ (P_X12_lays KC) 0 [some (.ref 219), some (.int x1), some (.int x2), some (.int x3), some (.int x4), none] [] σ out) : f_X12_lays KC [.ref 219, .int x1, .int x2, .int x3, .int x4] σ = some out := fn_eq m_X12_lays rfl h
set_option maxRecDepth 20000 in
theorem e_X12_readCompare_0 {x1 : Int32} {σ : St_} {out : Out_}  (h : ((x1 = (16 : Int32) → (∃ (v2 : Int32) (σ1 : St_), f_X12_chaps KC [.ref 219] σ = some (some (.int v2), σ1) ∧ (∃ (v4 : Int32) (σ3 : St_), f_X12_readNamed KC [.ref 219, .int (0 : Int32), .int v2] σ1 = some (some (.int v4), σ3) ∧ ((v4 = 0 → out = (some (.int (0 : Int32)), σ3)) ∧ (¬ (v4 = 0) → Ev_ (P_X12_readCompare KC) 27 [some (.ref 219), some (.int x1), some (.int (σ3.1 219 13)), none] [] σ3 out))))) ∧ (¬ (x1 = (16 : Int32)) → Ev_ (P_X12_readCompare KC) 27 [some (.ref 219), some (.int x1), some (.int x1), none] [] σ out))) : Ev_ (P_X12_readCompare KC) 0 [some (.ref 219), some (.int x1), none, none] [] σ out := by
  refine ev_n 4 (fun _ => rfl) ?_
  refine ev_if (c := x1 = (16 : Int32)) rfl (fun _ => rfl) (fun hc => ?_) (fun hc => ?_)
  · replace h := h.1 hc
    refine ev_n 3 (fun _ => rfl) ?_
    obtain ⟨v2, σ1, hf, h⟩ := h
    refine ev_go rfl (w_callV rfl rfl rfl (Nat.le_of_ble_eq_true rfl) hf) ?_
    obtain ⟨v4, σ3, hf, h⟩ := h
    refine ev_go rfl (w_callV rfl rfl rfl (Nat.le_of_ble_eq_true rfl) hf) ?_
    refine ev_if (c := v4 = 0) rfl (fun _ => rfl) (fun hc => ?_) (fun hc => ?_)
    · replace h := h.1 hc
      refine ev_n 1 (fun _ => rfl) ?_
      exact v_zret (by decide) rfl h
    · replace h := h.2 hc
      refine ev_n 1 (fun _ => rfl) ?_
      refine ev_go rfl (w_gI rfl) ?_
      refine ev_n 1 (fun _ => rfl) ?_
      exact h
  · replace h := h.2 hc
    exact h
set_option maxRecDepth 20000 in
theorem e_X12_readCompare_27 {x1 : Int32} {x2 : Int32} {σ : St_} {out : Out_}  (h : (∃ (v2 : Int32) (σ1 : St_), f_X12_isSign KC [.ref 219, .int (60 : Int32)] σ = some (some (.int v2), σ1) ∧ ((v2 = 0 → (∃ (v4 : Int32) (σ3 : St_), f_X12_isSign KC [.ref 219, .int (61 : Int32)] σ1 = some (some (.int v4), σ3) ∧ ((v4 = 0 → (∃ (v6 : Int32) (σ5 : St_), f_X12_isSign KC [.ref 219, .int (62 : Int32)] σ3 = some (some (.int v6), σ5) ∧ ((v6 = 0 → (∃ (v8 : Int32) (σ7 : St_), f_X12_bad KC [.ref 219, .int (1 : Int32)] σ5 = some (some (.int v8), σ7) ∧ (v8 = 0 ∨ v8 = 1) ∧ out = (some (.int v8), σ7))) ∧ (¬ (v6 = 0) → Ev_ (P_X12_readCompare KC) 60 [some (.ref 219), some (.int x1), some (.int x2), none] [] σ5 out)))) ∧ (¬ (v4 = 0) → Ev_ (P_X12_readCompare KC) 60 [some (.ref 219), some (.int x1), some (.int x2), none] [] σ3 out)))) ∧ (¬ (v2 = 0) → Ev_ (P_X12_readCompare KC) 60 [some (.ref 219), some (.int x1), some (.int x2), none] [] σ1 out)))) : Ev_ (P_X12_readCompare KC) 27 [some (.ref 219), some (.int x1), some (.int x2), none] [] σ out := by
  refine ev_n 2 (fun _ => rfl) ?_
  obtain ⟨v2, σ1, hf, h⟩ := h
  refine ev_go rfl (w_callV rfl rfl rfl (Nat.le_of_ble_eq_true rfl) hf) ?_
  refine ev_if (c := v2 = 0) rfl (fun _ => rfl) (fun hc => ?_) (fun hc => ?_)
  · replace h := h.1 hc
    refine ev_n 2 (fun _ => rfl) ?_
    obtain ⟨v4, σ3, hf, h⟩ := h
    refine ev_go rfl (w_callV rfl rfl rfl (Nat.le_of_ble_eq_true rfl) hf) ?_
    refine ev_if (c := v4 = 0) rfl (fun _ => rfl) (fun hc => ?_) (fun hc => ?_)
    · replace h := h.1 hc
      refine ev_n 2 (fun _ => rfl) ?_
      obtain ⟨v6, σ5, hf, h⟩ := h
      refine ev_go rfl (w_callV rfl rfl rfl (Nat.le_of_ble_eq_true rfl) hf) ?_
      refine ev_if (c := v6 = 0) rfl (fun _ => rfl) (fun hc => ?_) (fun hc => ?_)
      · replace h := h.1 hc
        refine ev_n 2 (fun _ => rfl) ?_
        obtain ⟨v8, σ7, hf, h⟩ := h
        refine ev_go rfl (w_callV rfl rfl rfl (Nat.le_of_ble_eq_true rfl) hf) ?_
        exact v_zret h.1 rfl h.2
      · replace h := h.2 hc
        exact h
    · replace h := h.2 hc
      exact h
  · replace h := h.2 hc
    exact h
set_option maxRecDepth 20000 in
theorem e_X12_readCompare_60 {x1 : Int32} {x2 : Int32} {σ : St_} {out : Out_}  (h : (∃ (σ1 : St_), f_X12_go KC [.ref 219] σ = some (none, σ1) ∧ (∃ (v3 : Int32) (σ2 : St_), f_X12_readNumber KC [.ref 219, .int (0 : Int32), .int (999 : Int32)] σ1 = some (some (.int v3), σ2) ∧ ((v3 = 0 → out = (some (.int (0 : Int32)), σ2)) ∧ (¬ (v3 = 0) → ((x1 = (16 : Int32) → (∃ (v5 : Int32) (σ4 : St_), f_X12_lays KC [.ref 219, .int (6 : Int32), .int x2, .int (σ2.1 219 13), .int (σ.1 219 9)] σ2 = some (some (.int v5), σ4) ∧ out = (some (.int (1 : Int32)), (sI_ σ4 219 62 v5)))) ∧ (¬ (x1 = (16 : Int32)) → (∃ (v7 : Int32) (σ6 : St_), f_X12_lays KC [.ref 219, .int (7 : Int32), .int x2, .int (σ2.1 219 13), .int (σ.1 219 9)] σ2 = some (some (.int v7), σ6) ∧ out = (some (.int (1 : Int32)), (sI_ σ6 219 62 v7)))))))))) : Ev_ (P_X12_readCompare KC) 60 [some (.ref 219), some (.int x1), some (.int x2), none] [] σ out := by
  refine ev_n 1 (fun _ => rfl) ?_
  refine ev_go rfl (w_gI rfl) ?_
  refine ev_n 2 (fun _ => rfl) ?_
  obtain ⟨σ1, hf, h⟩ := h
  refine ev_go rfl (w_callV rfl rfl rfl (Nat.le_of_ble_eq_true rfl) hf) ?_
  refine ev_n 3 (fun _ => rfl) ?_
  obtain ⟨v3, σ2, hf, h⟩ := h
  refine ev_go rfl (w_callV rfl rfl rfl (Nat.le_of_ble_eq_true rfl) hf) ?_
  refine ev_if (c := v3 = 0) rfl (fun _ => rfl) (fun hc => ?_) (fun hc => ?_)
  · replace h := h.1 hc
    refine ev_n 1 (fun _ => rfl) ?_
    exact v_zret (by decide) rfl h
  · replace h := h.2 hc
    refine ev_n 4 (fun _ => rfl) ?_
    refine ev_if (c := x1 = (16 : Int32)) rfl (fun _ => rfl) (fun hc => ?_) (fun hc => ?_)
    · replace h := h.1 hc
      refine ev_n 4 (fun _ => rfl) ?_
      refine ev_go rfl (w_gI rfl) ?_
      refine ev_n 1 (fun _ => rfl) ?_
      obtain ⟨v5, σ4, hf, h⟩ := h
      refine ev_go rfl (w_callV rfl rfl rfl (Nat.le_of_ble_eq_true rfl) hf) ?_
      refine ev_go rfl (w_pI rfl) ?_
      refine ev_n 1 (fun _ => rfl) ?_
      exact v_zret (by decide) rfl h
    · replace h := h.2 hc
      refine ev_n 3 (fun _ => rfl) ?_
      refine ev_go rfl (w_gI rfl) ?_
      refine ev_n 1 (fun _ => rfl) ?_
      obtain ⟨v7, σ6, hf, h⟩ := h
      refine ev_go rfl (w_callV rfl rfl rfl (Nat.le_of_ble_eq_true rfl) hf) ?_
      refine ev_go rfl (w_pI rfl) ?_
      refine ev_n 1 (fun _ => rfl) ?_
      exact v_zret (by decide) rfl h
theorem m_X12_readCompare : ∀ pc o, (P_X12_readCompare KC).lookup pc = some o → Mon_ o := all_mon (a_X12_readCompare (l := launch0) (E := EC0) EC0_ok)
theorem z_X12_readCompare {x1 : Int32} {σ : St_} {out : Out_} (h : Ev_ (P_X12_readCompare KC) 0 [some (.ref 219), some (.int x1), none, none] [] σ out) : f_X12_readCompare KC [.ref 219, .int x1] σ = some out := fn_eq m_X12_readCompare rfl h
set_option maxRecDepth 20000 in
theorem e_X12_readOf_0 {x1 : Int32} {σ : St_} {out : Out_}  (h : (∃ (v2 : Int32) (σ1 : St_), f_X12_chaps KC [.ref 219] σ = some (some (.int v2), σ1) ∧ (∃ (v4 : Int32) (σ3 : St_), f_X12_readNamed KC [.ref 219, .int (0 : Int32), .int v2] σ1 = some (some (.int v4), σ3) ∧ ((v4 = 0 → out = (some (.int (0 : Int32)), σ3)) ∧ (¬ (v4 = 0) → ((x1 = (14 : Int32) → (∃ (v6 : Int32) (σ5 : St_), f_X12_lays KC [.ref 219, .int (4 : Int32), .int (σ3.1 219 13), .int (0 : Int32), .int (0 : Int32)] σ3 = some (some (.int v6), σ5) ∧ out = (some (.int (1 : Int32)), (sI_ σ5 219 62 v6)))) ∧ (¬ (x1 = (14 : Int32)) → (∃ (v8 : Int32) (σ7 : St_), f_X12_lays KC [.ref 219, .int (5 : Int32), .int (σ3.1 219 13), .int (0 : Int32), .int (0 : Int32)] σ3 = some (some (.int v8), σ7) ∧ out = (some (.int (1 : Int32)), (sI_ σ7 219 62 v8)))))))))) : Ev_ (P_X12_readOf KC) 0 [some (.ref 219), some (.int x1)] [] σ out := by
  refine ev_n 3 (fun _ => rfl) ?_
  obtain ⟨v2, σ1, hf, h⟩ := h
  refine ev_go rfl (w_callV rfl rfl rfl (Nat.le_of_ble_eq_true rfl) hf) ?_
  obtain ⟨v4, σ3, hf, h⟩ := h
  refine ev_go rfl (w_callV rfl rfl rfl (Nat.le_of_ble_eq_true rfl) hf) ?_
  refine ev_if (c := v4 = 0) rfl (fun _ => rfl) (fun hc => ?_) (fun hc => ?_)
  · replace h := h.1 hc
    refine ev_n 1 (fun _ => rfl) ?_
    exact v_zret (by decide) rfl h
  · replace h := h.2 hc
    refine ev_n 4 (fun _ => rfl) ?_
    refine ev_if (c := x1 = (14 : Int32)) rfl (fun _ => rfl) (fun hc => ?_) (fun hc => ?_)
    · replace h := h.1 hc
      refine ev_n 3 (fun _ => rfl) ?_
      refine ev_go rfl (w_gI rfl) ?_
      refine ev_n 2 (fun _ => rfl) ?_
      obtain ⟨v6, σ5, hf, h⟩ := h
      refine ev_go rfl (w_callV rfl rfl rfl (Nat.le_of_ble_eq_true rfl) hf) ?_
      refine ev_go rfl (w_pI rfl) ?_
      refine ev_n 1 (fun _ => rfl) ?_
      exact v_zret (by decide) rfl h
    · replace h := h.2 hc
      refine ev_n 2 (fun _ => rfl) ?_
      refine ev_go rfl (w_gI rfl) ?_
      refine ev_n 2 (fun _ => rfl) ?_
      obtain ⟨v8, σ7, hf, h⟩ := h
      refine ev_go rfl (w_callV rfl rfl rfl (Nat.le_of_ble_eq_true rfl) hf) ?_
      refine ev_go rfl (w_pI rfl) ?_
      refine ev_n 1 (fun _ => rfl) ?_
      exact v_zret (by decide) rfl h
theorem m_X12_readOf : ∀ pc o, (P_X12_readOf KC).lookup pc = some o → Mon_ o := all_mon (a_X12_readOf (l := launch0) (E := EC0) EC0_ok)
theorem z_X12_readOf {x1 : Int32} {σ : St_} {out : Out_} (h : Ev_ (P_X12_readOf KC) 0 [some (.ref 219), some (.int x1)] [] σ out) : f_X12_readOf KC [.ref 219, .int x1] σ = some out := fn_eq m_X12_readOf rfl h
set_option maxRecDepth 20000 in
theorem e_X12_readOr_0 {r_X12_readOr : Fn_} {r_X12_readAnd : Fn_} {r_X12_readOne : Fn_} {r_X12_readBracket : Fn_} {r_X12_readNot : Fn_} {σ : St_} {out : Out_}  (h : (∃ (v2 : Int32) (σ1 : St_), r_X12_readAnd [.ref 219] σ = some (some (.int v2), σ1) ∧ ((v2 = 0 → out = (some (.int (0 : Int32)), σ1)) ∧ (¬ (v2 = 0) → Ev_ (P_X12_readOr KC r_X12_readOr r_X12_readAnd r_X12_readOne r_X12_readBracket r_X12_readNot) 14 [some (.ref 219), some (.int (σ1.1 219 62))] [] σ1 out)))) : Ev_ (P_X12_readOr KC r_X12_readOr r_X12_readAnd r_X12_readOne r_X12_readBracket r_X12_readNot) 0 [some (.ref 219), none] [] σ out := by
  refine ev_n 1 (fun _ => rfl) ?_
  obtain ⟨v2, σ1, hf, h⟩ := h
  refine ev_go rfl (w_callV rfl rfl rfl (Nat.le_of_ble_eq_true rfl) hf) ?_
  refine ev_if (c := v2 = 0) rfl (fun _ => rfl) (fun hc => ?_) (fun hc => ?_)
  · replace h := h.1 hc
    refine ev_n 1 (fun _ => rfl) ?_
    exact v_zret (by decide) rfl h
  · replace h := h.2 hc
    refine ev_n 1 (fun _ => rfl) ?_
    refine ev_go rfl (w_gI rfl) ?_
    refine ev_n 1 (fun _ => rfl) ?_
    exact h
set_option maxRecDepth 20000 in
theorem e_X12_readOr_14 {r_X12_readOr : Fn_} {r_X12_readAnd : Fn_} {r_X12_readOne : Fn_} {r_X12_readBracket : Fn_} {r_X12_readNot : Fn_} {x1 : Int32} {σ : St_} {out : Out_}  (h : (∃ (v2 : Int32) (σ1 : St_), f_X12_isWord KC [.ref 219, .int (11 : Int32)] σ = some (some (.int v2), σ1) ∧ ((v2 = 0 → out = (some (.int (1 : Int32)), (sI_ σ1 219 62 x1))) ∧ (¬ (v2 = 0) → (∃ (σ3 : St_), f_X12_go KC [.ref 219] σ1 = some (none, σ3) ∧ (∃ (v5 : Int32) (σ4 : St_), r_X12_readAnd [.ref 219] σ3 = some (some (.int v5), σ4) ∧ ((v5 = 0 → out = (some (.int (0 : Int32)), σ4)) ∧ (¬ (v5 = 0) → (∃ (v7 : Int32) (σ6 : St_), f_X12_lays KC [.ref 219, .int (3 : Int32), .int x1, .int (σ4.1 219 62), .int (0 : Int32)] σ4 = some (some (.int v7), σ6) ∧ Ev_ (P_X12_readOr KC r_X12_readOr r_X12_readAnd r_X12_readOne r_X12_readBracket r_X12_readNot) 14 [some (.ref 219), some (.int v7)] [] σ6 out))))))))) : Ev_ (P_X12_readOr KC r_X12_readOr r_X12_readAnd r_X12_readOne r_X12_readBracket r_X12_readNot) 14 [some (.ref 219), some (.int x1)] [] σ out := by
  refine ev_n 2 (fun _ => rfl) ?_
  obtain ⟨v2, σ1, hf, h⟩ := h
  refine ev_go rfl (w_callV rfl rfl rfl (Nat.le_of_ble_eq_true rfl) hf) ?_
  refine ev_if (c := v2 = 0) rfl (fun _ => rfl) (fun hc => ?_) (fun hc => ?_)
  · replace h := h.1 hc
    refine ev_n 2 (fun _ => rfl) ?_
    refine ev_go rfl (w_pI rfl) ?_
    refine ev_n 1 (fun _ => rfl) ?_
    exact v_zret (by decide) rfl h
  · replace h := h.2 hc
    refine ev_n 1 (fun _ => rfl) ?_
    obtain ⟨σ3, hf, h⟩ := h
    refine ev_go rfl (w_callV rfl rfl rfl (Nat.le_of_ble_eq_true rfl) hf) ?_
    refine ev_n 1 (fun _ => rfl) ?_
    obtain ⟨v5, σ4, hf, h⟩ := h
    refine ev_go rfl (w_callV rfl rfl rfl (Nat.le_of_ble_eq_true rfl) hf) ?_
    refine ev_if (c := v5 = 0) rfl (fun _ => rfl) (fun hc => ?_) (fun hc => ?_)
    · replace h := h.1 hc
      refine ev_n 1 (fun _ => rfl) ?_
      exact v_zret (by decide) rfl h
    · replace h := h.2 hc
      refine ev_n 4 (fun _ => rfl) ?_
      refine ev_go rfl (w_gI rfl) ?_
      refine ev_n 1 (fun _ => rfl) ?_
      obtain ⟨v7, σ6, hf, h⟩ := h
      refine ev_go rfl (w_callV rfl rfl rfl (Nat.le_of_ble_eq_true rfl) hf) ?_
      refine ev_n 2 (fun _ => rfl) ?_
      exact h
theorem m_X12_readOr (d : Nat) : ∀ pc o, (P_X12_readOr KC (f_X12_readOr KC d) (f_X12_readAnd KC d) (f_X12_readOne KC d) (f_X12_readBracket KC d) (f_X12_readNot KC d)).lookup pc = some o → Mon_ o := all_mon (a_X12_readOr (l := launch0) (E := EC0) EC0_ok (t_X12_readOr EC0_ok d) (t_X12_readAnd EC0_ok d) (t_X12_readOne EC0_ok d) (t_X12_readBracket EC0_ok d) (t_X12_readNot EC0_ok d))
theorem z_X12_readOr  {σ : St_} {out : Out_} {d : Nat} (h : Ev_ (P_X12_readOr KC (f_X12_readOr KC d) (f_X12_readAnd KC d) (f_X12_readOne KC d) (f_X12_readBracket KC d) (f_X12_readNot KC d)) 0 [some (.ref 219), none] [] σ out) : f_X12_readOr KC (d + 1) [.ref 219] σ = some out := show fn_ (P_X12_readOr KC (f_X12_readOr KC d) (f_X12_readAnd KC d) (f_X12_readOne KC d) (f_X12_readBracket KC d) (f_X12_readNot KC d)) 2 [.ref 219] σ = some out from fn_eq (m_X12_readOr d) rfl h
set_option maxRecDepth 20000 in
theorem e_X12_readAnd_0 {r_X12_readOr : Fn_} {r_X12_readAnd : Fn_} {r_X12_readOne : Fn_} {r_X12_readBracket : Fn_} {r_X12_readNot : Fn_} {σ : St_} {out : Out_}  (h : (∃ (v2 : Int32) (σ1 : St_), r_X12_readOne [.ref 219] σ = some (some (.int v2), σ1) ∧ ((v2 = 0 → out = (some (.int (0 : Int32)), σ1)) ∧ (¬ (v2 = 0) → Ev_ (P_X12_readAnd KC r_X12_readOr r_X12_readAnd r_X12_readOne r_X12_readBracket r_X12_readNot) 14 [some (.ref 219), some (.int (σ1.1 219 62))] [] σ1 out)))) : Ev_ (P_X12_readAnd KC r_X12_readOr r_X12_readAnd r_X12_readOne r_X12_readBracket r_X12_readNot) 0 [some (.ref 219), none] [] σ out := by
  refine ev_n 1 (fun _ => rfl) ?_
  obtain ⟨v2, σ1, hf, h⟩ := h
  refine ev_go rfl (w_callV rfl rfl rfl (Nat.le_of_ble_eq_true rfl) hf) ?_
  refine ev_if (c := v2 = 0) rfl (fun _ => rfl) (fun hc => ?_) (fun hc => ?_)
  · replace h := h.1 hc
    refine ev_n 1 (fun _ => rfl) ?_
    exact v_zret (by decide) rfl h
  · replace h := h.2 hc
    refine ev_n 1 (fun _ => rfl) ?_
    refine ev_go rfl (w_gI rfl) ?_
    refine ev_n 1 (fun _ => rfl) ?_
    exact h
set_option maxRecDepth 20000 in
theorem e_X12_readAnd_14 {r_X12_readOr : Fn_} {r_X12_readAnd : Fn_} {r_X12_readOne : Fn_} {r_X12_readBracket : Fn_} {r_X12_readNot : Fn_} {x1 : Int32} {σ : St_} {out : Out_}  (h : (∃ (v2 : Int32) (σ1 : St_), f_X12_isWord KC [.ref 219, .int (12 : Int32)] σ = some (some (.int v2), σ1) ∧ ((v2 = 0 → out = (some (.int (1 : Int32)), (sI_ σ1 219 62 x1))) ∧ (¬ (v2 = 0) → (∃ (σ3 : St_), f_X12_go KC [.ref 219] σ1 = some (none, σ3) ∧ (∃ (v5 : Int32) (σ4 : St_), r_X12_readOne [.ref 219] σ3 = some (some (.int v5), σ4) ∧ ((v5 = 0 → out = (some (.int (0 : Int32)), σ4)) ∧ (¬ (v5 = 0) → (∃ (v7 : Int32) (σ6 : St_), f_X12_lays KC [.ref 219, .int (2 : Int32), .int x1, .int (σ4.1 219 62), .int (0 : Int32)] σ4 = some (some (.int v7), σ6) ∧ Ev_ (P_X12_readAnd KC r_X12_readOr r_X12_readAnd r_X12_readOne r_X12_readBracket r_X12_readNot) 14 [some (.ref 219), some (.int v7)] [] σ6 out))))))))) : Ev_ (P_X12_readAnd KC r_X12_readOr r_X12_readAnd r_X12_readOne r_X12_readBracket r_X12_readNot) 14 [some (.ref 219), some (.int x1)] [] σ out := by
  refine ev_n 2 (fun _ => rfl) ?_
  obtain ⟨v2, σ1, hf, h⟩ := h
  refine ev_go rfl (w_callV rfl rfl rfl (Nat.le_of_ble_eq_true rfl) hf) ?_
  refine ev_if (c := v2 = 0) rfl (fun _ => rfl) (fun hc => ?_) (fun hc => ?_)
  · replace h := h.1 hc
    refine ev_n 2 (fun _ => rfl) ?_
    refine ev_go rfl (w_pI rfl) ?_
    refine ev_n 1 (fun _ => rfl) ?_
    exact v_zret (by decide) rfl h
  · replace h := h.2 hc
    refine ev_n 1 (fun _ => rfl) ?_
    obtain ⟨σ3, hf, h⟩ := h
    refine ev_go rfl (w_callV rfl rfl rfl (Nat.le_of_ble_eq_true rfl) hf) ?_
    refine ev_n 1 (fun _ => rfl) ?_
    obtain ⟨v5, σ4, hf, h⟩ := h
    refine ev_go rfl (w_callV rfl rfl rfl (Nat.le_of_ble_eq_true rfl) hf) ?_
    refine ev_if (c := v5 = 0) rfl (fun _ => rfl) (fun hc => ?_) (fun hc => ?_)
    · replace h := h.1 hc
      refine ev_n 1 (fun _ => rfl) ?_
      exact v_zret (by decide) rfl h
    · replace h := h.2 hc
      refine ev_n 4 (fun _ => rfl) ?_
      refine ev_go rfl (w_gI rfl) ?_
      refine ev_n 1 (fun _ => rfl) ?_
      obtain ⟨v7, σ6, hf, h⟩ := h
      refine ev_go rfl (w_callV rfl rfl rfl (Nat.le_of_ble_eq_true rfl) hf) ?_
      refine ev_n 2 (fun _ => rfl) ?_
      exact h
theorem m_X12_readAnd (d : Nat) : ∀ pc o, (P_X12_readAnd KC (f_X12_readOr KC d) (f_X12_readAnd KC d) (f_X12_readOne KC d) (f_X12_readBracket KC d) (f_X12_readNot KC d)).lookup pc = some o → Mon_ o := all_mon (a_X12_readAnd (l := launch0) (E := EC0) EC0_ok (t_X12_readOr EC0_ok d) (t_X12_readAnd EC0_ok d) (t_X12_readOne EC0_ok d) (t_X12_readBracket EC0_ok d) (t_X12_readNot EC0_ok d))
theorem z_X12_readAnd  {σ : St_} {out : Out_} {d : Nat} (h : Ev_ (P_X12_readAnd KC (f_X12_readOr KC d) (f_X12_readAnd KC d) (f_X12_readOne KC d) (f_X12_readBracket KC d) (f_X12_readNot KC d)) 0 [some (.ref 219), none] [] σ out) : f_X12_readAnd KC (d + 1) [.ref 219] σ = some out := show fn_ (P_X12_readAnd KC (f_X12_readOr KC d) (f_X12_readAnd KC d) (f_X12_readOne KC d) (f_X12_readBracket KC d) (f_X12_readNot KC d)) 2 [.ref 219] σ = some out from fn_eq (m_X12_readAnd d) rfl h
set_option maxRecDepth 20000 in
theorem e_X12_readOne_0 {r_X12_readOr : Fn_} {r_X12_readAnd : Fn_} {r_X12_readOne : Fn_} {r_X12_readBracket : Fn_} {r_X12_readNot : Fn_} {σ : St_} {out : Out_}  (h : (∃ (v2 : Int32) (σ1 : St_), f_X12_isSign KC [.ref 219, .int (40 : Int32)] σ = some (some (.int v2), σ1) ∧ Ev_ (P_X12_readOne KC r_X12_readOr r_X12_readAnd r_X12_readOne r_X12_readBracket r_X12_readNot) 10 [some (.ref 219), some (.int v2), some (.int (13 : Int32)), none] [] σ1 out)) : Ev_ (P_X12_readOne KC r_X12_readOr r_X12_readAnd r_X12_readOne r_X12_readBracket r_X12_readNot) 0 [some (.ref 219), none, none, none] [] σ out := by
  refine ev_n 2 (fun _ => rfl) ?_
  obtain ⟨v2, σ1, hf, h⟩ := h
  refine ev_go rfl (w_callV rfl rfl rfl (Nat.le_of_ble_eq_true rfl) hf) ?_
  refine ev_n 3 (fun _ => rfl) ?_
  exact h
set_option maxRecDepth 20000 in
theorem e_X12_readOne_10 {r_X12_readOr : Fn_} {r_X12_readAnd : Fn_} {r_X12_readOne : Fn_} {r_X12_readBracket : Fn_} {r_X12_readNot : Fn_} {x1 : Int32} {x2 : Int32} {σ : St_} {out : Out_}  (h : (((19 : Int32) < x2 → ((x1 = 0 → ((x2 ≤ (19 : Int32) → Ev_ (P_X12_readOne KC r_X12_readOr r_X12_readAnd r_X12_readOne r_X12_readBracket r_X12_readNot) 46 [some (.ref 219), some (.int x1), some (.int x2), none] [] σ out) ∧ (¬ (x2 ≤ (19 : Int32)) → (∃ (v2 : Int32) (σ1 : St_), f_X12_bad KC [.ref 219, .int (1 : Int32)] σ = some (some (.int v2), σ1) ∧ (v2 = 0 ∨ v2 = 1) ∧ out = (some (.int v2), σ1))))) ∧ (¬ (x1 = 0) → Ev_ (P_X12_readOne KC r_X12_readOr r_X12_readAnd r_X12_readOne r_X12_readBracket r_X12_readNot) 46 [some (.ref 219), some (.int x1), some (.int x2), none] [] σ out))) ∧ (¬ ((19 : Int32) < x2) → (∃ (v4 : Int32) (σ3 : St_), f_X12_isWord KC [.ref 219, .int x2] σ = some (some (.int v4), σ3) ∧ ((v4 = 0 → Ev_ (P_X12_readOne KC r_X12_readOr r_X12_readAnd r_X12_readOne r_X12_readBracket r_X12_readNot) 10 [some (.ref 219), some (.int x1), some (.int (x2 + 1)), none] [] σ3 out) ∧ (¬ (v4 = 0) → ((x1 = 0 → ((x2 ≤ (19 : Int32) → Ev_ (P_X12_readOne KC r_X12_readOr r_X12_readAnd r_X12_readOne r_X12_readBracket r_X12_readNot) 46 [some (.ref 219), some (.int x1), some (.int x2), none] [] σ3 out) ∧ (¬ (x2 ≤ (19 : Int32)) → (∃ (v6 : Int32) (σ5 : St_), f_X12_bad KC [.ref 219, .int (1 : Int32)] σ3 = some (some (.int v6), σ5) ∧ (v6 = 0 ∨ v6 = 1) ∧ out = (some (.int v6), σ5))))) ∧ (¬ (x1 = 0) → Ev_ (P_X12_readOne KC r_X12_readOr r_X12_readAnd r_X12_readOne r_X12_readBracket r_X12_readNot) 46 [some (.ref 219), some (.int x1), some (.int x2), none] [] σ3 out)))))))) : Ev_ (P_X12_readOne KC r_X12_readOr r_X12_readAnd r_X12_readOne r_X12_readBracket r_X12_readNot) 10 [some (.ref 219), some (.int x1), some (.int x2), none] [] σ out := by
  refine ev_n 2 (fun _ => rfl) ?_
  refine ev_if (c := (19 : Int32) < x2) rfl (fun _ => rfl) (fun hc => ?_) (fun hc => ?_)
  · replace h := h.1 hc
    refine ev_n 1 (fun _ => rfl) ?_
    refine ev_if (c := x1 = 0) rfl (fun _ => rfl) (fun hc => ?_) (fun hc => ?_)
    · replace h := h.1 hc
      refine ev_n 2 (fun _ => rfl) ?_
      refine ev_if (c := x2 ≤ (19 : Int32)) rfl (fun _ => rfl) (fun hc => ?_) (fun hc => ?_)
      · replace h := h.1 hc
        exact h
      · replace h := h.2 hc
        refine ev_n 2 (fun _ => rfl) ?_
        obtain ⟨v2, σ1, hf, h⟩ := h
        refine ev_go rfl (w_callV rfl rfl rfl (Nat.le_of_ble_eq_true rfl) hf) ?_
        exact v_zret h.1 rfl h.2
    · replace h := h.2 hc
      exact h
  · replace h := h.2 hc
    refine ev_n 2 (fun _ => rfl) ?_
    obtain ⟨v4, σ3, hf, h⟩ := h
    refine ev_go rfl (w_callV rfl rfl rfl (Nat.le_of_ble_eq_true rfl) hf) ?_
    refine ev_if (c := v4 = 0) rfl (fun _ => rfl) (fun hc => ?_) (fun hc => ?_)
    · replace h := h.1 hc
      refine ev_n 2 (fun _ => rfl) ?_
      exact h
    · replace h := h.2 hc
      refine ev_n 1 (fun _ => rfl) ?_
      refine ev_if (c := x1 = 0) rfl (fun _ => rfl) (fun hc => ?_) (fun hc => ?_)
      · replace h := h.1 hc
        refine ev_n 2 (fun _ => rfl) ?_
        refine ev_if (c := x2 ≤ (19 : Int32)) rfl (fun _ => rfl) (fun hc => ?_) (fun hc => ?_)
        · replace h := h.1 hc
          exact h
        · replace h := h.2 hc
          refine ev_n 2 (fun _ => rfl) ?_
          obtain ⟨v6, σ5, hf, h⟩ := h
          refine ev_go rfl (w_callV rfl rfl rfl (Nat.le_of_ble_eq_true rfl) hf) ?_
          exact v_zret h.1 rfl h.2
      · replace h := h.2 hc
        exact h
set_option maxRecDepth 20000 in
theorem e_X12_readOne_46 {r_X12_readOr : Fn_} {r_X12_readAnd : Fn_} {r_X12_readOne : Fn_} {r_X12_readBracket : Fn_} {r_X12_readNot : Fn_} {x1 : Int32} {x2 : Int32} {σ : St_} {out : Out_}  (h : (((σ.1 219 60) = (20 : Int32) → (∃ (v2 : Int32) (σ1 : St_), f_X12_bad KC [.ref 219, .int (4 : Int32)] σ = some (some (.int v2), σ1) ∧ (v2 = 0 ∨ v2 = 1) ∧ out = (some (.int v2), σ1))) ∧ (¬ ((σ.1 219 60) = (20 : Int32)) → (((σ.1 219 61) = (8 : Int32) → (∃ (v4 : Int32) (σ3 : St_), f_X12_bad KC [.ref 219, .int (4 : Int32)] σ = some (some (.int v4), σ3) ∧ (v4 = 0 ∨ v4 = 1) ∧ out = (some (.int v4), σ3))) ∧ (¬ ((σ.1 219 61) = (8 : Int32)) → (∃ (σ5 : St_), f_X12_go KC [.ref 219] (sI_ (sI_ σ 219 60 ((σ.1 219 60) + (1 : Int32))) 219 61 (((sI_ σ 219 60 ((σ.1 219 60) + (1 : Int32))).1 219 61) + (1 : Int32))) = some (none, σ5) ∧ ((x1 = 0 → ((x2 = (13 : Int32) → (∃ (v7 : Int32) (σ6 : St_), r_X12_readNot [.ref 219] σ5 = some (some (.int v7), σ6) ∧ (v7 = 0 ∨ v7 = 1) ∧ out = (some (.int v7), (sI_ σ6 219 61 ((σ6.1 219 61) - (1 : Int32)))))) ∧ (¬ (x2 = (13 : Int32)) → (((16 : Int32) ≤ x2 → (∃ (v9 : Int32) (σ8 : St_), f_X12_readCompare KC [.ref 219, .int x2] σ5 = some (some (.int v9), σ8) ∧ (v9 = 0 ∨ v9 = 1) ∧ out = (some (.int v9), (sI_ σ8 219 61 ((σ8.1 219 61) - (1 : Int32)))))) ∧ (¬ ((16 : Int32) ≤ x2) → (∃ (v11 : Int32) (σ10 : St_), f_X12_readOf KC [.ref 219, .int x2] σ5 = some (some (.int v11), σ10) ∧ (v11 = 0 ∨ v11 = 1) ∧ out = (some (.int v11), (sI_ σ10 219 61 ((σ10.1 219 61) - (1 : Int32)))))))))) ∧ (¬ (x1 = 0) → (∃ (v13 : Int32) (σ12 : St_), r_X12_readBracket [.ref 219] σ5 = some (some (.int v13), σ12) ∧ (v13 = 0 ∨ v13 = 1) ∧ out = (some (.int v13), (sI_ σ12 219 61 ((σ12.1 219 61) - (1 : Int32))))))))))))) : Ev_ (P_X12_readOne KC r_X12_readOr r_X12_readAnd r_X12_readOne r_X12_readBracket r_X12_readNot) 46 [some (.ref 219), some (.int x1), some (.int x2), none] [] σ out := by
  refine ev_n 1 (fun _ => rfl) ?_
  refine ev_go rfl (w_gI rfl) ?_
  refine ev_n 1 (fun _ => rfl) ?_
  refine ev_if (c := (σ.1 219 60) = (20 : Int32)) rfl (fun _ => rfl) (fun hc => ?_) (fun hc => ?_)
  · replace h := h.1 hc
    refine ev_n 2 (fun _ => rfl) ?_
    obtain ⟨v2, σ1, hf, h⟩ := h
    refine ev_go rfl (w_callV rfl rfl rfl (Nat.le_of_ble_eq_true rfl) hf) ?_
    exact v_zret h.1 rfl h.2
  · replace h := h.2 hc
    refine ev_n 1 (fun _ => rfl) ?_
    refine ev_go rfl (w_gI rfl) ?_
    refine ev_n 1 (fun _ => rfl) ?_
    refine ev_if (c := (σ.1 219 61) = (8 : Int32)) rfl (fun _ => rfl) (fun hc => ?_) (fun hc => ?_)
    · replace h := h.1 hc
      refine ev_n 2 (fun _ => rfl) ?_
      obtain ⟨v4, σ3, hf, h⟩ := h
      refine ev_go rfl (w_callV rfl rfl rfl (Nat.le_of_ble_eq_true rfl) hf) ?_
      exact v_zret h.1 rfl h.2
    · replace h := h.2 hc
      refine ev_n 2 (fun _ => rfl) ?_
      refine ev_go rfl (w_gI rfl) ?_
      refine ev_n 2 (fun _ => rfl) ?_
      refine ev_go rfl (w_pI rfl) ?_
      refine ev_n 2 (fun _ => rfl) ?_
      refine ev_go rfl (w_gI rfl) ?_
      refine ev_n 2 (fun _ => rfl) ?_
      refine ev_go rfl (w_pI rfl) ?_
      refine ev_n 1 (fun _ => rfl) ?_
      obtain ⟨σ5, hf, h⟩ := h
      refine ev_go rfl (w_callV rfl rfl rfl (Nat.le_of_ble_eq_true rfl) hf) ?_
      refine ev_n 1 (fun _ => rfl) ?_
      refine ev_if (c := x1 = 0) rfl (fun _ => rfl) (fun hc => ?_) (fun hc => ?_)
      · replace h := h.1 hc
        refine ev_n 2 (fun _ => rfl) ?_
        refine ev_if (c := x2 = (13 : Int32)) rfl (fun _ => rfl) (fun hc => ?_) (fun hc => ?_)
        · replace h := h.1 hc
          refine ev_n 1 (fun _ => rfl) ?_
          obtain ⟨v7, σ6, hf, h⟩ := h
          refine ev_go rfl (w_callV rfl rfl rfl (Nat.le_of_ble_eq_true rfl) hf) ?_
          refine ev_n 4 (fun _ => rfl) ?_
          refine ev_go rfl (w_gI rfl) ?_
          refine ev_n 2 (fun _ => rfl) ?_
          refine ev_go rfl (w_pI rfl) ?_
          refine ev_n 1 (fun _ => rfl) ?_
          exact v_zret h.1 rfl h.2
        · replace h := h.2 hc
          refine ev_n 2 (fun _ => rfl) ?_
          refine ev_if (c := (16 : Int32) ≤ x2) rfl (fun _ => rfl) (fun hc => ?_) (fun hc => ?_)
          · replace h := h.1 hc
            refine ev_n 2 (fun _ => rfl) ?_
            obtain ⟨v9, σ8, hf, h⟩ := h
            refine ev_go rfl (w_callV rfl rfl rfl (Nat.le_of_ble_eq_true rfl) hf) ?_
            refine ev_n 3 (fun _ => rfl) ?_
            refine ev_go rfl (w_gI rfl) ?_
            refine ev_n 2 (fun _ => rfl) ?_
            refine ev_go rfl (w_pI rfl) ?_
            refine ev_n 1 (fun _ => rfl) ?_
            exact v_zret h.1 rfl h.2
          · replace h := h.2 hc
            refine ev_n 2 (fun _ => rfl) ?_
            obtain ⟨v11, σ10, hf, h⟩ := h
            refine ev_go rfl (w_callV rfl rfl rfl (Nat.le_of_ble_eq_true rfl) hf) ?_
            refine ev_n 4 (fun _ => rfl) ?_
            refine ev_go rfl (w_gI rfl) ?_
            refine ev_n 2 (fun _ => rfl) ?_
            refine ev_go rfl (w_pI rfl) ?_
            refine ev_n 1 (fun _ => rfl) ?_
            exact v_zret h.1 rfl h.2
      · replace h := h.2 hc
        refine ev_n 1 (fun _ => rfl) ?_
        obtain ⟨v13, σ12, hf, h⟩ := h
        refine ev_go rfl (w_callV rfl rfl rfl (Nat.le_of_ble_eq_true rfl) hf) ?_
        refine ev_n 4 (fun _ => rfl) ?_
        refine ev_go rfl (w_gI rfl) ?_
        refine ev_n 2 (fun _ => rfl) ?_
        refine ev_go rfl (w_pI rfl) ?_
        refine ev_n 1 (fun _ => rfl) ?_
        exact v_zret h.1 rfl h.2
theorem m_X12_readOne (d : Nat) : ∀ pc o, (P_X12_readOne KC (f_X12_readOr KC d) (f_X12_readAnd KC d) (f_X12_readOne KC d) (f_X12_readBracket KC d) (f_X12_readNot KC d)).lookup pc = some o → Mon_ o := all_mon (a_X12_readOne (l := launch0) (E := EC0) EC0_ok (t_X12_readOr EC0_ok d) (t_X12_readAnd EC0_ok d) (t_X12_readOne EC0_ok d) (t_X12_readBracket EC0_ok d) (t_X12_readNot EC0_ok d))
theorem z_X12_readOne  {σ : St_} {out : Out_} {d : Nat} (h : Ev_ (P_X12_readOne KC (f_X12_readOr KC d) (f_X12_readAnd KC d) (f_X12_readOne KC d) (f_X12_readBracket KC d) (f_X12_readNot KC d)) 0 [some (.ref 219), none, none, none] [] σ out) : f_X12_readOne KC (d + 1) [.ref 219] σ = some out := show fn_ (P_X12_readOne KC (f_X12_readOr KC d) (f_X12_readAnd KC d) (f_X12_readOne KC d) (f_X12_readBracket KC d) (f_X12_readNot KC d)) 4 [.ref 219] σ = some out from fn_eq (m_X12_readOne d) rfl h
set_option maxRecDepth 20000 in
theorem e_X12_readBracket_0 {r_X12_readOr : Fn_} {r_X12_readAnd : Fn_} {r_X12_readOne : Fn_} {r_X12_readBracket : Fn_} {r_X12_readNot : Fn_} {σ : St_} {out : Out_}  (h : (∃ (v2 : Int32) (σ1 : St_), r_X12_readOr [.ref 219] σ = some (some (.int v2), σ1) ∧ ((v2 = 0 → out = (some (.int (0 : Int32)), σ1)) ∧ (¬ (v2 = 0) → (∃ (v4 : Int32) (σ3 : St_), f_X12_isSign KC [.ref 219, .int (41 : Int32)] σ1 = some (some (.int v4), σ3) ∧ ((v4 = 0 → (∃ (v6 : Int32) (σ5 : St_), f_X12_bad KC [.ref 219, .int (1 : Int32)] σ3 = some (some (.int v6), σ5) ∧ (v6 = 0 ∨ v6 = 1) ∧ out = (some (.int v6), σ5))) ∧ (¬ (v4 = 0) → (∃ (σ7 : St_), f_X12_go KC [.ref 219] σ3 = some (none, σ7) ∧ out = (some (.int (1 : Int32)), σ7))))))))) : Ev_ (P_X12_readBracket KC r_X12_readOr r_X12_readAnd r_X12_readOne r_X12_readBracket r_X12_readNot) 0 [some (.ref 219)] [] σ out := by
  refine ev_n 1 (fun _ => rfl) ?_
  obtain ⟨v2, σ1, hf, h⟩ := h
  refine ev_go rfl (w_callV rfl rfl rfl (Nat.le_of_ble_eq_true rfl) hf) ?_
  refine ev_if (c := v2 = 0) rfl (fun _ => rfl) (fun hc => ?_) (fun hc => ?_)
  · replace h := h.1 hc
    refine ev_n 1 (fun _ => rfl) ?_
    exact v_zret (by decide) rfl h
  · replace h := h.2 hc
    refine ev_n 2 (fun _ => rfl) ?_
    obtain ⟨v4, σ3, hf, h⟩ := h
    refine ev_go rfl (w_callV rfl rfl rfl (Nat.le_of_ble_eq_true rfl) hf) ?_
    refine ev_if (c := v4 = 0) rfl (fun _ => rfl) (fun hc => ?_) (fun hc => ?_)
    · replace h := h.1 hc
      refine ev_n 2 (fun _ => rfl) ?_
      obtain ⟨v6, σ5, hf, h⟩ := h
      refine ev_go rfl (w_callV rfl rfl rfl (Nat.le_of_ble_eq_true rfl) hf) ?_
      exact v_zret h.1 rfl h.2
    · replace h := h.2 hc
      refine ev_n 1 (fun _ => rfl) ?_
      obtain ⟨σ7, hf, h⟩ := h
      refine ev_go rfl (w_callV rfl rfl rfl (Nat.le_of_ble_eq_true rfl) hf) ?_
      refine ev_n 1 (fun _ => rfl) ?_
      exact v_zret (by decide) rfl h
theorem m_X12_readBracket (d : Nat) : ∀ pc o, (P_X12_readBracket KC (f_X12_readOr KC d) (f_X12_readAnd KC d) (f_X12_readOne KC d) (f_X12_readBracket KC d) (f_X12_readNot KC d)).lookup pc = some o → Mon_ o := all_mon (a_X12_readBracket (l := launch0) (E := EC0) EC0_ok (t_X12_readOr EC0_ok d) (t_X12_readAnd EC0_ok d) (t_X12_readOne EC0_ok d) (t_X12_readBracket EC0_ok d) (t_X12_readNot EC0_ok d))
theorem z_X12_readBracket  {σ : St_} {out : Out_} {d : Nat} (h : Ev_ (P_X12_readBracket KC (f_X12_readOr KC d) (f_X12_readAnd KC d) (f_X12_readOne KC d) (f_X12_readBracket KC d) (f_X12_readNot KC d)) 0 [some (.ref 219)] [] σ out) : f_X12_readBracket KC (d + 1) [.ref 219] σ = some out := show fn_ (P_X12_readBracket KC (f_X12_readOr KC d) (f_X12_readAnd KC d) (f_X12_readOne KC d) (f_X12_readBracket KC d) (f_X12_readNot KC d)) 1 [.ref 219] σ = some out from fn_eq (m_X12_readBracket d) rfl h
set_option maxRecDepth 20000 in
theorem e_X12_readNot_0 {r_X12_readOr : Fn_} {r_X12_readAnd : Fn_} {r_X12_readOne : Fn_} {r_X12_readBracket : Fn_} {r_X12_readNot : Fn_} {σ : St_} {out : Out_}  (h : (∃ (v2 : Int32) (σ1 : St_), r_X12_readOne [.ref 219] σ = some (some (.int v2), σ1) ∧ ((v2 = 0 → out = (some (.int (0 : Int32)), σ1)) ∧ (¬ (v2 = 0) → (∃ (v4 : Int32) (σ3 : St_), f_X12_lays KC [.ref 219, .int (1 : Int32), .int (σ1.1 219 62), .int (0 : Int32), .int (0 : Int32)] σ1 = some (some (.int v4), σ3) ∧ out = (some (.int (1 : Int32)), (sI_ σ3 219 62 v4))))))) : Ev_ (P_X12_readNot KC r_X12_readOr r_X12_readAnd r_X12_readOne r_X12_readBracket r_X12_readNot) 0 [some (.ref 219)] [] σ out := by
  refine ev_n 1 (fun _ => rfl) ?_
  obtain ⟨v2, σ1, hf, h⟩ := h
  refine ev_go rfl (w_callV rfl rfl rfl (Nat.le_of_ble_eq_true rfl) hf) ?_
  refine ev_if (c := v2 = 0) rfl (fun _ => rfl) (fun hc => ?_) (fun hc => ?_)
  · replace h := h.1 hc
    refine ev_n 1 (fun _ => rfl) ?_
    exact v_zret (by decide) rfl h
  · replace h := h.2 hc
    refine ev_n 4 (fun _ => rfl) ?_
    refine ev_go rfl (w_gI rfl) ?_
    refine ev_n 2 (fun _ => rfl) ?_
    obtain ⟨v4, σ3, hf, h⟩ := h
    refine ev_go rfl (w_callV rfl rfl rfl (Nat.le_of_ble_eq_true rfl) hf) ?_
    refine ev_go rfl (w_pI rfl) ?_
    refine ev_n 1 (fun _ => rfl) ?_
    exact v_zret (by decide) rfl h
theorem m_X12_readNot (d : Nat) : ∀ pc o, (P_X12_readNot KC (f_X12_readOr KC d) (f_X12_readAnd KC d) (f_X12_readOne KC d) (f_X12_readBracket KC d) (f_X12_readNot KC d)).lookup pc = some o → Mon_ o := all_mon (a_X12_readNot (l := launch0) (E := EC0) EC0_ok (t_X12_readOr EC0_ok d) (t_X12_readAnd EC0_ok d) (t_X12_readOne EC0_ok d) (t_X12_readBracket EC0_ok d) (t_X12_readNot EC0_ok d))
theorem z_X12_readNot  {σ : St_} {out : Out_} {d : Nat} (h : Ev_ (P_X12_readNot KC (f_X12_readOr KC d) (f_X12_readAnd KC d) (f_X12_readOne KC d) (f_X12_readBracket KC d) (f_X12_readNot KC d)) 0 [some (.ref 219)] [] σ out) : f_X12_readNot KC (d + 1) [.ref 219] σ = some out := show fn_ (P_X12_readNot KC (f_X12_readOr KC d) (f_X12_readAnd KC d) (f_X12_readOne KC d) (f_X12_readBracket KC d) (f_X12_readNot KC d)) 1 [.ref 219] σ = some out from fn_eq (m_X12_readNot d) rfl h
set_option maxRecDepth 20000 in
theorem e_X12_sentence_0  {σ : St_} {out : Out_}  (h : (∃ (σ1 : St_), f_X12_begin KC [.ref 219, .int (200 : Int32)] σ = some (none, σ1) ∧ (∃ (v3 : Int32) (σ2 : St_), f_X12_readOr KC 80 [.ref 219] (sI_ (sI_ (sI_ σ1 219 59 (0 : Int32)) 219 60 (0 : Int32)) 219 61 (0 : Int32)) = some (some (.int v3), σ2) ∧ ((v3 = 0 → out = (some (.int (((-1) : Int32) - (σ2.1 219 11))), σ2)) ∧ (¬ (v3 = 0) → (((σ2.1 219 7) = 0 → (vpin_ (800 : Int32) 1050 = true) ∧ (vpin_ (801 : Int32) 1050 = true) ∧ Ev_ (P_X12_sentence KC) 79 [some (.ref 219), some (.int (0 : Int32))] [] (sI_ (sI_ σ2 221 (Int32.toNatClampNeg (800 : Int32)) (1 : Int32)) 221 (Int32.toNatClampNeg (801 : Int32)) ((sI_ σ2 221 (Int32.toNatClampNeg (800 : Int32)) (1 : Int32)).1 219 62)) out) ∧ (¬ ((σ2.1 219 7) = 0) → (∃ (v5 : Int32) (σ4 : St_), f_X12_bad KC [.ref 219, .int (1 : Int32)] σ2 = some (some (.int v5), σ4) ∧ out = (some (.int (((-1) : Int32) - (σ4.1 219 11))), σ4))))))))) : Ev_ (P_X12_sentence KC) 0 [some (.ref 219), none] [] σ out := by
  refine ev_n 2 (fun _ => rfl) ?_
  obtain ⟨σ1, hf, h⟩ := h
  refine ev_go rfl (w_callV rfl rfl rfl (Nat.le_of_ble_eq_true rfl) hf) ?_
  refine ev_n 2 (fun _ => rfl) ?_
  refine ev_go rfl (w_pI rfl) ?_
  refine ev_n 2 (fun _ => rfl) ?_
  refine ev_go rfl (w_pI rfl) ?_
  refine ev_n 2 (fun _ => rfl) ?_
  refine ev_go rfl (w_pI rfl) ?_
  refine ev_n 1 (fun _ => rfl) ?_
  obtain ⟨v3, σ2, hf, h⟩ := h
  refine ev_go rfl (w_callV rfl rfl rfl (Nat.le_of_ble_eq_true rfl) hf) ?_
  refine ev_if (c := v3 = 0) rfl (fun _ => rfl) (fun hc => ?_) (fun hc => ?_)
  · replace h := h.1 hc
    refine ev_n 2 (fun _ => rfl) ?_
    refine ev_go rfl (w_gI rfl) ?_
    refine ev_n 1 (fun _ => rfl) ?_
    exact ev_ret rfl (fun _ => rfl) h
  · replace h := h.2 hc
    refine ev_n 1 (fun _ => rfl) ?_
    refine ev_go rfl (w_gI rfl) ?_
    refine ev_if (c := (σ2.1 219 7) = 0) rfl (fun _ => rfl) (fun hc => ?_) (fun hc => ?_)
    · replace h := h.1 hc
      refine ev_n 1 (fun _ => rfl) ?_
      refine ev_go rfl (w_gF rfl rfl) ?_
      refine ev_n 2 (fun _ => rfl) ?_
      obtain ⟨h0, h⟩ := h
      refine ev_go rfl (w_iast rfl h0) ?_
      refine ev_n 1 (fun _ => rfl) ?_
      refine ev_go rfl (w_gF rfl rfl) ?_
      refine ev_n 2 (fun _ => rfl) ?_
      refine ev_go rfl (w_gI rfl) ?_
      obtain ⟨h0, h⟩ := h
      refine ev_go rfl (w_iast rfl h0) ?_
      refine ev_n 2 (fun _ => rfl) ?_
      exact h
    · replace h := h.2 hc
      refine ev_n 2 (fun _ => rfl) ?_
      obtain ⟨v5, σ4, hf, h⟩ := h
      refine ev_go rfl (w_callV rfl rfl rfl (Nat.le_of_ble_eq_true rfl) hf) ?_
      refine ev_n 3 (fun _ => rfl) ?_
      refine ev_go rfl (w_gI rfl) ?_
      refine ev_n 1 (fun _ => rfl) ?_
      exact ev_ret rfl (fun _ => rfl) h
set_option maxRecDepth 20000 in
theorem e_X12_sentence_79 {x1 : Int32} {σ : St_} {out : Out_}  (h : (((240 : Int32) ≤ x1 → out = (some (.int (σ.1 219 60)), σ)) ∧ (¬ ((240 : Int32) ≤ x1) → (vpin_ x1 240 = true) ∧ (vpin_ ((810 : Int32) + x1) 1050 = true) ∧ Ev_ (P_X12_sentence KC) 79 [some (.ref 219), some (.int (x1 + 1))] [] (sI_ σ 221 (Int32.toNatClampNeg ((810 : Int32) + x1)) (σ.1 245 (Int32.toNatClampNeg x1))) out))) : Ev_ (P_X12_sentence KC) 79 [some (.ref 219), some (.int x1)] [] σ out := by
  refine ev_n 2 (fun _ => rfl) ?_
  refine ev_if (c := (240 : Int32) ≤ x1) rfl (fun _ => rfl) (fun hc => ?_) (fun hc => ?_)
  · replace h := h.1 hc
    refine ev_n 1 (fun _ => rfl) ?_
    refine ev_go rfl (w_gI rfl) ?_
    exact ev_ret rfl (fun _ => rfl) h
  · replace h := h.2 hc
    refine ev_n 1 (fun _ => rfl) ?_
    refine ev_go rfl (w_gF rfl rfl) ?_
    refine ev_n 4 (fun _ => rfl) ?_
    refine ev_go rfl (w_gF rfl rfl) ?_
    refine ev_n 1 (fun _ => rfl) ?_
    obtain ⟨h0, h⟩ := h
    refine ev_go rfl (w_iald rfl h0) ?_
    obtain ⟨h0, h⟩ := h
    refine ev_go rfl (w_iast rfl h0) ?_
    refine ev_n 2 (fun _ => rfl) ?_
    exact h
theorem m_X12_sentence : ∀ pc o, (P_X12_sentence KC).lookup pc = some o → Mon_ o := all_mon (a_X12_sentence (l := launch0) (E := EC0) EC0_ok)
theorem z_X12_sentence  {σ : St_} {out : Out_} (h : Ev_ (P_X12_sentence KC) 0 [some (.ref 219), none] [] σ out) : f_X12_sentence KC [.ref 219] σ = some out := fn_eq m_X12_sentence rfl h
set_option maxRecDepth 20000 in
theorem e_X12_compares_0 {x0 : Int32} {x1 : Int32} {x2 : Int32} {σ : St_} {out : Out_}  (h : ((x1 = (60 : Int32) → ((x2 ≤ x0 → out = (some (.int (0 : Int32)), σ)) ∧ (¬ (x2 ≤ x0) → out = (some (.int (1 : Int32)), σ)))) ∧ (¬ (x1 = (60 : Int32)) → ((x1 = (61 : Int32) → ((x0 = x2 → out = (some (.int (1 : Int32)), σ)) ∧ (¬ (x0 = x2) → out = (some (.int (0 : Int32)), σ)))) ∧ (¬ (x1 = (61 : Int32)) → ((x0 ≤ x2 → out = (some (.int (0 : Int32)), σ)) ∧ (¬ (x0 ≤ x2) → out = (some (.int (1 : Int32)), σ)))))))) : Ev_ (P_X12_compares KC) 0 [some (.int x0), some (.int x1), some (.int x2)] [] σ out := by
  refine ev_n 2 (fun _ => rfl) ?_
  refine ev_if (c := x1 = (60 : Int32)) rfl (fun _ => rfl) (fun hc => ?_) (fun hc => ?_)
  · replace h := h.1 hc
    refine ev_n 2 (fun _ => rfl) ?_
    refine ev_if (c := x2 ≤ x0) rfl (fun _ => rfl) (fun hc => ?_) (fun hc => ?_)
    · replace h := h.1 hc
      refine ev_n 2 (fun _ => rfl) ?_
      exact v_zret (by decide) rfl h
    · replace h := h.2 hc
      refine ev_n 2 (fun _ => rfl) ?_
      exact v_zret (by decide) rfl h
  · replace h := h.2 hc
    refine ev_n 2 (fun _ => rfl) ?_
    refine ev_if (c := x1 = (61 : Int32)) rfl (fun _ => rfl) (fun hc => ?_) (fun hc => ?_)
    · replace h := h.1 hc
      refine ev_n 2 (fun _ => rfl) ?_
      refine ev_if (c := x0 = x2) rfl (fun _ => rfl) (fun hc => ?_) (fun hc => ?_)
      · replace h := h.1 hc
        refine ev_n 2 (fun _ => rfl) ?_
        exact v_zret (by decide) rfl h
      · replace h := h.2 hc
        refine ev_n 2 (fun _ => rfl) ?_
        exact v_zret (by decide) rfl h
    · replace h := h.2 hc
      refine ev_n 2 (fun _ => rfl) ?_
      refine ev_if (c := x0 ≤ x2) rfl (fun _ => rfl) (fun hc => ?_) (fun hc => ?_)
      · replace h := h.1 hc
        refine ev_n 1 (fun _ => rfl) ?_
        exact v_zret (by decide) rfl h
      · replace h := h.2 hc
        refine ev_n 2 (fun _ => rfl) ?_
        exact v_zret (by decide) rfl h
theorem m_X12_compares : ∀ pc o, (P_X12_compares KC).lookup pc = some o → Mon_ o := all_mon (a_X12_compares (l := launch0) (E := EC0) EC0_ok)
theorem z_X12_compares {x0 : Int32} {x1 : Int32} {x2 : Int32} {σ : St_} {out : Out_} (h : Ev_ (P_X12_compares KC) 0 [some (.int x0), some (.int x1), some (.int x2)] [] σ out) : f_X12_compares KC [.int x0, .int x1, .int x2] σ = some out := fn_eq m_X12_compares rfl h
set_option maxRecDepth 20000 in
theorem e_X12_isSo_0 {x1 : Int32} {x2 : Int32} {r_X12_isSo : Fn_} {σ : St_} {out : Out_}  (h : (vpin_ (((810 : Int32) + ((4 : Int32) * x1)) + (1 : Int32)) 1050 = true) ∧ (vpin_ (((810 : Int32) + ((4 : Int32) * x1)) + (2 : Int32)) 1050 = true) ∧ (vpin_ ((810 : Int32) + ((4 : Int32) * x1)) 1050 = true) ∧ (((((σ.1 221 (Int32.toNatClampNeg ((810 : Int32) + ((4 : Int32) * x1))))).toInt < 1 ∨ 6 < ((σ.1 221 (Int32.toNatClampNeg ((810 : Int32) + ((4 : Int32) * x1))))).toInt) → (((σ.1 221 (Int32.toNatClampNeg (((810 : Int32) + ((4 : Int32) * x1)) + (1 : Int32)))) = (17 : Int32) → (∃ (v2 : Int32) (σ1 : St_), f_X12_inAll KC [.ref 219, .int x2] σ = some (some (.int v2), σ1) ∧ (vpin_ (((810 : Int32) + ((4 : Int32) * x1)) + (3 : Int32)) 1050 = true) ∧ (∃ (v4 : Int32) (σ3 : St_), f_X12_compares KC [.int v2, .int (σ1.1 221 (Int32.toNatClampNeg (((810 : Int32) + ((4 : Int32) * x1)) + (3 : Int32)))), .int (σ.1 221 (Int32.toNatClampNeg (((810 : Int32) + ((4 : Int32) * x1)) + (2 : Int32))))] σ1 = some (some (.int v4), σ3) ∧ (v4 = 0 ∨ v4 = 1) ∧ out = (some (.int v4), σ3)))) ∧ (¬ ((σ.1 221 (Int32.toNatClampNeg (((810 : Int32) + ((4 : Int32) * x1)) + (1 : Int32)))) = (17 : Int32)) → (((σ.1 221 (Int32.toNatClampNeg (((810 : Int32) + ((4 : Int32) * x1)) + (1 : Int32)))) = (18 : Int32) → (vpin_ x2 9 = true) ∧ (vpin_ (((810 : Int32) + ((4 : Int32) * x1)) + (3 : Int32)) 1050 = true) ∧ (∃ (v6 : Int32) (σ5 : St_), f_X12_compares KC [.int (σ.1 230 (Int32.toNatClampNeg x2)), .int (σ.1 221 (Int32.toNatClampNeg (((810 : Int32) + ((4 : Int32) * x1)) + (3 : Int32)))), .int (σ.1 221 (Int32.toNatClampNeg (((810 : Int32) + ((4 : Int32) * x1)) + (2 : Int32))))] σ = some (some (.int v6), σ5) ∧ (v6 = 0 ∨ v6 = 1) ∧ out = (some (.int v6), σ5))) ∧ (¬ ((σ.1 221 (Int32.toNatClampNeg (((810 : Int32) + ((4 : Int32) * x1)) + (1 : Int32)))) = (18 : Int32)) → (vpin_ x2 9 = true) ∧ (∃ (v8 : Int32) (σ7 : St_), f_X12_bits KC [.int (σ.1 231 (Int32.toNatClampNeg x2))] σ = some (some (.int v8), σ7) ∧ (vpin_ (((810 : Int32) + ((4 : Int32) * x1)) + (3 : Int32)) 1050 = true) ∧ (∃ (v10 : Int32) (σ9 : St_), f_X12_compares KC [.int v8, .int (σ7.1 221 (Int32.toNatClampNeg (((810 : Int32) + ((4 : Int32) * x1)) + (3 : Int32)))), .int (σ.1 221 (Int32.toNatClampNeg (((810 : Int32) + ((4 : Int32) * x1)) + (2 : Int32))))] σ7 = some (some (.int v10), σ9) ∧ (v10 = 0 ∨ v10 = 1) ∧ out = (some (.int v10), σ9)))))))) ∧ ((σ.1 221 (Int32.toNatClampNeg ((810 : Int32) + ((4 : Int32) * x1)))) = 1 → (∃ (v12 : Int32) (σ11 : St_), r_X12_isSo [.ref 219, .int (σ.1 221 (Int32.toNatClampNeg (((810 : Int32) + ((4 : Int32) * x1)) + (1 : Int32)))), .int x2] σ = some (some (.int v12), σ11) ∧ ((v12 = 0 → out = (some (.int (1 : Int32)), σ11)) ∧ (¬ (v12 = 0) → out = (some (.int (0 : Int32)), σ11))))) ∧ ((σ.1 221 (Int32.toNatClampNeg ((810 : Int32) + ((4 : Int32) * x1)))) = 2 → (∃ (v14 : Int32) (σ13 : St_), r_X12_isSo [.ref 219, .int (σ.1 221 (Int32.toNatClampNeg (((810 : Int32) + ((4 : Int32) * x1)) + (1 : Int32)))), .int x2] σ = some (some (.int v14), σ13) ∧ ((v14 = 0 → out = (some (.int (0 : Int32)), σ13)) ∧ (¬ (v14 = 0) → (∃ (v16 : Int32) (σ15 : St_), r_X12_isSo [.ref 219, .int (σ.1 221 (Int32.toNatClampNeg (((810 : Int32) + ((4 : Int32) * x1)) + (2 : Int32)))), .int x2] σ13 = some (some (.int v16), σ15) ∧ ((v16 = 0 → out = (some (.int (0 : Int32)), σ15)) ∧ (¬ (v16 = 0) → out = (some (.int (1 : Int32)), σ15)))))))) ∧ ((σ.1 221 (Int32.toNatClampNeg ((810 : Int32) + ((4 : Int32) * x1)))) = 3 → (∃ (v18 : Int32) (σ17 : St_), r_X12_isSo [.ref 219, .int (σ.1 221 (Int32.toNatClampNeg (((810 : Int32) + ((4 : Int32) * x1)) + (1 : Int32)))), .int x2] σ = some (some (.int v18), σ17) ∧ ((v18 = 0 → (∃ (v20 : Int32) (σ19 : St_), r_X12_isSo [.ref 219, .int (σ.1 221 (Int32.toNatClampNeg (((810 : Int32) + ((4 : Int32) * x1)) + (2 : Int32)))), .int x2] σ17 = some (some (.int v20), σ19) ∧ ((v20 = 0 → out = (some (.int (0 : Int32)), σ19)) ∧ (¬ (v20 = 0) → out = (some (.int (1 : Int32)), σ19))))) ∧ (¬ (v18 = 0) → out = (some (.int (1 : Int32)), σ17))))) ∧ ((σ.1 221 (Int32.toNatClampNeg ((810 : Int32) + ((4 : Int32) * x1)))) = 4 → (vpin_ x2 9 = true) ∧ (∃ (v22 : Int32) (σ21 : St_), f_X12_has KC [.int (σ.1 231 (Int32.toNatClampNeg x2)), .int (σ.1 221 (Int32.toNatClampNeg (((810 : Int32) + ((4 : Int32) * x1)) + (1 : Int32))))] σ = some (some (.int v22), σ21) ∧ (v22 = 0 ∨ v22 = 1) ∧ out = (some (.int v22), σ21))) ∧ ((σ.1 221 (Int32.toNatClampNeg ((810 : Int32) + ((4 : Int32) * x1)))) = 5 → (vpin_ x2 9 = true) ∧ (∃ (v24 : Int32) (σ23 : St_), f_X12_has KC [.int (σ.1 232 (Int32.toNatClampNeg x2)), .int (σ.1 221 (Int32.toNatClampNeg (((810 : Int32) + ((4 : Int32) * x1)) + (1 : Int32))))] σ = some (some (.int v24), σ23) ∧ (v24 = 0 ∨ v24 = 1) ∧ out = (some (.int v24), σ23))) ∧ ((σ.1 221 (Int32.toNatClampNeg ((810 : Int32) + ((4 : Int32) * x1)))) = 6 → (vpin_ (((16 : Int32) * x2) + (σ.1 221 (Int32.toNatClampNeg (((810 : Int32) + ((4 : Int32) * x1)) + (1 : Int32))))) 144 = true) ∧ (vpin_ (((810 : Int32) + ((4 : Int32) * x1)) + (3 : Int32)) 1050 = true) ∧ (∃ (v26 : Int32) (σ25 : St_), f_X12_compares KC [.int ((σ.1 229 (Int32.toNatClampNeg (((16 : Int32) * x2) + (σ.1 221 (Int32.toNatClampNeg (((810 : Int32) + ((4 : Int32) * x1)) + (1 : Int32))))))) / (10000 : Int32)), .int (σ.1 221 (Int32.toNatClampNeg (((810 : Int32) + ((4 : Int32) * x1)) + (3 : Int32)))), .int (σ.1 221 (Int32.toNatClampNeg (((810 : Int32) + ((4 : Int32) * x1)) + (2 : Int32))))] σ = some (some (.int v26), σ25) ∧ (v26 = 0 ∨ v26 = 1) ∧ out = (some (.int v26), σ25))))) : Ev_ (P_X12_isSo KC r_X12_isSo) 0 [some (.ref 219), some (.int x1), some (.int x2), none, none, none] [] σ out := by
  refine ev_n 7 (fun _ => rfl) ?_
  refine ev_go rfl (w_gF rfl rfl) ?_
  refine ev_n 3 (fun _ => rfl) ?_
  obtain ⟨h0, h⟩ := h
  refine ev_go rfl (w_iald rfl h0) ?_
  refine ev_n 2 (fun _ => rfl) ?_
  refine ev_go rfl (w_gF rfl rfl) ?_
  refine ev_n 3 (fun _ => rfl) ?_
  obtain ⟨h0, h⟩ := h
  refine ev_go rfl (w_iald rfl h0) ?_
  refine ev_n 2 (fun _ => rfl) ?_
  refine ev_go rfl (w_gF rfl rfl) ?_
  refine ev_n 1 (fun _ => rfl) ?_
  obtain ⟨h0, h⟩ := h
  refine ev_go rfl (w_iald rfl h0) ?_
  refine ev_tsw rfl (fun hc => ?_) (fun t hc ht => ?_) (by decide)
  · replace h := h.1 hc
    refine ev_n 2 (fun _ => rfl) ?_
    refine ev_if (c := (σ.1 221 (Int32.toNatClampNeg (((810 : Int32) + ((4 : Int32) * x1)) + (1 : Int32)))) = (17 : Int32)) rfl (fun _ => rfl) (fun hc => ?_) (fun hc => ?_)
    · replace h := h.1 hc
      refine ev_n 2 (fun _ => rfl) ?_
      obtain ⟨v2, σ1, hf, h⟩ := h
      refine ev_go rfl (w_callV rfl rfl rfl (Nat.le_of_ble_eq_true rfl) hf) ?_
      refine ev_n 2 (fun _ => rfl) ?_
      refine ev_go rfl (w_gF rfl rfl) ?_
      refine ev_n 3 (fun _ => rfl) ?_
      obtain ⟨h0, h⟩ := h
      refine ev_go rfl (w_iald rfl h0) ?_
      refine ev_n 1 (fun _ => rfl) ?_
      obtain ⟨v4, σ3, hf, h⟩ := h
      refine ev_go rfl (w_callS ⟨Nat.le_of_ble_eq_true rfl, Nat.le_of_ble_eq_true rfl⟩ hf) ?_
      exact v_zret h.1 rfl h.2
    · replace h := h.2 hc
      refine ev_n 2 (fun _ => rfl) ?_
      refine ev_if (c := (σ.1 221 (Int32.toNatClampNeg (((810 : Int32) + ((4 : Int32) * x1)) + (1 : Int32)))) = (18 : Int32)) rfl (fun _ => rfl) (fun hc => ?_) (fun hc => ?_)
      · replace h := h.1 hc
        refine ev_n 1 (fun _ => rfl) ?_
        refine ev_go rfl (w_gF rfl rfl) ?_
        refine ev_n 1 (fun _ => rfl) ?_
        obtain ⟨h0, h⟩ := h
        refine ev_go rfl (w_iald rfl h0) ?_
        refine ev_n 2 (fun _ => rfl) ?_
        refine ev_go rfl (w_gF rfl rfl) ?_
        refine ev_n 3 (fun _ => rfl) ?_
        obtain ⟨h0, h⟩ := h
        refine ev_go rfl (w_iald rfl h0) ?_
        refine ev_n 1 (fun _ => rfl) ?_
        obtain ⟨v6, σ5, hf, h⟩ := h
        refine ev_go rfl (w_callS ⟨Nat.le_of_ble_eq_true rfl, Nat.le_of_ble_eq_true rfl⟩ hf) ?_
        exact v_zret h.1 rfl h.2
      · replace h := h.2 hc
        refine ev_n 1 (fun _ => rfl) ?_
        refine ev_go rfl (w_gF rfl rfl) ?_
        refine ev_n 1 (fun _ => rfl) ?_
        obtain ⟨h0, h⟩ := h
        refine ev_go rfl (w_iald rfl h0) ?_
        obtain ⟨v8, σ7, hf, h⟩ := h
        refine ev_go rfl (w_callS ⟨Nat.le_of_ble_eq_true rfl, Nat.le_of_ble_eq_true rfl⟩ hf) ?_
        refine ev_n 1 (fun _ => rfl) ?_
        refine ev_go rfl (w_gF rfl rfl) ?_
        refine ev_n 3 (fun _ => rfl) ?_
        obtain ⟨h0, h⟩ := h
        refine ev_go rfl (w_iald rfl h0) ?_
        refine ev_n 1 (fun _ => rfl) ?_
        obtain ⟨v10, σ9, hf, h⟩ := h
        refine ev_go rfl (w_callS ⟨Nat.le_of_ble_eq_true rfl, Nat.le_of_ble_eq_true rfl⟩ hf) ?_
        exact v_zret h.1 rfl h.2
  · have hi := tsw_in (n := 6) hc (by decide)
    rcases (show (((σ.1 221 (Int32.toNatClampNeg ((810 : Int32) + ((4 : Int32) * x1))))).toInt - 1).toNat = 0 ∨ (((σ.1 221 (Int32.toNatClampNeg ((810 : Int32) + ((4 : Int32) * x1))))).toInt - 1).toNat = 1 ∨ (((σ.1 221 (Int32.toNatClampNeg ((810 : Int32) + ((4 : Int32) * x1))))).toInt - 1).toNat = 2 ∨ (((σ.1 221 (Int32.toNatClampNeg ((810 : Int32) + ((4 : Int32) * x1))))).toInt - 1).toNat = 3 ∨ (((σ.1 221 (Int32.toNatClampNeg ((810 : Int32) + ((4 : Int32) * x1))))).toInt - 1).toNat = 4 ∨ (((σ.1 221 (Int32.toNatClampNeg ((810 : Int32) + ((4 : Int32) * x1))))).toInt - 1).toNat = 5 by omega) with e | e | e | e | e | e
    · rw [e] at ht
      cases ht
      replace h := h.2.1 (tsw_eq hc e (by decide))
      refine ev_n 3 (fun _ => rfl) ?_
      obtain ⟨v12, σ11, hf, h⟩ := h
      refine ev_go rfl (w_callV rfl rfl rfl (Nat.le_of_ble_eq_true rfl) hf) ?_
      refine ev_if (c := v12 = 0) rfl (fun _ => rfl) (fun hc => ?_) (fun hc => ?_)
      · replace h := h.1 hc
        refine ev_n 2 (fun _ => rfl) ?_
        exact v_zret (by decide) rfl h
      · replace h := h.2 hc
        refine ev_n 1 (fun _ => rfl) ?_
        exact v_zret (by decide) rfl h
    · rw [e] at ht
      cases ht
      replace h := h.2.2.1 (tsw_eq hc e (by decide))
      refine ev_n 3 (fun _ => rfl) ?_
      obtain ⟨v14, σ13, hf, h⟩ := h
      refine ev_go rfl (w_callV rfl rfl rfl (Nat.le_of_ble_eq_true rfl) hf) ?_
      refine ev_if (c := v14 = 0) rfl (fun _ => rfl) (fun hc => ?_) (fun hc => ?_)
      · replace h := h.1 hc
        refine ev_n 1 (fun _ => rfl) ?_
        exact v_zret (by decide) rfl h
      · replace h := h.2 hc
        refine ev_n 3 (fun _ => rfl) ?_
        obtain ⟨v16, σ15, hf, h⟩ := h
        refine ev_go rfl (w_callV rfl rfl rfl (Nat.le_of_ble_eq_true rfl) hf) ?_
        refine ev_if (c := v16 = 0) rfl (fun _ => rfl) (fun hc => ?_) (fun hc => ?_)
        · replace h := h.1 hc
          refine ev_n 1 (fun _ => rfl) ?_
          exact v_zret (by decide) rfl h
        · replace h := h.2 hc
          refine ev_n 2 (fun _ => rfl) ?_
          exact v_zret (by decide) rfl h
    · rw [e] at ht
      cases ht
      replace h := h.2.2.2.1 (tsw_eq hc e (by decide))
      refine ev_n 3 (fun _ => rfl) ?_
      obtain ⟨v18, σ17, hf, h⟩ := h
      refine ev_go rfl (w_callV rfl rfl rfl (Nat.le_of_ble_eq_true rfl) hf) ?_
      refine ev_if (c := v18 = 0) rfl (fun _ => rfl) (fun hc => ?_) (fun hc => ?_)
      · replace h := h.1 hc
        refine ev_n 3 (fun _ => rfl) ?_
        obtain ⟨v20, σ19, hf, h⟩ := h
        refine ev_go rfl (w_callV rfl rfl rfl (Nat.le_of_ble_eq_true rfl) hf) ?_
        refine ev_if (c := v20 = 0) rfl (fun _ => rfl) (fun hc => ?_) (fun hc => ?_)
        · replace h := h.1 hc
          refine ev_n 1 (fun _ => rfl) ?_
          exact v_zret (by decide) rfl h
        · replace h := h.2 hc
          refine ev_n 2 (fun _ => rfl) ?_
          exact v_zret (by decide) rfl h
      · replace h := h.2 hc
        refine ev_n 2 (fun _ => rfl) ?_
        exact v_zret (by decide) rfl h
    · rw [e] at ht
      cases ht
      replace h := h.2.2.2.2.1 (tsw_eq hc e (by decide))
      refine ev_n 1 (fun _ => rfl) ?_
      refine ev_go rfl (w_gF rfl rfl) ?_
      refine ev_n 1 (fun _ => rfl) ?_
      obtain ⟨h0, h⟩ := h
      refine ev_go rfl (w_iald rfl h0) ?_
      refine ev_n 1 (fun _ => rfl) ?_
      obtain ⟨v22, σ21, hf, h⟩ := h
      refine ev_go rfl (w_callS ⟨Nat.le_of_ble_eq_true rfl, Nat.le_of_ble_eq_true rfl⟩ hf) ?_
      exact v_zret h.1 rfl h.2
    · rw [e] at ht
      cases ht
      replace h := h.2.2.2.2.2.1 (tsw_eq hc e (by decide))
      refine ev_n 1 (fun _ => rfl) ?_
      refine ev_go rfl (w_gF rfl rfl) ?_
      refine ev_n 1 (fun _ => rfl) ?_
      obtain ⟨h0, h⟩ := h
      refine ev_go rfl (w_iald rfl h0) ?_
      refine ev_n 1 (fun _ => rfl) ?_
      obtain ⟨v24, σ23, hf, h⟩ := h
      refine ev_go rfl (w_callS ⟨Nat.le_of_ble_eq_true rfl, Nat.le_of_ble_eq_true rfl⟩ hf) ?_
      exact v_zret h.1 rfl h.2
    · rw [e] at ht
      cases ht
      replace h := h.2.2.2.2.2.2 (tsw_eq hc e (by decide))
      refine ev_n 1 (fun _ => rfl) ?_
      refine ev_go rfl (w_gF rfl rfl) ?_
      refine ev_n 5 (fun _ => rfl) ?_
      obtain ⟨h0, h⟩ := h
      refine ev_go rfl (w_iald rfl h0) ?_
      refine ev_n 1 (fun _ => rfl) ?_
      refine ev_go rfl (w_div (by decide)) ?_
      refine ev_n 1 (fun _ => rfl) ?_
      refine ev_go rfl (w_gF rfl rfl) ?_
      refine ev_n 3 (fun _ => rfl) ?_
      obtain ⟨h0, h⟩ := h
      refine ev_go rfl (w_iald rfl h0) ?_
      refine ev_n 1 (fun _ => rfl) ?_
      obtain ⟨v26, σ25, hf, h⟩ := h
      refine ev_go rfl (w_callS ⟨Nat.le_of_ble_eq_true rfl, Nat.le_of_ble_eq_true rfl⟩ hf) ?_
      exact v_zret h.1 rfl h.2
theorem m_X12_isSo (d : Nat) : ∀ pc o, (P_X12_isSo KC (f_X12_isSo KC d)).lookup pc = some o → Mon_ o := all_mon (a_X12_isSo (l := launch0) (E := EC0) EC0_ok (t_X12_isSo EC0_ok d))
theorem z_X12_isSo {x1 : Int32} {x2 : Int32} {σ : St_} {out : Out_} {d : Nat} (h : Ev_ (P_X12_isSo KC (f_X12_isSo KC d)) 0 [some (.ref 219), some (.int x1), some (.int x2), none, none, none] [] σ out) : f_X12_isSo KC (d + 1) [.ref 219, .int x1, .int x2] σ = some out := show fn_ (P_X12_isSo KC (f_X12_isSo KC d)) 6 [.ref 219, .int x1, .int x2] σ = some out from fn_eq (m_X12_isSo d) rfl h
