set_option maxRecDepth 20000 in
theorem e_X12_said_0  {σ : St_} {out : Out_}  (h : (∃ (σ1 : St_), f_X12_night KC [.ref 219] (sI_ σ 219 0 (0 : Int32)) = some (none, σ1) ∧ (vpin_ (800 : Int32) 1050 = true) ∧ (((σ1.1 221 (Int32.toNatClampNeg (800 : Int32))) = 0 → out = (some (.int ((-1) : Int32)), σ1)) ∧ (¬ ((σ1.1 221 (Int32.toNatClampNeg (800 : Int32))) = 0) → Ev_ (P_X12_said KC) 26 [some (.ref 219), some (.int (0 : Int32)), some (.int (0 : Int32))] [] σ1 out)))) : Ev_ (P_X12_said KC) 0 [some (.ref 219), none, none] [] σ out := by
  refine ev_n 2 (fun _ => rfl) ?_
  refine ev_go rfl (w_pI rfl) ?_
  refine ev_n 1 (fun _ => rfl) ?_
  obtain ⟨σ1, hf, h⟩ := h
  refine ev_go rfl (w_callV rfl rfl rfl (Nat.le_of_ble_eq_true rfl) hf) ?_
  refine ev_n 1 (fun _ => rfl) ?_
  refine ev_go rfl (w_gF rfl rfl) ?_
  refine ev_n 1 (fun _ => rfl) ?_
  obtain ⟨h0, h⟩ := h
  refine ev_go rfl (w_iald rfl h0) ?_
  refine ev_if (c := (σ1.1 221 (Int32.toNatClampNeg (800 : Int32))) = 0) rfl (fun _ => rfl) (fun hc => ?_) (fun hc => ?_)
  · replace h := h.1 hc
    refine ev_n 1 (fun _ => rfl) ?_
    exact ev_ret rfl (fun _ => rfl) h
  · replace h := h.2 hc
    refine ev_n 4 (fun _ => rfl) ?_
    exact h
set_option maxRecDepth 20000 in
theorem e_X12_said_26 {x1 : Int32} {x2 : Int32} {σ : St_} {out : Out_}  (h : (∃ (v2 : Int32) (σ1 : St_), f_X12_readers KC [.ref 219] σ = some (some (.int v2), σ1) ∧ ((v2 ≤ x2 → out = (some (.int x1), σ1)) ∧ (¬ (v2 ≤ x2) → (vpin_ (801 : Int32) 1050 = true) ∧ (∃ (v4 : Int32) (σ3 : St_), f_X12_isSo KC 80 [.ref 219, .int (σ1.1 221 (Int32.toNatClampNeg (801 : Int32))), .int x2] σ1 = some (some (.int v4), σ3) ∧ ((v4 = 0 → Ev_ (P_X12_said KC) 26 [some (.ref 219), some (.int x1), some (.int (x2 + 1))] [] σ3 out) ∧ (¬ (v4 = 0) → Ev_ (P_X12_said KC) 26 [some (.ref 219), some (.int (x1 ||| ((1 : Int32) <<< (x2 &&& 31)))), some (.int (x2 + 1))] [] σ3 out))))))) : Ev_ (P_X12_said KC) 26 [some (.ref 219), some (.int x1), some (.int x2)] [] σ out := by
  refine ev_n 2 (fun _ => rfl) ?_
  obtain ⟨v2, σ1, hf, h⟩ := h
  refine ev_go rfl (w_callV rfl rfl rfl (Nat.le_of_ble_eq_true rfl) hf) ?_
  refine ev_if (c := v2 ≤ x2) rfl (fun _ => rfl) (fun hc => ?_) (fun hc => ?_)
  · replace h := h.1 hc
    refine ev_n 1 (fun _ => rfl) ?_
    exact ev_ret rfl (fun _ => rfl) h
  · replace h := h.2 hc
    refine ev_n 2 (fun _ => rfl) ?_
    refine ev_go rfl (w_gF rfl rfl) ?_
    refine ev_n 1 (fun _ => rfl) ?_
    obtain ⟨h0, h⟩ := h
    refine ev_go rfl (w_iald rfl h0) ?_
    refine ev_n 1 (fun _ => rfl) ?_
    obtain ⟨v4, σ3, hf, h⟩ := h
    refine ev_go rfl (w_callV rfl rfl rfl (Nat.le_of_ble_eq_true rfl) hf) ?_
    refine ev_if (c := v4 = 0) rfl (fun _ => rfl) (fun hc => ?_) (fun hc => ?_)
    · replace h := h.1 hc
      refine ev_n 2 (fun _ => rfl) ?_
      exact h
    · replace h := h.2 hc
      refine ev_n 8 (fun _ => rfl) ?_
      exact h
theorem m_X12_said : ∀ pc o, (P_X12_said KC).lookup pc = some o → Mon_ o := all_mon (a_X12_said (l := launch0) (E := EC0) EC0_ok)
theorem z_X12_said  {σ : St_} {out : Out_} (h : Ev_ (P_X12_said KC) 0 [some (.ref 219), none, none] [] σ out) : f_X12_said KC [.ref 219] σ = some out := fn_eq m_X12_said rfl h
set_option maxRecDepth 20000 in
theorem e_X12_image_0 {x1 : Int32} {σ : St_} {out : Out_}  (h : (∃ (σ1 : St_), f_X12_lay KC [.ref 219] (sI_ σ 219 0 (0 : Int32)) = some (none, σ1) ∧ (∃ (v3 : Int32) (σ2 : St_), f_X12_isIn KC [.int x1, .int (0 : Int32), .int (1 : Int32)] σ1 = some (some (.int v3), σ2) ∧ ((v3 = 0 → out = (some (.int (0 : Int32)), σ2)) ∧ (¬ (v3 = 0) → Ev_ (P_X12_image KC) 22 [some (.ref 219), some (.int x1), some (.int (0 : Int32))] [] σ2 out))))) : Ev_ (P_X12_image KC) 0 [some (.ref 219), some (.int x1), none] [] σ out := by
  refine ev_n 2 (fun _ => rfl) ?_
  refine ev_go rfl (w_pI rfl) ?_
  refine ev_n 1 (fun _ => rfl) ?_
  obtain ⟨σ1, hf, h⟩ := h
  refine ev_go rfl (w_callV rfl rfl rfl (Nat.le_of_ble_eq_true rfl) hf) ?_
  refine ev_n 3 (fun _ => rfl) ?_
  obtain ⟨v3, σ2, hf, h⟩ := h
  refine ev_go rfl (w_callS ⟨Nat.le_of_ble_eq_true rfl, Nat.le_of_ble_eq_true rfl⟩ hf) ?_
  refine ev_if (c := v3 = 0) rfl (fun _ => rfl) (fun hc => ?_) (fun hc => ?_)
  · replace h := h.1 hc
    refine ev_n 1 (fun _ => rfl) ?_
    exact v_zret (by decide) rfl h
  · replace h := h.2 hc
    refine ev_n 2 (fun _ => rfl) ?_
    exact h
set_option maxRecDepth 20000 in
theorem e_X12_image_22 {x1 : Int32} {x2 : Int32} {σ : St_} {out : Out_}  (h : (((1050 : Int32) ≤ x2 → Ev_ (P_X12_image KC) 55 [some (.ref 219), some (.int x1), some (.int (0 : Int32))] [] σ out) ∧ (¬ ((1050 : Int32) ≤ x2) → (vpin_ x2 1050 = true) ∧ (vpin_ (((1050 : Int32) * x1) + x2) 2100 = true) ∧ Ev_ (P_X12_image KC) 22 [some (.ref 219), some (.int x1), some (.int (x2 + 1))] [] (sI_ σ 223 (Int32.toNatClampNeg (((1050 : Int32) * x1) + x2)) (σ.1 221 (Int32.toNatClampNeg x2))) out))) : Ev_ (P_X12_image KC) 22 [some (.ref 219), some (.int x1), some (.int x2)] [] σ out := by
  refine ev_n 2 (fun _ => rfl) ?_
  refine ev_if (c := (1050 : Int32) ≤ x2) rfl (fun _ => rfl) (fun hc => ?_) (fun hc => ?_)
  · replace h := h.1 hc
    refine ev_n 2 (fun _ => rfl) ?_
    exact h
  · replace h := h.2 hc
    refine ev_n 1 (fun _ => rfl) ?_
    refine ev_go rfl (w_gF rfl rfl) ?_
    refine ev_n 6 (fun _ => rfl) ?_
    refine ev_go rfl (w_gF rfl rfl) ?_
    refine ev_n 1 (fun _ => rfl) ?_
    obtain ⟨h0, h⟩ := h
    refine ev_go rfl (w_iald rfl h0) ?_
    obtain ⟨h0, h⟩ := h
    refine ev_go rfl (w_iast rfl h0) ?_
    refine ev_n 2 (fun _ => rfl) ?_
    exact h
set_option maxRecDepth 20000 in
theorem e_X12_image_55 {x1 : Int32} {x2 : Int32} {σ : St_} {out : Out_}  (h : (((25 : Int32) ≤ x2 → (vpin_ x1 2 = true) ∧ out = (some (.int (1 : Int32)), (sI_ σ 227 (Int32.toNatClampNeg x1) (vp_nar .boolean (1 : Int32))))) ∧ (¬ ((25 : Int32) ≤ x2) → (vpin_ x2 25 = true) ∧ (vpin_ (((25 : Int32) * x1) + x2) 50 = true) ∧ Ev_ (P_X12_image KC) 55 [some (.ref 219), some (.int x1), some (.int (x2 + 1))] [] (sJ_ σ 226 (Int32.toNatClampNeg (((25 : Int32) * x1) + x2)) (σ.2.1 224 (Int32.toNatClampNeg x2))) out))) : Ev_ (P_X12_image KC) 55 [some (.ref 219), some (.int x1), some (.int x2)] [] σ out := by
  refine ev_n 2 (fun _ => rfl) ?_
  refine ev_if (c := (25 : Int32) ≤ x2) rfl (fun _ => rfl) (fun hc => ?_) (fun hc => ?_)
  · replace h := h.1 hc
    refine ev_n 1 (fun _ => rfl) ?_
    refine ev_go rfl (w_gF rfl rfl) ?_
    refine ev_n 2 (fun _ => rfl) ?_
    obtain ⟨h0, h⟩ := h
    refine ev_go rfl (w_zast rfl h0) ?_
    refine ev_n 1 (fun _ => rfl) ?_
    exact v_zret (by decide) rfl h
  · replace h := h.2 hc
    refine ev_n 1 (fun _ => rfl) ?_
    refine ev_go rfl (w_gF rfl rfl) ?_
    refine ev_n 6 (fun _ => rfl) ?_
    refine ev_go rfl (w_gF rfl rfl) ?_
    refine ev_n 1 (fun _ => rfl) ?_
    obtain ⟨h0, h⟩ := h
    refine ev_go rfl (w_lald rfl h0) ?_
    obtain ⟨h0, h⟩ := h
    refine ev_go rfl (w_last rfl h0) ?_
    refine ev_n 2 (fun _ => rfl) ?_
    exact h
theorem m_X12_image : ∀ pc o, (P_X12_image KC).lookup pc = some o → Mon_ o := all_mon (a_X12_image (l := launch0) (E := EC0) EC0_ok)
theorem z_X12_image {x1 : Int32} {σ : St_} {out : Out_} (h : Ev_ (P_X12_image KC) 0 [some (.ref 219), some (.int x1), none] [] σ out) : f_X12_image KC [.ref 219, .int x1] σ = some out := fn_eq m_X12_image rfl h
set_option maxRecDepth 20000 in
theorem e_X12_restore_0 {x1 : Int32} {σ : St_} {out : Out_}  (h : (∃ (σ1 : St_), f_X12_lay KC [.ref 219] (sI_ σ 219 0 (0 : Int32)) = some (none, σ1) ∧ (∃ (v3 : Int32) (σ2 : St_), f_X12_isIn KC [.int x1, .int (0 : Int32), .int (1 : Int32)] σ1 = some (some (.int v3), σ2) ∧ ((v3 = 0 → out = (some (.int (0 : Int32)), σ2)) ∧ (¬ (v3 = 0) → (vpin_ x1 2 = true) ∧ (((σ2.1 227 (Int32.toNatClampNeg x1)) = 0 → out = (some (.int (0 : Int32)), σ2)) ∧ (¬ ((σ2.1 227 (Int32.toNatClampNeg x1)) = 0) → Ev_ (P_X12_restore KC) 31 [some (.ref 219), some (.int x1), some (.int (0 : Int32))] [] σ2 out))))))) : Ev_ (P_X12_restore KC) 0 [some (.ref 219), some (.int x1), none] [] σ out := by
  refine ev_n 2 (fun _ => rfl) ?_
  refine ev_go rfl (w_pI rfl) ?_
  refine ev_n 1 (fun _ => rfl) ?_
  obtain ⟨σ1, hf, h⟩ := h
  refine ev_go rfl (w_callV rfl rfl rfl (Nat.le_of_ble_eq_true rfl) hf) ?_
  refine ev_n 3 (fun _ => rfl) ?_
  obtain ⟨v3, σ2, hf, h⟩ := h
  refine ev_go rfl (w_callS ⟨Nat.le_of_ble_eq_true rfl, Nat.le_of_ble_eq_true rfl⟩ hf) ?_
  refine ev_if (c := v3 = 0) rfl (fun _ => rfl) (fun hc => ?_) (fun hc => ?_)
  · replace h := h.1 hc
    refine ev_n 1 (fun _ => rfl) ?_
    exact v_zret (by decide) rfl h
  · replace h := h.2 hc
    refine ev_n 1 (fun _ => rfl) ?_
    refine ev_go rfl (w_gF rfl rfl) ?_
    refine ev_n 1 (fun _ => rfl) ?_
    obtain ⟨h0, h⟩ := h
    refine ev_go rfl (w_zald rfl h0) ?_
    refine ev_if (c := (σ2.1 227 (Int32.toNatClampNeg x1)) = 0) rfl (fun _ => rfl) (fun hc => ?_) (fun hc => ?_)
    · replace h := h.1 hc
      refine ev_n 1 (fun _ => rfl) ?_
      exact v_zret (by decide) rfl h
    · replace h := h.2 hc
      refine ev_n 2 (fun _ => rfl) ?_
      exact h
set_option maxRecDepth 20000 in
theorem e_X12_restore_31 {x1 : Int32} {x2 : Int32} {σ : St_} {out : Out_}  (h : (((1050 : Int32) ≤ x2 → Ev_ (P_X12_restore KC) 64 [some (.ref 219), some (.int x1), some (.int (0 : Int32))] [] σ out) ∧ (¬ ((1050 : Int32) ≤ x2) → (vpin_ (((1050 : Int32) * x1) + x2) 2100 = true) ∧ (vpin_ x2 1050 = true) ∧ Ev_ (P_X12_restore KC) 31 [some (.ref 219), some (.int x1), some (.int (x2 + 1))] [] (sI_ σ 221 (Int32.toNatClampNeg x2) (σ.1 223 (Int32.toNatClampNeg (((1050 : Int32) * x1) + x2)))) out))) : Ev_ (P_X12_restore KC) 31 [some (.ref 219), some (.int x1), some (.int x2)] [] σ out := by
  refine ev_n 2 (fun _ => rfl) ?_
  refine ev_if (c := (1050 : Int32) ≤ x2) rfl (fun _ => rfl) (fun hc => ?_) (fun hc => ?_)
  · replace h := h.1 hc
    refine ev_n 2 (fun _ => rfl) ?_
    exact h
  · replace h := h.2 hc
    refine ev_n 1 (fun _ => rfl) ?_
    refine ev_go rfl (w_gF rfl rfl) ?_
    refine ev_n 2 (fun _ => rfl) ?_
    refine ev_go rfl (w_gF rfl rfl) ?_
    refine ev_n 5 (fun _ => rfl) ?_
    obtain ⟨h0, h⟩ := h
    refine ev_go rfl (w_iald rfl h0) ?_
    obtain ⟨h0, h⟩ := h
    refine ev_go rfl (w_iast rfl h0) ?_
    refine ev_n 2 (fun _ => rfl) ?_
    exact h
set_option maxRecDepth 20000 in
theorem e_X12_restore_64 {x1 : Int32} {x2 : Int32} {σ : St_} {out : Out_}  (h : (((25 : Int32) ≤ x2 → out = (some (.int (1 : Int32)), σ)) ∧ (¬ ((25 : Int32) ≤ x2) → (vpin_ (((25 : Int32) * x1) + x2) 50 = true) ∧ (vpin_ x2 25 = true) ∧ Ev_ (P_X12_restore KC) 64 [some (.ref 219), some (.int x1), some (.int (x2 + 1))] [] (sJ_ σ 224 (Int32.toNatClampNeg x2) (σ.2.1 226 (Int32.toNatClampNeg (((25 : Int32) * x1) + x2)))) out))) : Ev_ (P_X12_restore KC) 64 [some (.ref 219), some (.int x1), some (.int x2)] [] σ out := by
  refine ev_n 2 (fun _ => rfl) ?_
  refine ev_if (c := (25 : Int32) ≤ x2) rfl (fun _ => rfl) (fun hc => ?_) (fun hc => ?_)
  · replace h := h.1 hc
    refine ev_n 1 (fun _ => rfl) ?_
    exact v_zret (by decide) rfl h
  · replace h := h.2 hc
    refine ev_n 1 (fun _ => rfl) ?_
    refine ev_go rfl (w_gF rfl rfl) ?_
    refine ev_n 2 (fun _ => rfl) ?_
    refine ev_go rfl (w_gF rfl rfl) ?_
    refine ev_n 5 (fun _ => rfl) ?_
    obtain ⟨h0, h⟩ := h
    refine ev_go rfl (w_lald rfl h0) ?_
    obtain ⟨h0, h⟩ := h
    refine ev_go rfl (w_last rfl h0) ?_
    refine ev_n 2 (fun _ => rfl) ?_
    exact h
theorem m_X12_restore : ∀ pc o, (P_X12_restore KC).lookup pc = some o → Mon_ o := all_mon (a_X12_restore (l := launch0) (E := EC0) EC0_ok)
theorem z_X12_restore {x1 : Int32} {σ : St_} {out : Out_} (h : Ev_ (P_X12_restore KC) 0 [some (.ref 219), some (.int x1), none] [] σ out) : f_X12_restore KC [.ref 219, .int x1] σ = some out := fn_eq m_X12_restore rfl h
set_option maxRecDepth 20000 in
theorem e_X12_count_0 {x1 : Int32} {σ : St_} {out : Out_}  (h : (∃ (σ1 : St_), f_X12_lay KC [.ref 219] (sI_ σ 219 0 (0 : Int32)) = some (none, σ1) ∧ ((((x1).toInt < 0 ∨ 5 < (x1).toInt) → out = (some (.int ((-1) : Int32)), σ1)) ∧ (x1 = 0 → (∃ (v3 : Int32) (σ2 : St_), f_X12_chaps KC [.ref 219] σ1 = some (some (.int v3), σ2) ∧ out = (some (.int v3), σ2))) ∧ (x1 = 1 → (∃ (v5 : Int32) (σ4 : St_), f_X12_readers KC [.ref 219] σ1 = some (some (.int v5), σ4) ∧ out = (some (.int v5), σ4))) ∧ (x1 = 2 → (vpin_ (390 : Int32) 1050 = true) ∧ out = (some (.int (σ1.1 221 (Int32.toNatClampNeg (390 : Int32)))), σ1)) ∧ (x1 = 3 → (vpin_ (2 : Int32) 1050 = true) ∧ out = (some (.int (σ1.1 221 (Int32.toNatClampNeg (2 : Int32)))), σ1)) ∧ (x1 = 4 → (vpin_ (3 : Int32) 1050 = true) ∧ out = (some (.int (σ1.1 221 (Int32.toNatClampNeg (3 : Int32)))), σ1)) ∧ (x1 = 5 → out = (some (.int (σ1.1 219 2)), σ1))))) : Ev_ (P_X12_count KC) 0 [some (.ref 219), some (.int x1)] [] σ out := by
  refine ev_n 2 (fun _ => rfl) ?_
  refine ev_go rfl (w_pI rfl) ?_
  refine ev_n 1 (fun _ => rfl) ?_
  obtain ⟨σ1, hf, h⟩ := h
  refine ev_go rfl (w_callV rfl rfl rfl (Nat.le_of_ble_eq_true rfl) hf) ?_
  refine ev_n 1 (fun _ => rfl) ?_
  refine ev_tsw rfl (fun hc => ?_) (fun t hc ht => ?_) (by decide)
  · replace h := h.1 hc
    refine ev_n 1 (fun _ => rfl) ?_
    exact ev_ret rfl (fun _ => rfl) h
  · have hi := tsw_in (n := 6) hc (by decide)
    rcases (show ((x1).toInt - 0).toNat = 0 ∨ ((x1).toInt - 0).toNat = 1 ∨ ((x1).toInt - 0).toNat = 2 ∨ ((x1).toInt - 0).toNat = 3 ∨ ((x1).toInt - 0).toNat = 4 ∨ ((x1).toInt - 0).toNat = 5 by omega) with e | e | e | e | e | e
    · rw [e] at ht
      cases ht
      replace h := h.2.1 (tsw_eq hc e (by decide))
      refine ev_n 1 (fun _ => rfl) ?_
      obtain ⟨v3, σ2, hf, h⟩ := h
      refine ev_go rfl (w_callV rfl rfl rfl (Nat.le_of_ble_eq_true rfl) hf) ?_
      exact ev_ret rfl (fun _ => rfl) h
    · rw [e] at ht
      cases ht
      replace h := h.2.2.1 (tsw_eq hc e (by decide))
      refine ev_n 1 (fun _ => rfl) ?_
      obtain ⟨v5, σ4, hf, h⟩ := h
      refine ev_go rfl (w_callV rfl rfl rfl (Nat.le_of_ble_eq_true rfl) hf) ?_
      exact ev_ret rfl (fun _ => rfl) h
    · rw [e] at ht
      cases ht
      replace h := h.2.2.2.1 (tsw_eq hc e (by decide))
      refine ev_n 1 (fun _ => rfl) ?_
      refine ev_go rfl (w_gF rfl rfl) ?_
      refine ev_n 1 (fun _ => rfl) ?_
      obtain ⟨h0, h⟩ := h
      refine ev_go rfl (w_iald rfl h0) ?_
      exact ev_ret rfl (fun _ => rfl) h
    · rw [e] at ht
      cases ht
      replace h := h.2.2.2.2.1 (tsw_eq hc e (by decide))
      refine ev_n 1 (fun _ => rfl) ?_
      refine ev_go rfl (w_gF rfl rfl) ?_
      refine ev_n 1 (fun _ => rfl) ?_
      obtain ⟨h0, h⟩ := h
      refine ev_go rfl (w_iald rfl h0) ?_
      exact ev_ret rfl (fun _ => rfl) h
    · rw [e] at ht
      cases ht
      replace h := h.2.2.2.2.2.1 (tsw_eq hc e (by decide))
      refine ev_n 1 (fun _ => rfl) ?_
      refine ev_go rfl (w_gF rfl rfl) ?_
      refine ev_n 1 (fun _ => rfl) ?_
      obtain ⟨h0, h⟩ := h
      refine ev_go rfl (w_iald rfl h0) ?_
      exact ev_ret rfl (fun _ => rfl) h
    · rw [e] at ht
      cases ht
      replace h := h.2.2.2.2.2.2 (tsw_eq hc e (by decide))
      refine ev_n 1 (fun _ => rfl) ?_
      refine ev_go rfl (w_gI rfl) ?_
      exact ev_ret rfl (fun _ => rfl) h
theorem m_X12_count : ∀ pc o, (P_X12_count KC).lookup pc = some o → Mon_ o := all_mon (a_X12_count (l := launch0) (E := EC0) EC0_ok)
theorem z_X12_count {x1 : Int32} {σ : St_} {out : Out_} (h : Ev_ (P_X12_count KC) 0 [some (.ref 219), some (.int x1)] [] σ out) : f_X12_count KC [.ref 219, .int x1] σ = some out := fn_eq m_X12_count rfl h
