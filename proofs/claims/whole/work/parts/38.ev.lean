set_option maxRecDepth 20000 in
theorem e_X12_count_0 {x1 : Int32} {σ : St_} {out : Out_}  (h : (∃ σ1, f_X12_lay KM [.ref 0] (sI_ σ 0 0 (0 : Int32)) = some (none, σ1) ∧ ((((x1).toInt < 0 ∨ 5 < (x1).toInt) → out = (some (.int ((-1) : Int32)), σ1)) ∧ (x1 = 0 → (∃ (v3 : Int32) σ2, f_X12_chaps KM [.ref 0] σ1 = some (some (.int v3), σ2) ∧ out = (some (.int v3), σ2))) ∧ (x1 = 1 → (∃ (v5 : Int32) σ4, f_X12_readers KM [.ref 0] σ1 = some (some (.int v5), σ4) ∧ out = (some (.int v5), σ4))) ∧ (x1 = 2 → (vpin_ (390 : Int32) 1050 = true) ∧ out = (some (.int (σ1.1 2 (Int32.toNatClampNeg (390 : Int32)))), σ1)) ∧ (x1 = 3 → (vpin_ (2 : Int32) 1050 = true) ∧ out = (some (.int (σ1.1 2 (Int32.toNatClampNeg (2 : Int32)))), σ1)) ∧ (x1 = 4 → (vpin_ (3 : Int32) 1050 = true) ∧ out = (some (.int (σ1.1 2 (Int32.toNatClampNeg (3 : Int32)))), σ1)) ∧ (x1 = 5 → out = (some (.int (σ1.1 0 2)), σ1))))) : Ev_ (P_X12_count KM) 0 [some (.ref 0), some (.int x1)] [] σ out := by
  refine ev_n 2 (fun _ => rfl) ?_
  refine ev_go rfl (w_pI rfl) ?_
  refine ev_n 1 (fun _ => rfl) ?_
  obtain ⟨σ1, hf, h⟩ := h
  refine ev_go rfl (w_callV rfl rfl rfl (by decide) hf) ?_
  refine ev_n 1 (fun _ => rfl) ?_
  refine ev_tsw rfl (fun hc => ?_) (fun t hc ht => ?_) (by decide)
  · replace h := h.1 hc
    refine ev_n 1 (fun _ => rfl) ?_
    exact ev_ret rfl (fun _ => rfl) h
  · have hi := tsw_in (n := 6) hc (by decide)
    rcases (show ((x1).toInt - 0).toNat = 0 ∨ ((x1).toInt - 0).toNat = 1 ∨ ((x1).toInt - 0).toNat = 2 ∨ ((x1).toInt - 0).toNat = 3 ∨ ((x1).toInt - 0).toNat = 4 ∨ ((x1).toInt - 0).toNat = 5 by omega) with e | e | e | e | e | e
    · rw [e] at ht
      cases ht
      replace h := h.2.1 (tsw_eq hc e (by decide))
      refine ev_n 1 (fun _ => rfl) ?_
      obtain ⟨v3, σ2, hf, h⟩ := h
      refine ev_go rfl (w_callV rfl rfl rfl (by decide) hf) ?_
      exact ev_ret rfl (fun _ => rfl) h
    · rw [e] at ht
      cases ht
      replace h := h.2.2.1 (tsw_eq hc e (by decide))
      refine ev_n 1 (fun _ => rfl) ?_
      obtain ⟨v5, σ4, hf, h⟩ := h
      refine ev_go rfl (w_callV rfl rfl rfl (by decide) hf) ?_
      exact ev_ret rfl (fun _ => rfl) h
    · rw [e] at ht
      cases ht
      replace h := h.2.2.2.1 (tsw_eq hc e (by decide))
      refine ev_n 1 (fun _ => rfl) ?_
      refine ev_go rfl (w_gF rfl rfl) ?_
      refine ev_n 1 (fun _ => rfl) ?_
      obtain ⟨h0, h⟩ := h
      refine ev_go rfl (w_iald rfl h0) ?_
      exact ev_ret rfl (fun _ => rfl) h
    · rw [e] at ht
      cases ht
      replace h := h.2.2.2.2.1 (tsw_eq hc e (by decide))
      refine ev_n 1 (fun _ => rfl) ?_
      refine ev_go rfl (w_gF rfl rfl) ?_
      refine ev_n 1 (fun _ => rfl) ?_
      obtain ⟨h0, h⟩ := h
      refine ev_go rfl (w_iald rfl h0) ?_
      exact ev_ret rfl (fun _ => rfl) h
    · rw [e] at ht
      cases ht
      replace h := h.2.2.2.2.2.1 (tsw_eq hc e (by decide))
      refine ev_n 1 (fun _ => rfl) ?_
      refine ev_go rfl (w_gF rfl rfl) ?_
      refine ev_n 1 (fun _ => rfl) ?_
      obtain ⟨h0, h⟩ := h
      refine ev_go rfl (w_iald rfl h0) ?_
      exact ev_ret rfl (fun _ => rfl) h
    · rw [e] at ht
      cases ht
      replace h := h.2.2.2.2.2.2 (tsw_eq hc e (by decide))
      refine ev_n 1 (fun _ => rfl) ?_
      refine ev_go rfl (w_gI rfl) ?_
      exact ev_ret rfl (fun _ => rfl) h
theorem m_X12_count : ∀ pc o, (P_X12_count KM).lookup pc = some o → Mon_ o := all_mon (a_X12_count (l := launch0) (E := EM0) EM0_ok)
theorem z_X12_count {x1 : Int32} {σ : St_} {out : Out_} (h : Ev_ (P_X12_count KM) 0 [some (.ref 0), some (.int x1)] [] σ out) : f_X12_count KM [.ref 0, .int x1] σ = some out := fn_eq m_X12_count rfl h
