set_option maxRecDepth 20000 in
theorem e_X11_image_0 {x1 : Int32} {σ : St_} {out : Out_}  (h : ((x1 < 0 → out = (some (.int (0 : Int32)), σ)) ∧ (¬ (x1 < 0) → ((x1 < (2 : Int32) → (vpin_ x1 2 = true) ∧ (∃ b2, σ.2.2 0 12 = some b2 ∧ isB b2 ∧ (∃ (σ3 : St_), f_X0_copyFrom KC [.ref (143 + 38 * Int32.toNatClampNeg x1), .ref b2] σ = some (none, σ3) ∧ (vpin_ x1 2 = true) ∧ (∃ p5, σ3.2.2 0 14 = some p5 ∧ isP p5 ∧ (∃ (σ6 : St_), f_X6_copyFrom KC [.ref (171 + 38 * Int32.toNatClampNeg x1), .ref p5] σ3 = some (none, σ6) ∧ (vpin_ x1 2 = true) ∧ (∃ s8, σ6.2.2 0 16 = some s8 ∧ isS s8 ∧ (∃ (σ9 : St_), f_X9_copyFrom KC [.ref (176 + 38 * Int32.toNatClampNeg x1), .ref s8] σ6 = some (none, σ9) ∧ (vpin_ x1 2 = true) ∧ out = (some (.int (1 : Int32)), (sI_ σ9 142 (Int32.toNatClampNeg x1) (vp_nar .boolean (1 : Int32))))))))))) ∧ (¬ (x1 < (2 : Int32)) → out = (some (.int (0 : Int32)), σ)))))) : Ev_ (P_X11_image KC) 0 [some (.ref 0), some (.int x1)] [] σ out := by
  refine ev_n 1 (fun _ => rfl) ?_
  refine ev_if (c := x1 < 0) rfl (fun _ => rfl) (fun hc => ?_) (fun hc => ?_)
  · replace h := h.1 hc
    refine ev_n 1 (fun _ => rfl) ?_
    exact v_zret (by decide) rfl h
  · replace h := h.2 hc
    refine ev_n 2 (fun _ => rfl) ?_
    refine ev_if (c := x1 < (2 : Int32)) rfl (fun _ => rfl) (fun hc => ?_) (fun hc => ?_)
    · replace h := h.1 hc
      refine ev_n 1 (fun _ => rfl) ?_
      refine ev_go rfl (w_gF rfl rfl) ?_
      refine ev_n 1 (fun _ => rfl) ?_
      obtain ⟨hv1, h⟩ := h
      refine ev_go rfl (w_aald rfl (by decide) hv1 (kc_row139 _ (vpin_lt hv1))) ?_
      refine ev_n 1 (fun _ => rfl) ?_
      obtain ⟨b2, eb2, hb2, h⟩ := h
      refine ev_go rfl (w_gR rfl eb2) ?_
      obtain ⟨σ3, hf, h⟩ := h
      refine ev_go rfl (w_callV rfl rfl (kb_0 (kc_is139 _ (vpin_lt hv1))) (Nat.le_of_ble_eq_true rfl) hf) ?_
      refine ev_n 1 (fun _ => rfl) ?_
      refine ev_go rfl (w_gF rfl rfl) ?_
      refine ev_n 1 (fun _ => rfl) ?_
      obtain ⟨hv4, h⟩ := h
      refine ev_go rfl (w_aald rfl (by decide) hv4 (kc_row140 _ (vpin_lt hv4))) ?_
      refine ev_n 1 (fun _ => rfl) ?_
      obtain ⟨p5, ep5, hp5, h⟩ := h
      refine ev_go rfl (w_gR rfl ep5) ?_
      obtain ⟨σ6, hf, h⟩ := h
      refine ev_go rfl (w_callV rfl rfl (kp_0 (kc_is140 _ (vpin_lt hv4))) (Nat.le_of_ble_eq_true rfl) hf) ?_
      refine ev_n 1 (fun _ => rfl) ?_
      refine ev_go rfl (w_gF rfl rfl) ?_
      refine ev_n 1 (fun _ => rfl) ?_
      obtain ⟨hv7, h⟩ := h
      refine ev_go rfl (w_aald rfl (by decide) hv7 (kc_row141 _ (vpin_lt hv7))) ?_
      refine ev_n 1 (fun _ => rfl) ?_
      obtain ⟨s8, es8, hs8, h⟩ := h
      refine ev_go rfl (w_gR rfl es8) ?_
      obtain ⟨σ9, hf, h⟩ := h
      refine ev_go rfl (w_callV rfl rfl (ks_0 (kc_is141 _ (vpin_lt hv7))) (Nat.le_of_ble_eq_true rfl) hf) ?_
      refine ev_n 1 (fun _ => rfl) ?_
      refine ev_go rfl (w_gF rfl rfl) ?_
      refine ev_n 2 (fun _ => rfl) ?_
      obtain ⟨h0, h⟩ := h
      refine ev_go rfl (w_zast rfl h0) ?_
      refine ev_n 1 (fun _ => rfl) ?_
      exact v_zret (by decide) rfl h
    · replace h := h.2 hc
      refine ev_n 1 (fun _ => rfl) ?_
      exact v_zret (by decide) rfl h
theorem m_X11_image : ∀ pc o, (P_X11_image KC).lookup pc = some o → Mon_ o := all_mon (a_X11_image (l := launch0) (E := EC0) EC0_ok)
theorem z_X11_image {x1 : Int32} {σ : St_} {out : Out_} (h : Ev_ (P_X11_image KC) 0 [some (.ref 0), some (.int x1)] [] σ out) : f_X11_image KC [.ref 0, .int x1] σ = some out := fn_eq m_X11_image rfl h
set_option maxRecDepth 20000 in
theorem e_X11_restore_0 {x1 : Int32} {σ : St_} {out : Out_}  (h : ((x1 < 0 → out = (some (.int (0 : Int32)), σ)) ∧ (¬ (x1 < 0) → (((2 : Int32) ≤ x1 → out = (some (.int (0 : Int32)), σ)) ∧ (¬ ((2 : Int32) ≤ x1) → (vpin_ x1 2 = true) ∧ (((σ.1 142 (Int32.toNatClampNeg x1)) = 0 → out = (some (.int (0 : Int32)), σ)) ∧ (¬ ((σ.1 142 (Int32.toNatClampNeg x1)) = 0) → (∃ b1, σ.2.2 0 12 = some b1 ∧ isB b1 ∧ (vpin_ x1 2 = true) ∧ (∃ (σ3 : St_), f_X0_copyFrom KC [.ref b1, .ref (143 + 38 * Int32.toNatClampNeg x1)] σ = some (none, σ3) ∧ (∃ p4, σ3.2.2 0 14 = some p4 ∧ isP p4 ∧ (vpin_ x1 2 = true) ∧ (∃ (σ6 : St_), f_X6_copyFrom KC [.ref p4, .ref (171 + 38 * Int32.toNatClampNeg x1)] σ3 = some (none, σ6) ∧ (∃ s7, σ6.2.2 0 16 = some s7 ∧ isS s7 ∧ (vpin_ x1 2 = true) ∧ (∃ (σ9 : St_), f_X9_copyFrom KC [.ref s7, .ref (176 + 38 * Int32.toNatClampNeg x1)] σ6 = some (none, σ9) ∧ out = (some (.int (1 : Int32)), (sI_ σ9 0 18 (0 : Int32)))))))))))))))) : Ev_ (P_X11_restore KC) 0 [some (.ref 0), some (.int x1)] [] σ out := by
  refine ev_n 1 (fun _ => rfl) ?_
  refine ev_if (c := x1 < 0) rfl (fun _ => rfl) (fun hc => ?_) (fun hc => ?_)
  · replace h := h.1 hc
    refine ev_n 1 (fun _ => rfl) ?_
    exact v_zret (by decide) rfl h
  · replace h := h.2 hc
    refine ev_n 2 (fun _ => rfl) ?_
    refine ev_if (c := (2 : Int32) ≤ x1) rfl (fun _ => rfl) (fun hc => ?_) (fun hc => ?_)
    · replace h := h.1 hc
      refine ev_n 1 (fun _ => rfl) ?_
      exact v_zret (by decide) rfl h
    · replace h := h.2 hc
      refine ev_n 1 (fun _ => rfl) ?_
      refine ev_go rfl (w_gF rfl rfl) ?_
      refine ev_n 1 (fun _ => rfl) ?_
      obtain ⟨h0, h⟩ := h
      refine ev_go rfl (w_zald rfl h0) ?_
      refine ev_if (c := (σ.1 142 (Int32.toNatClampNeg x1)) = 0) rfl (fun _ => rfl) (fun hc => ?_) (fun hc => ?_)
      · replace h := h.1 hc
        refine ev_n 1 (fun _ => rfl) ?_
        exact v_zret (by decide) rfl h
      · replace h := h.2 hc
        refine ev_n 1 (fun _ => rfl) ?_
        obtain ⟨b1, eb1, hb1, h⟩ := h
        refine ev_go rfl (w_gR rfl eb1) ?_
        refine ev_n 1 (fun _ => rfl) ?_
        refine ev_go rfl (w_gF rfl rfl) ?_
        refine ev_n 1 (fun _ => rfl) ?_
        obtain ⟨hv2, h⟩ := h
        refine ev_go rfl (w_aald rfl (by decide) hv2 (kc_row139 _ (vpin_lt hv2))) ?_
        obtain ⟨σ3, hf, h⟩ := h
        refine ev_go rfl (w_callV rfl rfl (kb_0 hb1) (Nat.le_of_ble_eq_true rfl) hf) ?_
        refine ev_n 1 (fun _ => rfl) ?_
        obtain ⟨p4, ep4, hp4, h⟩ := h
        refine ev_go rfl (w_gR rfl ep4) ?_
        refine ev_n 1 (fun _ => rfl) ?_
        refine ev_go rfl (w_gF rfl rfl) ?_
        refine ev_n 1 (fun _ => rfl) ?_
        obtain ⟨hv5, h⟩ := h
        refine ev_go rfl (w_aald rfl (by decide) hv5 (kc_row140 _ (vpin_lt hv5))) ?_
        obtain ⟨σ6, hf, h⟩ := h
        refine ev_go rfl (w_callV rfl rfl (kp_0 hp4) (Nat.le_of_ble_eq_true rfl) hf) ?_
        refine ev_n 1 (fun _ => rfl) ?_
        obtain ⟨s7, es7, hs7, h⟩ := h
        refine ev_go rfl (w_gR rfl es7) ?_
        refine ev_n 1 (fun _ => rfl) ?_
        refine ev_go rfl (w_gF rfl rfl) ?_
        refine ev_n 1 (fun _ => rfl) ?_
        obtain ⟨hv8, h⟩ := h
        refine ev_go rfl (w_aald rfl (by decide) hv8 (kc_row141 _ (vpin_lt hv8))) ?_
        obtain ⟨σ9, hf, h⟩ := h
        refine ev_go rfl (w_callV rfl rfl (ks_0 hs7) (Nat.le_of_ble_eq_true rfl) hf) ?_
        refine ev_n 2 (fun _ => rfl) ?_
        refine ev_go rfl (w_pZ rfl (by decide)) ?_
        refine ev_n 1 (fun _ => rfl) ?_
        exact v_zret (by decide) rfl h
theorem m_X11_restore : ∀ pc o, (P_X11_restore KC).lookup pc = some o → Mon_ o := all_mon (a_X11_restore (l := launch0) (E := EC0) EC0_ok)
theorem z_X11_restore {x1 : Int32} {σ : St_} {out : Out_} (h : Ev_ (P_X11_restore KC) 0 [some (.ref 0), some (.int x1)] [] σ out) : f_X11_restore KC [.ref 0, .int x1] σ = some out := fn_eq m_X11_restore rfl h
set_option maxRecDepth 20000 in
theorem e_X11_count_0 {x1 : Int32} {σ : St_} {out : Out_}  (h : ((((x1).toInt < 0 ∨ 5 < (x1).toInt) → out = (some (.int ((-1) : Int32)), σ)) ∧ (x1 = 0 → (∃ b1, σ.2.2 0 12 = some b1 ∧ isB b1 ∧ out = (some (.int (σ.1 b1 11)), σ))) ∧ (x1 = 1 → (∃ b2, σ.2.2 0 12 = some b2 ∧ isB b2 ∧ out = (some (.int (σ.1 b2 12)), σ))) ∧ (x1 = 2 → (∃ p3, σ.2.2 0 14 = some p3 ∧ isP p3 ∧ out = (some (.int (σ.1 p3 4)), σ))) ∧ (x1 = 3 → (∃ b4, σ.2.2 0 12 = some b4 ∧ isB b4 ∧ out = (some (.int (σ.1 b4 14)), σ))) ∧ (x1 = 4 → (∃ b5, σ.2.2 0 12 = some b5 ∧ isB b5 ∧ out = (some (.int (σ.1 b5 15)), σ))) ∧ (x1 = 5 → out = (some (.int (σ.1 1 2)), σ)))) : Ev_ (P_X11_count KC) 0 [some (.ref 0), some (.int x1)] [] σ out := by
  refine ev_n 1 (fun _ => rfl) ?_
  refine ev_tsw rfl (fun hc => ?_) (fun t hc ht => ?_) (by decide)
  · replace h := h.1 hc
    refine ev_n 1 (fun _ => rfl) ?_
    exact ev_ret rfl (fun _ => rfl) h
  · have hi := tsw_in (n := 6) hc (by decide)
    rcases (show ((x1).toInt - 0).toNat = 0 ∨ ((x1).toInt - 0).toNat = 1 ∨ ((x1).toInt - 0).toNat = 2 ∨ ((x1).toInt - 0).toNat = 3 ∨ ((x1).toInt - 0).toNat = 4 ∨ ((x1).toInt - 0).toNat = 5 by omega) with e | e | e | e | e | e
    · rw [e] at ht
      cases ht
      replace h := h.2.1 (tsw_eq hc e (by decide))
      refine ev_n 1 (fun _ => rfl) ?_
      obtain ⟨b1, eb1, hb1, h⟩ := h
      refine ev_go rfl (w_gR rfl eb1) ?_
      refine ev_go rfl (w_gI (kb_0 hb1)) ?_
      exact ev_ret rfl (fun _ => rfl) h
    · rw [e] at ht
      cases ht
      replace h := h.2.2.1 (tsw_eq hc e (by decide))
      refine ev_n 1 (fun _ => rfl) ?_
      obtain ⟨b2, eb2, hb2, h⟩ := h
      refine ev_go rfl (w_gR rfl eb2) ?_
      refine ev_go rfl (w_gI (kb_0 hb2)) ?_
      exact ev_ret rfl (fun _ => rfl) h
    · rw [e] at ht
      cases ht
      replace h := h.2.2.2.1 (tsw_eq hc e (by decide))
      refine ev_n 1 (fun _ => rfl) ?_
      obtain ⟨p3, ep3, hp3, h⟩ := h
      refine ev_go rfl (w_gR rfl ep3) ?_
      refine ev_go rfl (w_gI (kp_0 hp3)) ?_
      exact ev_ret rfl (fun _ => rfl) h
    · rw [e] at ht
      cases ht
      replace h := h.2.2.2.2.1 (tsw_eq hc e (by decide))
      refine ev_n 1 (fun _ => rfl) ?_
      obtain ⟨b4, eb4, hb4, h⟩ := h
      refine ev_go rfl (w_gR rfl eb4) ?_
      refine ev_go rfl (w_gI (kb_0 hb4)) ?_
      exact ev_ret rfl (fun _ => rfl) h
    · rw [e] at ht
      cases ht
      replace h := h.2.2.2.2.2.1 (tsw_eq hc e (by decide))
      refine ev_n 1 (fun _ => rfl) ?_
      obtain ⟨b5, eb5, hb5, h⟩ := h
      refine ev_go rfl (w_gR rfl eb5) ?_
      refine ev_go rfl (w_gI (kb_0 hb5)) ?_
      exact ev_ret rfl (fun _ => rfl) h
    · rw [e] at ht
      cases ht
      replace h := h.2.2.2.2.2.2 (tsw_eq hc e (by decide))
      refine ev_n 1 (fun _ => rfl) ?_
      refine ev_go rfl (w_gF rfl rfl) ?_
      refine ev_go rfl (w_gI rfl) ?_
      exact ev_ret rfl (fun _ => rfl) h
theorem m_X11_count : ∀ pc o, (P_X11_count KC).lookup pc = some o → Mon_ o := all_mon (a_X11_count (l := launch0) (E := EC0) EC0_ok)
theorem z_X11_count {x1 : Int32} {σ : St_} {out : Out_} (h : Ev_ (P_X11_count KC) 0 [some (.ref 0), some (.int x1)] [] σ out) : f_X11_count KC [.ref 0, .int x1] σ = some out := fn_eq m_X11_count rfl h
set_option maxRecDepth 20000 in
theorem e_X12_thrown_0  {σ : St_} {out : Out_}  (h : out = (some (.int (σ.1 219 0)), σ)) : Ev_ (P_X12_thrown KC) 0 [some (.ref 219)] [] σ out := by
  refine ev_n 1 (fun _ => rfl) ?_
  refine ev_go rfl (w_gI rfl) ?_
  exact ev_ret rfl (fun _ => rfl) h
theorem m_X12_thrown : ∀ pc o, (P_X12_thrown KC).lookup pc = some o → Mon_ o := all_mon (a_X12_thrown (l := launch0) (E := EC0) EC0_ok)
theorem z_X12_thrown  {σ : St_} {out : Out_} (h : Ev_ (P_X12_thrown KC) 0 [some (.ref 219)] [] σ out) : f_X12_thrown KC [.ref 219] σ = some out := fn_eq m_X12_thrown rfl h
set_option maxRecDepth 20000 in
theorem e_X12_refuse_0  {σ : St_} {out : Out_}  (h : out = (some (.int (0 : Int32)), (sI_ σ 219 0 (1 : Int32)))) : Ev_ (P_X12_refuse KC) 0 [some (.ref 219)] [] σ out := by
  refine ev_n 2 (fun _ => rfl) ?_
  refine ev_go rfl (w_pI rfl) ?_
  refine ev_n 1 (fun _ => rfl) ?_
  exact ev_ret rfl (fun _ => rfl) h
theorem m_X12_refuse : ∀ pc o, (P_X12_refuse KC).lookup pc = some o → Mon_ o := all_mon (a_X12_refuse (l := launch0) (E := EC0) EC0_ok)
theorem z_X12_refuse  {σ : St_} {out : Out_} (h : Ev_ (P_X12_refuse KC) 0 [some (.ref 219)] [] σ out) : f_X12_refuse KC [.ref 219] σ = some out := fn_eq m_X12_refuse rfl h
set_option maxRecDepth 20000 in
theorem e_X12_come_0 {x1 : Int32} {σ : St_} {out : Out_}  (h : Ev_ (P_X12_come KC) 3 [some (.ref 219), some (.int x1), some (.int (24 : Int32))] [] σ out) : Ev_ (P_X12_come KC) 0 [some (.ref 219), some (.int x1), none] [] σ out := by
  refine ev_n 2 (fun _ => rfl) ?_
  exact h
set_option maxRecDepth 20000 in
theorem e_X12_come_3 {x1 : Int32} {x2 : Int32} {σ : St_} {out : Out_}  (h : ((x2 < 0 → out = (none, σ)) ∧ (¬ (x2 < 0) → (vpin_ (σ.1 219 2) 1040 = true) ∧ Ev_ (P_X12_come KC) 3 [some (.ref 219), some (.int x1), some (.int (x2 + (-8)))] [] (sI_ (sI_ σ 220 (Int32.toNatClampNeg (σ.1 219 2)) ((Int32.toUInt32 x1 >>> (Int32.toUInt32 x2 &&& Int32.toUInt32 31)).toInt32 &&& (255 : Int32))) 219 2 (((sI_ σ 220 (Int32.toNatClampNeg (σ.1 219 2)) ((Int32.toUInt32 x1 >>> (Int32.toUInt32 x2 &&& Int32.toUInt32 31)).toInt32 &&& (255 : Int32))).1 219 2) + (1 : Int32))) out))) : Ev_ (P_X12_come KC) 3 [some (.ref 219), some (.int x1), some (.int x2)] [] σ out := by
  refine ev_n 1 (fun _ => rfl) ?_
  refine ev_if (c := x2 < 0) rfl (fun _ => rfl) (fun hc => ?_) (fun hc => ?_)
  · replace h := h.1 hc
    exact ev_ret rfl (fun _ => rfl) h
  · replace h := h.2 hc
    refine ev_n 1 (fun _ => rfl) ?_
    refine ev_go rfl (w_gF rfl rfl) ?_
    refine ev_n 1 (fun _ => rfl) ?_
    refine ev_go rfl (w_gI rfl) ?_
    refine ev_n 5 (fun _ => rfl) ?_
    obtain ⟨h0, h⟩ := h
    refine ev_go rfl (w_iast rfl h0) ?_
    refine ev_n 2 (fun _ => rfl) ?_
    refine ev_go rfl (w_gI rfl) ?_
    refine ev_n 2 (fun _ => rfl) ?_
    refine ev_go rfl (w_pI rfl) ?_
    refine ev_n 2 (fun _ => rfl) ?_
    exact h
theorem m_X12_come : ∀ pc o, (P_X12_come KC).lookup pc = some o → Mon_ o := all_mon (a_X12_come (l := launch0) (E := EC0) EC0_ok)
theorem z_X12_come {x1 : Int32} {σ : St_} {out : Out_} (h : Ev_ (P_X12_come KC) 0 [some (.ref 219), some (.int x1), none] [] σ out) : f_X12_come KC [.ref 219, .int x1] σ = some out := fn_eq m_X12_come rfl h
set_option maxRecDepth 20000 in
theorem e_X12_feed_0 {x1 : Int32} {x2 : Int32} {x3 : Int32} {x4 : Int32} {x5 : Int32} {σ : St_} {out : Out_}  (h : (((((sI_ σ 219 0 (0 : Int32)).1 219 2) + (20 : Int32)) ≤ (1040 : Int32) → (∃ (σ1 : St_), f_X12_come KC [.ref 219, .int x1] (sI_ σ 219 0 (0 : Int32)) = some (none, σ1) ∧ (∃ (σ2 : St_), f_X12_come KC [.ref 219, .int x2] σ1 = some (none, σ2) ∧ (∃ (σ3 : St_), f_X12_come KC [.ref 219, .int x3] σ2 = some (none, σ3) ∧ (∃ (σ4 : St_), f_X12_come KC [.ref 219, .int x4] σ3 = some (none, σ4) ∧ (∃ (σ5 : St_), f_X12_come KC [.ref 219, .int x5] σ4 = some (none, σ5) ∧ out = (some (.int (σ5.1 219 2)), σ5))))))) ∧ (¬ ((((sI_ σ 219 0 (0 : Int32)).1 219 2) + (20 : Int32)) ≤ (1040 : Int32)) → out = (some (.int ((-1) : Int32)), (sI_ σ 219 0 (0 : Int32)))))) : Ev_ (P_X12_feed KC) 0 [some (.ref 219), some (.int x1), some (.int x2), some (.int x3), some (.int x4), some (.int x5)] [] σ out := by
  refine ev_n 2 (fun _ => rfl) ?_
  refine ev_go rfl (w_pI rfl) ?_
  refine ev_n 1 (fun _ => rfl) ?_
  refine ev_go rfl (w_gI rfl) ?_
  refine ev_n 3 (fun _ => rfl) ?_
  refine ev_if (c := (((sI_ σ 219 0 (0 : Int32)).1 219 2) + (20 : Int32)) ≤ (1040 : Int32)) rfl (fun _ => rfl) (fun hc => ?_) (fun hc => ?_)
  · replace h := h.1 hc
    refine ev_n 2 (fun _ => rfl) ?_
    obtain ⟨σ1, hf, h⟩ := h
    refine ev_go rfl (w_callV rfl rfl rfl (Nat.le_of_ble_eq_true rfl) hf) ?_
    refine ev_n 2 (fun _ => rfl) ?_
    obtain ⟨σ2, hf, h⟩ := h
    refine ev_go rfl (w_callV rfl rfl rfl (Nat.le_of_ble_eq_true rfl) hf) ?_
    refine ev_n 2 (fun _ => rfl) ?_
    obtain ⟨σ3, hf, h⟩ := h
    refine ev_go rfl (w_callV rfl rfl rfl (Nat.le_of_ble_eq_true rfl) hf) ?_
    refine ev_n 2 (fun _ => rfl) ?_
    obtain ⟨σ4, hf, h⟩ := h
    refine ev_go rfl (w_callV rfl rfl rfl (Nat.le_of_ble_eq_true rfl) hf) ?_
    refine ev_n 2 (fun _ => rfl) ?_
    obtain ⟨σ5, hf, h⟩ := h
    refine ev_go rfl (w_callV rfl rfl rfl (Nat.le_of_ble_eq_true rfl) hf) ?_
    refine ev_n 1 (fun _ => rfl) ?_
    refine ev_go rfl (w_gI rfl) ?_
    exact ev_ret rfl (fun _ => rfl) h
  · replace h := h.2 hc
    refine ev_n 1 (fun _ => rfl) ?_
    exact ev_ret rfl (fun _ => rfl) h
theorem m_X12_feed : ∀ pc o, (P_X12_feed KC).lookup pc = some o → Mon_ o := all_mon (a_X12_feed (l := launch0) (E := EC0) EC0_ok)
theorem z_X12_feed {x1 : Int32} {x2 : Int32} {x3 : Int32} {x4 : Int32} {x5 : Int32} {σ : St_} {out : Out_} (h : Ev_ (P_X12_feed KC) 0 [some (.ref 219), some (.int x1), some (.int x2), some (.int x3), some (.int x4), some (.int x5)] [] σ out) : f_X12_feed KC [.ref 219, .int x1, .int x2, .int x3, .int x4, .int x5] σ = some out := fn_eq m_X12_feed rfl h
set_option maxRecDepth 20000 in
theorem e_X12_end_0 {x1 : Int32} {σ : St_} {out : Out_}  (h : ((x1 < 0 → out = (some (.int (0 : Int32)), (sI_ σ 219 0 (0 : Int32)))) ∧ (¬ (x1 < 0) → ((x1 ≤ ((sI_ σ 219 0 (0 : Int32)).1 219 2) → out = (some (.int (1 : Int32)), (sI_ (sI_ σ 219 0 (0 : Int32)) 219 2 x1))) ∧ (¬ (x1 ≤ ((sI_ σ 219 0 (0 : Int32)).1 219 2)) → out = (some (.int (0 : Int32)), (sI_ σ 219 0 (0 : Int32)))))))) : Ev_ (P_X12_end KC) 0 [some (.ref 219), some (.int x1)] [] σ out := by
  refine ev_n 2 (fun _ => rfl) ?_
  refine ev_go rfl (w_pI rfl) ?_
  refine ev_n 1 (fun _ => rfl) ?_
  refine ev_if (c := x1 < 0) rfl (fun _ => rfl) (fun hc => ?_) (fun hc => ?_)
  · replace h := h.1 hc
    refine ev_n 1 (fun _ => rfl) ?_
    exact v_zret (by decide) rfl h
  · replace h := h.2 hc
    refine ev_n 2 (fun _ => rfl) ?_
    refine ev_go rfl (w_gI rfl) ?_
    refine ev_if (c := x1 ≤ ((sI_ σ 219 0 (0 : Int32)).1 219 2)) rfl (fun _ => rfl) (fun hc => ?_) (fun hc => ?_)
    · replace h := h.1 hc
      refine ev_n 2 (fun _ => rfl) ?_
      refine ev_go rfl (w_pI rfl) ?_
      refine ev_n 1 (fun _ => rfl) ?_
      exact v_zret (by decide) rfl h
    · replace h := h.2 hc
      refine ev_n 1 (fun _ => rfl) ?_
      exact v_zret (by decide) rfl h
theorem m_X12_end : ∀ pc o, (P_X12_end KC).lookup pc = some o → Mon_ o := all_mon (a_X12_end (l := launch0) (E := EC0) EC0_ok)
theorem z_X12_end {x1 : Int32} {σ : St_} {out : Out_} (h : Ev_ (P_X12_end KC) 0 [some (.ref 219), some (.int x1)] [] σ out) : f_X12_end KC [.ref 219, .int x1] σ = some out := fn_eq m_X12_end rfl h
set_option maxRecDepth 20000 in
theorem e_X12_take_0  {σ : St_} {out : Out_}  (h : out = (some (.int (σ.1 219 2)), (sI_ σ 219 2 (0 : Int32)))) : Ev_ (P_X12_take KC) 0 [some (.ref 219), none] [] σ out := by
  refine ev_n 1 (fun _ => rfl) ?_
  refine ev_go rfl (w_gI rfl) ?_
  refine ev_n 3 (fun _ => rfl) ?_
  refine ev_go rfl (w_pI rfl) ?_
  refine ev_n 1 (fun _ => rfl) ?_
  exact ev_ret rfl (fun _ => rfl) h
theorem m_X12_take : ∀ pc o, (P_X12_take KC).lookup pc = some o → Mon_ o := all_mon (a_X12_take (l := launch0) (E := EC0) EC0_ok)
theorem z_X12_take  {σ : St_} {out : Out_} (h : Ev_ (P_X12_take KC) 0 [some (.ref 219), none] [] σ out) : f_X12_take KC [.ref 219] σ = some out := fn_eq m_X12_take rfl h
set_option maxRecDepth 20000 in
theorem e_X12_isIn_0 {x0 : Int32} {x1 : Int32} {x2 : Int32} {σ : St_} {out : Out_}  (h : ((x0 < x1 → out = (some (.int (0 : Int32)), σ)) ∧ (¬ (x0 < x1) → ((x2 < x0 → out = (some (.int (0 : Int32)), σ)) ∧ (¬ (x2 < x0) → out = (some (.int (1 : Int32)), σ)))))) : Ev_ (P_X12_isIn KC) 0 [some (.int x0), some (.int x1), some (.int x2)] [] σ out := by
  refine ev_n 2 (fun _ => rfl) ?_
  refine ev_if (c := x0 < x1) rfl (fun _ => rfl) (fun hc => ?_) (fun hc => ?_)
  · replace h := h.1 hc
    refine ev_n 1 (fun _ => rfl) ?_
    exact v_zret (by decide) rfl h
  · replace h := h.2 hc
    refine ev_n 2 (fun _ => rfl) ?_
    refine ev_if (c := x2 < x0) rfl (fun _ => rfl) (fun hc => ?_) (fun hc => ?_)
    · replace h := h.1 hc
      refine ev_n 1 (fun _ => rfl) ?_
      exact v_zret (by decide) rfl h
    · replace h := h.2 hc
      refine ev_n 2 (fun _ => rfl) ?_
      exact v_zret (by decide) rfl h
theorem m_X12_isIn : ∀ pc o, (P_X12_isIn KC).lookup pc = some o → Mon_ o := all_mon (a_X12_isIn (l := launch0) (E := EC0) EC0_ok)
theorem z_X12_isIn {x0 : Int32} {x1 : Int32} {x2 : Int32} {σ : St_} {out : Out_} (h : Ev_ (P_X12_isIn KC) 0 [some (.int x0), some (.int x1), some (.int x2)] [] σ out) : f_X12_isIn KC [.int x0, .int x1, .int x2] σ = some out := fn_eq m_X12_isIn rfl h
set_option maxRecDepth 20000 in
theorem e_X12_has_0 {x0 : Int32} {x1 : Int32} {σ : St_} {out : Out_}  (h : ((((x0 >>> (x1 &&& 31)) &&& (1 : Int32)) = (1 : Int32) → out = (some (.int (1 : Int32)), σ)) ∧ (¬ (((x0 >>> (x1 &&& 31)) &&& (1 : Int32)) = (1 : Int32)) → out = (some (.int (0 : Int32)), σ)))) : Ev_ (P_X12_has KC) 0 [some (.int x0), some (.int x1)] [] σ out := by
  refine ev_n 6 (fun _ => rfl) ?_
  refine ev_if (c := ((x0 >>> (x1 &&& 31)) &&& (1 : Int32)) = (1 : Int32)) rfl (fun _ => rfl) (fun hc => ?_) (fun hc => ?_)
  · replace h := h.1 hc
    refine ev_n 2 (fun _ => rfl) ?_
    exact v_zret (by decide) rfl h
  · replace h := h.2 hc
    refine ev_n 1 (fun _ => rfl) ?_
    exact v_zret (by decide) rfl h
theorem m_X12_has : ∀ pc o, (P_X12_has KC).lookup pc = some o → Mon_ o := all_mon (a_X12_has (l := launch0) (E := EC0) EC0_ok)
theorem z_X12_has {x0 : Int32} {x1 : Int32} {σ : St_} {out : Out_} (h : Ev_ (P_X12_has KC) 0 [some (.int x0), some (.int x1)] [] σ out) : f_X12_has KC [.int x0, .int x1] σ = some out := fn_eq m_X12_has rfl h
set_option maxRecDepth 20000 in
theorem e_X12_bits_0 {x0 : Int32} {σ : St_} {out : Out_}  (h : Ev_ (P_X12_bits KC) 4 [some (.int x0), some (.int (0 : Int32)), some (.int x0)] [] σ out) : Ev_ (P_X12_bits KC) 0 [some (.int x0), none, none] [] σ out := by
  refine ev_n 4 (fun _ => rfl) ?_
  exact h
set_option maxRecDepth 20000 in
theorem e_X12_bits_4 {x0 : Int32} {x1 : Int32} {x2 : Int32} {σ : St_} {out : Out_}  (h : ((x2 = 0 → out = (some (.int x1), σ)) ∧ (¬ (x2 = 0) → Ev_ (P_X12_bits KC) 4 [some (.int x0), some (.int (x1 + 1)), some (.int (x2 &&& (x2 - (1 : Int32))))] [] σ out))) : Ev_ (P_X12_bits KC) 4 [some (.int x0), some (.int x1), some (.int x2)] [] σ out := by
  refine ev_n 1 (fun _ => rfl) ?_
  refine ev_if (c := x2 = 0) rfl (fun _ => rfl) (fun hc => ?_) (fun hc => ?_)
  · replace h := h.1 hc
    refine ev_n 1 (fun _ => rfl) ?_
    exact ev_ret rfl (fun _ => rfl) h
  · replace h := h.2 hc
    refine ev_n 8 (fun _ => rfl) ?_
    exact h
theorem m_X12_bits : ∀ pc o, (P_X12_bits KC).lookup pc = some o → Mon_ o := all_mon (a_X12_bits (l := launch0) (E := EC0) EC0_ok)
theorem z_X12_bits {x0 : Int32} {σ : St_} {out : Out_} (h : Ev_ (P_X12_bits KC) 0 [some (.int x0), none, none] [] σ out) : f_X12_bits KC [.int x0] σ = some out := fn_eq m_X12_bits rfl h
set_option maxRecDepth 20000 in
theorem e_X12_byteAt_0 {x1 : Int32} {σ : St_} {out : Out_}  (h : (((σ.1 219 3) ≤ x1 → out = (some (.int (0 : Int32)), σ)) ∧ (¬ ((σ.1 219 3) ≤ x1) → (vpin_ x1 1040 = true) ∧ out = (some (.int (σ.1 220 (Int32.toNatClampNeg x1))), σ)))) : Ev_ (P_X12_byteAt KC) 0 [some (.ref 219), some (.int x1)] [] σ out := by
  refine ev_n 2 (fun _ => rfl) ?_
  refine ev_go rfl (w_gI rfl) ?_
  refine ev_if (c := (σ.1 219 3) ≤ x1) rfl (fun _ => rfl) (fun hc => ?_) (fun hc => ?_)
  · replace h := h.1 hc
    refine ev_n 1 (fun _ => rfl) ?_
    exact ev_ret rfl (fun _ => rfl) h
  · replace h := h.2 hc
    refine ev_n 1 (fun _ => rfl) ?_
    refine ev_go rfl (w_gF rfl rfl) ?_
    refine ev_n 1 (fun _ => rfl) ?_
    obtain ⟨h0, h⟩ := h
    refine ev_go rfl (w_iald rfl h0) ?_
    refine ev_n 1 (fun _ => rfl) ?_
    exact ev_ret rfl (fun _ => rfl) h
theorem m_X12_byteAt : ∀ pc o, (P_X12_byteAt KC).lookup pc = some o → Mon_ o := all_mon (a_X12_byteAt (l := launch0) (E := EC0) EC0_ok)
theorem z_X12_byteAt {x1 : Int32} {σ : St_} {out : Out_} (h : Ev_ (P_X12_byteAt KC) 0 [some (.ref 219), some (.int x1)] [] σ out) : f_X12_byteAt KC [.ref 219, .int x1] σ = some out := fn_eq m_X12_byteAt rfl h
set_option maxRecDepth 20000 in
theorem e_X12_isDigit_0 {x0 : Int32} {σ : St_} {out : Out_}  (h : ((x0 < (48 : Int32) → out = (some (.int (0 : Int32)), σ)) ∧ (¬ (x0 < (48 : Int32)) → (((57 : Int32) < x0 → out = (some (.int (0 : Int32)), σ)) ∧ (¬ ((57 : Int32) < x0) → out = (some (.int (1 : Int32)), σ)))))) : Ev_ (P_X12_isDigit KC) 0 [some (.int x0)] [] σ out := by
  refine ev_n 2 (fun _ => rfl) ?_
  refine ev_if (c := x0 < (48 : Int32)) rfl (fun _ => rfl) (fun hc => ?_) (fun hc => ?_)
  · replace h := h.1 hc
    refine ev_n 1 (fun _ => rfl) ?_
    exact v_zret (by decide) rfl h
  · replace h := h.2 hc
    refine ev_n 2 (fun _ => rfl) ?_
    refine ev_if (c := (57 : Int32) < x0) rfl (fun _ => rfl) (fun hc => ?_) (fun hc => ?_)
    · replace h := h.1 hc
      refine ev_n 1 (fun _ => rfl) ?_
      exact v_zret (by decide) rfl h
    · replace h := h.2 hc
      refine ev_n 2 (fun _ => rfl) ?_
      exact v_zret (by decide) rfl h
theorem m_X12_isDigit : ∀ pc o, (P_X12_isDigit KC).lookup pc = some o → Mon_ o := all_mon (a_X12_isDigit (l := launch0) (E := EC0) EC0_ok)
theorem z_X12_isDigit {x0 : Int32} {σ : St_} {out : Out_} (h : Ev_ (P_X12_isDigit KC) 0 [some (.int x0)] [] σ out) : f_X12_isDigit KC [.int x0] σ = some out := fn_eq m_X12_isDigit rfl h
set_option maxRecDepth 20000 in
theorem e_X12_isLetter_0 {x0 : Int32} {σ : St_} {out : Out_}  (h : ((x0 < (97 : Int32) → out = (some (.int (0 : Int32)), σ)) ∧ (¬ (x0 < (97 : Int32)) → (((122 : Int32) < x0 → out = (some (.int (0 : Int32)), σ)) ∧ (¬ ((122 : Int32) < x0) → out = (some (.int (1 : Int32)), σ)))))) : Ev_ (P_X12_isLetter KC) 0 [some (.int x0)] [] σ out := by
  refine ev_n 2 (fun _ => rfl) ?_
  refine ev_if (c := x0 < (97 : Int32)) rfl (fun _ => rfl) (fun hc => ?_) (fun hc => ?_)
  · replace h := h.1 hc
    refine ev_n 1 (fun _ => rfl) ?_
    exact v_zret (by decide) rfl h
  · replace h := h.2 hc
    refine ev_n 2 (fun _ => rfl) ?_
    refine ev_if (c := (122 : Int32) < x0) rfl (fun _ => rfl) (fun hc => ?_) (fun hc => ?_)
    · replace h := h.1 hc
      refine ev_n 1 (fun _ => rfl) ?_
      exact v_zret (by decide) rfl h
    · replace h := h.2 hc
      refine ev_n 2 (fun _ => rfl) ?_
      exact v_zret (by decide) rfl h
theorem m_X12_isLetter : ∀ pc o, (P_X12_isLetter KC).lookup pc = some o → Mon_ o := all_mon (a_X12_isLetter (l := launch0) (E := EC0) EC0_ok)
theorem z_X12_isLetter {x0 : Int32} {σ : St_} {out : Out_} (h : Ev_ (P_X12_isLetter KC) 0 [some (.int x0)] [] σ out) : f_X12_isLetter KC [.int x0] σ = some out := fn_eq m_X12_isLetter rfl h
set_option maxRecDepth 20000 in
theorem e_X12_go_0  {σ : St_} {out : Out_}  (h : (((σ.1 219 3) ≤ (σ.1 219 5) → Ev_ (P_X12_go KC) 52 [some (.ref 219), none, none, none, none] [] σ out) ∧ (¬ ((σ.1 219 3) ≤ (σ.1 219 5)) → (vpin_ (σ.1 219 5) 1040 = true) ∧ (((σ.1 220 (Int32.toNatClampNeg (σ.1 219 5))) = (32 : Int32) → Ev_ (P_X12_go KC) 0 [some (.ref 219), none, none, none, none] [] (sI_ σ 219 5 ((σ.1 219 5) + (1 : Int32))) out) ∧ (¬ ((σ.1 220 (Int32.toNatClampNeg (σ.1 219 5))) = (32 : Int32)) → (vpin_ (σ.1 219 5) 1040 = true) ∧ (((σ.1 220 (Int32.toNatClampNeg (σ.1 219 5))) = (10 : Int32) → Ev_ (P_X12_go KC) 0 [some (.ref 219), none, none, none, none] [] (sI_ σ 219 5 ((σ.1 219 5) + (1 : Int32))) out) ∧ (¬ ((σ.1 220 (Int32.toNatClampNeg (σ.1 219 5))) = (10 : Int32)) → Ev_ (P_X12_go KC) 52 [some (.ref 219), none, none, none, none] [] σ out))))))) : Ev_ (P_X12_go KC) 0 [some (.ref 219), none, none, none, none] [] σ out := by
  refine ev_n 1 (fun _ => rfl) ?_
  refine ev_go rfl (w_gI rfl) ?_
  refine ev_n 1 (fun _ => rfl) ?_
  refine ev_go rfl (w_gI rfl) ?_
  refine ev_if (c := (σ.1 219 3) ≤ (σ.1 219 5)) rfl (fun _ => rfl) (fun hc => ?_) (fun hc => ?_)
  · replace h := h.1 hc
    exact h
  · replace h := h.2 hc
    refine ev_n 1 (fun _ => rfl) ?_
    refine ev_go rfl (w_gF rfl rfl) ?_
    refine ev_n 1 (fun _ => rfl) ?_
    refine ev_go rfl (w_gI rfl) ?_
    obtain ⟨h0, h⟩ := h
    refine ev_go rfl (w_iald rfl h0) ?_
    refine ev_n 1 (fun _ => rfl) ?_
    refine ev_if (c := (σ.1 220 (Int32.toNatClampNeg (σ.1 219 5))) = (32 : Int32)) rfl (fun _ => rfl) (fun hc => ?_) (fun hc => ?_)
    · replace h := h.1 hc
      refine ev_n 2 (fun _ => rfl) ?_
      refine ev_go rfl (w_gI rfl) ?_
      refine ev_n 2 (fun _ => rfl) ?_
      refine ev_go rfl (w_pI rfl) ?_
      refine ev_n 1 (fun _ => rfl) ?_
      exact h
    · replace h := h.2 hc
      refine ev_n 1 (fun _ => rfl) ?_
      refine ev_go rfl (w_gF rfl rfl) ?_
      refine ev_n 1 (fun _ => rfl) ?_
      refine ev_go rfl (w_gI rfl) ?_
      obtain ⟨h0, h⟩ := h
      refine ev_go rfl (w_iald rfl h0) ?_
      refine ev_n 1 (fun _ => rfl) ?_
      refine ev_if (c := (σ.1 220 (Int32.toNatClampNeg (σ.1 219 5))) = (10 : Int32)) rfl (fun _ => rfl) (fun hc => ?_) (fun hc => ?_)
      · replace h := h.1 hc
        refine ev_n 2 (fun _ => rfl) ?_
        refine ev_go rfl (w_gI rfl) ?_
        refine ev_n 2 (fun _ => rfl) ?_
        refine ev_go rfl (w_pI rfl) ?_
        refine ev_n 1 (fun _ => rfl) ?_
        exact h
      · replace h := h.2 hc
        exact h
set_option maxRecDepth 20000 in
theorem e_X12_go_52  {σ : St_} {out : Out_}  (h : ((((sI_ σ 219 6 (σ.1 219 5)).1 219 3) ≤ ((sI_ σ 219 6 (σ.1 219 5)).1 219 4) → Ev_ (P_X12_go KC) 96 [some (.ref 219), none, none, none, none] [] (sI_ σ 219 6 (σ.1 219 5)) out) ∧ (¬ (((sI_ σ 219 6 (σ.1 219 5)).1 219 3) ≤ ((sI_ σ 219 6 (σ.1 219 5)).1 219 4)) → ((((sI_ σ 219 6 (σ.1 219 5)).1 219 6) < ((sI_ σ 219 6 (σ.1 219 5)).1 219 4) → Ev_ (P_X12_go KC) 96 [some (.ref 219), none, none, none, none] [] (sI_ σ 219 6 (σ.1 219 5)) out) ∧ (¬ (((sI_ σ 219 6 (σ.1 219 5)).1 219 6) < ((sI_ σ 219 6 (σ.1 219 5)).1 219 4)) → out = (none, (sI_ (sI_ (sI_ σ 219 6 (σ.1 219 5)) 219 6 ((sI_ σ 219 6 (σ.1 219 5)).1 219 4)) 219 7 (1 : Int32)))))))) : Ev_ (P_X12_go KC) 52 [some (.ref 219), none, none, none, none] [] σ out := by
  refine ev_n 2 (fun _ => rfl) ?_
  refine ev_go rfl (w_gI rfl) ?_
  refine ev_go rfl (w_pI rfl) ?_
  refine ev_n 1 (fun _ => rfl) ?_
  refine ev_go rfl (w_gI rfl) ?_
  refine ev_n 1 (fun _ => rfl) ?_
  refine ev_go rfl (w_gI rfl) ?_
  refine ev_if (c := ((sI_ σ 219 6 (σ.1 219 5)).1 219 3) ≤ ((sI_ σ 219 6 (σ.1 219 5)).1 219 4)) rfl (fun _ => rfl) (fun hc => ?_) (fun hc => ?_)
  · replace h := h.1 hc
    exact h
  · replace h := h.2 hc
    refine ev_n 1 (fun _ => rfl) ?_
    refine ev_go rfl (w_gI rfl) ?_
    refine ev_n 1 (fun _ => rfl) ?_
    refine ev_go rfl (w_gI rfl) ?_
    refine ev_if (c := ((sI_ σ 219 6 (σ.1 219 5)).1 219 6) < ((sI_ σ 219 6 (σ.1 219 5)).1 219 4)) rfl (fun _ => rfl) (fun hc => ?_) (fun hc => ?_)
    · replace h := h.1 hc
      exact h
    · replace h := h.2 hc
      refine ev_n 2 (fun _ => rfl) ?_
      refine ev_go rfl (w_gI rfl) ?_
      refine ev_go rfl (w_pI rfl) ?_
      refine ev_n 2 (fun _ => rfl) ?_
      refine ev_go rfl (w_pI rfl) ?_
      exact ev_ret rfl (fun _ => rfl) h
set_option maxRecDepth 20000 in
theorem e_X12_go_96  {σ : St_} {out : Out_}  (h : (((σ.1 219 5) < (σ.1 219 3) → (vpin_ (σ.1 219 5) 1040 = true) ∧ (∃ (v2 : Int32) (σ1 : St_), f_X12_isLetter KC [.int (σ.1 220 (Int32.toNatClampNeg (σ.1 219 5)))] σ = some (some (.int v2), σ1) ∧ ((v2 = 0 → (∃ (v4 : Int32) (σ3 : St_), f_X12_isDigit KC [.int (σ.1 220 (Int32.toNatClampNeg (σ.1 219 5)))] σ1 = some (some (.int v4), σ3) ∧ ((v4 = 0 → (((σ.1 220 (Int32.toNatClampNeg (σ.1 219 5))) = (59 : Int32) → out = (none, (sI_ (sI_ (sI_ σ3 219 7 (4 : Int32)) 219 9 (σ.1 220 (Int32.toNatClampNeg (σ.1 219 5)))) 219 5 (((sI_ (sI_ σ3 219 7 (4 : Int32)) 219 9 (σ.1 220 (Int32.toNatClampNeg (σ.1 219 5)))).1 219 5) + (1 : Int32))))) ∧ (¬ ((σ.1 220 (Int32.toNatClampNeg (σ.1 219 5))) = (59 : Int32)) → (((σ.1 220 (Int32.toNatClampNeg (σ.1 219 5))) = (60 : Int32) → out = (none, (sI_ (sI_ (sI_ σ3 219 7 (4 : Int32)) 219 9 (σ.1 220 (Int32.toNatClampNeg (σ.1 219 5)))) 219 5 (((sI_ (sI_ σ3 219 7 (4 : Int32)) 219 9 (σ.1 220 (Int32.toNatClampNeg (σ.1 219 5)))).1 219 5) + (1 : Int32))))) ∧ (¬ ((σ.1 220 (Int32.toNatClampNeg (σ.1 219 5))) = (60 : Int32)) → (((σ.1 220 (Int32.toNatClampNeg (σ.1 219 5))) = (61 : Int32) → out = (none, (sI_ (sI_ (sI_ σ3 219 7 (4 : Int32)) 219 9 (σ.1 220 (Int32.toNatClampNeg (σ.1 219 5)))) 219 5 (((sI_ (sI_ σ3 219 7 (4 : Int32)) 219 9 (σ.1 220 (Int32.toNatClampNeg (σ.1 219 5)))).1 219 5) + (1 : Int32))))) ∧ (¬ ((σ.1 220 (Int32.toNatClampNeg (σ.1 219 5))) = (61 : Int32)) → (((σ.1 220 (Int32.toNatClampNeg (σ.1 219 5))) = (62 : Int32) → out = (none, (sI_ (sI_ (sI_ σ3 219 7 (4 : Int32)) 219 9 (σ.1 220 (Int32.toNatClampNeg (σ.1 219 5)))) 219 5 (((sI_ (sI_ σ3 219 7 (4 : Int32)) 219 9 (σ.1 220 (Int32.toNatClampNeg (σ.1 219 5)))).1 219 5) + (1 : Int32))))) ∧ (¬ ((σ.1 220 (Int32.toNatClampNeg (σ.1 219 5))) = (62 : Int32)) → (((σ.1 220 (Int32.toNatClampNeg (σ.1 219 5))) = (40 : Int32) → out = (none, (sI_ (sI_ (sI_ σ3 219 7 (4 : Int32)) 219 9 (σ.1 220 (Int32.toNatClampNeg (σ.1 219 5)))) 219 5 (((sI_ (sI_ σ3 219 7 (4 : Int32)) 219 9 (σ.1 220 (Int32.toNatClampNeg (σ.1 219 5)))).1 219 5) + (1 : Int32))))) ∧ (¬ ((σ.1 220 (Int32.toNatClampNeg (σ.1 219 5))) = (40 : Int32)) → (((σ.1 220 (Int32.toNatClampNeg (σ.1 219 5))) = (41 : Int32) → out = (none, (sI_ (sI_ (sI_ σ3 219 7 (4 : Int32)) 219 9 (σ.1 220 (Int32.toNatClampNeg (σ.1 219 5)))) 219 5 (((sI_ (sI_ σ3 219 7 (4 : Int32)) 219 9 (σ.1 220 (Int32.toNatClampNeg (σ.1 219 5)))).1 219 5) + (1 : Int32))))) ∧ (¬ ((σ.1 220 (Int32.toNatClampNeg (σ.1 219 5))) = (41 : Int32)) → out = (none, (sI_ (sI_ (sI_ σ3 219 7 (1 : Int32)) 219 9 (σ.1 220 (Int32.toNatClampNeg (σ.1 219 5)))) 219 5 (((sI_ (sI_ σ3 219 7 (1 : Int32)) 219 9 (σ.1 220 (Int32.toNatClampNeg (σ.1 219 5)))).1 219 5) + (1 : Int32))))))))))))))))) ∧ (¬ (v4 = 0) → (∃ (v6 : Int32) (σ5 : St_), f_X12_isLetter KC [.int (σ.1 220 (Int32.toNatClampNeg (σ.1 219 5)))] σ3 = some (some (.int v6), σ5) ∧ Ev_ (P_X12_go KC) 215 [some (.ref 219), none, some (.int v6), some (.int (1 : Int32)), none] [] (sI_ (sJ_ σ5 219 12 (0 : Int64)) 219 8 (0 : Int32)) out))))) ∧ (¬ (v2 = 0) → (∃ (v8 : Int32) (σ7 : St_), f_X12_isLetter KC [.int (σ.1 220 (Int32.toNatClampNeg (σ.1 219 5)))] σ1 = some (some (.int v8), σ7) ∧ Ev_ (P_X12_go KC) 215 [some (.ref 219), none, some (.int v8), some (.int (1 : Int32)), none] [] (sI_ (sJ_ σ7 219 12 (0 : Int64)) 219 8 (0 : Int32)) out))))) ∧ (¬ ((σ.1 219 5) < (σ.1 219 3)) → out = (none, (sI_ σ 219 7 (0 : Int32)))))) : Ev_ (P_X12_go KC) 96 [some (.ref 219), none, none, none, none] [] σ out := by
  refine ev_n 1 (fun _ => rfl) ?_
  refine ev_go rfl (w_gI rfl) ?_
  refine ev_n 1 (fun _ => rfl) ?_
  refine ev_go rfl (w_gI rfl) ?_
  refine ev_if (c := (σ.1 219 5) < (σ.1 219 3)) rfl (fun _ => rfl) (fun hc => ?_) (fun hc => ?_)
  · replace h := h.1 hc
    refine ev_n 1 (fun _ => rfl) ?_
    refine ev_go rfl (w_gF rfl rfl) ?_
    refine ev_n 1 (fun _ => rfl) ?_
    refine ev_go rfl (w_gI rfl) ?_
    obtain ⟨h0, h⟩ := h
    refine ev_go rfl (w_iald rfl h0) ?_
    refine ev_n 2 (fun _ => rfl) ?_
    obtain ⟨v2, σ1, hf, h⟩ := h
    refine ev_go rfl (w_callS ⟨Nat.le_of_ble_eq_true rfl, Nat.le_of_ble_eq_true rfl⟩ hf) ?_
    refine ev_if (c := v2 = 0) rfl (fun _ => rfl) (fun hc => ?_) (fun hc => ?_)
    · replace h := h.1 hc
      refine ev_n 1 (fun _ => rfl) ?_
      obtain ⟨v4, σ3, hf, h⟩ := h
      refine ev_go rfl (w_callS ⟨Nat.le_of_ble_eq_true rfl, Nat.le_of_ble_eq_true rfl⟩ hf) ?_
      refine ev_if (c := v4 = 0) rfl (fun _ => rfl) (fun hc => ?_) (fun hc => ?_)
      · replace h := h.1 hc
        refine ev_n 3 (fun _ => rfl) ?_
        refine ev_if (c := (σ.1 220 (Int32.toNatClampNeg (σ.1 219 5))) = (59 : Int32)) rfl (fun _ => rfl) (fun hc => ?_) (fun hc => ?_)
        · replace h := h.1 hc
          refine ev_n 2 (fun _ => rfl) ?_
          refine ev_go rfl (w_pI rfl) ?_
          refine ev_n 2 (fun _ => rfl) ?_
          refine ev_go rfl (w_pI rfl) ?_
          refine ev_n 2 (fun _ => rfl) ?_
          refine ev_go rfl (w_gI rfl) ?_
          refine ev_n 2 (fun _ => rfl) ?_
          refine ev_go rfl (w_pI rfl) ?_
          exact ev_ret rfl (fun _ => rfl) h
        · replace h := h.2 hc
          refine ev_n 2 (fun _ => rfl) ?_
          refine ev_if (c := (σ.1 220 (Int32.toNatClampNeg (σ.1 219 5))) = (60 : Int32)) rfl (fun _ => rfl) (fun hc => ?_) (fun hc => ?_)
          · replace h := h.1 hc
            refine ev_n 2 (fun _ => rfl) ?_
            refine ev_go rfl (w_pI rfl) ?_
            refine ev_n 2 (fun _ => rfl) ?_
            refine ev_go rfl (w_pI rfl) ?_
            refine ev_n 2 (fun _ => rfl) ?_
            refine ev_go rfl (w_gI rfl) ?_
            refine ev_n 2 (fun _ => rfl) ?_
            refine ev_go rfl (w_pI rfl) ?_
            exact ev_ret rfl (fun _ => rfl) h
          · replace h := h.2 hc
            refine ev_n 2 (fun _ => rfl) ?_
            refine ev_if (c := (σ.1 220 (Int32.toNatClampNeg (σ.1 219 5))) = (61 : Int32)) rfl (fun _ => rfl) (fun hc => ?_) (fun hc => ?_)
            · replace h := h.1 hc
              refine ev_n 2 (fun _ => rfl) ?_
              refine ev_go rfl (w_pI rfl) ?_
              refine ev_n 2 (fun _ => rfl) ?_
              refine ev_go rfl (w_pI rfl) ?_
              refine ev_n 2 (fun _ => rfl) ?_
              refine ev_go rfl (w_gI rfl) ?_
              refine ev_n 2 (fun _ => rfl) ?_
              refine ev_go rfl (w_pI rfl) ?_
              exact ev_ret rfl (fun _ => rfl) h
            · replace h := h.2 hc
              refine ev_n 2 (fun _ => rfl) ?_
              refine ev_if (c := (σ.1 220 (Int32.toNatClampNeg (σ.1 219 5))) = (62 : Int32)) rfl (fun _ => rfl) (fun hc => ?_) (fun hc => ?_)
              · replace h := h.1 hc
                refine ev_n 2 (fun _ => rfl) ?_
                refine ev_go rfl (w_pI rfl) ?_
                refine ev_n 2 (fun _ => rfl) ?_
                refine ev_go rfl (w_pI rfl) ?_
                refine ev_n 2 (fun _ => rfl) ?_
                refine ev_go rfl (w_gI rfl) ?_
                refine ev_n 2 (fun _ => rfl) ?_
                refine ev_go rfl (w_pI rfl) ?_
                exact ev_ret rfl (fun _ => rfl) h
              · replace h := h.2 hc
                refine ev_n 2 (fun _ => rfl) ?_
                refine ev_if (c := (σ.1 220 (Int32.toNatClampNeg (σ.1 219 5))) = (40 : Int32)) rfl (fun _ => rfl) (fun hc => ?_) (fun hc => ?_)
                · replace h := h.1 hc
                  refine ev_n 2 (fun _ => rfl) ?_
                  refine ev_go rfl (w_pI rfl) ?_
                  refine ev_n 2 (fun _ => rfl) ?_
                  refine ev_go rfl (w_pI rfl) ?_
                  refine ev_n 2 (fun _ => rfl) ?_
                  refine ev_go rfl (w_gI rfl) ?_
                  refine ev_n 2 (fun _ => rfl) ?_
                  refine ev_go rfl (w_pI rfl) ?_
                  exact ev_ret rfl (fun _ => rfl) h
                · replace h := h.2 hc
                  refine ev_n 2 (fun _ => rfl) ?_
                  refine ev_if (c := (σ.1 220 (Int32.toNatClampNeg (σ.1 219 5))) = (41 : Int32)) rfl (fun _ => rfl) (fun hc => ?_) (fun hc => ?_)
                  · replace h := h.1 hc
                    refine ev_n 2 (fun _ => rfl) ?_
                    refine ev_go rfl (w_pI rfl) ?_
                    refine ev_n 2 (fun _ => rfl) ?_
                    refine ev_go rfl (w_pI rfl) ?_
                    refine ev_n 2 (fun _ => rfl) ?_
                    refine ev_go rfl (w_gI rfl) ?_
                    refine ev_n 2 (fun _ => rfl) ?_
                    refine ev_go rfl (w_pI rfl) ?_
                    exact ev_ret rfl (fun _ => rfl) h
                  · replace h := h.2 hc
                    refine ev_n 1 (fun _ => rfl) ?_
                    refine ev_go rfl (w_pI rfl) ?_
                    refine ev_n 2 (fun _ => rfl) ?_
                    refine ev_go rfl (w_pI rfl) ?_
                    refine ev_n 2 (fun _ => rfl) ?_
                    refine ev_go rfl (w_gI rfl) ?_
                    refine ev_n 2 (fun _ => rfl) ?_
                    refine ev_go rfl (w_pI rfl) ?_
                    exact ev_ret rfl (fun _ => rfl) h
      · replace h := h.2 hc
        refine ev_n 1 (fun _ => rfl) ?_
        obtain ⟨v6, σ5, hf, h⟩ := h
        refine ev_go rfl (w_callS ⟨Nat.le_of_ble_eq_true rfl, Nat.le_of_ble_eq_true rfl⟩ hf) ?_
        refine ev_n 5 (fun _ => rfl) ?_
        refine ev_go rfl (w_pJ rfl) ?_
        refine ev_n 2 (fun _ => rfl) ?_
        refine ev_goA rfl (w_pI rfl) rfl ?_
        exact h
    · replace h := h.2 hc
      refine ev_n 1 (fun _ => rfl) ?_
      obtain ⟨v8, σ7, hf, h⟩ := h
      refine ev_go rfl (w_callS ⟨Nat.le_of_ble_eq_true rfl, Nat.le_of_ble_eq_true rfl⟩ hf) ?_
      refine ev_n 5 (fun _ => rfl) ?_
      refine ev_go rfl (w_pJ rfl) ?_
      refine ev_n 2 (fun _ => rfl) ?_
      refine ev_goA rfl (w_pI rfl) rfl ?_
      exact h
  · replace h := h.2 hc
    refine ev_n 2 (fun _ => rfl) ?_
    refine ev_go rfl (w_pI rfl) ?_
    exact ev_ret rfl (fun _ => rfl) h
set_option maxRecDepth 20000 in
theorem e_X12_go_215 {x2 : Int32} {x3 : Int32} {σ : St_} {out : Out_}  (h : (∃ (v2 : Int32) (σ1 : St_), f_X12_byteAt KC [.ref 219, .int (σ.1 219 5)] σ = some (some (.int v2), σ1) ∧ (∃ (v4 : Int32) (σ3 : St_), f_X12_isLetter KC [.int v2] σ1 = some (some (.int v4), σ3) ∧ ((v4 = 0 → (∃ (v6 : Int32) (σ5 : St_), f_X12_byteAt KC [.ref 219, .int (σ3.1 219 5)] σ3 = some (some (.int v6), σ5) ∧ (∃ (v8 : Int32) (σ7 : St_), f_X12_isDigit KC [.int v6] σ5 = some (some (.int v8), σ7) ∧ ((v8 = 0 → ((x3 = 0 → out = (none, (sI_ σ7 219 7 (1 : Int32)))) ∧ (¬ (x3 = 0) → ((x2 = 0 → ((((σ7.1 219 5) - (σ7.1 219 6)) ≤ (3 : Int32) → ((x2 = 0 → out = (none, (sI_ σ7 219 7 (3 : Int32)))) ∧ (¬ (x2 = 0) → out = (none, (sI_ σ7 219 7 (2 : Int32)))))) ∧ (¬ (((σ7.1 219 5) - (σ7.1 219 6)) ≤ (3 : Int32)) → out = (none, (sI_ σ7 219 7 (1 : Int32)))))) ∧ (¬ (x2 = 0) → ((((σ7.1 219 5) - (σ7.1 219 6)) ≤ (6 : Int32) → ((x2 = 0 → out = (none, (sI_ σ7 219 7 (3 : Int32)))) ∧ (¬ (x2 = 0) → out = (none, (sI_ σ7 219 7 (2 : Int32)))))) ∧ (¬ (((σ7.1 219 5) - (σ7.1 219 6)) ≤ (6 : Int32)) → out = (none, (sI_ σ7 219 7 (1 : Int32)))))))))) ∧ (¬ (v8 = 0) → Ev_ (P_X12_go KC) 243 [some (.ref 219), none, some (.int x2), some (.int x3), none] [] σ7 out))))) ∧ (¬ (v4 = 0) → Ev_ (P_X12_go KC) 243 [some (.ref 219), none, some (.int x2), some (.int x3), none] [] σ3 out))))) : Ev_ (P_X12_go KC) 215 [some (.ref 219), none, some (.int x2), some (.int x3), none] [] σ out := by
  refine ev_n 2 (fun _ => rfl) ?_
  refine ev_go rfl (w_gI rfl) ?_
  obtain ⟨v2, σ1, hf, h⟩ := h
  refine ev_go rfl (w_callV rfl rfl rfl (Nat.le_of_ble_eq_true rfl) hf) ?_
  obtain ⟨v4, σ3, hf, h⟩ := h
  refine ev_go rfl (w_callS ⟨Nat.le_of_ble_eq_true rfl, Nat.le_of_ble_eq_true rfl⟩ hf) ?_
  refine ev_if (c := v4 = 0) rfl (fun _ => rfl) (fun hc => ?_) (fun hc => ?_)
  · replace h := h.1 hc
    refine ev_n 2 (fun _ => rfl) ?_
    refine ev_go rfl (w_gI rfl) ?_
    obtain ⟨v6, σ5, hf, h⟩ := h
    refine ev_go rfl (w_callV rfl rfl rfl (Nat.le_of_ble_eq_true rfl) hf) ?_
    obtain ⟨v8, σ7, hf, h⟩ := h
    refine ev_go rfl (w_callS ⟨Nat.le_of_ble_eq_true rfl, Nat.le_of_ble_eq_true rfl⟩ hf) ?_
    refine ev_if (c := v8 = 0) rfl (fun _ => rfl) (fun hc => ?_) (fun hc => ?_)
    · replace h := h.1 hc
      refine ev_n 2 (fun _ => rfl) ?_
      refine ev_if (c := x3 = 0) rfl (fun _ => rfl) (fun hc => ?_) (fun hc => ?_)
      · replace h := h.1 hc
        refine ev_n 2 (fun _ => rfl) ?_
        refine ev_go rfl (w_pI rfl) ?_
        exact ev_ret rfl (fun _ => rfl) h
      · replace h := h.2 hc
        refine ev_n 1 (fun _ => rfl) ?_
        refine ev_go rfl (w_gI rfl) ?_
        refine ev_n 1 (fun _ => rfl) ?_
        refine ev_go rfl (w_gI rfl) ?_
        refine ev_n 2 (fun _ => rfl) ?_
        refine ev_if (c := x2 = 0) rfl (fun _ => rfl) (fun hc => ?_) (fun hc => ?_)
        · replace h := h.1 hc
          refine ev_n 1 (fun _ => rfl) ?_
          refine ev_if (c := ((σ7.1 219 5) - (σ7.1 219 6)) ≤ (3 : Int32)) rfl (fun _ => rfl) (fun hc => ?_) (fun hc => ?_)
          · replace h := h.1 hc
            refine ev_n 1 (fun _ => rfl) ?_
            refine ev_if (c := x2 = 0) rfl (fun _ => rfl) (fun hc => ?_) (fun hc => ?_)
            · replace h := h.1 hc
              refine ev_n 1 (fun _ => rfl) ?_
              refine ev_go rfl (w_pI rfl) ?_
              exact ev_ret rfl (fun _ => rfl) h
            · replace h := h.2 hc
              refine ev_n 2 (fun _ => rfl) ?_
              refine ev_go rfl (w_pI rfl) ?_
              exact ev_ret rfl (fun _ => rfl) h
          · replace h := h.2 hc
            refine ev_n 2 (fun _ => rfl) ?_
            refine ev_go rfl (w_pI rfl) ?_
            exact ev_ret rfl (fun _ => rfl) h
        · replace h := h.2 hc
          refine ev_n 2 (fun _ => rfl) ?_
          refine ev_if (c := ((σ7.1 219 5) - (σ7.1 219 6)) ≤ (6 : Int32)) rfl (fun _ => rfl) (fun hc => ?_) (fun hc => ?_)
          · replace h := h.1 hc
            refine ev_n 1 (fun _ => rfl) ?_
            refine ev_if (c := x2 = 0) rfl (fun _ => rfl) (fun hc => ?_) (fun hc => ?_)
            · replace h := h.1 hc
              refine ev_n 1 (fun _ => rfl) ?_
              refine ev_go rfl (w_pI rfl) ?_
              exact ev_ret rfl (fun _ => rfl) h
            · replace h := h.2 hc
              refine ev_n 2 (fun _ => rfl) ?_
              refine ev_go rfl (w_pI rfl) ?_
              exact ev_ret rfl (fun _ => rfl) h
          · replace h := h.2 hc
            refine ev_n 2 (fun _ => rfl) ?_
            refine ev_go rfl (w_pI rfl) ?_
            exact ev_ret rfl (fun _ => rfl) h
    · replace h := h.2 hc
      exact h
  · replace h := h.2 hc
    exact h
set_option maxRecDepth 20000 in
theorem e_X12_go_243 {x2 : Int32} {x3 : Int32} {σ : St_} {out : Out_}  (h : (vpin_ (σ.1 219 5) 1040 = true) ∧ ((x3 = 0 → Ev_ (P_X12_go KC) 272 [some (.ref 219), none, some (.int x2), none, some (.int (σ.1 220 (Int32.toNatClampNeg (σ.1 219 5))))] [.int (0 : Int32)] σ out) ∧ (¬ (x3 = 0) → (∃ (v2 : Int32) (σ1 : St_), f_X12_isLetter KC [.int (σ.1 220 (Int32.toNatClampNeg (σ.1 219 5)))] σ = some (some (.int v2), σ1) ∧ ((v2 = x2 → Ev_ (P_X12_go KC) 272 [some (.ref 219), none, some (.int x2), none, some (.int (σ.1 220 (Int32.toNatClampNeg (σ.1 219 5))))] [.int (1 : Int32)] σ1 out) ∧ (¬ (v2 = x2) → Ev_ (P_X12_go KC) 272 [some (.ref 219), none, some (.int x2), none, some (.int (σ.1 220 (Int32.toNatClampNeg (σ.1 219 5))))] [.int (0 : Int32)] σ1 out)))))) : Ev_ (P_X12_go KC) 243 [some (.ref 219), none, some (.int x2), some (.int x3), none] [] σ out := by
  refine ev_n 1 (fun _ => rfl) ?_
  refine ev_go rfl (w_gF rfl rfl) ?_
  refine ev_n 1 (fun _ => rfl) ?_
  refine ev_go rfl (w_gI rfl) ?_
  obtain ⟨h0, h⟩ := h
  refine ev_go rfl (w_iald rfl h0) ?_
  refine ev_n 2 (fun _ => rfl) ?_
  refine ev_if (c := x3 = 0) rfl (fun _ => rfl) (fun hc => ?_) (fun hc => ?_)
  · replace h := h.1 hc
    refine ev_n 1 (fun _ => rfl) ?_
    exact h
  · replace h := h.2 hc
    refine ev_n 1 (fun _ => rfl) ?_
    obtain ⟨v2, σ1, hf, h⟩ := h
    refine ev_go rfl (w_callS ⟨Nat.le_of_ble_eq_true rfl, Nat.le_of_ble_eq_true rfl⟩ hf) ?_
    refine ev_n 1 (fun _ => rfl) ?_
    refine ev_if (c := v2 = x2) rfl (fun _ => rfl) (fun hc => ?_) (fun hc => ?_)
    · replace h := h.1 hc
      refine ev_n 2 (fun _ => rfl) ?_
      exact h
    · replace h := h.2 hc
      refine ev_n 1 (fun _ => rfl) ?_
      exact h
set_option maxRecDepth 20000 in
theorem e_X12_go_272 {x2 : Int32} {x4 : Int32} {y0 : Int32} {σ : St_} {out : Out_}  (h : (((6 : Int32) ≤ ((σ.1 219 5) - (σ.1 219 6)) → Ev_ (P_X12_go KC) 307 [some (.ref 219), none, some (.int x2), some (.int y0), some (.int x4)] [] σ out) ∧ (¬ ((6 : Int32) ≤ ((σ.1 219 5) - (σ.1 219 6))) → Ev_ (P_X12_go KC) 307 [some (.ref 219), none, some (.int x2), some (.int y0), some (.int x4)] [] (sJ_ σ 219 12 ((((27 : Int64) * (σ.2.1 219 12)) + (Int32.toInt64 x4)) - (96 : Int64))) out))) : Ev_ (P_X12_go KC) 272 [some (.ref 219), none, some (.int x2), none, some (.int x4)] [.int y0] σ out := by
  refine ev_n 2 (fun _ => rfl) ?_
  refine ev_go rfl (w_gI rfl) ?_
  refine ev_n 1 (fun _ => rfl) ?_
  refine ev_go rfl (w_gI rfl) ?_
  refine ev_n 2 (fun _ => rfl) ?_
  refine ev_if (c := (6 : Int32) ≤ ((σ.1 219 5) - (σ.1 219 6))) rfl (fun _ => rfl) (fun hc => ?_) (fun hc => ?_)
  · replace h := h.1 hc
    exact h
  · replace h := h.2 hc
    refine ev_n 3 (fun _ => rfl) ?_
    refine ev_go rfl (w_gJ rfl) ?_
    refine ev_n 6 (fun _ => rfl) ?_
    refine ev_goA rfl (w_pJ rfl) rfl ?_
    exact h
set_option maxRecDepth 20000 in
theorem e_X12_go_307 {x2 : Int32} {x3 : Int32} {x4 : Int32} {σ : St_} {out : Out_}  (h : (((3 : Int32) ≤ ((σ.1 219 5) - (σ.1 219 6)) → Ev_ (P_X12_go KC) 215 [some (.ref 219), none, some (.int x2), some (.int x3), none] [] (sI_ σ 219 5 ((σ.1 219 5) + (1 : Int32))) out) ∧ (¬ ((3 : Int32) ≤ ((σ.1 219 5) - (σ.1 219 6))) → Ev_ (P_X12_go KC) 215 [some (.ref 219), none, some (.int x2), some (.int x3), none] [] (sI_ (sI_ σ 219 8 ((((10 : Int32) * (σ.1 219 8)) + x4) - (48 : Int32))) 219 5 (((sI_ σ 219 8 ((((10 : Int32) * (σ.1 219 8)) + x4) - (48 : Int32))).1 219 5) + (1 : Int32))) out))) : Ev_ (P_X12_go KC) 307 [some (.ref 219), none, some (.int x2), some (.int x3), some (.int x4)] [] σ out := by
  refine ev_n 1 (fun _ => rfl) ?_
  refine ev_go rfl (w_gI rfl) ?_
  refine ev_n 1 (fun _ => rfl) ?_
  refine ev_go rfl (w_gI rfl) ?_
  refine ev_n 2 (fun _ => rfl) ?_
  refine ev_if (c := (3 : Int32) ≤ ((σ.1 219 5) - (σ.1 219 6))) rfl (fun _ => rfl) (fun hc => ?_) (fun hc => ?_)
  · replace h := h.1 hc
    refine ev_n 2 (fun _ => rfl) ?_
    refine ev_go rfl (w_gI rfl) ?_
    refine ev_n 2 (fun _ => rfl) ?_
    refine ev_go rfl (w_pI rfl) ?_
    refine ev_n 1 (fun _ => rfl) ?_
    exact h
  · replace h := h.2 hc
    refine ev_n 3 (fun _ => rfl) ?_
    refine ev_go rfl (w_gI rfl) ?_
    refine ev_n 5 (fun _ => rfl) ?_
    refine ev_go rfl (w_pI rfl) ?_
    refine ev_n 2 (fun _ => rfl) ?_
    refine ev_go rfl (w_gI rfl) ?_
    refine ev_n 2 (fun _ => rfl) ?_
    refine ev_go rfl (w_pI rfl) ?_
    refine ev_n 1 (fun _ => rfl) ?_
    exact h
theorem m_X12_go : ∀ pc o, (P_X12_go KC).lookup pc = some o → Mon_ o := all_mon (a_X12_go (l := launch0) (E := EC0) EC0_ok)
theorem z_X12_go  {σ : St_} {out : Out_} (h : Ev_ (P_X12_go KC) 0 [some (.ref 219), none, none, none, none] [] σ out) : f_X12_go KC [.ref 219] σ = some out := fn_eq m_X12_go rfl h
set_option maxRecDepth 20000 in
theorem e_X12_spelt_0 {x0 : Int32} {x1 : Int32} {x2 : Int32} {x3 : Int32} {x4 : Int32} {σ : St_} {out : Out_}  (h : ((x2 ≤ 0 → Ev_ (P_X12_spelt KC) 38 [some (.int x0), some (.int x1), some (.int x2), some (.int x3), some (.int x4), some (.long ((((27 : Int64) * ((Int32.toInt64 x0) - (96 : Int64))) + (Int32.toInt64 x1)) - (96 : Int64))), none] [] σ out) ∧ (¬ (x2 ≤ 0) → Ev_ (P_X12_spelt KC) 38 [some (.int x0), some (.int x1), some (.int x2), some (.int x3), some (.int x4), some (.long ((((27 : Int64) * ((((27 : Int64) * ((Int32.toInt64 x0) - (96 : Int64))) + (Int32.toInt64 x1)) - (96 : Int64))) + (Int32.toInt64 x2)) - (96 : Int64))), none] [] σ out))) : Ev_ (P_X12_spelt KC) 0 [some (.int x0), some (.int x1), some (.int x2), some (.int x3), some (.int x4), none, none] [] σ out := by
  refine ev_n 8 (fun _ => rfl) ?_
  refine ev_n 5 (fun _ => rfl) ?_
  refine ev_if (c := x2 ≤ 0) rfl (fun _ => rfl) (fun hc => ?_) (fun hc => ?_)
  · replace h := h.1 hc
    exact h
  · replace h := h.2 hc
    refine ev_n 8 (fun _ => rfl) ?_
    refine ev_n 1 (fun _ => rfl) ?_
    exact h
set_option maxRecDepth 20000 in
theorem e_X12_spelt_38 {x0 : Int32} {x1 : Int32} {x2 : Int32} {x3 : Int32} {x4 : Int32} {x5 : Int64} {σ : St_} {out : Out_}  (h : ((x3 ≤ 0 → ((x4 ≤ 0 → out = (some (.long x5), σ)) ∧ (¬ (x4 ≤ 0) → out = (some (.long ((((27 : Int64) * x5) + (Int32.toInt64 x4)) - (96 : Int64))), σ)))) ∧ (¬ (x3 ≤ 0) → ((x4 ≤ 0 → out = (some (.long ((((27 : Int64) * x5) + (Int32.toInt64 x3)) - (96 : Int64))), σ)) ∧ (¬ (x4 ≤ 0) → out = (some (.long ((((27 : Int64) * ((((27 : Int64) * x5) + (Int32.toInt64 x3)) - (96 : Int64))) + (Int32.toInt64 x4)) - (96 : Int64))), σ)))))) : Ev_ (P_X12_spelt KC) 38 [some (.int x0), some (.int x1), some (.int x2), some (.int x3), some (.int x4), some (.long x5), none] [] σ out := by
  refine ev_n 1 (fun _ => rfl) ?_
  refine ev_if (c := x3 ≤ 0) rfl (fun _ => rfl) (fun hc => ?_) (fun hc => ?_)
  · replace h := h.1 hc
    refine ev_n 1 (fun _ => rfl) ?_
    refine ev_if (c := x4 ≤ 0) rfl (fun _ => rfl) (fun hc => ?_) (fun hc => ?_)
    · replace h := h.1 hc
      refine ev_n 1 (fun _ => rfl) ?_
      exact ev_ret rfl (fun _ => rfl) h
    · replace h := h.2 hc
      refine ev_n 8 (fun _ => rfl) ?_
      refine ev_n 1 (fun _ => rfl) ?_
      exact ev_ret rfl (fun _ => rfl) h
  · replace h := h.2 hc
    refine ev_n 8 (fun _ => rfl) ?_
    refine ev_n 2 (fun _ => rfl) ?_
    refine ev_if (c := x4 ≤ 0) rfl (fun _ => rfl) (fun hc => ?_) (fun hc => ?_)
    · replace h := h.1 hc
      refine ev_n 1 (fun _ => rfl) ?_
      exact ev_ret rfl (fun _ => rfl) h
    · replace h := h.2 hc
      refine ev_n 8 (fun _ => rfl) ?_
      refine ev_n 1 (fun _ => rfl) ?_
      exact ev_ret rfl (fun _ => rfl) h
theorem m_X12_spelt : ∀ pc o, (P_X12_spelt KC).lookup pc = some o → Mon_ o := all_mon (a_X12_spelt (l := launch0) (E := EC0) EC0_ok)
theorem z_X12_spelt {x0 : Int32} {x1 : Int32} {x2 : Int32} {x3 : Int32} {x4 : Int32} {σ : St_} {out : Out_} (h : Ev_ (P_X12_spelt KC) 0 [some (.int x0), some (.int x1), some (.int x2), some (.int x3), some (.int x4), none, none] [] σ out) : f_X12_spelt KC [.int x0, .int x1, .int x2, .int x3, .int x4] σ = some out := fn_eq m_X12_spelt rfl h
set_option maxRecDepth 20000 in
theorem e_X12_wordOf_0 {x0 : Int32} {σ : St_} {out : Out_}  (h : ((((x0).toInt < 0 ∨ 18 < (x0).toInt) → (∃ (v2 : Int64) (σ1 : St_), f_X12_spelt KC [.int (99 : Int32), .int (111 : Int32), .int (117 : Int32), .int (110 : Int32), .int (116 : Int32)] σ = some (some (.long v2), σ1) ∧ out = (some (.long v2), σ1))) ∧ (x0 = 0 → (∃ (v4 : Int64) (σ3 : St_), f_X12_spelt KC [.int (99 : Int32), .int (104 : Int32), .int (97 : Int32), .int (112 : Int32), .int (0 : Int32)] σ = some (some (.long v4), σ3) ∧ out = (some (.long v4), σ3))) ∧ (x0 = 1 → (∃ (v6 : Int64) (σ5 : St_), f_X12_spelt KC [.int (119 : Int32), .int (104 : Int32), .int (111 : Int32), .int (0 : Int32), .int (0 : Int32)] σ = some (some (.long v6), σ5) ∧ out = (some (.long v6), σ5))) ∧ (x0 = 2 → (∃ (v8 : Int64) (σ7 : St_), f_X12_spelt KC [.int (115 : Int32), .int (112 : Int32), .int (101 : Int32), .int (101 : Int32), .int (100 : Int32)] σ = some (some (.long v8), σ7) ∧ out = (some (.long v8), σ7))) ∧ (x0 = 3 → (∃ (v10 : Int64) (σ9 : St_), f_X12_spelt KC [.int (97 : Int32), .int (103 : Int32), .int (97 : Int32), .int (105 : Int32), .int (110 : Int32)] σ = some (some (.long v10), σ9) ∧ out = (some (.long v10), σ9))) ∧ (x0 = 4 → (∃ (v12 : Int64) (σ11 : St_), f_X12_spelt KC [.int (111 : Int32), .int (110 : Int32), .int (0 : Int32), .int (0 : Int32), .int (0 : Int32)] σ = some (some (.long v12), σ11) ∧ out = (some (.long v12), σ11))) ∧ (x0 = 5 → (∃ (v14 : Int64) (σ13 : St_), f_X12_spelt KC [.int (109 : Int32), .int (117 : Int32), .int (115 : Int32), .int (116 : Int32), .int (0 : Int32)] σ = some (some (.long v14), σ13) ∧ out = (some (.long v14), σ13))) ∧ (x0 = 6 → (∃ (v16 : Int64) (σ15 : St_), f_X12_spelt KC [.int (115 : Int32), .int (107 : Int32), .int (105 : Int32), .int (112 : Int32), .int (115 : Int32)] σ = some (some (.long v16), σ15) ∧ out = (some (.long v16), σ15))) ∧ (x0 = 7 → (∃ (v18 : Int64) (σ17 : St_), f_X12_spelt KC [.int (114 : Int32), .int (101 : Int32), .int (97 : Int32), .int (100 : Int32), .int (115 : Int32)] σ = some (some (.long v18), σ17) ∧ out = (some (.long v18), σ17))) ∧ (x0 = 8 → (∃ (v20 : Int64) (σ19 : St_), f_X12_spelt KC [.int (116 : Int32), .int (101 : Int32), .int (108 : Int32), .int (108 : Int32), .int (115 : Int32)] σ = some (some (.long v20), σ19) ∧ out = (some (.long v20), σ19))) ∧ (x0 = 9 → (∃ (v22 : Int64) (σ21 : St_), f_X12_spelt KC [.int (116 : Int32), .int (111 : Int32), .int (0 : Int32), .int (0 : Int32), .int (0 : Int32)] σ = some (some (.long v22), σ21) ∧ out = (some (.long v22), σ21))) ∧ (x0 = 10 → (∃ (v24 : Int64) (σ23 : St_), f_X12_spelt KC [.int (97 : Int32), .int (108 : Int32), .int (108 : Int32), .int (0 : Int32), .int (0 : Int32)] σ = some (some (.long v24), σ23) ∧ out = (some (.long v24), σ23))) ∧ (x0 = 11 → (∃ (v26 : Int64) (σ25 : St_), f_X12_spelt KC [.int (111 : Int32), .int (114 : Int32), .int (0 : Int32), .int (0 : Int32), .int (0 : Int32)] σ = some (some (.long v26), σ25) ∧ out = (some (.long v26), σ25))) ∧ (x0 = 12 → (∃ (v28 : Int64) (σ27 : St_), f_X12_spelt KC [.int (97 : Int32), .int (110 : Int32), .int (100 : Int32), .int (0 : Int32), .int (0 : Int32)] σ = some (some (.long v28), σ27) ∧ out = (some (.long v28), σ27))) ∧ (x0 = 13 → (∃ (v30 : Int64) (σ29 : St_), f_X12_spelt KC [.int (110 : Int32), .int (111 : Int32), .int (116 : Int32), .int (0 : Int32), .int (0 : Int32)] σ = some (some (.long v30), σ29) ∧ out = (some (.long v30), σ29))) ∧ (x0 = 14 → (∃ (v32 : Int64) (σ31 : St_), f_X12_spelt KC [.int (114 : Int32), .int (101 : Int32), .int (97 : Int32), .int (100 : Int32), .int (0 : Int32)] σ = some (some (.long v32), σ31) ∧ out = (some (.long v32), σ31))) ∧ (x0 = 15 → (∃ (v34 : Int64) (σ33 : St_), f_X12_spelt KC [.int (116 : Int32), .int (111 : Int32), .int (108 : Int32), .int (100 : Int32), .int (0 : Int32)] σ = some (some (.long v34), σ33) ∧ out = (some (.long v34), σ33))) ∧ (x0 = 16 → (∃ (v36 : Int64) (σ35 : St_), f_X12_spelt KC [.int (107 : Int32), .int (110 : Int32), .int (111 : Int32), .int (119 : Int32), .int (115 : Int32)] σ = some (some (.long v36), σ35) ∧ out = (some (.long v36), σ35))) ∧ (x0 = 17 → (∃ (v38 : Int64) (σ37 : St_), f_X12_spelt KC [.int (116 : Int32), .int (111 : Int32), .int (116 : Int32), .int (97 : Int32), .int (108 : Int32)] σ = some (some (.long v38), σ37) ∧ out = (some (.long v38), σ37))) ∧ (x0 = 18 → (∃ (v40 : Int64) (σ39 : St_), f_X12_spelt KC [.int (108 : Int32), .int (101 : Int32), .int (102 : Int32), .int (116 : Int32), .int (0 : Int32)] σ = some (some (.long v40), σ39) ∧ out = (some (.long v40), σ39))))) : Ev_ (P_X12_wordOf KC) 0 [some (.int x0)] [] σ out := by
  refine ev_n 1 (fun _ => rfl) ?_
  refine ev_tsw rfl (fun hc => ?_) (fun t hc ht => ?_) (by decide)
  · replace h := h.1 hc
    refine ev_n 5 (fun _ => rfl) ?_
    obtain ⟨v2, σ1, hf, h⟩ := h
    refine ev_go rfl (w_callS ⟨Nat.le_of_ble_eq_true rfl, Nat.le_of_ble_eq_true rfl⟩ hf) ?_
    exact ev_ret rfl (fun _ => rfl) h
  · have hi := tsw_in (n := 19) hc (by decide)
    rcases (show ((x0).toInt - 0).toNat = 0 ∨ ((x0).toInt - 0).toNat = 1 ∨ ((x0).toInt - 0).toNat = 2 ∨ ((x0).toInt - 0).toNat = 3 ∨ ((x0).toInt - 0).toNat = 4 ∨ ((x0).toInt - 0).toNat = 5 ∨ ((x0).toInt - 0).toNat = 6 ∨ ((x0).toInt - 0).toNat = 7 ∨ ((x0).toInt - 0).toNat = 8 ∨ ((x0).toInt - 0).toNat = 9 ∨ ((x0).toInt - 0).toNat = 10 ∨ ((x0).toInt - 0).toNat = 11 ∨ ((x0).toInt - 0).toNat = 12 ∨ ((x0).toInt - 0).toNat = 13 ∨ ((x0).toInt - 0).toNat = 14 ∨ ((x0).toInt - 0).toNat = 15 ∨ ((x0).toInt - 0).toNat = 16 ∨ ((x0).toInt - 0).toNat = 17 ∨ ((x0).toInt - 0).toNat = 18 by omega) with e | e | e | e | e | e | e | e | e | e | e | e | e | e | e | e | e | e | e
    · rw [e] at ht
      cases ht
      replace h := h.2.1 (tsw_eq hc e (by decide))
      refine ev_n 5 (fun _ => rfl) ?_
      obtain ⟨v4, σ3, hf, h⟩ := h
      refine ev_go rfl (w_callS ⟨Nat.le_of_ble_eq_true rfl, Nat.le_of_ble_eq_true rfl⟩ hf) ?_
      exact ev_ret rfl (fun _ => rfl) h
    · rw [e] at ht
      cases ht
      replace h := h.2.2.1 (tsw_eq hc e (by decide))
      refine ev_n 5 (fun _ => rfl) ?_
      obtain ⟨v6, σ5, hf, h⟩ := h
      refine ev_go rfl (w_callS ⟨Nat.le_of_ble_eq_true rfl, Nat.le_of_ble_eq_true rfl⟩ hf) ?_
      exact ev_ret rfl (fun _ => rfl) h
    · rw [e] at ht
      cases ht
      replace h := h.2.2.2.1 (tsw_eq hc e (by decide))
      refine ev_n 5 (fun _ => rfl) ?_
      obtain ⟨v8, σ7, hf, h⟩ := h
      refine ev_go rfl (w_callS ⟨Nat.le_of_ble_eq_true rfl, Nat.le_of_ble_eq_true rfl⟩ hf) ?_
      exact ev_ret rfl (fun _ => rfl) h
    · rw [e] at ht
      cases ht
      replace h := h.2.2.2.2.1 (tsw_eq hc e (by decide))
      refine ev_n 5 (fun _ => rfl) ?_
      obtain ⟨v10, σ9, hf, h⟩ := h
      refine ev_go rfl (w_callS ⟨Nat.le_of_ble_eq_true rfl, Nat.le_of_ble_eq_true rfl⟩ hf) ?_
      exact ev_ret rfl (fun _ => rfl) h
    · rw [e] at ht
      cases ht
      replace h := h.2.2.2.2.2.1 (tsw_eq hc e (by decide))
      refine ev_n 5 (fun _ => rfl) ?_
      obtain ⟨v12, σ11, hf, h⟩ := h
      refine ev_go rfl (w_callS ⟨Nat.le_of_ble_eq_true rfl, Nat.le_of_ble_eq_true rfl⟩ hf) ?_
      exact ev_ret rfl (fun _ => rfl) h
    · rw [e] at ht
      cases ht
      replace h := h.2.2.2.2.2.2.1 (tsw_eq hc e (by decide))
      refine ev_n 5 (fun _ => rfl) ?_
      obtain ⟨v14, σ13, hf, h⟩ := h
      refine ev_go rfl (w_callS ⟨Nat.le_of_ble_eq_true rfl, Nat.le_of_ble_eq_true rfl⟩ hf) ?_
      exact ev_ret rfl (fun _ => rfl) h
    · rw [e] at ht
      cases ht
      replace h := h.2.2.2.2.2.2.2.1 (tsw_eq hc e (by decide))
      refine ev_n 5 (fun _ => rfl) ?_
      obtain ⟨v16, σ15, hf, h⟩ := h
      refine ev_go rfl (w_callS ⟨Nat.le_of_ble_eq_true rfl, Nat.le_of_ble_eq_true rfl⟩ hf) ?_
      exact ev_ret rfl (fun _ => rfl) h
    · rw [e] at ht
      cases ht
      replace h := h.2.2.2.2.2.2.2.2.1 (tsw_eq hc e (by decide))
      refine ev_n 5 (fun _ => rfl) ?_
      obtain ⟨v18, σ17, hf, h⟩ := h
      refine ev_go rfl (w_callS ⟨Nat.le_of_ble_eq_true rfl, Nat.le_of_ble_eq_true rfl⟩ hf) ?_
      exact ev_ret rfl (fun _ => rfl) h
    · rw [e] at ht
      cases ht
      replace h := h.2.2.2.2.2.2.2.2.2.1 (tsw_eq hc e (by decide))
      refine ev_n 5 (fun _ => rfl) ?_
      obtain ⟨v20, σ19, hf, h⟩ := h
      refine ev_go rfl (w_callS ⟨Nat.le_of_ble_eq_true rfl, Nat.le_of_ble_eq_true rfl⟩ hf) ?_
      exact ev_ret rfl (fun _ => rfl) h
    · rw [e] at ht
      cases ht
      replace h := h.2.2.2.2.2.2.2.2.2.2.1 (tsw_eq hc e (by decide))
      refine ev_n 5 (fun _ => rfl) ?_
      obtain ⟨v22, σ21, hf, h⟩ := h
      refine ev_go rfl (w_callS ⟨Nat.le_of_ble_eq_true rfl, Nat.le_of_ble_eq_true rfl⟩ hf) ?_
      exact ev_ret rfl (fun _ => rfl) h
    · rw [e] at ht
      cases ht
      replace h := h.2.2.2.2.2.2.2.2.2.2.2.1 (tsw_eq hc e (by decide))
      refine ev_n 5 (fun _ => rfl) ?_
      obtain ⟨v24, σ23, hf, h⟩ := h
      refine ev_go rfl (w_callS ⟨Nat.le_of_ble_eq_true rfl, Nat.le_of_ble_eq_true rfl⟩ hf) ?_
      exact ev_ret rfl (fun _ => rfl) h
    · rw [e] at ht
      cases ht
      replace h := h.2.2.2.2.2.2.2.2.2.2.2.2.1 (tsw_eq hc e (by decide))
      refine ev_n 5 (fun _ => rfl) ?_
      obtain ⟨v26, σ25, hf, h⟩ := h
      refine ev_go rfl (w_callS ⟨Nat.le_of_ble_eq_true rfl, Nat.le_of_ble_eq_true rfl⟩ hf) ?_
      exact ev_ret rfl (fun _ => rfl) h
    · rw [e] at ht
      cases ht
      replace h := h.2.2.2.2.2.2.2.2.2.2.2.2.2.1 (tsw_eq hc e (by decide))
      refine ev_n 5 (fun _ => rfl) ?_
      obtain ⟨v28, σ27, hf, h⟩ := h
      refine ev_go rfl (w_callS ⟨Nat.le_of_ble_eq_true rfl, Nat.le_of_ble_eq_true rfl⟩ hf) ?_
      exact ev_ret rfl (fun _ => rfl) h
    · rw [e] at ht
      cases ht
      replace h := h.2.2.2.2.2.2.2.2.2.2.2.2.2.2.1 (tsw_eq hc e (by decide))
      refine ev_n 5 (fun _ => rfl) ?_
      obtain ⟨v30, σ29, hf, h⟩ := h
      refine ev_go rfl (w_callS ⟨Nat.le_of_ble_eq_true rfl, Nat.le_of_ble_eq_true rfl⟩ hf) ?_
      exact ev_ret rfl (fun _ => rfl) h
    · rw [e] at ht
      cases ht
      replace h := h.2.2.2.2.2.2.2.2.2.2.2.2.2.2.2.1 (tsw_eq hc e (by decide))
      refine ev_n 5 (fun _ => rfl) ?_
      obtain ⟨v32, σ31, hf, h⟩ := h
      refine ev_go rfl (w_callS ⟨Nat.le_of_ble_eq_true rfl, Nat.le_of_ble_eq_true rfl⟩ hf) ?_
      exact ev_ret rfl (fun _ => rfl) h
    · rw [e] at ht
      cases ht
      replace h := h.2.2.2.2.2.2.2.2.2.2.2.2.2.2.2.2.1 (tsw_eq hc e (by decide))
      refine ev_n 5 (fun _ => rfl) ?_
      obtain ⟨v34, σ33, hf, h⟩ := h
      refine ev_go rfl (w_callS ⟨Nat.le_of_ble_eq_true rfl, Nat.le_of_ble_eq_true rfl⟩ hf) ?_
      exact ev_ret rfl (fun _ => rfl) h
    · rw [e] at ht
      cases ht
      replace h := h.2.2.2.2.2.2.2.2.2.2.2.2.2.2.2.2.2.1 (tsw_eq hc e (by decide))
      refine ev_n 5 (fun _ => rfl) ?_
      obtain ⟨v36, σ35, hf, h⟩ := h
      refine ev_go rfl (w_callS ⟨Nat.le_of_ble_eq_true rfl, Nat.le_of_ble_eq_true rfl⟩ hf) ?_
      exact ev_ret rfl (fun _ => rfl) h
    · rw [e] at ht
      cases ht
      replace h := h.2.2.2.2.2.2.2.2.2.2.2.2.2.2.2.2.2.2.1 (tsw_eq hc e (by decide))
      refine ev_n 5 (fun _ => rfl) ?_
      obtain ⟨v38, σ37, hf, h⟩ := h
      refine ev_go rfl (w_callS ⟨Nat.le_of_ble_eq_true rfl, Nat.le_of_ble_eq_true rfl⟩ hf) ?_
      exact ev_ret rfl (fun _ => rfl) h
    · rw [e] at ht
      cases ht
      replace h := h.2.2.2.2.2.2.2.2.2.2.2.2.2.2.2.2.2.2.2 (tsw_eq hc e (by decide))
      refine ev_n 5 (fun _ => rfl) ?_
      obtain ⟨v40, σ39, hf, h⟩ := h
      refine ev_go rfl (w_callS ⟨Nat.le_of_ble_eq_true rfl, Nat.le_of_ble_eq_true rfl⟩ hf) ?_
      exact ev_ret rfl (fun _ => rfl) h
theorem m_X12_wordOf : ∀ pc o, (P_X12_wordOf KC).lookup pc = some o → Mon_ o := all_mon (a_X12_wordOf (l := launch0) (E := EC0) EC0_ok)
theorem z_X12_wordOf {x0 : Int32} {σ : St_} {out : Out_} (h : Ev_ (P_X12_wordOf KC) 0 [some (.int x0)] [] σ out) : f_X12_wordOf KC [.int x0] σ = some out := fn_eq m_X12_wordOf rfl h
set_option maxRecDepth 20000 in
theorem e_X12_isWord_0 {x1 : Int32} {σ : St_} {out : Out_}  (h : (((σ.1 219 7) = (2 : Int32) → (∃ (v2 : Int64) (σ1 : St_), f_X12_wordOf KC [.int x1] σ = some (some (.long v2), σ1) ∧ (((lg_cmp (σ.2.1 219 12) v2) = 0 → out = (some (.int (1 : Int32)), σ1)) ∧ (¬ ((lg_cmp (σ.2.1 219 12) v2) = 0) → out = (some (.int (0 : Int32)), σ1))))) ∧ (¬ ((σ.1 219 7) = (2 : Int32)) → out = (some (.int (0 : Int32)), σ)))) : Ev_ (P_X12_isWord KC) 0 [some (.ref 219), some (.int x1)] [] σ out := by
  refine ev_n 1 (fun _ => rfl) ?_
  refine ev_go rfl (w_gI rfl) ?_
  refine ev_n 1 (fun _ => rfl) ?_
  refine ev_if (c := (σ.1 219 7) = (2 : Int32)) rfl (fun _ => rfl) (fun hc => ?_) (fun hc => ?_)
  · replace h := h.1 hc
    refine ev_n 1 (fun _ => rfl) ?_
    refine ev_go rfl (w_gJ rfl) ?_
    refine ev_n 1 (fun _ => rfl) ?_
    obtain ⟨v2, σ1, hf, h⟩ := h
    refine ev_go rfl (w_callS ⟨Nat.le_of_ble_eq_true rfl, Nat.le_of_ble_eq_true rfl⟩ hf) ?_
    refine ev_n 1 (fun _ => rfl) ?_
    refine ev_if (c := (lg_cmp (σ.2.1 219 12) v2) = 0) rfl (fun _ => rfl) (fun hc => ?_) (fun hc => ?_)
    · replace h := h.1 hc
      refine ev_n 2 (fun _ => rfl) ?_
      exact v_zret (by decide) rfl h
    · replace h := h.2 hc
      refine ev_n 1 (fun _ => rfl) ?_
      exact v_zret (by decide) rfl h
  · replace h := h.2 hc
    refine ev_n 1 (fun _ => rfl) ?_
    exact v_zret (by decide) rfl h
theorem m_X12_isWord : ∀ pc o, (P_X12_isWord KC).lookup pc = some o → Mon_ o := all_mon (a_X12_isWord (l := launch0) (E := EC0) EC0_ok)
theorem z_X12_isWord {x1 : Int32} {σ : St_} {out : Out_} (h : Ev_ (P_X12_isWord KC) 0 [some (.ref 219), some (.int x1)] [] σ out) : f_X12_isWord KC [.ref 219, .int x1] σ = some out := fn_eq m_X12_isWord rfl h
set_option maxRecDepth 20000 in
theorem e_X12_isSign_0 {x1 : Int32} {σ : St_} {out : Out_}  (h : (((σ.1 219 7) = (4 : Int32) → (((σ.1 219 9) = x1 → out = (some (.int (1 : Int32)), σ)) ∧ (¬ ((σ.1 219 9) = x1) → out = (some (.int (0 : Int32)), σ)))) ∧ (¬ ((σ.1 219 7) = (4 : Int32)) → out = (some (.int (0 : Int32)), σ)))) : Ev_ (P_X12_isSign KC) 0 [some (.ref 219), some (.int x1)] [] σ out := by
  refine ev_n 1 (fun _ => rfl) ?_
  refine ev_go rfl (w_gI rfl) ?_
  refine ev_n 1 (fun _ => rfl) ?_
  refine ev_if (c := (σ.1 219 7) = (4 : Int32)) rfl (fun _ => rfl) (fun hc => ?_) (fun hc => ?_)
  · replace h := h.1 hc
    refine ev_n 1 (fun _ => rfl) ?_
    refine ev_go rfl (w_gI rfl) ?_
    refine ev_n 1 (fun _ => rfl) ?_
    refine ev_if (c := (σ.1 219 9) = x1) rfl (fun _ => rfl) (fun hc => ?_) (fun hc => ?_)
    · replace h := h.1 hc
      refine ev_n 2 (fun _ => rfl) ?_
      exact v_zret (by decide) rfl h
    · replace h := h.2 hc
      refine ev_n 1 (fun _ => rfl) ?_
      exact v_zret (by decide) rfl h
  · replace h := h.2 hc
    refine ev_n 1 (fun _ => rfl) ?_
    exact v_zret (by decide) rfl h
theorem m_X12_isSign : ∀ pc o, (P_X12_isSign KC).lookup pc = some o → Mon_ o := all_mon (a_X12_isSign (l := launch0) (E := EC0) EC0_ok)
theorem z_X12_isSign {x1 : Int32} {σ : St_} {out : Out_} (h : Ev_ (P_X12_isSign KC) 0 [some (.ref 219), some (.int x1)] [] σ out) : f_X12_isSign KC [.ref 219, .int x1] σ = some out := fn_eq m_X12_isSign rfl h
set_option maxRecDepth 20000 in
theorem e_X12_isName_0  {σ : St_} {out : Out_}  (h : (((σ.1 219 7) = (2 : Int32) → Ev_ (P_X12_isName KC) 12 [some (.ref 219), some (.int (0 : Int32))] [] σ out) ∧ (¬ ((σ.1 219 7) = (2 : Int32)) → out = (some (.int (0 : Int32)), σ)))) : Ev_ (P_X12_isName KC) 0 [some (.ref 219), none] [] σ out := by
  refine ev_n 1 (fun _ => rfl) ?_
  refine ev_go rfl (w_gI rfl) ?_
  refine ev_n 1 (fun _ => rfl) ?_
  refine ev_if (c := (σ.1 219 7) = (2 : Int32)) rfl (fun _ => rfl) (fun hc => ?_) (fun hc => ?_)
  · replace h := h.1 hc
    refine ev_n 2 (fun _ => rfl) ?_
    exact h
  · replace h := h.2 hc
    refine ev_n 1 (fun _ => rfl) ?_
    exact v_zret (by decide) rfl h
set_option maxRecDepth 20000 in
theorem e_X12_isName_12 {x1 : Int32} {σ : St_} {out : Out_}  (h : (((19 : Int32) < x1 → out = (some (.int (1 : Int32)), σ)) ∧ (¬ ((19 : Int32) < x1) → (∃ (v2 : Int64) (σ1 : St_), f_X12_wordOf KC [.int x1] σ = some (some (.long v2), σ1) ∧ (((lg_cmp (σ.2.1 219 12) v2) = 0 → out = (some (.int (0 : Int32)), σ1)) ∧ (¬ ((lg_cmp (σ.2.1 219 12) v2) = 0) → Ev_ (P_X12_isName KC) 12 [some (.ref 219), some (.int (x1 + 1))] [] σ1 out)))))) : Ev_ (P_X12_isName KC) 12 [some (.ref 219), some (.int x1)] [] σ out := by
  refine ev_n 2 (fun _ => rfl) ?_
  refine ev_if (c := (19 : Int32) < x1) rfl (fun _ => rfl) (fun hc => ?_) (fun hc => ?_)
  · replace h := h.1 hc
    refine ev_n 1 (fun _ => rfl) ?_
    exact v_zret (by decide) rfl h
  · replace h := h.2 hc
    refine ev_n 1 (fun _ => rfl) ?_
    refine ev_go rfl (w_gJ rfl) ?_
    refine ev_n 1 (fun _ => rfl) ?_
    obtain ⟨v2, σ1, hf, h⟩ := h
    refine ev_go rfl (w_callS ⟨Nat.le_of_ble_eq_true rfl, Nat.le_of_ble_eq_true rfl⟩ hf) ?_
    refine ev_n 1 (fun _ => rfl) ?_
    refine ev_if (c := (lg_cmp (σ.2.1 219 12) v2) = 0) rfl (fun _ => rfl) (fun hc => ?_) (fun hc => ?_)
    · replace h := h.1 hc
      refine ev_n 1 (fun _ => rfl) ?_
      exact v_zret (by decide) rfl h
    · replace h := h.2 hc
      refine ev_n 2 (fun _ => rfl) ?_
      exact h
theorem m_X12_isName : ∀ pc o, (P_X12_isName KC).lookup pc = some o → Mon_ o := all_mon (a_X12_isName (l := launch0) (E := EC0) EC0_ok)
theorem z_X12_isName  {σ : St_} {out : Out_} (h : Ev_ (P_X12_isName KC) 0 [some (.ref 219), none] [] σ out) : f_X12_isName KC [.ref 219] σ = some out := fn_eq m_X12_isName rfl h
set_option maxRecDepth 20000 in
theorem e_X12_bad_0 {x1 : Int32} {σ : St_} {out : Out_}  (h : (((σ.1 219 7) = (1 : Int32) → out = (some (.int (0 : Int32)), (sI_ (sI_ σ 219 10 (1 : Int32)) 219 11 ((sI_ σ 219 10 (1 : Int32)).1 219 6)))) ∧ (¬ ((σ.1 219 7) = (1 : Int32)) → out = (some (.int (0 : Int32)), (sI_ (sI_ σ 219 10 x1) 219 11 ((sI_ σ 219 10 x1).1 219 6)))))) : Ev_ (P_X12_bad KC) 0 [some (.ref 219), some (.int x1)] [] σ out := by
  refine ev_n 2 (fun _ => rfl) ?_
  refine ev_go rfl (w_gI rfl) ?_
  refine ev_n 1 (fun _ => rfl) ?_
  refine ev_if (c := (σ.1 219 7) = (1 : Int32)) rfl (fun _ => rfl) (fun hc => ?_) (fun hc => ?_)
  · replace h := h.1 hc
    refine ev_n 2 (fun _ => rfl) ?_
    refine ev_go rfl (w_pI rfl) ?_
    refine ev_n 2 (fun _ => rfl) ?_
    refine ev_go rfl (w_gI rfl) ?_
    refine ev_go rfl (w_pI rfl) ?_
    refine ev_n 1 (fun _ => rfl) ?_
    exact v_zret (by decide) rfl h
  · replace h := h.2 hc
    refine ev_n 1 (fun _ => rfl) ?_
    refine ev_go rfl (w_pI rfl) ?_
    refine ev_n 2 (fun _ => rfl) ?_
    refine ev_go rfl (w_gI rfl) ?_
    refine ev_go rfl (w_pI rfl) ?_
    refine ev_n 1 (fun _ => rfl) ?_
    exact v_zret (by decide) rfl h
theorem m_X12_bad : ∀ pc o, (P_X12_bad KC).lookup pc = some o → Mon_ o := all_mon (a_X12_bad (l := launch0) (E := EC0) EC0_ok)
theorem z_X12_bad {x1 : Int32} {σ : St_} {out : Out_} (h : Ev_ (P_X12_bad KC) 0 [some (.ref 219), some (.int x1)] [] σ out) : f_X12_bad KC [.ref 219, .int x1] σ = some out := fn_eq m_X12_bad rfl h
set_option maxRecDepth 20000 in
theorem e_X12_readNumber_0 {x1 : Int32} {x2 : Int32} {σ : St_} {out : Out_}  (h : (((σ.1 219 7) = (3 : Int32) → (∃ (v2 : Int32) (σ1 : St_), f_X12_isIn KC [.int (σ.1 219 8), .int x1, .int x2] σ = some (some (.int v2), σ1) ∧ ((v2 = 0 → (∃ (v4 : Int32) (σ3 : St_), f_X12_bad KC [.ref 219, .int (2 : Int32)] σ1 = some (some (.int v4), σ3) ∧ (v4 = 0 ∨ v4 = 1) ∧ out = (some (.int v4), σ3))) ∧ (¬ (v2 = 0) → (∃ (σ5 : St_), f_X12_go KC [.ref 219] (sI_ σ1 219 13 (σ1.1 219 8)) = some (none, σ5) ∧ out = (some (.int (1 : Int32)), σ5)))))) ∧ (¬ ((σ.1 219 7) = (3 : Int32)) → (∃ (v7 : Int32) (σ6 : St_), f_X12_bad KC [.ref 219, .int (1 : Int32)] σ = some (some (.int v7), σ6) ∧ (v7 = 0 ∨ v7 = 1) ∧ out = (some (.int v7), σ6))))) : Ev_ (P_X12_readNumber KC) 0 [some (.ref 219), some (.int x1), some (.int x2)] [] σ out := by
  refine ev_n 1 (fun _ => rfl) ?_
  refine ev_go rfl (w_gI rfl) ?_
  refine ev_n 1 (fun _ => rfl) ?_
  refine ev_if (c := (σ.1 219 7) = (3 : Int32)) rfl (fun _ => rfl) (fun hc => ?_) (fun hc => ?_)
  · replace h := h.1 hc
    refine ev_n 1 (fun _ => rfl) ?_
    refine ev_go rfl (w_gI rfl) ?_
    refine ev_n 2 (fun _ => rfl) ?_
    obtain ⟨v2, σ1, hf, h⟩ := h
    refine ev_go rfl (w_callS ⟨Nat.le_of_ble_eq_true rfl, Nat.le_of_ble_eq_true rfl⟩ hf) ?_
    refine ev_if (c := v2 = 0) rfl (fun _ => rfl) (fun hc => ?_) (fun hc => ?_)
    · replace h := h.1 hc
      refine ev_n 2 (fun _ => rfl) ?_
      obtain ⟨v4, σ3, hf, h⟩ := h
      refine ev_go rfl (w_callV rfl rfl rfl (Nat.le_of_ble_eq_true rfl) hf) ?_
      exact v_zret h.1 rfl h.2
    · replace h := h.2 hc
      refine ev_n 2 (fun _ => rfl) ?_
      refine ev_go rfl (w_gI rfl) ?_
      refine ev_go rfl (w_pI rfl) ?_
      refine ev_n 1 (fun _ => rfl) ?_
      obtain ⟨σ5, hf, h⟩ := h
      refine ev_go rfl (w_callV rfl rfl rfl (Nat.le_of_ble_eq_true rfl) hf) ?_
      refine ev_n 1 (fun _ => rfl) ?_
      exact v_zret (by decide) rfl h
  · replace h := h.2 hc
    refine ev_n 2 (fun _ => rfl) ?_
    obtain ⟨v7, σ6, hf, h⟩ := h
    refine ev_go rfl (w_callV rfl rfl rfl (Nat.le_of_ble_eq_true rfl) hf) ?_
    exact v_zret h.1 rfl h.2
theorem m_X12_readNumber : ∀ pc o, (P_X12_readNumber KC).lookup pc = some o → Mon_ o := all_mon (a_X12_readNumber (l := launch0) (E := EC0) EC0_ok)
theorem z_X12_readNumber {x1 : Int32} {x2 : Int32} {σ : St_} {out : Out_} (h : Ev_ (P_X12_readNumber KC) 0 [some (.ref 219), some (.int x1), some (.int x2)] [] σ out) : f_X12_readNumber KC [.ref 219, .int x1, .int x2] σ = some out := fn_eq m_X12_readNumber rfl h
set_option maxRecDepth 20000 in
theorem e_X12_readEnd_0  {σ : St_} {out : Out_}  (h : (∃ (v2 : Int32) (σ1 : St_), f_X12_isSign KC [.ref 219, .int (59 : Int32)] σ = some (some (.int v2), σ1) ∧ ((v2 = 0 → (∃ (v4 : Int32) (σ3 : St_), f_X12_bad KC [.ref 219, .int (1 : Int32)] σ1 = some (some (.int v4), σ3) ∧ (v4 = 0 ∨ v4 = 1) ∧ out = (some (.int v4), σ3))) ∧ (¬ (v2 = 0) → (∃ (σ5 : St_), f_X12_go KC [.ref 219] σ1 = some (none, σ5) ∧ out = (some (.int (1 : Int32)), σ5)))))) : Ev_ (P_X12_readEnd KC) 0 [some (.ref 219)] [] σ out := by
  refine ev_n 2 (fun _ => rfl) ?_
  obtain ⟨v2, σ1, hf, h⟩ := h
  refine ev_go rfl (w_callV rfl rfl rfl (Nat.le_of_ble_eq_true rfl) hf) ?_
  refine ev_if (c := v2 = 0) rfl (fun _ => rfl) (fun hc => ?_) (fun hc => ?_)
  · replace h := h.1 hc
    refine ev_n 2 (fun _ => rfl) ?_
    obtain ⟨v4, σ3, hf, h⟩ := h
    refine ev_go rfl (w_callV rfl rfl rfl (Nat.le_of_ble_eq_true rfl) hf) ?_
    exact v_zret h.1 rfl h.2
  · replace h := h.2 hc
    refine ev_n 1 (fun _ => rfl) ?_
    obtain ⟨σ5, hf, h⟩ := h
    refine ev_go rfl (w_callV rfl rfl rfl (Nat.le_of_ble_eq_true rfl) hf) ?_
    refine ev_n 1 (fun _ => rfl) ?_
    exact v_zret (by decide) rfl h
theorem m_X12_readEnd : ∀ pc o, (P_X12_readEnd KC).lookup pc = some o → Mon_ o := all_mon (a_X12_readEnd (l := launch0) (E := EC0) EC0_ok)
theorem z_X12_readEnd  {σ : St_} {out : Out_} (h : Ev_ (P_X12_readEnd KC) 0 [some (.ref 219)] [] σ out) : f_X12_readEnd KC [.ref 219] σ = some out := fn_eq m_X12_readEnd rfl h
set_option maxRecDepth 20000 in
theorem e_X12_lay_0  {σ : St_} {out : Out_}  (h : (((σ.1 219 21) = 0 → (vpin_ (2 : Int32) 1050 = true) ∧ (vpin_ (3 : Int32) 1050 = true) ∧ out = (none, (sI_ (sI_ (sI_ σ 219 21 (1 : Int32)) 221 (Int32.toNatClampNeg (2 : Int32)) (20 : Int32)) 221 (Int32.toNatClampNeg (3 : Int32)) (8 : Int32)))) ∧ (¬ ((σ.1 219 21) = 0) → out = (none, σ)))) : Ev_ (P_X12_lay KC) 0 [some (.ref 219)] [] σ out := by
  refine ev_n 1 (fun _ => rfl) ?_
  refine ev_go rfl (w_gI rfl) ?_
  refine ev_if (c := (σ.1 219 21) = 0) rfl (fun _ => rfl) (fun hc => ?_) (fun hc => ?_)
  · replace h := h.1 hc
    refine ev_n 2 (fun _ => rfl) ?_
    refine ev_go rfl (w_pZ rfl (by decide)) ?_
    refine ev_n 1 (fun _ => rfl) ?_
    refine ev_go rfl (w_gF rfl rfl) ?_
    refine ev_n 2 (fun _ => rfl) ?_
    obtain ⟨h0, h⟩ := h
    refine ev_go rfl (w_iast rfl h0) ?_
    refine ev_n 1 (fun _ => rfl) ?_
    refine ev_go rfl (w_gF rfl rfl) ?_
    refine ev_n 2 (fun _ => rfl) ?_
    obtain ⟨h0, h⟩ := h
    refine ev_go rfl (w_iast rfl h0) ?_
    exact ev_ret rfl (fun _ => rfl) h
  · replace h := h.2 hc
    exact ev_ret rfl (fun _ => rfl) h
theorem m_X12_lay : ∀ pc o, (P_X12_lay KC).lookup pc = some o → Mon_ o := all_mon (a_X12_lay (l := launch0) (E := EC0) EC0_ok)
theorem z_X12_lay  {σ : St_} {out : Out_} (h : Ev_ (P_X12_lay KC) 0 [some (.ref 219)] [] σ out) : f_X12_lay KC [.ref 219] σ = some out := fn_eq m_X12_lay rfl h
set_option maxRecDepth 20000 in
theorem e_X12_begin_0 {x1 : Int32} {σ : St_} {out : Out_}  (h : (∃ (σ1 : St_), f_X12_lay KC [.ref 219] (sI_ σ 219 0 (0 : Int32)) = some (none, σ1) ∧ (∃ (v3 : Int32) (σ2 : St_), f_X12_take KC [.ref 219] σ1 = some (some (.int v3), σ2) ∧ (∃ (σ4 : St_), f_X12_go KC [.ref 219] (sI_ (sI_ (sI_ (sI_ σ2 219 3 v3) 219 4 x1) 219 10 (0 : Int32)) 219 5 (0 : Int32)) = some (none, σ4) ∧ out = (none, σ4))))) : Ev_ (P_X12_begin KC) 0 [some (.ref 219), some (.int x1)] [] σ out := by
  refine ev_n 2 (fun _ => rfl) ?_
  refine ev_go rfl (w_pI rfl) ?_
  refine ev_n 1 (fun _ => rfl) ?_
  obtain ⟨σ1, hf, h⟩ := h
  refine ev_go rfl (w_callV rfl rfl rfl (Nat.le_of_ble_eq_true rfl) hf) ?_
  refine ev_n 2 (fun _ => rfl) ?_
  obtain ⟨v3, σ2, hf, h⟩ := h
  refine ev_go rfl (w_callV rfl rfl rfl (Nat.le_of_ble_eq_true rfl) hf) ?_
  refine ev_go rfl (w_pI rfl) ?_
  refine ev_n 2 (fun _ => rfl) ?_
  refine ev_go rfl (w_pI rfl) ?_
  refine ev_n 2 (fun _ => rfl) ?_
  refine ev_go rfl (w_pI rfl) ?_
  refine ev_n 2 (fun _ => rfl) ?_
  refine ev_go rfl (w_pI rfl) ?_
  refine ev_n 1 (fun _ => rfl) ?_
  obtain ⟨σ4, hf, h⟩ := h
  refine ev_go rfl (w_callV rfl rfl rfl (Nat.le_of_ble_eq_true rfl) hf) ?_
  exact ev_ret rfl (fun _ => rfl) h
theorem m_X12_begin : ∀ pc o, (P_X12_begin KC).lookup pc = some o → Mon_ o := all_mon (a_X12_begin (l := launch0) (E := EC0) EC0_ok)
theorem z_X12_begin {x1 : Int32} {σ : St_} {out : Out_} (h : Ev_ (P_X12_begin KC) 0 [some (.ref 219), some (.int x1)] [] σ out) : f_X12_begin KC [.ref 219, .int x1] σ = some out := fn_eq m_X12_begin rfl h
set_option maxRecDepth 20000 in
theorem e_X12_chaps_0  {σ : St_} {out : Out_}  (h : (vpin_ (0 : Int32) 1050 = true) ∧ out = (some (.int (σ.1 221 (Int32.toNatClampNeg (0 : Int32)))), σ)) : Ev_ (P_X12_chaps KC) 0 [some (.ref 219)] [] σ out := by
  refine ev_n 1 (fun _ => rfl) ?_
  refine ev_go rfl (w_gF rfl rfl) ?_
  refine ev_n 1 (fun _ => rfl) ?_
  obtain ⟨h0, h⟩ := h
  refine ev_go rfl (w_iald rfl h0) ?_
  exact ev_ret rfl (fun _ => rfl) h
theorem m_X12_chaps : ∀ pc o, (P_X12_chaps KC).lookup pc = some o → Mon_ o := all_mon (a_X12_chaps (l := launch0) (E := EC0) EC0_ok)
theorem z_X12_chaps  {σ : St_} {out : Out_} (h : Ev_ (P_X12_chaps KC) 0 [some (.ref 219)] [] σ out) : f_X12_chaps KC [.ref 219] σ = some out := fn_eq m_X12_chaps rfl h
set_option maxRecDepth 20000 in
theorem e_X12_readers_0  {σ : St_} {out : Out_}  (h : (vpin_ (1 : Int32) 1050 = true) ∧ out = (some (.int (σ.1 221 (Int32.toNatClampNeg (1 : Int32)))), σ)) : Ev_ (P_X12_readers KC) 0 [some (.ref 219)] [] σ out := by
  refine ev_n 1 (fun _ => rfl) ?_
  refine ev_go rfl (w_gF rfl rfl) ?_
  refine ev_n 1 (fun _ => rfl) ?_
  obtain ⟨h0, h⟩ := h
  refine ev_go rfl (w_iald rfl h0) ?_
  exact ev_ret rfl (fun _ => rfl) h
theorem m_X12_readers : ∀ pc o, (P_X12_readers KC).lookup pc = some o → Mon_ o := all_mon (a_X12_readers (l := launch0) (E := EC0) EC0_ok)
theorem z_X12_readers  {σ : St_} {out : Out_} (h : Ev_ (P_X12_readers KC) 0 [some (.ref 219)] [] σ out) : f_X12_readers KC [.ref 219] σ = some out := fn_eq m_X12_readers rfl h
set_option maxRecDepth 20000 in
theorem e_X12_isChap_0 {x1 : Int32} {σ : St_} {out : Out_}  (h : ((x1 < 0 → out = (some (.int (0 : Int32)), σ)) ∧ (¬ (x1 < 0) → (∃ (v2 : Int32) (σ1 : St_), f_X12_chaps KC [.ref 219] σ = some (some (.int v2), σ1) ∧ ((v2 ≤ x1 → out = (some (.int (0 : Int32)), σ1)) ∧ (¬ (v2 ≤ x1) → out = (some (.int (1 : Int32)), σ1))))))) : Ev_ (P_X12_isChap KC) 0 [some (.ref 219), some (.int x1)] [] σ out := by
  refine ev_n 1 (fun _ => rfl) ?_
  refine ev_if (c := x1 < 0) rfl (fun _ => rfl) (fun hc => ?_) (fun hc => ?_)
  · replace h := h.1 hc
    refine ev_n 1 (fun _ => rfl) ?_
    exact v_zret (by decide) rfl h
  · replace h := h.2 hc
    refine ev_n 2 (fun _ => rfl) ?_
    obtain ⟨v2, σ1, hf, h⟩ := h
    refine ev_go rfl (w_callV rfl rfl rfl (Nat.le_of_ble_eq_true rfl) hf) ?_
    refine ev_if (c := v2 ≤ x1) rfl (fun _ => rfl) (fun hc => ?_) (fun hc => ?_)
    · replace h := h.1 hc
      refine ev_n 1 (fun _ => rfl) ?_
      exact v_zret (by decide) rfl h
    · replace h := h.2 hc
      refine ev_n 2 (fun _ => rfl) ?_
      exact v_zret (by decide) rfl h
theorem m_X12_isChap : ∀ pc o, (P_X12_isChap KC).lookup pc = some o → Mon_ o := all_mon (a_X12_isChap (l := launch0) (E := EC0) EC0_ok)
theorem z_X12_isChap {x1 : Int32} {σ : St_} {out : Out_} (h : Ev_ (P_X12_isChap KC) 0 [some (.ref 219), some (.int x1)] [] σ out) : f_X12_isChap KC [.ref 219, .int x1] σ = some out := fn_eq m_X12_isChap rfl h
set_option maxRecDepth 20000 in
theorem e_X12_isReader_0 {x1 : Int32} {σ : St_} {out : Out_}  (h : ((x1 < 0 → out = (some (.int (0 : Int32)), σ)) ∧ (¬ (x1 < 0) → (∃ (v2 : Int32) (σ1 : St_), f_X12_readers KC [.ref 219] σ = some (some (.int v2), σ1) ∧ ((v2 ≤ x1 → out = (some (.int (0 : Int32)), σ1)) ∧ (¬ (v2 ≤ x1) → out = (some (.int (1 : Int32)), σ1))))))) : Ev_ (P_X12_isReader KC) 0 [some (.ref 219), some (.int x1)] [] σ out := by
  refine ev_n 1 (fun _ => rfl) ?_
  refine ev_if (c := x1 < 0) rfl (fun _ => rfl) (fun hc => ?_) (fun hc => ?_)
  · replace h := h.1 hc
    refine ev_n 1 (fun _ => rfl) ?_
    exact v_zret (by decide) rfl h
  · replace h := h.2 hc
    refine ev_n 2 (fun _ => rfl) ?_
    obtain ⟨v2, σ1, hf, h⟩ := h
    refine ev_go rfl (w_callV rfl rfl rfl (Nat.le_of_ble_eq_true rfl) hf) ?_
    refine ev_if (c := v2 ≤ x1) rfl (fun _ => rfl) (fun hc => ?_) (fun hc => ?_)
    · replace h := h.1 hc
      refine ev_n 1 (fun _ => rfl) ?_
      exact v_zret (by decide) rfl h
    · replace h := h.2 hc
      refine ev_n 2 (fun _ => rfl) ?_
      exact v_zret (by decide) rfl h
theorem m_X12_isReader : ∀ pc o, (P_X12_isReader KC).lookup pc = some o → Mon_ o := all_mon (a_X12_isReader (l := launch0) (E := EC0) EC0_ok)
theorem z_X12_isReader {x1 : Int32} {σ : St_} {out : Out_} (h : Ev_ (P_X12_isReader KC) 0 [some (.ref 219), some (.int x1)] [] σ out) : f_X12_isReader KC [.ref 219, .int x1] σ = some out := fn_eq m_X12_isReader rfl h
set_option maxRecDepth 20000 in
theorem e_X12_chapOf_0 {x1 : Int32} {x2 : Int32} {σ : St_} {out : Out_}  (h : (vpin_ (((10 : Int32) + ((4 : Int32) * x1)) + x2) 1050 = true) ∧ out = (some (.int (σ.1 221 (Int32.toNatClampNeg (((10 : Int32) + ((4 : Int32) * x1)) + x2)))), σ)) : Ev_ (P_X12_chapOf KC) 0 [some (.ref 219), some (.int x1), some (.int x2)] [] σ out := by
  refine ev_n 1 (fun _ => rfl) ?_
  refine ev_go rfl (w_gF rfl rfl) ?_
  refine ev_n 7 (fun _ => rfl) ?_
  obtain ⟨h0, h⟩ := h
  refine ev_go rfl (w_iald rfl h0) ?_
  exact ev_ret rfl (fun _ => rfl) h
theorem m_X12_chapOf : ∀ pc o, (P_X12_chapOf KC).lookup pc = some o → Mon_ o := all_mon (a_X12_chapOf (l := launch0) (E := EC0) EC0_ok)
theorem z_X12_chapOf {x1 : Int32} {x2 : Int32} {σ : St_} {out : Out_} (h : Ev_ (P_X12_chapOf KC) 0 [some (.ref 219), some (.int x1), some (.int x2)] [] σ out) : f_X12_chapOf KC [.ref 219, .int x1, .int x2] σ = some out := fn_eq m_X12_chapOf rfl h
set_option maxRecDepth 20000 in
theorem e_X12_readerOf_0 {x1 : Int32} {x2 : Int32} {σ : St_} {out : Out_}  (h : (vpin_ (((80 : Int32) + ((5 : Int32) * x1)) + x2) 1050 = true) ∧ out = (some (.int (σ.1 221 (Int32.toNatClampNeg (((80 : Int32) + ((5 : Int32) * x1)) + x2)))), σ)) : Ev_ (P_X12_readerOf KC) 0 [some (.ref 219), some (.int x1), some (.int x2)] [] σ out := by
  refine ev_n 1 (fun _ => rfl) ?_
  refine ev_go rfl (w_gF rfl rfl) ?_
  refine ev_n 7 (fun _ => rfl) ?_
  obtain ⟨h0, h⟩ := h
  refine ev_go rfl (w_iald rfl h0) ?_
  exact ev_ret rfl (fun _ => rfl) h
theorem m_X12_readerOf : ∀ pc o, (P_X12_readerOf KC).lookup pc = some o → Mon_ o := all_mon (a_X12_readerOf (l := launch0) (E := EC0) EC0_ok)
theorem z_X12_readerOf {x1 : Int32} {x2 : Int32} {σ : St_} {out : Out_} (h : Ev_ (P_X12_readerOf KC) 0 [some (.ref 219), some (.int x1), some (.int x2)] [] σ out) : f_X12_readerOf KC [.ref 219, .int x1, .int x2] σ = some out := fn_eq m_X12_readerOf rfl h
set_option maxRecDepth 20000 in
theorem e_X12_leanOf_0 {x1 : Int32} {x2 : Int32} {σ : St_} {out : Out_}  (h : (vpin_ (((130 : Int32) + ((16 : Int32) * x1)) + x2) 1050 = true) ∧ out = (some (.int (σ.1 221 (Int32.toNatClampNeg (((130 : Int32) + ((16 : Int32) * x1)) + x2)))), σ)) : Ev_ (P_X12_leanOf KC) 0 [some (.ref 219), some (.int x1), some (.int x2)] [] σ out := by
  refine ev_n 1 (fun _ => rfl) ?_
  refine ev_go rfl (w_gF rfl rfl) ?_
  refine ev_n 7 (fun _ => rfl) ?_
  obtain ⟨h0, h⟩ := h
  refine ev_go rfl (w_iald rfl h0) ?_
  exact ev_ret rfl (fun _ => rfl) h
theorem m_X12_leanOf : ∀ pc o, (P_X12_leanOf KC).lookup pc = some o → Mon_ o := all_mon (a_X12_leanOf (l := launch0) (E := EC0) EC0_ok)
theorem z_X12_leanOf {x1 : Int32} {x2 : Int32} {σ : St_} {out : Out_} (h : Ev_ (P_X12_leanOf KC) 0 [some (.ref 219), some (.int x1), some (.int x2)] [] σ out) : f_X12_leanOf KC [.ref 219, .int x1, .int x2] σ = some out := fn_eq m_X12_leanOf rfl h
set_option maxRecDepth 20000 in
theorem e_X12_findRead_0  {σ : St_} {out : Out_}  (h : Ev_ (P_X12_findRead KC) 2 [some (.ref 219), some (.int (0 : Int32))] [] σ out) : Ev_ (P_X12_findRead KC) 0 [some (.ref 219), none] [] σ out := by
  refine ev_n 2 (fun _ => rfl) ?_
  exact h
set_option maxRecDepth 20000 in
theorem e_X12_findRead_2 {x1 : Int32} {σ : St_} {out : Out_}  (h : (vpin_ (0 : Int32) 390 = true) ∧ (((σ.1 222 (Int32.toNatClampNeg (0 : Int32))) ≤ x1 → Ev_ (P_X12_findRead KC) 36 [some (.ref 219), some (.int (0 : Int32))] [] σ out) ∧ (¬ ((σ.1 222 (Int32.toNatClampNeg (0 : Int32))) ≤ x1) → (vpin_ x1 25 = true) ∧ (((lg_cmp (σ.2.1 225 (Int32.toNatClampNeg x1)) (σ.2.1 219 12)) = 0 → out = (some (.int x1), σ)) ∧ (¬ ((lg_cmp (σ.2.1 225 (Int32.toNatClampNeg x1)) (σ.2.1 219 12)) = 0) → Ev_ (P_X12_findRead KC) 2 [some (.ref 219), some (.int (x1 + 1))] [] σ out))))) : Ev_ (P_X12_findRead KC) 2 [some (.ref 219), some (.int x1)] [] σ out := by
  refine ev_n 2 (fun _ => rfl) ?_
  refine ev_go rfl (w_gF rfl rfl) ?_
  refine ev_n 1 (fun _ => rfl) ?_
  obtain ⟨h0, h⟩ := h
  refine ev_go rfl (w_iald rfl h0) ?_
  refine ev_if (c := (σ.1 222 (Int32.toNatClampNeg (0 : Int32))) ≤ x1) rfl (fun _ => rfl) (fun hc => ?_) (fun hc => ?_)
  · replace h := h.1 hc
    refine ev_n 2 (fun _ => rfl) ?_
    exact h
  · replace h := h.2 hc
    refine ev_n 1 (fun _ => rfl) ?_
    refine ev_go rfl (w_gF rfl rfl) ?_
    refine ev_n 1 (fun _ => rfl) ?_
    obtain ⟨h0, h⟩ := h
    refine ev_go rfl (w_lald rfl h0) ?_
    refine ev_n 1 (fun _ => rfl) ?_
    refine ev_go rfl (w_gJ rfl) ?_
    refine ev_n 1 (fun _ => rfl) ?_
    refine ev_if (c := (lg_cmp (σ.2.1 225 (Int32.toNatClampNeg x1)) (σ.2.1 219 12)) = 0) rfl (fun _ => rfl) (fun hc => ?_) (fun hc => ?_)
    · replace h := h.1 hc
      refine ev_n 1 (fun _ => rfl) ?_
      exact ev_ret rfl (fun _ => rfl) h
    · replace h := h.2 hc
      refine ev_n 2 (fun _ => rfl) ?_
      exact h
set_option maxRecDepth 20000 in
theorem e_X12_findRead_36 {x1 : Int32} {σ : St_} {out : Out_}  (h : (vpin_ (1 : Int32) 390 = true) ∧ (((σ.1 222 (Int32.toNatClampNeg (1 : Int32))) ≤ x1 → out = (some (.int ((-1) : Int32)), σ)) ∧ (¬ ((σ.1 222 (Int32.toNatClampNeg (1 : Int32))) ≤ x1) → (vpin_ ((16 : Int32) + x1) 25 = true) ∧ (((lg_cmp (σ.2.1 225 (Int32.toNatClampNeg ((16 : Int32) + x1))) (σ.2.1 219 12)) = 0 → out = (some (.int ((16 : Int32) + x1)), σ)) ∧ (¬ ((lg_cmp (σ.2.1 225 (Int32.toNatClampNeg ((16 : Int32) + x1))) (σ.2.1 219 12)) = 0) → Ev_ (P_X12_findRead KC) 36 [some (.ref 219), some (.int (x1 + 1))] [] σ out))))) : Ev_ (P_X12_findRead KC) 36 [some (.ref 219), some (.int x1)] [] σ out := by
  refine ev_n 2 (fun _ => rfl) ?_
  refine ev_go rfl (w_gF rfl rfl) ?_
  refine ev_n 1 (fun _ => rfl) ?_
  obtain ⟨h0, h⟩ := h
  refine ev_go rfl (w_iald rfl h0) ?_
  refine ev_if (c := (σ.1 222 (Int32.toNatClampNeg (1 : Int32))) ≤ x1) rfl (fun _ => rfl) (fun hc => ?_) (fun hc => ?_)
  · replace h := h.1 hc
    refine ev_n 1 (fun _ => rfl) ?_
    exact ev_ret rfl (fun _ => rfl) h
  · replace h := h.2 hc
    refine ev_n 1 (fun _ => rfl) ?_
    refine ev_go rfl (w_gF rfl rfl) ?_
    refine ev_n 3 (fun _ => rfl) ?_
    obtain ⟨h0, h⟩ := h
    refine ev_go rfl (w_lald rfl h0) ?_
    refine ev_n 1 (fun _ => rfl) ?_
    refine ev_go rfl (w_gJ rfl) ?_
    refine ev_n 1 (fun _ => rfl) ?_
    refine ev_if (c := (lg_cmp (σ.2.1 225 (Int32.toNatClampNeg ((16 : Int32) + x1))) (σ.2.1 219 12)) = 0) rfl (fun _ => rfl) (fun hc => ?_) (fun hc => ?_)
    · replace h := h.1 hc
      refine ev_n 3 (fun _ => rfl) ?_
      exact ev_ret rfl (fun _ => rfl) h
    · replace h := h.2 hc
      refine ev_n 2 (fun _ => rfl) ?_
      exact h
theorem m_X12_findRead : ∀ pc o, (P_X12_findRead KC).lookup pc = some o → Mon_ o := all_mon (a_X12_findRead (l := launch0) (E := EC0) EC0_ok)
theorem z_X12_findRead  {σ : St_} {out : Out_} (h : Ev_ (P_X12_findRead KC) 0 [some (.ref 219), none] [] σ out) : f_X12_findRead KC [.ref 219] σ = some out := fn_eq m_X12_findRead rfl h
set_option maxRecDepth 20000 in
theorem e_X12_readNew_0 {x1 : Int32} {σ : St_} {out : Out_}  (h : (∃ (v2 : Int32) (σ1 : St_), f_X12_isName KC [.ref 219] σ = some (some (.int v2), σ1) ∧ ((v2 = 0 → (∃ (v4 : Int32) (σ3 : St_), f_X12_bad KC [.ref 219, .int (1 : Int32)] σ1 = some (some (.int v4), σ3) ∧ (v4 = 0 ∨ v4 = 1) ∧ out = (some (.int v4), σ3))) ∧ (¬ (v2 = 0) → (∃ (v6 : Int32) (σ5 : St_), f_X12_findRead KC [.ref 219] σ1 = some (some (.int v6), σ5) ∧ ((v6 = ((-1) : Int32) → (vpin_ x1 25 = true) ∧ (∃ (σ7 : St_), f_X12_go KC [.ref 219] (sJ_ σ5 225 (Int32.toNatClampNeg x1) (σ5.2.1 219 12)) = some (none, σ7) ∧ out = (some (.int (1 : Int32)), σ7))) ∧ (¬ (v6 = ((-1) : Int32)) → (∃ (v9 : Int32) (σ8 : St_), f_X12_bad KC [.ref 219, .int (3 : Int32)] σ5 = some (some (.int v9), σ8) ∧ (v9 = 0 ∨ v9 = 1) ∧ out = (some (.int v9), σ8))))))))) : Ev_ (P_X12_readNew KC) 0 [some (.ref 219), some (.int x1)] [] σ out := by
  refine ev_n 1 (fun _ => rfl) ?_
  obtain ⟨v2, σ1, hf, h⟩ := h
  refine ev_go rfl (w_callV rfl rfl rfl (Nat.le_of_ble_eq_true rfl) hf) ?_
  refine ev_if (c := v2 = 0) rfl (fun _ => rfl) (fun hc => ?_) (fun hc => ?_)
  · replace h := h.1 hc
    refine ev_n 2 (fun _ => rfl) ?_
    obtain ⟨v4, σ3, hf, h⟩ := h
    refine ev_go rfl (w_callV rfl rfl rfl (Nat.le_of_ble_eq_true rfl) hf) ?_
    exact v_zret h.1 rfl h.2
  · replace h := h.2 hc
    refine ev_n 1 (fun _ => rfl) ?_
    obtain ⟨v6, σ5, hf, h⟩ := h
    refine ev_go rfl (w_callV rfl rfl rfl (Nat.le_of_ble_eq_true rfl) hf) ?_
    refine ev_n 1 (fun _ => rfl) ?_
    refine ev_if (c := v6 = ((-1) : Int32)) rfl (fun _ => rfl) (fun hc => ?_) (fun hc => ?_)
    · replace h := h.1 hc
      refine ev_n 1 (fun _ => rfl) ?_
      refine ev_go rfl (w_gF rfl rfl) ?_
      refine ev_n 2 (fun _ => rfl) ?_
      refine ev_go rfl (w_gJ rfl) ?_
      obtain ⟨h0, h⟩ := h
      refine ev_go rfl (w_last rfl h0) ?_
      refine ev_n 1 (fun _ => rfl) ?_
      obtain ⟨σ7, hf, h⟩ := h
      refine ev_go rfl (w_callV rfl rfl rfl (Nat.le_of_ble_eq_true rfl) hf) ?_
      refine ev_n 1 (fun _ => rfl) ?_
      exact v_zret (by decide) rfl h
    · replace h := h.2 hc
      refine ev_n 2 (fun _ => rfl) ?_
      obtain ⟨v9, σ8, hf, h⟩ := h
      refine ev_go rfl (w_callV rfl rfl rfl (Nat.le_of_ble_eq_true rfl) hf) ?_
      exact v_zret h.1 rfl h.2
theorem m_X12_readNew : ∀ pc o, (P_X12_readNew KC).lookup pc = some o → Mon_ o := all_mon (a_X12_readNew (l := launch0) (E := EC0) EC0_ok)
theorem z_X12_readNew {x1 : Int32} {σ : St_} {out : Out_} (h : Ev_ (P_X12_readNew KC) 0 [some (.ref 219), some (.int x1)] [] σ out) : f_X12_readNew KC [.ref 219, .int x1] σ = some out := fn_eq m_X12_readNew rfl h
set_option maxRecDepth 20000 in
theorem e_X12_readChap_0  {σ : St_} {out : Out_}  (h : (vpin_ (0 : Int32) 390 = true) ∧ (((σ.1 222 (Int32.toNatClampNeg (0 : Int32))) = (16 : Int32) → (∃ (v2 : Int32) (σ1 : St_), f_X12_bad KC [.ref 219, .int (4 : Int32)] σ = some (some (.int v2), σ1) ∧ (v2 = 0 ∨ v2 = 1) ∧ out = (some (.int v2), σ1))) ∧ (¬ ((σ.1 222 (Int32.toNatClampNeg (0 : Int32))) = (16 : Int32)) → (∃ (σ3 : St_), f_X12_go KC [.ref 219] σ = some (none, σ3) ∧ (∃ (v5 : Int32) (σ4 : St_), f_X12_readNew KC [.ref 219, .int (σ.1 222 (Int32.toNatClampNeg (0 : Int32)))] σ3 = some (some (.int v5), σ4) ∧ ((v5 = 0 → out = (some (.int (0 : Int32)), σ4)) ∧ (¬ (v5 = 0) → (∃ (v7 : Int32) (σ6 : St_), f_X12_readNumber KC [.ref 219, .int (1 : Int32), .int (999 : Int32)] σ4 = some (some (.int v7), σ6) ∧ ((v7 = 0 → out = (some (.int (0 : Int32)), σ6)) ∧ (¬ (v7 = 0) → (vpin_ (((10 : Int32) + ((4 : Int32) * (σ.1 222 (Int32.toNatClampNeg (0 : Int32))))) + (0 : Int32)) 390 = true) ∧ (∃ (v9 : Int32) (σ8 : St_), f_X12_readNumber KC [.ref 219, .int (0 : Int32), .int (999 : Int32)] (sI_ σ6 222 (Int32.toNatClampNeg (((10 : Int32) + ((4 : Int32) * (σ.1 222 (Int32.toNatClampNeg (0 : Int32))))) + (0 : Int32))) (σ6.1 219 13)) = some (some (.int v9), σ8) ∧ ((v9 = 0 → out = (some (.int (0 : Int32)), σ8)) ∧ (¬ (v9 = 0) → (vpin_ (((10 : Int32) + ((4 : Int32) * (σ.1 222 (Int32.toNatClampNeg (0 : Int32))))) + (1 : Int32)) 390 = true) ∧ (vpin_ (((10 : Int32) + ((4 : Int32) * (σ.1 222 (Int32.toNatClampNeg (0 : Int32))))) + (2 : Int32)) 390 = true) ∧ Ev_ (P_X12_readChap KC) 107 [some (.ref 219), some (.int (σ.1 222 (Int32.toNatClampNeg (0 : Int32)))), some (.int (0 : Int32)), none] [] (sI_ (sI_ σ8 222 (Int32.toNatClampNeg (((10 : Int32) + ((4 : Int32) * (σ.1 222 (Int32.toNatClampNeg (0 : Int32))))) + (1 : Int32))) (σ8.1 219 13)) 222 (Int32.toNatClampNeg (((10 : Int32) + ((4 : Int32) * (σ.1 222 (Int32.toNatClampNeg (0 : Int32))))) + (2 : Int32))) (0 : Int32)) out))))))))))))) : Ev_ (P_X12_readChap KC) 0 [some (.ref 219), none, none, none] [] σ out := by
  refine ev_n 1 (fun _ => rfl) ?_
  refine ev_go rfl (w_gF rfl rfl) ?_
  refine ev_n 1 (fun _ => rfl) ?_
  obtain ⟨h0, h⟩ := h
  refine ev_go rfl (w_iald rfl h0) ?_
  refine ev_n 3 (fun _ => rfl) ?_
  refine ev_if (c := (σ.1 222 (Int32.toNatClampNeg (0 : Int32))) = (16 : Int32)) rfl (fun _ => rfl) (fun hc => ?_) (fun hc => ?_)
  · replace h := h.1 hc
    refine ev_n 2 (fun _ => rfl) ?_
    obtain ⟨v2, σ1, hf, h⟩ := h
    refine ev_go rfl (w_callV rfl rfl rfl (Nat.le_of_ble_eq_true rfl) hf) ?_
    exact v_zret h.1 rfl h.2
  · replace h := h.2 hc
    refine ev_n 1 (fun _ => rfl) ?_
    obtain ⟨σ3, hf, h⟩ := h
    refine ev_go rfl (w_callV rfl rfl rfl (Nat.le_of_ble_eq_true rfl) hf) ?_
    refine ev_n 2 (fun _ => rfl) ?_
    obtain ⟨v5, σ4, hf, h⟩ := h
    refine ev_go rfl (w_callV rfl rfl rfl (Nat.le_of_ble_eq_true rfl) hf) ?_
    refine ev_if (c := v5 = 0) rfl (fun _ => rfl) (fun hc => ?_) (fun hc => ?_)
    · replace h := h.1 hc
      refine ev_n 1 (fun _ => rfl) ?_
      exact v_zret (by decide) rfl h
    · replace h := h.2 hc
      refine ev_n 3 (fun _ => rfl) ?_
      obtain ⟨v7, σ6, hf, h⟩ := h
      refine ev_go rfl (w_callV rfl rfl rfl (Nat.le_of_ble_eq_true rfl) hf) ?_
      refine ev_if (c := v7 = 0) rfl (fun _ => rfl) (fun hc => ?_) (fun hc => ?_)
      · replace h := h.1 hc
        refine ev_n 1 (fun _ => rfl) ?_
        exact v_zret (by decide) rfl h
      · replace h := h.2 hc
        refine ev_n 1 (fun _ => rfl) ?_
        refine ev_go rfl (w_gF rfl rfl) ?_
        refine ev_n 8 (fun _ => rfl) ?_
        refine ev_go rfl (w_gI rfl) ?_
        obtain ⟨h0, h⟩ := h
        refine ev_go rfl (w_iast rfl h0) ?_
        refine ev_n 3 (fun _ => rfl) ?_
        obtain ⟨v9, σ8, hf, h⟩ := h
        refine ev_go rfl (w_callV rfl rfl rfl (Nat.le_of_ble_eq_true rfl) hf) ?_
        refine ev_if (c := v9 = 0) rfl (fun _ => rfl) (fun hc => ?_) (fun hc => ?_)
        · replace h := h.1 hc
          refine ev_n 1 (fun _ => rfl) ?_
          exact v_zret (by decide) rfl h
        · replace h := h.2 hc
          refine ev_n 1 (fun _ => rfl) ?_
          refine ev_go rfl (w_gF rfl rfl) ?_
          refine ev_n 8 (fun _ => rfl) ?_
          refine ev_go rfl (w_gI rfl) ?_
          obtain ⟨h0, h⟩ := h
          refine ev_go rfl (w_iast rfl h0) ?_
          refine ev_n 1 (fun _ => rfl) ?_
          refine ev_go rfl (w_gF rfl rfl) ?_
          refine ev_n 8 (fun _ => rfl) ?_
          obtain ⟨h0, h⟩ := h
          refine ev_go rfl (w_iast rfl h0) ?_
          refine ev_n 2 (fun _ => rfl) ?_
          exact h
set_option maxRecDepth 20000 in
theorem e_X12_readChap_107 {x1 : Int32} {x2 : Int32} {σ : St_} {out : Out_}  (h : (((16 : Int32) ≤ x2 → Ev_ (P_X12_readChap KC) 138 [some (.ref 219), some (.int x1), some (.int (10 : Int32)), none] [] σ out) ∧ (¬ ((16 : Int32) ≤ x2) → (vpin_ (((130 : Int32) + ((16 : Int32) * x1)) + x2) 390 = true) ∧ Ev_ (P_X12_readChap KC) 107 [some (.ref 219), some (.int x1), some (.int (x2 + 1)), none] [] (sI_ σ 222 (Int32.toNatClampNeg (((130 : Int32) + ((16 : Int32) * x1)) + x2)) (0 : Int32)) out))) : Ev_ (P_X12_readChap KC) 107 [some (.ref 219), some (.int x1), some (.int x2), none] [] σ out := by
  refine ev_n 2 (fun _ => rfl) ?_
  refine ev_if (c := (16 : Int32) ≤ x2) rfl (fun _ => rfl) (fun hc => ?_) (fun hc => ?_)
  · replace h := h.1 hc
    refine ev_n 2 (fun _ => rfl) ?_
    exact h
  · replace h := h.2 hc
    refine ev_n 1 (fun _ => rfl) ?_
    refine ev_go rfl (w_gF rfl rfl) ?_
    refine ev_n 8 (fun _ => rfl) ?_
    obtain ⟨h0, h⟩ := h
    refine ev_go rfl (w_iast rfl h0) ?_
    refine ev_n 2 (fun _ => rfl) ?_
    exact h
set_option maxRecDepth 20000 in
theorem e_X12_readChap_138 {x1 : Int32} {x2 : Int32} {σ : St_} {out : Out_}  (h : (∃ (v2 : Int32) (σ1 : St_), f_X12_isWord KC [.ref 219, .int (4 : Int32)] σ = some (some (.int v2), σ1) ∧ ((v2 = 0 → (∃ (v4 : Int32) (σ3 : St_), f_X12_isWord KC [.ref 219, .int (5 : Int32)] σ1 = some (some (.int v4), σ3) ∧ ((v4 = 0 → (vpin_ (0 : Int32) 390 = true) ∧ (vpin_ (0 : Int32) 390 = true) ∧ out = (some (.int (1 : Int32)), (sI_ σ3 222 (Int32.toNatClampNeg (0 : Int32)) ((σ3.1 222 (Int32.toNatClampNeg (0 : Int32))) + (1 : Int32))))) ∧ (¬ (v4 = 0) → (vpin_ (((10 : Int32) + ((4 : Int32) * x1)) + (2 : Int32)) 390 = true) ∧ (∃ (σ5 : St_), f_X12_go KC [.ref 219] (sI_ σ3 222 (Int32.toNatClampNeg (((10 : Int32) + ((4 : Int32) * x1)) + (2 : Int32))) (1 : Int32)) = some (none, σ5) ∧ (vpin_ (0 : Int32) 390 = true) ∧ (vpin_ (0 : Int32) 390 = true) ∧ out = (some (.int (1 : Int32)), (sI_ σ5 222 (Int32.toNatClampNeg (0 : Int32)) ((σ5.1 222 (Int32.toNatClampNeg (0 : Int32))) + (1 : Int32))))))))) ∧ (¬ (v2 = 0) → (∃ (σ6 : St_), f_X12_go KC [.ref 219] σ1 = some (none, σ6) ∧ (∃ (v8 : Int32) (σ7 : St_), f_X12_isName KC [.ref 219] σ6 = some (some (.int v8), σ7) ∧ ((v8 = 0 → (∃ (v10 : Int32) (σ9 : St_), f_X12_bad KC [.ref 219, .int (1 : Int32)] σ7 = some (some (.int v10), σ9) ∧ (v10 = 0 ∨ v10 = 1) ∧ out = (some (.int v10), σ9))) ∧ (¬ (v8 = 0) → (∃ (v12 : Int32) (σ11 : St_), f_X12_findRead KC [.ref 219] σ7 = some (some (.int v12), σ11) ∧ ((v12 = ((-1) : Int32) → (∃ (v14 : Int32) (σ13 : St_), f_X12_bad KC [.ref 219, .int (3 : Int32)] σ11 = some (some (.int v14), σ13) ∧ (v14 = 0 ∨ v14 = 1) ∧ out = (some (.int v14), σ13))) ∧ (¬ (v12 = ((-1) : Int32)) → (((16 : Int32) ≤ v12 → (∃ (v16 : Int32) (σ15 : St_), f_X12_bad KC [.ref 219, .int (3 : Int32)] σ11 = some (some (.int v16), σ15) ∧ (v16 = 0 ∨ v16 = 1) ∧ out = (some (.int v16), σ15))) ∧ (¬ ((16 : Int32) ≤ v12) → (vpin_ (((130 : Int32) + ((16 : Int32) * x1)) + v12) 390 = true) ∧ (((σ11.1 222 (Int32.toNatClampNeg (((130 : Int32) + ((16 : Int32) * x1)) + v12))) ≤ 0 → (∃ (σ17 : St_), f_X12_go KC [.ref 219] σ11 = some (none, σ17) ∧ (∃ (v19 : Int32) (σ18 : St_), f_X12_readNumber KC [.ref 219, .int (1 : Int32), .int x2] σ17 = some (some (.int v19), σ18) ∧ ((v19 = 0 → out = (some (.int (0 : Int32)), σ18)) ∧ (¬ (v19 = 0) → (vpin_ (((130 : Int32) + ((16 : Int32) * x1)) + v12) 390 = true) ∧ Ev_ (P_X12_readChap KC) 138 [some (.ref 219), some (.int x1), some (.int (x2 - ((sI_ σ18 222 (Int32.toNatClampNeg (((130 : Int32) + ((16 : Int32) * x1)) + v12)) (σ18.1 219 13)).1 219 13))), none] [] (sI_ σ18 222 (Int32.toNatClampNeg (((130 : Int32) + ((16 : Int32) * x1)) + v12)) (σ18.1 219 13)) out))))) ∧ (¬ ((σ11.1 222 (Int32.toNatClampNeg (((130 : Int32) + ((16 : Int32) * x1)) + v12))) ≤ 0) → (∃ (v21 : Int32) (σ20 : St_), f_X12_bad KC [.ref 219, .int (3 : Int32)] σ11 = some (some (.int v21), σ20) ∧ (v21 = 0 ∨ v21 = 1) ∧ out = (some (.int v21), σ20))))))))))))))))) : Ev_ (P_X12_readChap KC) 138 [some (.ref 219), some (.int x1), some (.int x2), none] [] σ out := by
  refine ev_n 2 (fun _ => rfl) ?_
  obtain ⟨v2, σ1, hf, h⟩ := h
  refine ev_go rfl (w_callV rfl rfl rfl (Nat.le_of_ble_eq_true rfl) hf) ?_
  refine ev_if (c := v2 = 0) rfl (fun _ => rfl) (fun hc => ?_) (fun hc => ?_)
  · replace h := h.1 hc
    refine ev_n 2 (fun _ => rfl) ?_
    obtain ⟨v4, σ3, hf, h⟩ := h
    refine ev_go rfl (w_callV rfl rfl rfl (Nat.le_of_ble_eq_true rfl) hf) ?_
    refine ev_if (c := v4 = 0) rfl (fun _ => rfl) (fun hc => ?_) (fun hc => ?_)
    · replace h := h.1 hc
      refine ev_n 1 (fun _ => rfl) ?_
      refine ev_go rfl (w_gF rfl rfl) ?_
      refine ev_n 2 (fun _ => rfl) ?_
      obtain ⟨h0, h⟩ := h
      refine ev_go rfl (w_iald rfl h0) ?_
      refine ev_n 2 (fun _ => rfl) ?_
      obtain ⟨h0, h⟩ := h
      refine ev_go rfl (w_iast rfl h0) ?_
      refine ev_n 1 (fun _ => rfl) ?_
      exact v_zret (by decide) rfl h
    · replace h := h.2 hc
      refine ev_n 1 (fun _ => rfl) ?_
      refine ev_go rfl (w_gF rfl rfl) ?_
      refine ev_n 8 (fun _ => rfl) ?_
      obtain ⟨h0, h⟩ := h
      refine ev_go rfl (w_iast rfl h0) ?_
      refine ev_n 1 (fun _ => rfl) ?_
      obtain ⟨σ5, hf, h⟩ := h
      refine ev_go rfl (w_callV rfl rfl rfl (Nat.le_of_ble_eq_true rfl) hf) ?_
      refine ev_n 1 (fun _ => rfl) ?_
      refine ev_go rfl (w_gF rfl rfl) ?_
      refine ev_n 2 (fun _ => rfl) ?_
      obtain ⟨h0, h⟩ := h
      refine ev_go rfl (w_iald rfl h0) ?_
      refine ev_n 2 (fun _ => rfl) ?_
      obtain ⟨h0, h⟩ := h
      refine ev_go rfl (w_iast rfl h0) ?_
      refine ev_n 1 (fun _ => rfl) ?_
      exact v_zret (by decide) rfl h
  · replace h := h.2 hc
    refine ev_n 1 (fun _ => rfl) ?_
    obtain ⟨σ6, hf, h⟩ := h
    refine ev_go rfl (w_callV rfl rfl rfl (Nat.le_of_ble_eq_true rfl) hf) ?_
    refine ev_n 1 (fun _ => rfl) ?_
    obtain ⟨v8, σ7, hf, h⟩ := h
    refine ev_go rfl (w_callV rfl rfl rfl (Nat.le_of_ble_eq_true rfl) hf) ?_
    refine ev_if (c := v8 = 0) rfl (fun _ => rfl) (fun hc => ?_) (fun hc => ?_)
    · replace h := h.1 hc
      refine ev_n 2 (fun _ => rfl) ?_
      obtain ⟨v10, σ9, hf, h⟩ := h
      refine ev_go rfl (w_callV rfl rfl rfl (Nat.le_of_ble_eq_true rfl) hf) ?_
      exact v_zret h.1 rfl h.2
    · replace h := h.2 hc
      refine ev_n 1 (fun _ => rfl) ?_
      obtain ⟨v12, σ11, hf, h⟩ := h
      refine ev_go rfl (w_callV rfl rfl rfl (Nat.le_of_ble_eq_true rfl) hf) ?_
      refine ev_n 3 (fun _ => rfl) ?_
      refine ev_if (c := v12 = ((-1) : Int32)) rfl (fun _ => rfl) (fun hc => ?_) (fun hc => ?_)
      · replace h := h.1 hc
        refine ev_n 2 (fun _ => rfl) ?_
        obtain ⟨v14, σ13, hf, h⟩ := h
        refine ev_go rfl (w_callV rfl rfl rfl (Nat.le_of_ble_eq_true rfl) hf) ?_
        exact v_zret h.1 rfl h.2
      · replace h := h.2 hc
        refine ev_n 2 (fun _ => rfl) ?_
        refine ev_if (c := (16 : Int32) ≤ v12) rfl (fun _ => rfl) (fun hc => ?_) (fun hc => ?_)
        · replace h := h.1 hc
          refine ev_n 2 (fun _ => rfl) ?_
          obtain ⟨v16, σ15, hf, h⟩ := h
          refine ev_go rfl (w_callV rfl rfl rfl (Nat.le_of_ble_eq_true rfl) hf) ?_
          exact v_zret h.1 rfl h.2
        · replace h := h.2 hc
          refine ev_n 1 (fun _ => rfl) ?_
          refine ev_go rfl (w_gF rfl rfl) ?_
          refine ev_n 7 (fun _ => rfl) ?_
          obtain ⟨h0, h⟩ := h
          refine ev_go rfl (w_iald rfl h0) ?_
          refine ev_if (c := (σ11.1 222 (Int32.toNatClampNeg (((130 : Int32) + ((16 : Int32) * x1)) + v12))) ≤ 0) rfl (fun _ => rfl) (fun hc => ?_) (fun hc => ?_)
          · replace h := h.1 hc
            refine ev_n 1 (fun _ => rfl) ?_
            obtain ⟨σ17, hf, h⟩ := h
            refine ev_go rfl (w_callV rfl rfl rfl (Nat.le_of_ble_eq_true rfl) hf) ?_
            refine ev_n 3 (fun _ => rfl) ?_
            obtain ⟨v19, σ18, hf, h⟩ := h
            refine ev_go rfl (w_callV rfl rfl rfl (Nat.le_of_ble_eq_true rfl) hf) ?_
            refine ev_if (c := v19 = 0) rfl (fun _ => rfl) (fun hc => ?_) (fun hc => ?_)
            · replace h := h.1 hc
              refine ev_n 1 (fun _ => rfl) ?_
              exact v_zret (by decide) rfl h
            · replace h := h.2 hc
              refine ev_n 1 (fun _ => rfl) ?_
              refine ev_go rfl (w_gF rfl rfl) ?_
              refine ev_n 8 (fun _ => rfl) ?_
              refine ev_go rfl (w_gI rfl) ?_
              obtain ⟨h0, h⟩ := h
              refine ev_go rfl (w_iast rfl h0) ?_
              refine ev_n 2 (fun _ => rfl) ?_
              refine ev_go rfl (w_gI rfl) ?_
              refine ev_n 3 (fun _ => rfl) ?_
              exact h
          · replace h := h.2 hc
            refine ev_n 2 (fun _ => rfl) ?_
            obtain ⟨v21, σ20, hf, h⟩ := h
            refine ev_go rfl (w_callV rfl rfl rfl (Nat.le_of_ble_eq_true rfl) hf) ?_
            exact v_zret h.1 rfl h.2
theorem m_X12_readChap : ∀ pc o, (P_X12_readChap KC).lookup pc = some o → Mon_ o := all_mon (a_X12_readChap (l := launch0) (E := EC0) EC0_ok)
theorem z_X12_readChap  {σ : St_} {out : Out_} (h : Ev_ (P_X12_readChap KC) 0 [some (.ref 219), none, none, none] [] σ out) : f_X12_readChap KC [.ref 219] σ = some out := fn_eq m_X12_readChap rfl h
set_option maxRecDepth 20000 in
theorem e_X12_readWho_0  {σ : St_} {out : Out_}  (h : (vpin_ (1 : Int32) 390 = true) ∧ (((σ.1 222 (Int32.toNatClampNeg (1 : Int32))) = (9 : Int32) → (∃ (v2 : Int32) (σ1 : St_), f_X12_bad KC [.ref 219, .int (4 : Int32)] σ = some (some (.int v2), σ1) ∧ (v2 = 0 ∨ v2 = 1) ∧ out = (some (.int v2), σ1))) ∧ (¬ ((σ.1 222 (Int32.toNatClampNeg (1 : Int32))) = (9 : Int32)) → (∃ (σ3 : St_), f_X12_go KC [.ref 219] σ = some (none, σ3) ∧ (∃ (v5 : Int32) (σ4 : St_), f_X12_readNew KC [.ref 219, .int ((16 : Int32) + (σ.1 222 (Int32.toNatClampNeg (1 : Int32))))] σ3 = some (some (.int v5), σ4) ∧ ((v5 = 0 → out = (some (.int (0 : Int32)), σ4)) ∧ (¬ (v5 = 0) → (∃ (v7 : Int32) (σ6 : St_), f_X12_readNumber KC [.ref 219, .int (1 : Int32), .int (99 : Int32)] σ4 = some (some (.int v7), σ6) ∧ ((v7 = 0 → out = (some (.int (0 : Int32)), σ6)) ∧ (¬ (v7 = 0) → (vpin_ (((80 : Int32) + ((5 : Int32) * (σ.1 222 (Int32.toNatClampNeg (1 : Int32))))) + (0 : Int32)) 390 = true) ∧ (∃ (v9 : Int32) (σ8 : St_), f_X12_readNumber KC [.ref 219, .int (0 : Int32), .int (10 : Int32)] (sI_ σ6 222 (Int32.toNatClampNeg (((80 : Int32) + ((5 : Int32) * (σ.1 222 (Int32.toNatClampNeg (1 : Int32))))) + (0 : Int32))) (σ6.1 219 13)) = some (some (.int v9), σ8) ∧ ((v9 = 0 → out = (some (.int (0 : Int32)), σ8)) ∧ (¬ (v9 = 0) → (vpin_ (((80 : Int32) + ((5 : Int32) * (σ.1 222 (Int32.toNatClampNeg (1 : Int32))))) + (1 : Int32)) 390 = true) ∧ (∃ (v11 : Int32) (σ10 : St_), f_X12_readNumber KC [.ref 219, .int (0 : Int32), .int (10 : Int32)] (sI_ σ8 222 (Int32.toNatClampNeg (((80 : Int32) + ((5 : Int32) * (σ.1 222 (Int32.toNatClampNeg (1 : Int32))))) + (1 : Int32))) (σ8.1 219 13)) = some (some (.int v11), σ10) ∧ ((v11 = 0 → out = (some (.int (0 : Int32)), σ10)) ∧ (¬ (v11 = 0) → (vpin_ (((80 : Int32) + ((5 : Int32) * (σ.1 222 (Int32.toNatClampNeg (1 : Int32))))) + (2 : Int32)) 390 = true) ∧ (∃ (v13 : Int32) (σ12 : St_), f_X12_readNumber KC [.ref 219, .int (0 : Int32), .int (240 : Int32)] (sI_ σ10 222 (Int32.toNatClampNeg (((80 : Int32) + ((5 : Int32) * (σ.1 222 (Int32.toNatClampNeg (1 : Int32))))) + (2 : Int32))) (σ10.1 219 13)) = some (some (.int v13), σ12) ∧ ((v13 = 0 → out = (some (.int (0 : Int32)), σ12)) ∧ (¬ (v13 = 0) → (vpin_ (((80 : Int32) + ((5 : Int32) * (σ.1 222 (Int32.toNatClampNeg (1 : Int32))))) + (3 : Int32)) 390 = true) ∧ (vpin_ (((80 : Int32) + ((5 : Int32) * (σ.1 222 (Int32.toNatClampNeg (1 : Int32))))) + (4 : Int32)) 390 = true) ∧ (∃ (v15 : Int32) (σ14 : St_), f_X12_isWord KC [.ref 219, .int (6 : Int32)] (sI_ (sI_ σ12 222 (Int32.toNatClampNeg (((80 : Int32) + ((5 : Int32) * (σ.1 222 (Int32.toNatClampNeg (1 : Int32))))) + (3 : Int32))) (σ12.1 219 13)) 222 (Int32.toNatClampNeg (((80 : Int32) + ((5 : Int32) * (σ.1 222 (Int32.toNatClampNeg (1 : Int32))))) + (4 : Int32))) (0 : Int32)) = some (some (.int v15), σ14) ∧ ((v15 = 0 → (vpin_ (1 : Int32) 390 = true) ∧ (vpin_ (1 : Int32) 390 = true) ∧ out = (some (.int (1 : Int32)), (sI_ σ14 222 (Int32.toNatClampNeg (1 : Int32)) ((σ14.1 222 (Int32.toNatClampNeg (1 : Int32))) + (1 : Int32))))) ∧ (¬ (v15 = 0) → (∃ (σ16 : St_), f_X12_go KC [.ref 219] σ14 = some (none, σ16) ∧ (∃ (v18 : Int32) (σ17 : St_), f_X12_readNumber KC [.ref 219, .int (0 : Int32), .int (10 : Int32)] σ16 = some (some (.int v18), σ17) ∧ ((v18 = 0 → out = (some (.int (0 : Int32)), σ17)) ∧ (¬ (v18 = 0) → (vpin_ (((80 : Int32) + ((5 : Int32) * (σ.1 222 (Int32.toNatClampNeg (1 : Int32))))) + (4 : Int32)) 390 = true) ∧ (vpin_ (1 : Int32) 390 = true) ∧ (vpin_ (1 : Int32) 390 = true) ∧ out = (some (.int (1 : Int32)), (sI_ (sI_ σ17 222 (Int32.toNatClampNeg (((80 : Int32) + ((5 : Int32) * (σ.1 222 (Int32.toNatClampNeg (1 : Int32))))) + (4 : Int32))) (σ17.1 219 13)) 222 (Int32.toNatClampNeg (1 : Int32)) (((sI_ σ17 222 (Int32.toNatClampNeg (((80 : Int32) + ((5 : Int32) * (σ.1 222 (Int32.toNatClampNeg (1 : Int32))))) + (4 : Int32))) (σ17.1 219 13)).1 222 (Int32.toNatClampNeg (1 : Int32))) + (1 : Int32)))))))))))))))))))))))))))))) : Ev_ (P_X12_readWho KC) 0 [some (.ref 219), none, none] [] σ out := by
  refine ev_n 1 (fun _ => rfl) ?_
  refine ev_go rfl (w_gF rfl rfl) ?_
  refine ev_n 1 (fun _ => rfl) ?_
  obtain ⟨h0, h⟩ := h
  refine ev_go rfl (w_iald rfl h0) ?_
  refine ev_n 3 (fun _ => rfl) ?_
  refine ev_if (c := (σ.1 222 (Int32.toNatClampNeg (1 : Int32))) = (9 : Int32)) rfl (fun _ => rfl) (fun hc => ?_) (fun hc => ?_)
  · replace h := h.1 hc
    refine ev_n 2 (fun _ => rfl) ?_
    obtain ⟨v2, σ1, hf, h⟩ := h
    refine ev_go rfl (w_callV rfl rfl rfl (Nat.le_of_ble_eq_true rfl) hf) ?_
    exact v_zret h.1 rfl h.2
  · replace h := h.2 hc
    refine ev_n 1 (fun _ => rfl) ?_
    obtain ⟨σ3, hf, h⟩ := h
    refine ev_go rfl (w_callV rfl rfl rfl (Nat.le_of_ble_eq_true rfl) hf) ?_
    refine ev_n 8 (fun _ => rfl) ?_
    refine ev_n 2 (fun _ => rfl) ?_
    obtain ⟨v5, σ4, hf, h⟩ := h
    refine ev_go rfl (w_callV rfl rfl rfl (Nat.le_of_ble_eq_true rfl) hf) ?_
    refine ev_if (c := v5 = 0) rfl (fun _ => rfl) (fun hc => ?_) (fun hc => ?_)
    · replace h := h.1 hc
      refine ev_n 1 (fun _ => rfl) ?_
      exact v_zret (by decide) rfl h
    · replace h := h.2 hc
      refine ev_n 3 (fun _ => rfl) ?_
      obtain ⟨v7, σ6, hf, h⟩ := h
      refine ev_go rfl (w_callV rfl rfl rfl (Nat.le_of_ble_eq_true rfl) hf) ?_
      refine ev_if (c := v7 = 0) rfl (fun _ => rfl) (fun hc => ?_) (fun hc => ?_)
      · replace h := h.1 hc
        refine ev_n 1 (fun _ => rfl) ?_
        exact v_zret (by decide) rfl h
      · replace h := h.2 hc
        refine ev_n 1 (fun _ => rfl) ?_
        refine ev_go rfl (w_gF rfl rfl) ?_
        refine ev_n 4 (fun _ => rfl) ?_
        refine ev_go rfl (w_gI rfl) ?_
        obtain ⟨h0, h⟩ := h
        refine ev_go rfl (w_iast rfl h0) ?_
        refine ev_n 3 (fun _ => rfl) ?_
        obtain ⟨v9, σ8, hf, h⟩ := h
        refine ev_go rfl (w_callV rfl rfl rfl (Nat.le_of_ble_eq_true rfl) hf) ?_
        refine ev_if (c := v9 = 0) rfl (fun _ => rfl) (fun hc => ?_) (fun hc => ?_)
        · replace h := h.1 hc
          refine ev_n 1 (fun _ => rfl) ?_
          exact v_zret (by decide) rfl h
        · replace h := h.2 hc
          refine ev_n 1 (fun _ => rfl) ?_
          refine ev_go rfl (w_gF rfl rfl) ?_
          refine ev_n 4 (fun _ => rfl) ?_
          refine ev_go rfl (w_gI rfl) ?_
          obtain ⟨h0, h⟩ := h
          refine ev_go rfl (w_iast rfl h0) ?_
          refine ev_n 3 (fun _ => rfl) ?_
          obtain ⟨v11, σ10, hf, h⟩ := h
          refine ev_go rfl (w_callV rfl rfl rfl (Nat.le_of_ble_eq_true rfl) hf) ?_
          refine ev_if (c := v11 = 0) rfl (fun _ => rfl) (fun hc => ?_) (fun hc => ?_)
          · replace h := h.1 hc
            refine ev_n 1 (fun _ => rfl) ?_
            exact v_zret (by decide) rfl h
          · replace h := h.2 hc
            refine ev_n 1 (fun _ => rfl) ?_
            refine ev_go rfl (w_gF rfl rfl) ?_
            refine ev_n 4 (fun _ => rfl) ?_
            refine ev_go rfl (w_gI rfl) ?_
            obtain ⟨h0, h⟩ := h
            refine ev_go rfl (w_iast rfl h0) ?_
            refine ev_n 3 (fun _ => rfl) ?_
            obtain ⟨v13, σ12, hf, h⟩ := h
            refine ev_go rfl (w_callV rfl rfl rfl (Nat.le_of_ble_eq_true rfl) hf) ?_
            refine ev_if (c := v13 = 0) rfl (fun _ => rfl) (fun hc => ?_) (fun hc => ?_)
            · replace h := h.1 hc
              refine ev_n 1 (fun _ => rfl) ?_
              exact v_zret (by decide) rfl h
            · replace h := h.2 hc
              refine ev_n 1 (fun _ => rfl) ?_
              refine ev_go rfl (w_gF rfl rfl) ?_
              refine ev_n 4 (fun _ => rfl) ?_
              refine ev_go rfl (w_gI rfl) ?_
              obtain ⟨h0, h⟩ := h
              refine ev_go rfl (w_iast rfl h0) ?_
              refine ev_n 1 (fun _ => rfl) ?_
              refine ev_go rfl (w_gF rfl rfl) ?_
              refine ev_n 4 (fun _ => rfl) ?_
              obtain ⟨h0, h⟩ := h
              refine ev_go rfl (w_iast rfl h0) ?_
              refine ev_n 2 (fun _ => rfl) ?_
              obtain ⟨v15, σ14, hf, h⟩ := h
              refine ev_go rfl (w_callV rfl rfl rfl (Nat.le_of_ble_eq_true rfl) hf) ?_
              refine ev_if (c := v15 = 0) rfl (fun _ => rfl) (fun hc => ?_) (fun hc => ?_)
              · replace h := h.1 hc
                refine ev_n 1 (fun _ => rfl) ?_
                refine ev_go rfl (w_gF rfl rfl) ?_
                refine ev_n 2 (fun _ => rfl) ?_
                obtain ⟨h0, h⟩ := h
                refine ev_go rfl (w_iald rfl h0) ?_
                refine ev_n 2 (fun _ => rfl) ?_
                obtain ⟨h0, h⟩ := h
                refine ev_go rfl (w_iast rfl h0) ?_
                refine ev_n 1 (fun _ => rfl) ?_
                exact v_zret (by decide) rfl h
              · replace h := h.2 hc
                refine ev_n 1 (fun _ => rfl) ?_
                obtain ⟨σ16, hf, h⟩ := h
                refine ev_go rfl (w_callV rfl rfl rfl (Nat.le_of_ble_eq_true rfl) hf) ?_
                refine ev_n 3 (fun _ => rfl) ?_
                obtain ⟨v18, σ17, hf, h⟩ := h
                refine ev_go rfl (w_callV rfl rfl rfl (Nat.le_of_ble_eq_true rfl) hf) ?_
                refine ev_if (c := v18 = 0) rfl (fun _ => rfl) (fun hc => ?_) (fun hc => ?_)
                · replace h := h.1 hc
                  refine ev_n 1 (fun _ => rfl) ?_
                  exact v_zret (by decide) rfl h
                · replace h := h.2 hc
                  refine ev_n 1 (fun _ => rfl) ?_
                  refine ev_go rfl (w_gF rfl rfl) ?_
                  refine ev_n 4 (fun _ => rfl) ?_
                  refine ev_go rfl (w_gI rfl) ?_
                  obtain ⟨h0, h⟩ := h
                  refine ev_go rfl (w_iast rfl h0) ?_
                  refine ev_n 1 (fun _ => rfl) ?_
                  refine ev_go rfl (w_gF rfl rfl) ?_
                  refine ev_n 2 (fun _ => rfl) ?_
                  obtain ⟨h0, h⟩ := h
                  refine ev_go rfl (w_iald rfl h0) ?_
                  refine ev_n 2 (fun _ => rfl) ?_
                  obtain ⟨h0, h⟩ := h
                  refine ev_go rfl (w_iast rfl h0) ?_
                  refine ev_n 1 (fun _ => rfl) ?_
                  exact v_zret (by decide) rfl h
theorem m_X12_readWho : ∀ pc o, (P_X12_readWho KC).lookup pc = some o → Mon_ o := all_mon (a_X12_readWho (l := launch0) (E := EC0) EC0_ok)
theorem z_X12_readWho  {σ : St_} {out : Out_} (h : Ev_ (P_X12_readWho KC) 0 [some (.ref 219), none, none] [] σ out) : f_X12_readWho KC [.ref 219] σ = some out := fn_eq m_X12_readWho rfl h
set_option maxRecDepth 20000 in
theorem e_X12_readLine_0  {σ : St_} {out : Out_}  (h : Ev_ (P_X12_readLine KC) 2 [some (.ref 219), some (.int (0 : Int32))] [] σ out) : Ev_ (P_X12_readLine KC) 0 [some (.ref 219), none] [] σ out := by
  refine ev_n 2 (fun _ => rfl) ?_
  exact h
set_option maxRecDepth 20000 in
theorem e_X12_readLine_2 {x1 : Int32} {σ : St_} {out : Out_}  (h : (((3 : Int32) < x1 → Ev_ (P_X12_readLine KC) 21 [some (.ref 219), some (.int x1)] [] σ out) ∧ (¬ ((3 : Int32) < x1) → (∃ (v2 : Int32) (σ1 : St_), f_X12_isWord KC [.ref 219, .int x1] σ = some (some (.int v2), σ1) ∧ ((v2 = 0 → Ev_ (P_X12_readLine KC) 2 [some (.ref 219), some (.int (x1 + 1))] [] σ1 out) ∧ (¬ (v2 = 0) → Ev_ (P_X12_readLine KC) 21 [some (.ref 219), some (.int x1)] [] σ1 out)))))) : Ev_ (P_X12_readLine KC) 2 [some (.ref 219), some (.int x1)] [] σ out := by
  refine ev_n 2 (fun _ => rfl) ?_
  refine ev_if (c := (3 : Int32) < x1) rfl (fun _ => rfl) (fun hc => ?_) (fun hc => ?_)
  · replace h := h.1 hc
    exact h
  · replace h := h.2 hc
    refine ev_n 2 (fun _ => rfl) ?_
    obtain ⟨v2, σ1, hf, h⟩ := h
    refine ev_go rfl (w_callV rfl rfl rfl (Nat.le_of_ble_eq_true rfl) hf) ?_
    refine ev_if (c := v2 = 0) rfl (fun _ => rfl) (fun hc => ?_) (fun hc => ?_)
    · replace h := h.1 hc
      refine ev_n 2 (fun _ => rfl) ?_
      exact h
    · replace h := h.2 hc
      exact h
set_option maxRecDepth 20000 in
theorem e_X12_readLine_21 {x1 : Int32} {σ : St_} {out : Out_}  (h : ((x1 ≤ (3 : Int32) → (((2 : Int32) ≤ x1 → (∃ (v2 : Int32) (σ1 : St_), f_X12_has KC [.int (σ.1 219 22), .int x1] σ = some (some (.int v2), σ1) ∧ ((v2 = 0 → (∃ (σ3 : St_), f_X12_go KC [.ref 219] (sI_ σ1 219 22 ((σ1.1 219 22) ||| ((1 : Int32) <<< (x1 &&& 31)))) = some (none, σ3) ∧ ((x1 = (2 : Int32) → ((x1 = (2 : Int32) → Ev_ (P_X12_readLine KC) 127 [some (.ref 219), some (.int x1)] [.int (99 : Int32), .int (1 : Int32), .ref 219] σ3 out) ∧ (¬ (x1 = (2 : Int32)) → Ev_ (P_X12_readLine KC) 127 [some (.ref 219), some (.int x1)] [.int (10 : Int32), .int (1 : Int32), .ref 219] σ3 out))) ∧ (¬ (x1 = (2 : Int32)) → ((x1 = (2 : Int32) → Ev_ (P_X12_readLine KC) 127 [some (.ref 219), some (.int x1)] [.int (99 : Int32), .int (0 : Int32), .ref 219] σ3 out) ∧ (¬ (x1 = (2 : Int32)) → Ev_ (P_X12_readLine KC) 127 [some (.ref 219), some (.int x1)] [.int (10 : Int32), .int (0 : Int32), .ref 219] σ3 out)))))) ∧ (¬ (v2 = 0) → (∃ (v5 : Int32) (σ4 : St_), f_X12_bad KC [.ref 219, .int (3 : Int32)] σ1 = some (some (.int v5), σ4) ∧ (v5 = 0 ∨ v5 = 1) ∧ out = (some (.int v5), σ4)))))) ∧ (¬ ((2 : Int32) ≤ x1) → ((x1 = 0 → (∃ (v7 : Int32) (σ6 : St_), f_X12_readChap KC [.ref 219] σ = some (some (.int v7), σ6) ∧ ((v7 = 0 → out = (some (.int (0 : Int32)), σ6)) ∧ (¬ (v7 = 0) → (∃ (v9 : Int32) (σ8 : St_), f_X12_readEnd KC [.ref 219] σ6 = some (some (.int v9), σ8) ∧ ((v9 = 0 → out = (some (.int (0 : Int32)), σ8)) ∧ (¬ (v9 = 0) → out = (some (.int (1 : Int32)), σ8)))))))) ∧ (¬ (x1 = 0) → (∃ (v11 : Int32) (σ10 : St_), f_X12_readWho KC [.ref 219] σ = some (some (.int v11), σ10) ∧ ((v11 = 0 → out = (some (.int (0 : Int32)), σ10)) ∧ (¬ (v11 = 0) → (∃ (v13 : Int32) (σ12 : St_), f_X12_readEnd KC [.ref 219] σ10 = some (some (.int v13), σ12) ∧ ((v13 = 0 → out = (some (.int (0 : Int32)), σ12)) ∧ (¬ (v13 = 0) → out = (some (.int (1 : Int32)), σ12)))))))))))) ∧ (¬ (x1 ≤ (3 : Int32)) → (∃ (v15 : Int32) (σ14 : St_), f_X12_bad KC [.ref 219, .int (1 : Int32)] σ = some (some (.int v15), σ14) ∧ (v15 = 0 ∨ v15 = 1) ∧ out = (some (.int v15), σ14))))) : Ev_ (P_X12_readLine KC) 21 [some (.ref 219), some (.int x1)] [] σ out := by
  refine ev_n 2 (fun _ => rfl) ?_
  refine ev_if (c := x1 ≤ (3 : Int32)) rfl (fun _ => rfl) (fun hc => ?_) (fun hc => ?_)
  · replace h := h.1 hc
    refine ev_n 2 (fun _ => rfl) ?_
    refine ev_if (c := (2 : Int32) ≤ x1) rfl (fun _ => rfl) (fun hc => ?_) (fun hc => ?_)
    · replace h := h.1 hc
      refine ev_n 1 (fun _ => rfl) ?_
      refine ev_go rfl (w_gI rfl) ?_
      refine ev_n 1 (fun _ => rfl) ?_
      obtain ⟨v2, σ1, hf, h⟩ := h
      refine ev_go rfl (w_callS ⟨Nat.le_of_ble_eq_true rfl, Nat.le_of_ble_eq_true rfl⟩ hf) ?_
      refine ev_if (c := v2 = 0) rfl (fun _ => rfl) (fun hc => ?_) (fun hc => ?_)
      · replace h := h.1 hc
        refine ev_n 2 (fun _ => rfl) ?_
        refine ev_go rfl (w_gI rfl) ?_
        refine ev_n 4 (fun _ => rfl) ?_
        refine ev_go rfl (w_pI rfl) ?_
        refine ev_n 1 (fun _ => rfl) ?_
        obtain ⟨σ3, hf, h⟩ := h
        refine ev_go rfl (w_callV rfl rfl rfl (Nat.le_of_ble_eq_true rfl) hf) ?_
        refine ev_n 3 (fun _ => rfl) ?_
        refine ev_if (c := x1 = (2 : Int32)) rfl (fun _ => rfl) (fun hc => ?_) (fun hc => ?_)
        · replace h := h.1 hc
          refine ev_n 4 (fun _ => rfl) ?_
          refine ev_if (c := x1 = (2 : Int32)) rfl (fun _ => rfl) (fun hc => ?_) (fun hc => ?_)
          · replace h := h.1 hc
            refine ev_n 2 (fun _ => rfl) ?_
            exact h
          · replace h := h.2 hc
            refine ev_n 1 (fun _ => rfl) ?_
            exact h
        · replace h := h.2 hc
          refine ev_n 3 (fun _ => rfl) ?_
          refine ev_if (c := x1 = (2 : Int32)) rfl (fun _ => rfl) (fun hc => ?_) (fun hc => ?_)
          · replace h := h.1 hc
            refine ev_n 2 (fun _ => rfl) ?_
            exact h
          · replace h := h.2 hc
            refine ev_n 1 (fun _ => rfl) ?_
            exact h
      · replace h := h.2 hc
        refine ev_n 2 (fun _ => rfl) ?_
        obtain ⟨v5, σ4, hf, h⟩ := h
        refine ev_go rfl (w_callV rfl rfl rfl (Nat.le_of_ble_eq_true rfl) hf) ?_
        exact v_zret h.1 rfl h.2
    · replace h := h.2 hc
      refine ev_n 1 (fun _ => rfl) ?_
      refine ev_if (c := x1 = 0) rfl (fun _ => rfl) (fun hc => ?_) (fun hc => ?_)
      · replace h := h.1 hc
        refine ev_n 1 (fun _ => rfl) ?_
        obtain ⟨v7, σ6, hf, h⟩ := h
        refine ev_go rfl (w_callV rfl rfl rfl (Nat.le_of_ble_eq_true rfl) hf) ?_
        refine ev_if (c := v7 = 0) rfl (fun _ => rfl) (fun hc => ?_) (fun hc => ?_)
        · replace h := h.1 hc
          refine ev_n 1 (fun _ => rfl) ?_
          exact v_zret (by decide) rfl h
        · replace h := h.2 hc
          refine ev_n 2 (fun _ => rfl) ?_
          obtain ⟨v9, σ8, hf, h⟩ := h
          refine ev_go rfl (w_callV rfl rfl rfl (Nat.le_of_ble_eq_true rfl) hf) ?_
          refine ev_if (c := v9 = 0) rfl (fun _ => rfl) (fun hc => ?_) (fun hc => ?_)
          · replace h := h.1 hc
            refine ev_n 1 (fun _ => rfl) ?_
            exact v_zret (by decide) rfl h
          · replace h := h.2 hc
            refine ev_n 2 (fun _ => rfl) ?_
            exact v_zret (by decide) rfl h
      · replace h := h.2 hc
        refine ev_n 1 (fun _ => rfl) ?_
        obtain ⟨v11, σ10, hf, h⟩ := h
        refine ev_go rfl (w_callV rfl rfl rfl (Nat.le_of_ble_eq_true rfl) hf) ?_
        refine ev_if (c := v11 = 0) rfl (fun _ => rfl) (fun hc => ?_) (fun hc => ?_)
        · replace h := h.1 hc
          refine ev_n 1 (fun _ => rfl) ?_
          exact v_zret (by decide) rfl h
        · replace h := h.2 hc
          refine ev_n 1 (fun _ => rfl) ?_
          obtain ⟨v13, σ12, hf, h⟩ := h
          refine ev_go rfl (w_callV rfl rfl rfl (Nat.le_of_ble_eq_true rfl) hf) ?_
          refine ev_if (c := v13 = 0) rfl (fun _ => rfl) (fun hc => ?_) (fun hc => ?_)
          · replace h := h.1 hc
            refine ev_n 1 (fun _ => rfl) ?_
            exact v_zret (by decide) rfl h
          · replace h := h.2 hc
            refine ev_n 2 (fun _ => rfl) ?_
            exact v_zret (by decide) rfl h
  · replace h := h.2 hc
    refine ev_n 2 (fun _ => rfl) ?_
    obtain ⟨v15, σ14, hf, h⟩ := h
    refine ev_go rfl (w_callV rfl rfl rfl (Nat.le_of_ble_eq_true rfl) hf) ?_
    exact v_zret h.1 rfl h.2
set_option maxRecDepth 20000 in
theorem e_X12_readLine_127 {x1 : Int32} {y0 : Int32} {y1 : Int32} {σ : St_} {out : Out_}  (h : (∃ (v2 : Int32) (σ1 : St_), f_X12_readNumber KC [.ref 219, .int y1, .int y0] σ = some (some (.int v2), σ1) ∧ ((v2 = 0 → out = (some (.int (0 : Int32)), σ1)) ∧ (¬ (v2 = 0) → ((x1 = (2 : Int32) → (vpin_ (2 : Int32) 390 = true) ∧ (∃ (v4 : Int32) (σ3 : St_), f_X12_readEnd KC [.ref 219] (sI_ σ1 222 (Int32.toNatClampNeg (2 : Int32)) (σ1.1 219 13)) = some (some (.int v4), σ3) ∧ (v4 = 0 ∨ v4 = 1) ∧ out = (some (.int v4), σ3))) ∧ (¬ (x1 = (2 : Int32)) → (vpin_ (3 : Int32) 390 = true) ∧ (∃ (v6 : Int32) (σ5 : St_), f_X12_readEnd KC [.ref 219] (sI_ σ1 222 (Int32.toNatClampNeg (3 : Int32)) (σ1.1 219 13)) = some (some (.int v6), σ5) ∧ (v6 = 0 ∨ v6 = 1) ∧ out = (some (.int v6), σ5)))))))) : Ev_ (P_X12_readLine KC) 127 [some (.ref 219), some (.int x1)] [.int y0, .int y1, .ref 219] σ out := by
  obtain ⟨v2, σ1, hf, h⟩ := h
  refine ev_go rfl (w_callV rfl rfl rfl (Nat.le_of_ble_eq_true rfl) hf) ?_
  refine ev_if (c := v2 = 0) rfl (fun _ => rfl) (fun hc => ?_) (fun hc => ?_)
  · replace h := h.1 hc
    refine ev_n 1 (fun _ => rfl) ?_
    exact v_zret (by decide) rfl h
  · replace h := h.2 hc
    refine ev_n 1 (fun _ => rfl) ?_
    refine ev_go rfl (w_gF rfl rfl) ?_
    refine ev_n 2 (fun _ => rfl) ?_
    refine ev_if (c := x1 = (2 : Int32)) rfl (fun _ => rfl) (fun hc => ?_) (fun hc => ?_)
    · replace h := h.1 hc
      refine ev_n 3 (fun _ => rfl) ?_
      refine ev_go rfl (w_gI rfl) ?_
      obtain ⟨h0, h⟩ := h
      refine ev_go rfl (w_iast rfl h0) ?_
      refine ev_n 1 (fun _ => rfl) ?_
      obtain ⟨v4, σ3, hf, h⟩ := h
      refine ev_go rfl (w_callV rfl rfl rfl (Nat.le_of_ble_eq_true rfl) hf) ?_
      exact v_zret h.1 rfl h.2
    · replace h := h.2 hc
      refine ev_n 2 (fun _ => rfl) ?_
      refine ev_go rfl (w_gI rfl) ?_
      obtain ⟨h0, h⟩ := h
      refine ev_go rfl (w_iast rfl h0) ?_
      refine ev_n 1 (fun _ => rfl) ?_
      obtain ⟨v6, σ5, hf, h⟩ := h
      refine ev_go rfl (w_callV rfl rfl rfl (Nat.le_of_ble_eq_true rfl) hf) ?_
      exact v_zret h.1 rfl h.2
theorem m_X12_readLine : ∀ pc o, (P_X12_readLine KC).lookup pc = some o → Mon_ o := all_mon (a_X12_readLine (l := launch0) (E := EC0) EC0_ok)
theorem z_X12_readLine  {σ : St_} {out : Out_} (h : Ev_ (P_X12_readLine KC) 0 [some (.ref 219), none] [] σ out) : f_X12_readLine KC [.ref 219] σ = some out := fn_eq m_X12_readLine rfl h
