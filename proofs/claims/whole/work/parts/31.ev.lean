set_option maxRecDepth 20000 in
theorem e_X1_leaveOut_0 {b : Nat} {σ : St_} {out : Out_} (hb : isB b) (h : Ev_ (P_X1_leaveOut KC) 14 [some (.ref 133), some (.ref b), some (.int (0 : Int32)), some (.int (0 : Int32)), none] [] (sI_ (sR_ σ 133 8 (some b)) 133 9 (0 : Int32)) out) : Ev_ (P_X1_leaveOut KC) 0 [some (.ref 133), some (.ref b), none, none, none] [] σ out := by
  refine ev_n 2 (fun _ => rfl) ?_
  refine ev_go rfl (w_pR rfl) ?_
  refine ev_n 2 (fun _ => rfl) ?_
  refine ev_go rfl (w_pI rfl) ?_
  refine ev_n 4 (fun _ => rfl) ?_
  exact h
set_option maxRecDepth 20000 in
theorem e_X1_leaveOut_14 {b : Nat} {x2 : Int32} {x3 : Int32} {σ : St_} {out : Out_} (hb : isB b) (h : (∃ b1, σ.2.2 133 8 = some b1 ∧ isB b1 ∧ (((σ.1 b1 12) ≤ x3 → Ev_ (P_X1_leaveOut KC) 79 [some (.ref 133), some (.ref b), some (.int x2), some (.int (0 : Int32)), none] [] (sI_ σ 133 0 (0 : Int32)) out) ∧ (¬ ((σ.1 b1 12) ≤ x3) → (vpin_ x3 9 = true) ∧ (vpin_ x3 9 = true) ∧ (vpin_ x2 9 = true) ∧ ((((sI_ σ 133 9 ((σ.1 133 9) + (σ.1 (b1 + 26) (Int32.toNatClampNeg x3)))).1 (b1 + 23) (Int32.toNatClampNeg x3)) ≤ ((sI_ σ 133 9 ((σ.1 133 9) + (σ.1 (b1 + 26) (Int32.toNatClampNeg x3)))).1 (b1 + 23) (Int32.toNatClampNeg x2)) → Ev_ (P_X1_leaveOut KC) 14 [some (.ref 133), some (.ref b), some (.int x2), some (.int (x3 + 1)), none] [] (sI_ σ 133 9 ((σ.1 133 9) + (σ.1 (b1 + 26) (Int32.toNatClampNeg x3)))) out) ∧ (¬ (((sI_ σ 133 9 ((σ.1 133 9) + (σ.1 (b1 + 26) (Int32.toNatClampNeg x3)))).1 (b1 + 23) (Int32.toNatClampNeg x3)) ≤ ((sI_ σ 133 9 ((σ.1 133 9) + (σ.1 (b1 + 26) (Int32.toNatClampNeg x3)))).1 (b1 + 23) (Int32.toNatClampNeg x2))) → Ev_ (P_X1_leaveOut KC) 14 [some (.ref 133), some (.ref b), some (.int x3), some (.int (x3 + 1)), none] [] (sI_ σ 133 9 ((σ.1 133 9) + (σ.1 (b1 + 26) (Int32.toNatClampNeg x3)))) out)))))) : Ev_ (P_X1_leaveOut KC) 14 [some (.ref 133), some (.ref b), some (.int x2), some (.int x3), none] [] σ out := by
  refine ev_n 2 (fun _ => rfl) ?_
  obtain ⟨b1, eb1, hb1, h⟩ := h
  refine ev_go rfl (w_gR rfl eb1) ?_
  refine ev_go rfl (w_gI (kb_0 hb1)) ?_
  refine ev_if (c := (σ.1 b1 12) ≤ x3) rfl (fun _ => rfl) (fun hc => ?_) (fun hc => ?_)
  · replace h := h.1 hc
    refine ev_n 2 (fun _ => rfl) ?_
    refine ev_go rfl (w_pI rfl) ?_
    refine ev_n 2 (fun _ => rfl) ?_
    exact h
  · replace h := h.2 hc
    refine ev_n 2 (fun _ => rfl) ?_
    refine ev_go rfl (w_gI rfl) ?_
    refine ev_n 1 (fun _ => rfl) ?_
    refine ev_go rfl (w_gR (z := b1) rfl eb1) ?_
    refine ev_go rfl (w_gF (kb_0 hb1) (kb_r9 hb1)) ?_
    refine ev_n 1 (fun _ => rfl) ?_
    obtain ⟨h0, h⟩ := h
    refine ev_go rfl (w_iald (kb_k9 hb1) h0) ?_
    refine ev_n 1 (fun _ => rfl) ?_
    refine ev_go rfl (w_pI rfl) ?_
    refine ev_n 1 (fun _ => rfl) ?_
    refine ev_go rfl (w_gR (z := b1) rfl eb1) ?_
    refine ev_go rfl (w_gF (kb_0 hb1) (kb_r6 hb1)) ?_
    refine ev_n 1 (fun _ => rfl) ?_
    obtain ⟨h0, h⟩ := h
    refine ev_go rfl (w_iald (kb_k6 hb1) h0) ?_
    refine ev_n 1 (fun _ => rfl) ?_
    refine ev_go rfl (w_gR (z := b1) rfl eb1) ?_
    refine ev_go rfl (w_gF (kb_0 hb1) (kb_r6 hb1)) ?_
    refine ev_n 1 (fun _ => rfl) ?_
    obtain ⟨h0, h⟩ := h
    refine ev_go rfl (w_iald (kb_k6 hb1) h0) ?_
    refine ev_if (c := ((sI_ σ 133 9 ((σ.1 133 9) + (σ.1 (b1 + 26) (Int32.toNatClampNeg x3)))).1 (b1 + 23) (Int32.toNatClampNeg x3)) ≤ ((sI_ σ 133 9 ((σ.1 133 9) + (σ.1 (b1 + 26) (Int32.toNatClampNeg x3)))).1 (b1 + 23) (Int32.toNatClampNeg x2))) rfl (fun _ => rfl) (fun hc => ?_) (fun hc => ?_)
    · replace h := h.1 hc
      refine ev_n 2 (fun _ => rfl) ?_
      exact h
    · replace h := h.2 hc
      refine ev_n 4 (fun _ => rfl) ?_
      exact h
set_option maxRecDepth 20000 in
theorem e_X1_leaveOut_79 {b : Nat} {x2 : Int32} {x3 : Int32} {σ : St_} {out : Out_} (hb : isB b) (h : (∃ b1, σ.2.2 133 8 = some b1 ∧ isB b1 ∧ (((σ.1 b1 11) ≤ x3 → (∃ (σ2 : St_), f_X1_tryLeaving KC 80 [.ref 133, .int (((sI_ (sI_ σ 133 0 ((σ.1 133 0) + (1 : Int32))) 133 1 (0 : Int32)).1 b1 11) - (1 : Int32)), .int ((sI_ (sI_ σ 133 0 ((σ.1 133 0) + (1 : Int32))) 133 1 (0 : Int32)).1 133 9), .int (0 : Int32), .int (0 : Int32), .int (0 : Int32)] (sI_ (sI_ σ 133 0 ((σ.1 133 0) + (1 : Int32))) 133 1 (0 : Int32)) = some (none, σ2) ∧ out = (none, σ2))) ∧ (¬ ((σ.1 b1 11) ≤ x3) → (∃ (v4 : Int32) (σ3 : St_), f_X0_readTime KC [.ref b1, .int x2, .int x3] σ = some (some (.int v4), σ3) ∧ (vpin_ x3 16 = true) ∧ (∃ b5, (sI_ σ3 137 (Int32.toNatClampNeg x3) v4).2.2 133 8 = some b5 ∧ isB b5 ∧ (vpin_ x3 16 = true) ∧ (vpin_ x3 16 = true) ∧ Ev_ (P_X1_leaveOut KC) 133 [some (.ref 133), some (.ref b), some (.int x2), some (.int x3), some (.int (0 : Int32))] [] (sI_ (sI_ (sI_ σ3 137 (Int32.toNatClampNeg x3) v4) 133 0 (((sI_ σ3 137 (Int32.toNatClampNeg x3) v4).1 133 0) + ((sI_ σ3 137 (Int32.toNatClampNeg x3) v4).1 (b5 + 3) (Int32.toNatClampNeg x3)))) 138 (Int32.toNatClampNeg x3) (0 : Int32)) out)))))) : Ev_ (P_X1_leaveOut KC) 79 [some (.ref 133), some (.ref b), some (.int x2), some (.int x3), none] [] σ out := by
  refine ev_n 2 (fun _ => rfl) ?_
  obtain ⟨b1, eb1, hb1, h⟩ := h
  refine ev_go rfl (w_gR rfl eb1) ?_
  refine ev_go rfl (w_gI (kb_0 hb1)) ?_
  refine ev_if (c := (σ.1 b1 11) ≤ x3) rfl (fun _ => rfl) (fun hc => ?_) (fun hc => ?_)
  · replace h := h.1 hc
    refine ev_n 2 (fun _ => rfl) ?_
    refine ev_go rfl (w_gI rfl) ?_
    refine ev_n 2 (fun _ => rfl) ?_
    refine ev_go rfl (w_pI rfl) ?_
    refine ev_n 2 (fun _ => rfl) ?_
    refine ev_go rfl (w_pI rfl) ?_
    refine ev_n 2 (fun _ => rfl) ?_
    refine ev_go rfl (w_gR (z := b1) rfl eb1) ?_
    refine ev_go rfl (w_gI (kb_0 hb1)) ?_
    refine ev_n 3 (fun _ => rfl) ?_
    refine ev_go rfl (w_gI rfl) ?_
    refine ev_n 3 (fun _ => rfl) ?_
    obtain ⟨σ2, hf, h⟩ := h
    refine ev_go rfl (w_callV rfl rfl rfl (Nat.le_of_ble_eq_true rfl) hf) ?_
    exact ev_ret rfl (fun _ => rfl) h
  · replace h := h.2 hc
    refine ev_n 1 (fun _ => rfl) ?_
    refine ev_go rfl (w_gF rfl rfl) ?_
    refine ev_n 2 (fun _ => rfl) ?_
    refine ev_go rfl (w_gR (z := b1) rfl eb1) ?_
    refine ev_n 2 (fun _ => rfl) ?_
    obtain ⟨v4, σ3, hf, h⟩ := h
    refine ev_go rfl (w_callV rfl rfl (kb_0 hb1) (Nat.le_of_ble_eq_true rfl) hf) ?_
    obtain ⟨h0, h⟩ := h
    refine ev_go rfl (w_iast rfl h0) ?_
    refine ev_n 2 (fun _ => rfl) ?_
    refine ev_go rfl (w_gI rfl) ?_
    refine ev_n 1 (fun _ => rfl) ?_
    obtain ⟨b5, eb5, hb5, h⟩ := h
    refine ev_go rfl (w_gR rfl eb5) ?_
    refine ev_go rfl (w_gF (kb_0 hb5) (kb_r2 hb5)) ?_
    refine ev_n 1 (fun _ => rfl) ?_
    obtain ⟨h0, h⟩ := h
    refine ev_go rfl (w_iald (kb_k2 hb5) h0) ?_
    refine ev_n 1 (fun _ => rfl) ?_
    refine ev_go rfl (w_pI rfl) ?_
    refine ev_n 1 (fun _ => rfl) ?_
    refine ev_go rfl (w_gF rfl rfl) ?_
    refine ev_n 2 (fun _ => rfl) ?_
    obtain ⟨h0, h⟩ := h
    refine ev_go rfl (w_iast rfl h0) ?_
    refine ev_n 2 (fun _ => rfl) ?_
    exact h
set_option maxRecDepth 20000 in
theorem e_X1_leaveOut_133 {b : Nat} {x2 : Int32} {x3 : Int32} {x4 : Int32} {σ : St_} {out : Out_} (hb : isB b) (h : ((x3 ≤ x4 → Ev_ (P_X1_leaveOut KC) 79 [some (.ref 133), some (.ref b), some (.int x2), some (.int (x3 + 1)), none] [] σ out) ∧ (¬ (x3 ≤ x4) → (∃ b1, σ.2.2 133 8 = some b1 ∧ isB b1 ∧ (vpin_ x3 16 = true) ∧ (vpin_ x4 16 = true) ∧ (((σ.1 (b1 + 6 + Int32.toNatClampNeg x3) (Int32.toNatClampNeg x4)) < (5 : Int32) → Ev_ (P_X1_leaveOut KC) 133 [some (.ref 133), some (.ref b), some (.int x2), some (.int x3), some (.int (x4 + 1))] [] σ out) ∧ (¬ ((σ.1 (b1 + 6 + Int32.toNatClampNeg x3) (Int32.toNatClampNeg x4)) < (5 : Int32)) → (vpin_ x3 16 = true) ∧ (vpin_ x3 16 = true) ∧ Ev_ (P_X1_leaveOut KC) 133 [some (.ref 133), some (.ref b), some (.int x2), some (.int x3), some (.int (x4 + 1))] [] (sI_ σ 138 (Int32.toNatClampNeg x3) ((σ.1 138 (Int32.toNatClampNeg x3)) ||| ((1 : Int32) <<< (x4 &&& 31)))) out)))))) : Ev_ (P_X1_leaveOut KC) 133 [some (.ref 133), some (.ref b), some (.int x2), some (.int x3), some (.int x4)] [] σ out := by
  refine ev_n 2 (fun _ => rfl) ?_
  refine ev_if (c := x3 ≤ x4) rfl (fun _ => rfl) (fun hc => ?_) (fun hc => ?_)
  · replace h := h.1 hc
    refine ev_n 2 (fun _ => rfl) ?_
    exact h
  · replace h := h.2 hc
    refine ev_n 1 (fun _ => rfl) ?_
    obtain ⟨b1, eb1, hb1, h⟩ := h
    refine ev_go rfl (w_gR rfl eb1) ?_
    refine ev_go rfl (w_gF (kb_0 hb1) (kb_r4 hb1)) ?_
    refine ev_n 1 (fun _ => rfl) ?_
    obtain ⟨hv2, h⟩ := h
    refine ev_go rfl (w_aald (kb_k4 hb1) (by decide) hv2 (kb_row hb1 _ (vpin_lt hv2))) ?_
    refine ev_n 1 (fun _ => rfl) ?_
    obtain ⟨h0, h⟩ := h
    refine ev_go rfl (w_iald (kb_rk hb1 _ (vpin_lt hv2)) h0) ?_
    refine ev_n 1 (fun _ => rfl) ?_
    refine ev_if (c := (σ.1 (b1 + 6 + Int32.toNatClampNeg x3) (Int32.toNatClampNeg x4)) < (5 : Int32)) rfl (fun _ => rfl) (fun hc => ?_) (fun hc => ?_)
    · replace h := h.1 hc
      refine ev_n 2 (fun _ => rfl) ?_
      exact h
    · replace h := h.2 hc
      refine ev_n 1 (fun _ => rfl) ?_
      refine ev_go rfl (w_gF rfl rfl) ?_
      refine ev_n 2 (fun _ => rfl) ?_
      obtain ⟨h0, h⟩ := h
      refine ev_go rfl (w_iald rfl h0) ?_
      refine ev_n 4 (fun _ => rfl) ?_
      obtain ⟨h0, h⟩ := h
      refine ev_go rfl (w_iast rfl h0) ?_
      refine ev_n 2 (fun _ => rfl) ?_
      exact h
theorem m_X1_leaveOut : ∀ pc o, (P_X1_leaveOut KC).lookup pc = some o → Mon_ o := all_mon (a_X1_leaveOut (l := launch0) (E := EC0) EC0_ok)
theorem z_X1_leaveOut {b : Nat} {σ : St_} {out : Out_} (h : Ev_ (P_X1_leaveOut KC) 0 [some (.ref 133), some (.ref b), none, none, none] [] σ out) : f_X1_leaveOut KC [.ref 133, .ref b] σ = some out := fn_eq m_X1_leaveOut rfl h
set_option maxRecDepth 20000 in
theorem e_J6_bitCount_0f7a4_0 {x0 : Int32} {σ : St_} {out : Out_}  (h : out = (some (.int ((((((((x0 - ((Int32.toUInt32 x0 >>> (Int32.toUInt32 (1 : Int32) &&& Int32.toUInt32 31)).toInt32 &&& (1431655765 : Int32))) &&& (858993459 : Int32)) + ((Int32.toUInt32 (x0 - ((Int32.toUInt32 x0 >>> (Int32.toUInt32 (1 : Int32) &&& Int32.toUInt32 31)).toInt32 &&& (1431655765 : Int32))) >>> (Int32.toUInt32 (2 : Int32) &&& Int32.toUInt32 31)).toInt32 &&& (858993459 : Int32))) + (Int32.toUInt32 (((x0 - ((Int32.toUInt32 x0 >>> (Int32.toUInt32 (1 : Int32) &&& Int32.toUInt32 31)).toInt32 &&& (1431655765 : Int32))) &&& (858993459 : Int32)) + ((Int32.toUInt32 (x0 - ((Int32.toUInt32 x0 >>> (Int32.toUInt32 (1 : Int32) &&& Int32.toUInt32 31)).toInt32 &&& (1431655765 : Int32))) >>> (Int32.toUInt32 (2 : Int32) &&& Int32.toUInt32 31)).toInt32 &&& (858993459 : Int32))) >>> (Int32.toUInt32 (4 : Int32) &&& Int32.toUInt32 31)).toInt32) &&& (252645135 : Int32)) + (Int32.toUInt32 (((((x0 - ((Int32.toUInt32 x0 >>> (Int32.toUInt32 (1 : Int32) &&& Int32.toUInt32 31)).toInt32 &&& (1431655765 : Int32))) &&& (858993459 : Int32)) + ((Int32.toUInt32 (x0 - ((Int32.toUInt32 x0 >>> (Int32.toUInt32 (1 : Int32) &&& Int32.toUInt32 31)).toInt32 &&& (1431655765 : Int32))) >>> (Int32.toUInt32 (2 : Int32) &&& Int32.toUInt32 31)).toInt32 &&& (858993459 : Int32))) + (Int32.toUInt32 (((x0 - ((Int32.toUInt32 x0 >>> (Int32.toUInt32 (1 : Int32) &&& Int32.toUInt32 31)).toInt32 &&& (1431655765 : Int32))) &&& (858993459 : Int32)) + ((Int32.toUInt32 (x0 - ((Int32.toUInt32 x0 >>> (Int32.toUInt32 (1 : Int32) &&& Int32.toUInt32 31)).toInt32 &&& (1431655765 : Int32))) >>> (Int32.toUInt32 (2 : Int32) &&& Int32.toUInt32 31)).toInt32 &&& (858993459 : Int32))) >>> (Int32.toUInt32 (4 : Int32) &&& Int32.toUInt32 31)).toInt32) &&& (252645135 : Int32)) >>> (Int32.toUInt32 (8 : Int32) &&& Int32.toUInt32 31)).toInt32) + (Int32.toUInt32 ((((((x0 - ((Int32.toUInt32 x0 >>> (Int32.toUInt32 (1 : Int32) &&& Int32.toUInt32 31)).toInt32 &&& (1431655765 : Int32))) &&& (858993459 : Int32)) + ((Int32.toUInt32 (x0 - ((Int32.toUInt32 x0 >>> (Int32.toUInt32 (1 : Int32) &&& Int32.toUInt32 31)).toInt32 &&& (1431655765 : Int32))) >>> (Int32.toUInt32 (2 : Int32) &&& Int32.toUInt32 31)).toInt32 &&& (858993459 : Int32))) + (Int32.toUInt32 (((x0 - ((Int32.toUInt32 x0 >>> (Int32.toUInt32 (1 : Int32) &&& Int32.toUInt32 31)).toInt32 &&& (1431655765 : Int32))) &&& (858993459 : Int32)) + ((Int32.toUInt32 (x0 - ((Int32.toUInt32 x0 >>> (Int32.toUInt32 (1 : Int32) &&& Int32.toUInt32 31)).toInt32 &&& (1431655765 : Int32))) >>> (Int32.toUInt32 (2 : Int32) &&& Int32.toUInt32 31)).toInt32 &&& (858993459 : Int32))) >>> (Int32.toUInt32 (4 : Int32) &&& Int32.toUInt32 31)).toInt32) &&& (252645135 : Int32)) + (Int32.toUInt32 (((((x0 - ((Int32.toUInt32 x0 >>> (Int32.toUInt32 (1 : Int32) &&& Int32.toUInt32 31)).toInt32 &&& (1431655765 : Int32))) &&& (858993459 : Int32)) + ((Int32.toUInt32 (x0 - ((Int32.toUInt32 x0 >>> (Int32.toUInt32 (1 : Int32) &&& Int32.toUInt32 31)).toInt32 &&& (1431655765 : Int32))) >>> (Int32.toUInt32 (2 : Int32) &&& Int32.toUInt32 31)).toInt32 &&& (858993459 : Int32))) + (Int32.toUInt32 (((x0 - ((Int32.toUInt32 x0 >>> (Int32.toUInt32 (1 : Int32) &&& Int32.toUInt32 31)).toInt32 &&& (1431655765 : Int32))) &&& (858993459 : Int32)) + ((Int32.toUInt32 (x0 - ((Int32.toUInt32 x0 >>> (Int32.toUInt32 (1 : Int32) &&& Int32.toUInt32 31)).toInt32 &&& (1431655765 : Int32))) >>> (Int32.toUInt32 (2 : Int32) &&& Int32.toUInt32 31)).toInt32 &&& (858993459 : Int32))) >>> (Int32.toUInt32 (4 : Int32) &&& Int32.toUInt32 31)).toInt32) &&& (252645135 : Int32)) >>> (Int32.toUInt32 (8 : Int32) &&& Int32.toUInt32 31)).toInt32) >>> (Int32.toUInt32 (16 : Int32) &&& Int32.toUInt32 31)).toInt32) &&& (63 : Int32))), σ)) : Ev_ (P_J6_bitCount_0f7a4 KC) 0 [some (.int x0)] [] σ out := by
  refine ev_n 8 (fun _ => rfl) ?_
  refine ev_n 8 (fun _ => rfl) ?_
  refine ev_n 8 (fun _ => rfl) ?_
  refine ev_n 8 (fun _ => rfl) ?_
  refine ev_n 8 (fun _ => rfl) ?_
  refine ev_n 1 (fun _ => rfl) ?_
  exact ev_ret rfl (fun _ => rfl) h
theorem m_J6_bitCount_0f7a4 : ∀ pc o, (P_J6_bitCount_0f7a4 KC).lookup pc = some o → Mon_ o := all_mon (a_J6_bitCount_0f7a4 (l := launch0) (E := EC0) EC0_ok)
theorem z_J6_bitCount_0f7a4 {x0 : Int32} {σ : St_} {out : Out_} (h : Ev_ (P_J6_bitCount_0f7a4 KC) 0 [some (.int x0)] [] σ out) : f_J6_bitCount_0f7a4 KC [.int x0] σ = some out := fn_eq m_J6_bitCount_0f7a4 rfl h
set_option maxRecDepth 20000 in
theorem e_X8_byteAt_0 {x1 : Int32} {σ : St_} {out : Out_}  (h : ((x1 < 0 → out = (some (.int (0 : Int32)), σ)) ∧ (¬ (x1 < 0) → ((x1 < (1040 : Int32) → (vpin_ x1 1040 = true) ∧ out = (some (.int ((σ.1 2 (Int32.toNatClampNeg x1)) &&& (255 : Int32))), σ)) ∧ (¬ (x1 < (1040 : Int32)) → out = (some (.int (0 : Int32)), σ)))))) : Ev_ (P_X8_byteAt KC) 0 [some (.ref 1), some (.int x1)] [] σ out := by
  refine ev_n 1 (fun _ => rfl) ?_
  refine ev_if (c := x1 < 0) rfl (fun _ => rfl) (fun hc => ?_) (fun hc => ?_)
  · replace h := h.1 hc
    refine ev_n 2 (fun _ => rfl) ?_
    exact ev_ret rfl (fun _ => rfl) h
  · replace h := h.2 hc
    refine ev_n 2 (fun _ => rfl) ?_
    refine ev_if (c := x1 < (1040 : Int32)) rfl (fun _ => rfl) (fun hc => ?_) (fun hc => ?_)
    · replace h := h.1 hc
      refine ev_n 1 (fun _ => rfl) ?_
      refine ev_go rfl (w_gF rfl rfl) ?_
      refine ev_n 1 (fun _ => rfl) ?_
      obtain ⟨h0, h⟩ := h
      refine ev_go rfl (w_bald rfl h0) ?_
      refine ev_n 2 (fun _ => rfl) ?_
      exact ev_ret rfl (fun _ => rfl) h
    · replace h := h.2 hc
      refine ev_n 2 (fun _ => rfl) ?_
      exact ev_ret rfl (fun _ => rfl) h
theorem m_X8_byteAt : ∀ pc o, (P_X8_byteAt KC).lookup pc = some o → Mon_ o := all_mon (a_X8_byteAt (l := launch0) (E := EC0) EC0_ok)
theorem z_X8_byteAt {x1 : Int32} {σ : St_} {out : Out_} (h : Ev_ (P_X8_byteAt KC) 0 [some (.ref 1), some (.int x1)] [] σ out) : f_X8_byteAt KC [.ref 1, .int x1] σ = some out := fn_eq m_X8_byteAt rfl h
set_option maxRecDepth 20000 in
theorem e_X1_readQuestions_0 {x2 : Int32} {x3 : Int32} {σ : St_} {out : Out_}  (h : ((x2 < (1 : Int32) → out = (some (.int (0 : Int32)), σ)) ∧ (¬ (x2 < (1 : Int32)) → ((x2 ≤ (10 : Int32) → Ev_ (P_X1_readQuestions KC) 16 [some (.ref 133), some (.ref 1), some (.int x2), some (.int x3), some (.int (0 : Int32)), none] [] σ out) ∧ (¬ (x2 ≤ (10 : Int32)) → out = (some (.int (0 : Int32)), σ)))))) : Ev_ (P_X1_readQuestions KC) 0 [some (.ref 133), some (.ref 1), some (.int x2), some (.int x3), none, none] [] σ out := by
  refine ev_n 2 (fun _ => rfl) ?_
  refine ev_if (c := x2 < (1 : Int32)) rfl (fun _ => rfl) (fun hc => ?_) (fun hc => ?_)
  · replace h := h.1 hc
    refine ev_n 1 (fun _ => rfl) ?_
    exact v_zret (by decide) rfl h
  · replace h := h.2 hc
    refine ev_n 2 (fun _ => rfl) ?_
    refine ev_if (c := x2 ≤ (10 : Int32)) rfl (fun _ => rfl) (fun hc => ?_) (fun hc => ?_)
    · replace h := h.1 hc
      refine ev_n 2 (fun _ => rfl) ?_
      exact h
    · replace h := h.2 hc
      refine ev_n 1 (fun _ => rfl) ?_
      exact v_zret (by decide) rfl h
set_option maxRecDepth 20000 in
theorem e_X1_readQuestions_16 {x2 : Int32} {x3 : Int32} {x4 : Int32} {σ : St_} {out : Out_}  (h : ((x2 ≤ x4 → out = (some (.int (1 : Int32)), σ)) ∧ (¬ (x2 ≤ x4) → (∃ (v2 : Int32) (σ1 : St_), f_X8_byteAt KC [.ref 1, .int ((2 : Int32) * x4)] σ = some (some (.int v2), σ1) ∧ (∃ (v4 : Int32) (σ3 : St_), f_X8_byteAt KC [.ref 1, .int (((2 : Int32) * x4) + (1 : Int32))] σ1 = some (some (.int v4), σ3) ∧ (((((v2 <<< ((8 : Int32) &&& 31)) ||| v4) >>> (x3 &&& 31)) = 0 → (vpin_ ((1 : Int32) <<< (x4 &&& 31)) 1024 = true) ∧ Ev_ (P_X1_readQuestions KC) 16 [some (.ref 133), some (.ref 1), some (.int x2), some (.int x3), some (.int (x4 + 1)), none] [] (sI_ σ3 136 (Int32.toNatClampNeg ((1 : Int32) <<< (x4 &&& 31))) ((v2 <<< ((8 : Int32) &&& 31)) ||| v4)) out) ∧ (¬ ((((v2 <<< ((8 : Int32) &&& 31)) ||| v4) >>> (x3 &&& 31)) = 0) → out = (some (.int (0 : Int32)), σ3)))))))) : Ev_ (P_X1_readQuestions KC) 16 [some (.ref 133), some (.ref 1), some (.int x2), some (.int x3), some (.int x4), none] [] σ out := by
  refine ev_n 2 (fun _ => rfl) ?_
  refine ev_if (c := x2 ≤ x4) rfl (fun _ => rfl) (fun hc => ?_) (fun hc => ?_)
  · replace h := h.1 hc
    refine ev_n 1 (fun _ => rfl) ?_
    exact v_zret (by decide) rfl h
  · replace h := h.2 hc
    refine ev_n 4 (fun _ => rfl) ?_
    obtain ⟨v2, σ1, hf, h⟩ := h
    refine ev_go rfl (w_callV rfl rfl rfl (Nat.le_of_ble_eq_true rfl) hf) ?_
    refine ev_n 8 (fun _ => rfl) ?_
    obtain ⟨v4, σ3, hf, h⟩ := h
    refine ev_go rfl (w_callV rfl rfl rfl (Nat.le_of_ble_eq_true rfl) hf) ?_
    refine ev_n 5 (fun _ => rfl) ?_
    refine ev_if (c := (((v2 <<< ((8 : Int32) &&& 31)) ||| v4) >>> (x3 &&& 31)) = 0) rfl (fun _ => rfl) (fun hc => ?_) (fun hc => ?_)
    · replace h := h.1 hc
      refine ev_n 1 (fun _ => rfl) ?_
      refine ev_go rfl (w_gF rfl rfl) ?_
      refine ev_n 4 (fun _ => rfl) ?_
      obtain ⟨h0, h⟩ := h
      refine ev_go rfl (w_iast rfl h0) ?_
      refine ev_n 2 (fun _ => rfl) ?_
      exact h
    · replace h := h.2 hc
      refine ev_n 1 (fun _ => rfl) ?_
      exact v_zret (by decide) rfl h
theorem m_X1_readQuestions : ∀ pc o, (P_X1_readQuestions KC).lookup pc = some o → Mon_ o := all_mon (a_X1_readQuestions (l := launch0) (E := EC0) EC0_ok)
theorem z_X1_readQuestions {x2 : Int32} {x3 : Int32} {σ : St_} {out : Out_} (h : Ev_ (P_X1_readQuestions KC) 0 [some (.ref 133), some (.ref 1), some (.int x2), some (.int x3), none, none] [] σ out) : f_X1_readQuestions KC [.ref 133, .ref 1, .int x2, .int x3] σ = some out := fn_eq m_X1_readQuestions rfl h
set_option maxRecDepth 20000 in
theorem e_X1_askFewest_0 {x2 : Int32} {x3 : Int32} {x4 : Int32} {σ : St_} {out : Out_}  (h : (∃ (v2 : Int32) (σ1 : St_), f_X1_readQuestions KC [.ref 133, .ref 1, .int x2, .int x3] σ = some (some (.int v2), σ1) ∧ ((v2 = 0 → out = (some (.int ((-2) : Int32)), σ1)) ∧ (¬ (v2 = 0) → (vpin_ (0 : Int32) 1024 = true) ∧ Ev_ (P_X1_askFewest KC) 30 [some (.ref 133), some (.ref 1), some (.int x2), some (.int x3), some (.int x4), some (.int (11 : Int32)), some (.int ((-1) : Int32)), some (.int (0 : Int32))] [] (sI_ σ1 136 (Int32.toNatClampNeg (0 : Int32)) (0 : Int32)) out)))) : Ev_ (P_X1_askFewest KC) 0 [some (.ref 133), some (.ref 1), some (.int x2), some (.int x3), some (.int x4), none, none, none] [] σ out := by
  refine ev_n 4 (fun _ => rfl) ?_
  obtain ⟨v2, σ1, hf, h⟩ := h
  refine ev_go rfl (w_callV rfl rfl rfl (Nat.le_of_ble_eq_true rfl) hf) ?_
  refine ev_if (c := v2 = 0) rfl (fun _ => rfl) (fun hc => ?_) (fun hc => ?_)
  · replace h := h.1 hc
    refine ev_n 1 (fun _ => rfl) ?_
    exact ev_ret rfl (fun _ => rfl) h
  · replace h := h.2 hc
    refine ev_n 5 (fun _ => rfl) ?_
    refine ev_go rfl (w_gF rfl rfl) ?_
    refine ev_n 2 (fun _ => rfl) ?_
    obtain ⟨h0, h⟩ := h
    refine ev_go rfl (w_iast rfl h0) ?_
    refine ev_n 2 (fun _ => rfl) ?_
    exact h
set_option maxRecDepth 20000 in
theorem e_X1_askFewest_30 {x2 : Int32} {x3 : Int32} {x4 : Int32} {x5 : Int32} {x6 : Int32} {x7 : Int32} {σ : St_} {out : Out_}  (h : ((((1 : Int32) <<< (x2 &&& 31)) ≤ x7 → ((x6 = ((-1) : Int32) → out = (some (.int ((-1) : Int32)), σ)) ∧ (¬ (x6 = ((-1) : Int32)) → out = (some (.int x5), (sI_ σ 133 2 x6))))) ∧ (¬ (((1 : Int32) <<< (x2 &&& 31)) ≤ x7) → ((x7 = 0 → Ev_ (P_X1_askFewest KC) 74 [some (.ref 133), some (.ref 1), some (.int x2), some (.int x3), some (.int x4), some (.int x5), some (.int x6), some (.int x7)] [] σ out) ∧ (¬ (x7 = 0) → (vpin_ (x7 &&& (x7 - (1 : Int32))) 1024 = true) ∧ (vpin_ (x7 &&& (-x7)) 1024 = true) ∧ (vpin_ x7 1024 = true) ∧ Ev_ (P_X1_askFewest KC) 74 [some (.ref 133), some (.ref 1), some (.int x2), some (.int x3), some (.int x4), some (.int x5), some (.int x6), some (.int x7)] [] (sI_ σ 136 (Int32.toNatClampNeg x7) ((σ.1 136 (Int32.toNatClampNeg (x7 &&& (x7 - (1 : Int32))))) ||| (σ.1 136 (Int32.toNatClampNeg (x7 &&& (-x7)))))) out))))) : Ev_ (P_X1_askFewest KC) 30 [some (.ref 133), some (.ref 1), some (.int x2), some (.int x3), some (.int x4), some (.int x5), some (.int x6), some (.int x7)] [] σ out := by
  refine ev_n 4 (fun _ => rfl) ?_
  refine ev_if (c := ((1 : Int32) <<< (x2 &&& 31)) ≤ x7) rfl (fun _ => rfl) (fun hc => ?_) (fun hc => ?_)
  · replace h := h.1 hc
    refine ev_n 2 (fun _ => rfl) ?_
    refine ev_if (c := x6 = ((-1) : Int32)) rfl (fun _ => rfl) (fun hc => ?_) (fun hc => ?_)
    · replace h := h.1 hc
      refine ev_n 1 (fun _ => rfl) ?_
      exact ev_ret rfl (fun _ => rfl) h
    · replace h := h.2 hc
      refine ev_n 2 (fun _ => rfl) ?_
      refine ev_go rfl (w_pI rfl) ?_
      refine ev_n 1 (fun _ => rfl) ?_
      exact ev_ret rfl (fun _ => rfl) h
  · replace h := h.2 hc
    refine ev_n 1 (fun _ => rfl) ?_
    refine ev_if (c := x7 = 0) rfl (fun _ => rfl) (fun hc => ?_) (fun hc => ?_)
    · replace h := h.1 hc
      exact h
    · replace h := h.2 hc
      refine ev_n 1 (fun _ => rfl) ?_
      refine ev_go rfl (w_gF rfl rfl) ?_
      refine ev_n 2 (fun _ => rfl) ?_
      refine ev_go rfl (w_gF rfl rfl) ?_
      refine ev_n 5 (fun _ => rfl) ?_
      obtain ⟨h0, h⟩ := h
      refine ev_go rfl (w_iald rfl h0) ?_
      refine ev_n 1 (fun _ => rfl) ?_
      refine ev_go rfl (w_gF rfl rfl) ?_
      refine ev_n 4 (fun _ => rfl) ?_
      obtain ⟨h0, h⟩ := h
      refine ev_go rfl (w_iald rfl h0) ?_
      refine ev_n 1 (fun _ => rfl) ?_
      obtain ⟨h0, h⟩ := h
      refine ev_go rfl (w_iast rfl h0) ?_
      exact h
set_option maxRecDepth 20000 in
theorem e_X1_askFewest_74 {x2 : Int32} {x3 : Int32} {x4 : Int32} {x5 : Int32} {x6 : Int32} {x7 : Int32} {σ : St_} {out : Out_}  (h : (vpin_ x7 1024 = true) ∧ (((x4 &&& ((σ.1 136 (Int32.toNatClampNeg x7)) ^^^ ((-1) : Int32))) = 0 → (∃ (v2 : Int32) (σ1 : St_), f_J6_bitCount_0f7a4 KC [.int x7] σ = some (some (.int v2), σ1) ∧ ((x5 ≤ v2 → Ev_ (P_X1_askFewest KC) 30 [some (.ref 133), some (.ref 1), some (.int x2), some (.int x3), some (.int x4), some (.int x5), some (.int x6), some (.int (x7 + 1))] [] σ1 out) ∧ (¬ (x5 ≤ v2) → (∃ (v4 : Int32) (σ3 : St_), f_J6_bitCount_0f7a4 KC [.int x7] σ1 = some (some (.int v4), σ3) ∧ Ev_ (P_X1_askFewest KC) 30 [some (.ref 133), some (.ref 1), some (.int x2), some (.int x3), some (.int x4), some (.int v4), some (.int x7), some (.int (x7 + 1))] [] σ3 out))))) ∧ (¬ ((x4 &&& ((σ.1 136 (Int32.toNatClampNeg x7)) ^^^ ((-1) : Int32))) = 0) → Ev_ (P_X1_askFewest KC) 30 [some (.ref 133), some (.ref 1), some (.int x2), some (.int x3), some (.int x4), some (.int x5), some (.int x6), some (.int (x7 + 1))] [] σ out))) : Ev_ (P_X1_askFewest KC) 74 [some (.ref 133), some (.ref 1), some (.int x2), some (.int x3), some (.int x4), some (.int x5), some (.int x6), some (.int x7)] [] σ out := by
  refine ev_n 2 (fun _ => rfl) ?_
  refine ev_go rfl (w_gF rfl rfl) ?_
  refine ev_n 1 (fun _ => rfl) ?_
  obtain ⟨h0, h⟩ := h
  refine ev_go rfl (w_iald rfl h0) ?_
  refine ev_n 3 (fun _ => rfl) ?_
  refine ev_if (c := (x4 &&& ((σ.1 136 (Int32.toNatClampNeg x7)) ^^^ ((-1) : Int32))) = 0) rfl (fun _ => rfl) (fun hc => ?_) (fun hc => ?_)
  · replace h := h.1 hc
    refine ev_n 1 (fun _ => rfl) ?_
    obtain ⟨v2, σ1, hf, h⟩ := h
    refine ev_go rfl (w_callS ⟨Nat.le_of_ble_eq_true rfl, Nat.le_of_ble_eq_true rfl⟩ hf) ?_
    refine ev_n 1 (fun _ => rfl) ?_
    refine ev_if (c := x5 ≤ v2) rfl (fun _ => rfl) (fun hc => ?_) (fun hc => ?_)
    · replace h := h.1 hc
      refine ev_n 2 (fun _ => rfl) ?_
      exact h
    · replace h := h.2 hc
      refine ev_n 1 (fun _ => rfl) ?_
      obtain ⟨v4, σ3, hf, h⟩ := h
      refine ev_go rfl (w_callS ⟨Nat.le_of_ble_eq_true rfl, Nat.le_of_ble_eq_true rfl⟩ hf) ?_
      refine ev_n 5 (fun _ => rfl) ?_
      exact h
  · replace h := h.2 hc
    refine ev_n 2 (fun _ => rfl) ?_
    exact h
theorem m_X1_askFewest : ∀ pc o, (P_X1_askFewest KC).lookup pc = some o → Mon_ o := all_mon (a_X1_askFewest (l := launch0) (E := EC0) EC0_ok)
theorem z_X1_askFewest {x2 : Int32} {x3 : Int32} {x4 : Int32} {σ : St_} {out : Out_} (h : Ev_ (P_X1_askFewest KC) 0 [some (.ref 133), some (.ref 1), some (.int x2), some (.int x3), some (.int x4), none, none, none] [] σ out) : f_X1_askFewest KC [.ref 133, .ref 1, .int x2, .int x3, .int x4] σ = some out := fn_eq m_X1_askFewest rfl h
set_option maxRecDepth 20000 in
theorem e_X2_chooseEnds_0 {b : Nat} {x2 : Int32} {x3 : Int32} {x4 : Int32} {σ : St_} {out : Out_} (hb : isB b) (h : Ev_ (P_X2_chooseEnds KC) 3 [some (.ref 105), some (.ref b), some (.int x2), some (.int x3), some (.int x4), some (.int (0 : Int32)), none, none, none, none] [] σ out) : Ev_ (P_X2_chooseEnds KC) 0 [some (.ref 105), some (.ref b), some (.int x2), some (.int x3), some (.int x4), none, none, none, none, none] [] σ out := by
  refine ev_n 2 (fun _ => rfl) ?_
  exact h
set_option maxRecDepth 20000 in
theorem e_X2_chooseEnds_3 {b : Nat} {x2 : Int32} {x3 : Int32} {x4 : Int32} {x5 : Int32} {σ : St_} {out : Out_} (hb : isB b) (h : ((x2 < x5 → Ev_ (P_X2_chooseEnds KC) 35 [some (.ref 105), some (.ref b), some (.int x2), some (.int x3), some (.int x4), some (.int (0 : Int32)), some (.int (0 : Int32)), some (.int x3), none, none] [] σ out) ∧ (¬ (x2 < x5) → (vpin_ x5 10 = true) ∧ (vpin_ x3 17 = true) ∧ Ev_ (P_X2_chooseEnds KC) 3 [some (.ref 105), some (.ref b), some (.int x2), some (.int x3), some (.int x4), some (.int (x5 + 1)), none, none, none, none] [] (sI_ σ (108 + Int32.toNatClampNeg x5) (Int32.toNatClampNeg x3) (1000000 : Int32)) out))) : Ev_ (P_X2_chooseEnds KC) 3 [some (.ref 105), some (.ref b), some (.int x2), some (.int x3), some (.int x4), some (.int x5), none, none, none, none] [] σ out := by
  refine ev_n 2 (fun _ => rfl) ?_
  refine ev_if (c := x2 < x5) rfl (fun _ => rfl) (fun hc => ?_) (fun hc => ?_)
  · replace h := h.1 hc
    refine ev_n 6 (fun _ => rfl) ?_
    exact h
  · replace h := h.2 hc
    refine ev_n 1 (fun _ => rfl) ?_
    refine ev_go rfl (w_gF rfl rfl) ?_
    refine ev_n 1 (fun _ => rfl) ?_
    obtain ⟨hv1, h⟩ := h
    refine ev_go rfl (w_aald rfl (by decide) hv1 (kc_row107 _ (vpin_lt hv1))) ?_
    refine ev_n 2 (fun _ => rfl) ?_
    obtain ⟨h0, h⟩ := h
    refine ev_go rfl (w_iast (kc_k107 _ (vpin_lt hv1)) h0) ?_
    refine ev_n 2 (fun _ => rfl) ?_
    exact h
set_option maxRecDepth 20000 in
theorem e_X2_chooseEnds_35 {b : Nat} {x2 : Int32} {x3 : Int32} {x4 : Int32} {x5 : Int32} {x6 : Int32} {x7 : Int32} {σ : St_} {out : Out_} (hb : isB b) (h : (((σ.1 b 11) ≤ x7 → out = (none, σ)) ∧ (¬ ((σ.1 b 11) ≤ x7) → (vpin_ x7 16 = true) ∧ (((x6 + (σ.1 (b + 2) (Int32.toNatClampNeg x7))) ≤ x4 → Ev_ (P_X2_chooseEnds KC) 67 [some (.ref 105), some (.ref b), some (.int x2), some (.int x3), some (.int x4), some (.int x5), some (.int (x6 + (σ.1 (b + 2) (Int32.toNatClampNeg x7)))), some (.int x7), some (.int (0 : Int32)), none] [] σ out) ∧ (¬ ((x6 + (σ.1 (b + 2) (Int32.toNatClampNeg x7))) ≤ x4) → out = (none, σ)))))) : Ev_ (P_X2_chooseEnds KC) 35 [some (.ref 105), some (.ref b), some (.int x2), some (.int x3), some (.int x4), some (.int x5), some (.int x6), some (.int x7), none, none] [] σ out := by
  refine ev_n 2 (fun _ => rfl) ?_
  refine ev_go rfl (w_gI (kb_0 hb)) ?_
  refine ev_if (c := (σ.1 b 11) ≤ x7) rfl (fun _ => rfl) (fun hc => ?_) (fun hc => ?_)
  · replace h := h.1 hc
    exact ev_ret rfl (fun _ => rfl) h
  · replace h := h.2 hc
    refine ev_n 2 (fun _ => rfl) ?_
    refine ev_go rfl (w_gF (kb_0 hb) (kb_r1 hb)) ?_
    refine ev_n 1 (fun _ => rfl) ?_
    obtain ⟨h0, h⟩ := h
    refine ev_go rfl (w_iald (kb_k1 hb) h0) ?_
    refine ev_n 4 (fun _ => rfl) ?_
    refine ev_if (c := (x6 + (σ.1 (b + 2) (Int32.toNatClampNeg x7))) ≤ x4) rfl (fun _ => rfl) (fun hc => ?_) (fun hc => ?_)
    · replace h := h.1 hc
      refine ev_n 2 (fun _ => rfl) ?_
      exact h
    · replace h := h.2 hc
      exact ev_ret rfl (fun _ => rfl) h
set_option maxRecDepth 20000 in
theorem e_X2_chooseEnds_67 {b : Nat} {x2 : Int32} {x3 : Int32} {x4 : Int32} {x5 : Int32} {x6 : Int32} {x7 : Int32} {x8 : Int32} {σ : St_} {out : Out_} (hb : isB b) (h : ((x3 ≤ x8 → Ev_ (P_X2_chooseEnds KC) 97 [some (.ref 105), some (.ref b), some (.int x2), some (.int x3), some (.int x4), some (.int x5), some (.int x6), some (.int x7), some (.int (1 : Int32)), none] [] σ out) ∧ (¬ (x3 ≤ x8) → (vpin_ x7 16 = true) ∧ (vpin_ x8 16 = true) ∧ Ev_ (P_X2_chooseEnds KC) 67 [some (.ref 105), some (.ref b), some (.int x2), some (.int x3), some (.int x4), some (.int (x5 + (σ.1 (b + 6 + Int32.toNatClampNeg x7) (Int32.toNatClampNeg x8)))), some (.int x6), some (.int x7), some (.int (x8 + 1)), none] [] σ out))) : Ev_ (P_X2_chooseEnds KC) 67 [some (.ref 105), some (.ref b), some (.int x2), some (.int x3), some (.int x4), some (.int x5), some (.int x6), some (.int x7), some (.int x8), none] [] σ out := by
  refine ev_n 2 (fun _ => rfl) ?_
  refine ev_if (c := x3 ≤ x8) rfl (fun _ => rfl) (fun hc => ?_) (fun hc => ?_)
  · replace h := h.1 hc
    refine ev_n 2 (fun _ => rfl) ?_
    exact h
  · replace h := h.2 hc
    refine ev_n 2 (fun _ => rfl) ?_
    refine ev_go rfl (w_gF (kb_0 hb) (kb_r4 hb)) ?_
    refine ev_n 1 (fun _ => rfl) ?_
    obtain ⟨hv1, h⟩ := h
    refine ev_go rfl (w_aald (kb_k4 hb) (by decide) hv1 (kb_row hb _ (vpin_lt hv1))) ?_
    refine ev_n 1 (fun _ => rfl) ?_
    obtain ⟨h0, h⟩ := h
    refine ev_go rfl (w_iald (kb_rk hb _ (vpin_lt hv1)) h0) ?_
    refine ev_n 4 (fun _ => rfl) ?_
    exact h
set_option maxRecDepth 20000 in
theorem e_X2_chooseEnds_97 {b : Nat} {x2 : Int32} {x3 : Int32} {x4 : Int32} {x5 : Int32} {x6 : Int32} {x7 : Int32} {x8 : Int32} {σ : St_} {out : Out_} (hb : isB b) (h : ((x2 < x8 → Ev_ (P_X2_chooseEnds KC) 35 [some (.ref 105), some (.ref b), some (.int x2), some (.int x3), some (.int x4), some (.int x5), some (.int x6), some (.int (x7 + 1)), none, none] [] σ out) ∧ (¬ (x2 < x8) → (vpin_ (x8 - (1 : Int32)) 10 = true) ∧ (vpin_ (x7 + (1 : Int32)) 17 = true) ∧ (vpin_ x8 10 = true) ∧ (vpin_ x3 17 = true) ∧ (((σ.1 (108 + Int32.toNatClampNeg x8) (Int32.toNatClampNeg x3)) ≤ (x5 + (σ.1 (108 + Int32.toNatClampNeg (x8 - (1 : Int32))) (Int32.toNatClampNeg (x7 + (1 : Int32))))) → Ev_ (P_X2_chooseEnds KC) 97 [some (.ref 105), some (.ref b), some (.int x2), some (.int x3), some (.int x4), some (.int x5), some (.int x6), some (.int x7), some (.int (x8 + 1)), none] [] σ out) ∧ (¬ ((σ.1 (108 + Int32.toNatClampNeg x8) (Int32.toNatClampNeg x3)) ≤ (x5 + (σ.1 (108 + Int32.toNatClampNeg (x8 - (1 : Int32))) (Int32.toNatClampNeg (x7 + (1 : Int32)))))) → (vpin_ x8 10 = true) ∧ (vpin_ x3 17 = true) ∧ (vpin_ x8 10 = true) ∧ (vpin_ x3 17 = true) ∧ Ev_ (P_X2_chooseEnds KC) 97 [some (.ref 105), some (.ref b), some (.int x2), some (.int x3), some (.int x4), some (.int x5), some (.int x6), some (.int x7), some (.int (x8 + 1)), none] [] (sI_ (sI_ σ (108 + Int32.toNatClampNeg x8) (Int32.toNatClampNeg x3) (x5 + (σ.1 (108 + Int32.toNatClampNeg (x8 - (1 : Int32))) (Int32.toNatClampNeg (x7 + (1 : Int32)))))) (119 + Int32.toNatClampNeg x8) (Int32.toNatClampNeg x3) x7) out))))) : Ev_ (P_X2_chooseEnds KC) 97 [some (.ref 105), some (.ref b), some (.int x2), some (.int x3), some (.int x4), some (.int x5), some (.int x6), some (.int x7), some (.int x8), none] [] σ out := by
  refine ev_n 2 (fun _ => rfl) ?_
  refine ev_if (c := x2 < x8) rfl (fun _ => rfl) (fun hc => ?_) (fun hc => ?_)
  · replace h := h.1 hc
    refine ev_n 2 (fun _ => rfl) ?_
    exact h
  · replace h := h.2 hc
    refine ev_n 2 (fun _ => rfl) ?_
    refine ev_go rfl (w_gF rfl rfl) ?_
    refine ev_n 3 (fun _ => rfl) ?_
    obtain ⟨hv1, h⟩ := h
    refine ev_go rfl (w_aald rfl (by decide) hv1 (kc_row107 _ (vpin_lt hv1))) ?_
    refine ev_n 3 (fun _ => rfl) ?_
    obtain ⟨h0, h⟩ := h
    refine ev_go rfl (w_iald (kc_k107 _ (vpin_lt hv1)) h0) ?_
    refine ev_n 4 (fun _ => rfl) ?_
    refine ev_go rfl (w_gF rfl rfl) ?_
    refine ev_n 1 (fun _ => rfl) ?_
    obtain ⟨hv2, h⟩ := h
    refine ev_go rfl (w_aald rfl (by decide) hv2 (kc_row107 _ (vpin_lt hv2))) ?_
    refine ev_n 1 (fun _ => rfl) ?_
    obtain ⟨h0, h⟩ := h
    refine ev_go rfl (w_iald (kc_k107 _ (vpin_lt hv2)) h0) ?_
    refine ev_if (c := (σ.1 (108 + Int32.toNatClampNeg x8) (Int32.toNatClampNeg x3)) ≤ (x5 + (σ.1 (108 + Int32.toNatClampNeg (x8 - (1 : Int32))) (Int32.toNatClampNeg (x7 + (1 : Int32)))))) rfl (fun _ => rfl) (fun hc => ?_) (fun hc => ?_)
    · replace h := h.1 hc
      refine ev_n 2 (fun _ => rfl) ?_
      exact h
    · replace h := h.2 hc
      refine ev_n 1 (fun _ => rfl) ?_
      refine ev_go rfl (w_gF rfl rfl) ?_
      refine ev_n 1 (fun _ => rfl) ?_
      obtain ⟨hv3, h⟩ := h
      refine ev_go rfl (w_aald rfl (by decide) hv3 (kc_row107 _ (vpin_lt hv3))) ?_
      refine ev_n 2 (fun _ => rfl) ?_
      obtain ⟨h0, h⟩ := h
      refine ev_go rfl (w_iast (kc_k107 _ (vpin_lt hv3)) h0) ?_
      refine ev_n 1 (fun _ => rfl) ?_
      refine ev_go rfl (w_gF rfl rfl) ?_
      refine ev_n 1 (fun _ => rfl) ?_
      obtain ⟨hv4, h⟩ := h
      refine ev_go rfl (w_aald rfl (by decide) hv4 (kc_row118 _ (vpin_lt hv4))) ?_
      refine ev_n 2 (fun _ => rfl) ?_
      obtain ⟨h0, h⟩ := h
      refine ev_go rfl (w_iast (kc_k118 _ (vpin_lt hv4)) h0) ?_
      refine ev_n 2 (fun _ => rfl) ?_
      exact h
theorem m_X2_chooseEnds : ∀ pc o, (P_X2_chooseEnds KC).lookup pc = some o → Mon_ o := all_mon (a_X2_chooseEnds (l := launch0) (E := EC0) EC0_ok)
theorem z_X2_chooseEnds {b : Nat} {x2 : Int32} {x3 : Int32} {x4 : Int32} {σ : St_} {out : Out_} (h : Ev_ (P_X2_chooseEnds KC) 0 [some (.ref 105), some (.ref b), some (.int x2), some (.int x3), some (.int x4), none, none, none, none, none] [] σ out) : f_X2_chooseEnds KC [.ref 105, .ref b, .int x2, .int x3, .int x4] σ = some out := fn_eq m_X2_chooseEnds rfl h
set_option maxRecDepth 20000 in
theorem e_X2_stretch_0 {b : Nat} {x2 : Int32} {x3 : Int32} {σ : St_} {out : Out_} (hb : isB b) (h : Ev_ (P_X2_stretch KC) 3 [some (.ref 105), some (.ref b), some (.int x2), some (.int x3), some (.int (0 : Int32)), none, none] [] σ out) : Ev_ (P_X2_stretch KC) 0 [some (.ref 105), some (.ref b), some (.int x2), some (.int x3), none, none, none] [] σ out := by
  refine ev_n 2 (fun _ => rfl) ?_
  exact h
set_option maxRecDepth 20000 in
theorem e_X2_stretch_3 {b : Nat} {x2 : Int32} {x3 : Int32} {x4 : Int32} {σ : St_} {out : Out_} (hb : isB b) (h : ((x2 < x4 → Ev_ (P_X2_stretch KC) 46 [some (.ref 105), some (.ref b), some (.int x2), some (.int x3), some (.int ((σ.1 b 11) - (1 : Int32))), none, none] [] σ out) ∧ (¬ (x2 < x4) → (vpin_ x4 10 = true) ∧ ((x4 = 0 → (vpin_ (σ.1 b 11) 17 = true) ∧ Ev_ (P_X2_stretch KC) 3 [some (.ref 105), some (.ref b), some (.int x2), some (.int x3), some (.int (x4 + 1)), none, none] [] (sI_ σ (108 + Int32.toNatClampNeg x4) (Int32.toNatClampNeg (σ.1 b 11)) (0 : Int32)) out) ∧ (¬ (x4 = 0) → (vpin_ (σ.1 b 11) 17 = true) ∧ Ev_ (P_X2_stretch KC) 3 [some (.ref 105), some (.ref b), some (.int x2), some (.int x3), some (.int (x4 + 1)), none, none] [] (sI_ σ (108 + Int32.toNatClampNeg x4) (Int32.toNatClampNeg (σ.1 b 11)) (1000000 : Int32)) out))))) : Ev_ (P_X2_stretch KC) 3 [some (.ref 105), some (.ref b), some (.int x2), some (.int x3), some (.int x4), none, none] [] σ out := by
  refine ev_n 2 (fun _ => rfl) ?_
  refine ev_if (c := x2 < x4) rfl (fun _ => rfl) (fun hc => ?_) (fun hc => ?_)
  · replace h := h.1 hc
    refine ev_n 1 (fun _ => rfl) ?_
    refine ev_go rfl (w_gI (kb_0 hb)) ?_
    refine ev_n 3 (fun _ => rfl) ?_
    exact h
  · replace h := h.2 hc
    refine ev_n 1 (fun _ => rfl) ?_
    refine ev_go rfl (w_gF rfl rfl) ?_
    refine ev_n 1 (fun _ => rfl) ?_
    obtain ⟨hv1, h⟩ := h
    refine ev_go rfl (w_aald rfl (by decide) hv1 (kc_row107 _ (vpin_lt hv1))) ?_
    refine ev_n 1 (fun _ => rfl) ?_
    refine ev_go rfl (w_gI (kb_0 hb)) ?_
    refine ev_n 1 (fun _ => rfl) ?_
    refine ev_if (c := x4 = 0) rfl (fun _ => rfl) (fun hc => ?_) (fun hc => ?_)
    · replace h := h.1 hc
      refine ev_n 2 (fun _ => rfl) ?_
      obtain ⟨h0, h⟩ := h
      refine ev_go rfl (w_iast (kc_k107 _ (vpin_lt hv1)) h0) ?_
      refine ev_n 2 (fun _ => rfl) ?_
      exact h
    · replace h := h.2 hc
      refine ev_n 1 (fun _ => rfl) ?_
      obtain ⟨h0, h⟩ := h
      refine ev_go rfl (w_iast (kc_k107 _ (vpin_lt hv1)) h0) ?_
      refine ev_n 2 (fun _ => rfl) ?_
      exact h
set_option maxRecDepth 20000 in
theorem e_X2_stretch_46 {b : Nat} {x2 : Int32} {x3 : Int32} {x4 : Int32} {σ : St_} {out : Out_} (hb : isB b) (h : ((x4 < 0 → (vpin_ x2 10 = true) ∧ (vpin_ (0 : Int32) 17 = true) ∧ (((σ.1 (108 + Int32.toNatClampNeg x2) (Int32.toNatClampNeg (0 : Int32))) < (1000000 : Int32) → Ev_ (P_X2_stretch KC) 92 [some (.ref 105), some (.ref b), some (.int x2), some (.int x3), some (.int (0 : Int32)), some (.int x2), none] [] (sI_ σ 105 1 x2) out) ∧ (¬ ((σ.1 (108 + Int32.toNatClampNeg x2) (Int32.toNatClampNeg (0 : Int32))) < (1000000 : Int32)) → out = (some (.int ((-1) : Int32)), σ)))) ∧ (¬ (x4 < 0) → (∃ (σ2 : St_), f_X2_chooseEnds KC [.ref 105, .ref b, .int x2, .int x4, .int x3] σ = some (none, σ2) ∧ Ev_ (P_X2_stretch KC) 46 [some (.ref 105), some (.ref b), some (.int x2), some (.int x3), some (.int (x4 + (-1))), none, none] [] σ2 out)))) : Ev_ (P_X2_stretch KC) 46 [some (.ref 105), some (.ref b), some (.int x2), some (.int x3), some (.int x4), none, none] [] σ out := by
  refine ev_n 1 (fun _ => rfl) ?_
  refine ev_if (c := x4 < 0) rfl (fun _ => rfl) (fun hc => ?_) (fun hc => ?_)
  · replace h := h.1 hc
    refine ev_n 1 (fun _ => rfl) ?_
    refine ev_go rfl (w_gF rfl rfl) ?_
    refine ev_n 1 (fun _ => rfl) ?_
    obtain ⟨hv1, h⟩ := h
    refine ev_go rfl (w_aald rfl (by decide) hv1 (kc_row107 _ (vpin_lt hv1))) ?_
    refine ev_n 1 (fun _ => rfl) ?_
    obtain ⟨h0, h⟩ := h
    refine ev_go rfl (w_iald (kc_k107 _ (vpin_lt hv1)) h0) ?_
    refine ev_n 1 (fun _ => rfl) ?_
    refine ev_if (c := (σ.1 (108 + Int32.toNatClampNeg x2) (Int32.toNatClampNeg (0 : Int32))) < (1000000 : Int32)) rfl (fun _ => rfl) (fun hc => ?_) (fun hc => ?_)
    · replace h := h.1 hc
      refine ev_n 2 (fun _ => rfl) ?_
      refine ev_go rfl (w_pI rfl) ?_
      refine ev_n 4 (fun _ => rfl) ?_
      exact h
    · replace h := h.2 hc
      refine ev_n 1 (fun _ => rfl) ?_
      exact ev_ret rfl (fun _ => rfl) h
  · replace h := h.2 hc
    refine ev_n 5 (fun _ => rfl) ?_
    obtain ⟨σ2, hf, h⟩ := h
    refine ev_go rfl (w_callV rfl rfl rfl (Nat.le_of_ble_eq_true rfl) hf) ?_
    refine ev_n 2 (fun _ => rfl) ?_
    exact h
set_option maxRecDepth 20000 in
theorem e_X2_stretch_92 {b : Nat} {x2 : Int32} {x3 : Int32} {x4 : Int32} {x5 : Int32} {σ : St_} {out : Out_} (hb : isB b) (h : ((x5 < (1 : Int32) → (vpin_ x2 10 = true) ∧ (vpin_ (0 : Int32) 17 = true) ∧ out = (some (.int (σ.1 (108 + Int32.toNatClampNeg x2) (Int32.toNatClampNeg (0 : Int32)))), σ)) ∧ (¬ (x5 < (1 : Int32)) → (vpin_ x5 10 = true) ∧ (vpin_ x4 17 = true) ∧ (vpin_ (x2 - x5) 9 = true) ∧ Ev_ (P_X2_stretch KC) 92 [some (.ref 105), some (.ref b), some (.int x2), some (.int x3), some (.int ((σ.1 (119 + Int32.toNatClampNeg x5) (Int32.toNatClampNeg x4)) + (1 : Int32))), some (.int (x5 + (-1))), none] [] (sI_ σ 106 (Int32.toNatClampNeg (x2 - x5)) (σ.1 (119 + Int32.toNatClampNeg x5) (Int32.toNatClampNeg x4))) out))) : Ev_ (P_X2_stretch KC) 92 [some (.ref 105), some (.ref b), some (.int x2), some (.int x3), some (.int x4), some (.int x5), none] [] σ out := by
  refine ev_n 2 (fun _ => rfl) ?_
  refine ev_if (c := x5 < (1 : Int32)) rfl (fun _ => rfl) (fun hc => ?_) (fun hc => ?_)
  · replace h := h.1 hc
    refine ev_n 1 (fun _ => rfl) ?_
    refine ev_go rfl (w_gF rfl rfl) ?_
    refine ev_n 1 (fun _ => rfl) ?_
    obtain ⟨hv1, h⟩ := h
    refine ev_go rfl (w_aald rfl (by decide) hv1 (kc_row107 _ (vpin_lt hv1))) ?_
    refine ev_n 1 (fun _ => rfl) ?_
    obtain ⟨h0, h⟩ := h
    refine ev_go rfl (w_iald (kc_k107 _ (vpin_lt hv1)) h0) ?_
    exact ev_ret rfl (fun _ => rfl) h
  · replace h := h.2 hc
    refine ev_n 1 (fun _ => rfl) ?_
    refine ev_go rfl (w_gF rfl rfl) ?_
    refine ev_n 1 (fun _ => rfl) ?_
    obtain ⟨hv2, h⟩ := h
    refine ev_go rfl (w_aald rfl (by decide) hv2 (kc_row118 _ (vpin_lt hv2))) ?_
    refine ev_n 1 (fun _ => rfl) ?_
    obtain ⟨h0, h⟩ := h
    refine ev_go rfl (w_iald (kc_k118 _ (vpin_lt hv2)) h0) ?_
    refine ev_n 2 (fun _ => rfl) ?_
    refine ev_go rfl (w_gF rfl rfl) ?_
    refine ev_n 4 (fun _ => rfl) ?_
    obtain ⟨h0, h⟩ := h
    refine ev_go rfl (w_iast rfl h0) ?_
    refine ev_n 6 (fun _ => rfl) ?_
    exact h
theorem m_X2_stretch : ∀ pc o, (P_X2_stretch KC).lookup pc = some o → Mon_ o := all_mon (a_X2_stretch (l := launch0) (E := EC0) EC0_ok)
theorem z_X2_stretch {b : Nat} {x2 : Int32} {x3 : Int32} {σ : St_} {out : Out_} (h : Ev_ (P_X2_stretch KC) 0 [some (.ref 105), some (.ref b), some (.int x2), some (.int x3), none, none, none] [] σ out) : f_X2_stretch KC [.ref 105, .ref b, .int x2, .int x3] σ = some out := fn_eq m_X2_stretch rfl h
set_option maxRecDepth 20000 in
theorem e_X2_overSides_0 {b : Nat} {x2 : Int32} {x3 : Int32} {σ : St_} {out : Out_} (hb : isB b) (h : Ev_ (P_X2_overSides KC) 6 [some (.ref b), some (.ref 1), some (.int x2), some (.int x3), some (.int (0 : Int32)), some (.int (0 : Int32)), none, none] [] σ out) : Ev_ (P_X2_overSides KC) 0 [some (.ref b), some (.ref 1), some (.int x2), some (.int x3), none, none, none, none] [] σ out := by
  refine ev_n 4 (fun _ => rfl) ?_
  exact h
set_option maxRecDepth 20000 in
theorem e_X2_overSides_6 {b : Nat} {x2 : Int32} {x3 : Int32} {x4 : Int32} {x5 : Int32} {σ : St_} {out : Out_} (hb : isB b) (h : ((x2 ≤ x5 → out = (some (.int x4), σ)) ∧ (¬ (x2 ≤ x5) → (∃ (v2 : Int32) (σ1 : St_), f_X8_byteAt KC [.ref 1, .int x5] σ = some (some (.int v2), σ1) ∧ (vpin_ v2 16 = true) ∧ Ev_ (P_X2_overSides KC) 28 [some (.ref b), some (.ref 1), some (.int x2), some (.int x3), some (.int x4), some (.int x5), some (.ref (b + 6 + Int32.toNatClampNeg v2)), some (.int (0 : Int32))] [] σ1 out)))) : Ev_ (P_X2_overSides KC) 6 [some (.ref b), some (.ref 1), some (.int x2), some (.int x3), some (.int x4), some (.int x5), none, none] [] σ out := by
  refine ev_n 2 (fun _ => rfl) ?_
  refine ev_if (c := x2 ≤ x5) rfl (fun _ => rfl) (fun hc => ?_) (fun hc => ?_)
  · replace h := h.1 hc
    refine ev_n 1 (fun _ => rfl) ?_
    exact ev_ret rfl (fun _ => rfl) h
  · replace h := h.2 hc
    refine ev_n 1 (fun _ => rfl) ?_
    refine ev_go rfl (w_gF (kb_0 hb) (kb_r4 hb)) ?_
    refine ev_n 2 (fun _ => rfl) ?_
    obtain ⟨v2, σ1, hf, h⟩ := h
    refine ev_go rfl (w_callV rfl rfl rfl (Nat.le_of_ble_eq_true rfl) hf) ?_
    obtain ⟨hv3, h⟩ := h
    refine ev_go rfl (w_aald (kb_k4 hb) (by decide) hv3 (kb_row hb _ (vpin_lt hv3))) ?_
    refine ev_n 3 (fun _ => rfl) ?_
    exact h
set_option maxRecDepth 20000 in
theorem e_X2_overSides_28 {b : Nat} {x2 : Int32} {x3 : Int32} {x4 : Int32} {x5 : Int32} {qx6 : Nat} {x7 : Int32} {σ : St_} {out : Out_} (hb : isB b) (hqx6 : KC.1 qx6 = (14, 16)) (h : ((x2 ≤ x7 → Ev_ (P_X2_overSides KC) 6 [some (.ref b), some (.ref 1), some (.int x2), some (.int x3), some (.int x4), some (.int (x5 + 1)), none, none] [] σ out) ∧ (¬ (x2 ≤ x7) → ((((x3 >>> (x5 &&& 31)) &&& (1 : Int32)) = ((x3 >>> (x7 &&& 31)) &&& (1 : Int32)) → Ev_ (P_X2_overSides KC) 28 [some (.ref b), some (.ref 1), some (.int x2), some (.int x3), some (.int x4), some (.int x5), some (.ref qx6), some (.int (x7 + 1))] [] σ out) ∧ (¬ (((x3 >>> (x5 &&& 31)) &&& (1 : Int32)) = ((x3 >>> (x7 &&& 31)) &&& (1 : Int32))) → (∃ (v2 : Int32) (σ1 : St_), f_X8_byteAt KC [.ref 1, .int x7] σ = some (some (.int v2), σ1) ∧ (vpin_ v2 16 = true) ∧ Ev_ (P_X2_overSides KC) 28 [some (.ref b), some (.ref 1), some (.int x2), some (.int x3), some (.int (x4 + (σ1.1 qx6 (Int32.toNatClampNeg v2)))), some (.int x5), some (.ref qx6), some (.int (x7 + 1))] [] σ1 out)))))) : Ev_ (P_X2_overSides KC) 28 [some (.ref b), some (.ref 1), some (.int x2), some (.int x3), some (.int x4), some (.int x5), some (.ref qx6), some (.int x7)] [] σ out := by
  refine ev_n 2 (fun _ => rfl) ?_
  refine ev_if (c := x2 ≤ x7) rfl (fun _ => rfl) (fun hc => ?_) (fun hc => ?_)
  · replace h := h.1 hc
    refine ev_n 2 (fun _ => rfl) ?_
    exact h
  · replace h := h.2 hc
    refine ev_n 8 (fun _ => rfl) ?_
    refine ev_n 2 (fun _ => rfl) ?_
    refine ev_if (c := ((x3 >>> (x5 &&& 31)) &&& (1 : Int32)) = ((x3 >>> (x7 &&& 31)) &&& (1 : Int32))) rfl (fun _ => rfl) (fun hc => ?_) (fun hc => ?_)
    · replace h := h.1 hc
      refine ev_n 2 (fun _ => rfl) ?_
      exact h
    · replace h := h.2 hc
      refine ev_n 4 (fun _ => rfl) ?_
      obtain ⟨v2, σ1, hf, h⟩ := h
      refine ev_go rfl (w_callV rfl rfl rfl (Nat.le_of_ble_eq_true rfl) hf) ?_
      obtain ⟨h0, h⟩ := h
      refine ev_go rfl (w_iald hqx6 h0) ?_
      refine ev_n 4 (fun _ => rfl) ?_
      exact h
theorem m_X2_overSides : ∀ pc o, (P_X2_overSides KC).lookup pc = some o → Mon_ o := all_mon (a_X2_overSides (l := launch0) (E := EC0) EC0_ok)
theorem z_X2_overSides {b : Nat} {x2 : Int32} {x3 : Int32} {σ : St_} {out : Out_} (h : Ev_ (P_X2_overSides KC) 0 [some (.ref b), some (.ref 1), some (.int x2), some (.int x3), none, none, none, none] [] σ out) : f_X2_overSides KC [.ref b, .ref 1, .int x2, .int x3] σ = some out := fn_eq m_X2_overSides rfl h
set_option maxRecDepth 20000 in
theorem e_X2_sidesFit_0 {b : Nat} {x2 : Int32} {x3 : Int32} {x4 : Int32} {σ : St_} {out : Out_} (hb : isB b) (h : Ev_ (P_X2_sidesFit KC) 9 [some (.ref b), some (.ref 1), some (.int x2), some (.int x3), some (.int x4), some (.int (0 : Int32)), some (.int (0 : Int32)), some (.int (0 : Int32)), none] [] σ out) : Ev_ (P_X2_sidesFit KC) 0 [some (.ref b), some (.ref 1), some (.int x2), some (.int x3), some (.int x4), none, none, none, none] [] σ out := by
  refine ev_n 6 (fun _ => rfl) ?_
  exact h
set_option maxRecDepth 20000 in
theorem e_X2_sidesFit_9 {b : Nat} {x2 : Int32} {x3 : Int32} {x4 : Int32} {x5 : Int32} {x6 : Int32} {x7 : Int32} {σ : St_} {out : Out_} (hb : isB b) (h : ((x2 ≤ x7 → ((x4 < x5 → out = (some (.int (0 : Int32)), σ)) ∧ (¬ (x4 < x5) → ((x4 < x6 → out = (some (.int (0 : Int32)), σ)) ∧ (¬ (x4 < x6) → out = (some (.int (1 : Int32)), σ)))))) ∧ (¬ (x2 ≤ x7) → (∃ (v2 : Int32) (σ1 : St_), f_X8_byteAt KC [.ref 1, .int x7] σ = some (some (.int v2), σ1) ∧ (vpin_ v2 16 = true) ∧ ((((x3 >>> (x7 &&& 31)) &&& (1 : Int32)) = 0 → Ev_ (P_X2_sidesFit KC) 9 [some (.ref b), some (.ref 1), some (.int x2), some (.int x3), some (.int x4), some (.int x5), some (.int (x6 + (σ1.1 (b + 2) (Int32.toNatClampNeg v2)))), some (.int (x7 + 1)), none] [] σ1 out) ∧ (¬ (((x3 >>> (x7 &&& 31)) &&& (1 : Int32)) = 0) → Ev_ (P_X2_sidesFit KC) 9 [some (.ref b), some (.ref 1), some (.int x2), some (.int x3), some (.int x4), some (.int (x5 + (σ1.1 (b + 2) (Int32.toNatClampNeg v2)))), some (.int x6), some (.int (x7 + 1)), none] [] σ1 out)))))) : Ev_ (P_X2_sidesFit KC) 9 [some (.ref b), some (.ref 1), some (.int x2), some (.int x3), some (.int x4), some (.int x5), some (.int x6), some (.int x7), none] [] σ out := by
  refine ev_n 2 (fun _ => rfl) ?_
  refine ev_if (c := x2 ≤ x7) rfl (fun _ => rfl) (fun hc => ?_) (fun hc => ?_)
  · replace h := h.1 hc
    refine ev_n 2 (fun _ => rfl) ?_
    refine ev_if (c := x4 < x5) rfl (fun _ => rfl) (fun hc => ?_) (fun hc => ?_)
    · replace h := h.1 hc
      refine ev_n 1 (fun _ => rfl) ?_
      exact v_zret (by decide) rfl h
    · replace h := h.2 hc
      refine ev_n 2 (fun _ => rfl) ?_
      refine ev_if (c := x4 < x6) rfl (fun _ => rfl) (fun hc => ?_) (fun hc => ?_)
      · replace h := h.1 hc
        refine ev_n 1 (fun _ => rfl) ?_
        exact v_zret (by decide) rfl h
      · replace h := h.2 hc
        refine ev_n 2 (fun _ => rfl) ?_
        exact v_zret (by decide) rfl h
  · replace h := h.2 hc
    refine ev_n 1 (fun _ => rfl) ?_
    refine ev_go rfl (w_gF (kb_0 hb) (kb_r1 hb)) ?_
    refine ev_n 2 (fun _ => rfl) ?_
    obtain ⟨v2, σ1, hf, h⟩ := h
    refine ev_go rfl (w_callV rfl rfl rfl (Nat.le_of_ble_eq_true rfl) hf) ?_
    obtain ⟨h0, h⟩ := h
    refine ev_go rfl (w_iald (kb_k1 hb) h0) ?_
    refine ev_n 6 (fun _ => rfl) ?_
    refine ev_if (c := ((x3 >>> (x7 &&& 31)) &&& (1 : Int32)) = 0) rfl (fun _ => rfl) (fun hc => ?_) (fun hc => ?_)
    · replace h := h.1 hc
      refine ev_n 6 (fun _ => rfl) ?_
      exact h
    · replace h := h.2 hc
      refine ev_n 7 (fun _ => rfl) ?_
      exact h
theorem m_X2_sidesFit : ∀ pc o, (P_X2_sidesFit KC).lookup pc = some o → Mon_ o := all_mon (a_X2_sidesFit (l := launch0) (E := EC0) EC0_ok)
theorem z_X2_sidesFit {b : Nat} {x2 : Int32} {x3 : Int32} {x4 : Int32} {σ : St_} {out : Out_} (h : Ev_ (P_X2_sidesFit KC) 0 [some (.ref b), some (.ref 1), some (.int x2), some (.int x3), some (.int x4), none, none, none, none] [] σ out) : f_X2_sidesFit KC [.ref b, .ref 1, .int x2, .int x3, .int x4] σ = some out := fn_eq m_X2_sidesFit rfl h
set_option maxRecDepth 20000 in
theorem e_X2_divide_0 {b : Nat} {x3 : Int32} {x4 : Int32} {σ : St_} {out : Out_} (hb : isB b) (h : Ev_ (P_X2_divide KC) 10 [some (.ref 105), some (.ref b), some (.ref 1), some (.int x3), some (.int x4), some (.int (1000000 : Int32)), some (.int ((-1) : Int32)), some (.int (1 : Int32)), none] [] σ out) : Ev_ (P_X2_divide KC) 0 [some (.ref 105), some (.ref b), some (.ref 1), some (.int x3), some (.int x4), none, none, none, none] [] σ out := by
  refine ev_n 6 (fun _ => rfl) ?_
  exact h
set_option maxRecDepth 20000 in
theorem e_X2_divide_10 {b : Nat} {x3 : Int32} {x4 : Int32} {x5 : Int32} {x6 : Int32} {x7 : Int32} {σ : St_} {out : Out_} (hb : isB b) (h : ((((1 : Int32) <<< ((x3 - (1 : Int32)) &&& 31)) ≤ x7 → ((x6 = ((-1) : Int32) → out = (some (.int ((-1) : Int32)), σ)) ∧ (¬ (x6 = ((-1) : Int32)) → out = (some (.int x5), (sI_ σ 105 2 x6))))) ∧ (¬ (((1 : Int32) <<< ((x3 - (1 : Int32)) &&& 31)) ≤ x7) → (∃ (v2 : Int32) (σ1 : St_), f_X2_sidesFit KC [.ref b, .ref 1, .int x3, .int x7, .int x4] σ = some (some (.int v2), σ1) ∧ ((v2 = 0 → Ev_ (P_X2_divide KC) 10 [some (.ref 105), some (.ref b), some (.ref 1), some (.int x3), some (.int x4), some (.int x5), some (.int x6), some (.int (x7 + 1)), none] [] σ1 out) ∧ (¬ (v2 = 0) → (∃ (v4 : Int32) (σ3 : St_), f_X2_overSides KC [.ref b, .ref 1, .int x3, .int x7] σ1 = some (some (.int v4), σ3) ∧ ((x5 ≤ v4 → Ev_ (P_X2_divide KC) 10 [some (.ref 105), some (.ref b), some (.ref 1), some (.int x3), some (.int x4), some (.int x5), some (.int x6), some (.int (x7 + 1)), none] [] σ3 out) ∧ (¬ (x5 ≤ v4) → Ev_ (P_X2_divide KC) 10 [some (.ref 105), some (.ref b), some (.ref 1), some (.int x3), some (.int x4), some (.int v4), some (.int x7), some (.int (x7 + 1)), none] [] σ3 out))))))))) : Ev_ (P_X2_divide KC) 10 [some (.ref 105), some (.ref b), some (.ref 1), some (.int x3), some (.int x4), some (.int x5), some (.int x6), some (.int x7), none] [] σ out := by
  refine ev_n 6 (fun _ => rfl) ?_
  refine ev_if (c := ((1 : Int32) <<< ((x3 - (1 : Int32)) &&& 31)) ≤ x7) rfl (fun _ => rfl) (fun hc => ?_) (fun hc => ?_)
  · replace h := h.1 hc
    refine ev_n 2 (fun _ => rfl) ?_
    refine ev_if (c := x6 = ((-1) : Int32)) rfl (fun _ => rfl) (fun hc => ?_) (fun hc => ?_)
    · replace h := h.1 hc
      refine ev_n 1 (fun _ => rfl) ?_
      exact ev_ret rfl (fun _ => rfl) h
    · replace h := h.2 hc
      refine ev_n 2 (fun _ => rfl) ?_
      refine ev_go rfl (w_pI rfl) ?_
      refine ev_n 1 (fun _ => rfl) ?_
      exact ev_ret rfl (fun _ => rfl) h
  · replace h := h.2 hc
    refine ev_n 5 (fun _ => rfl) ?_
    obtain ⟨v2, σ1, hf, h⟩ := h
    refine ev_go rfl (w_callS ⟨Nat.le_of_ble_eq_true rfl, Nat.le_of_ble_eq_true rfl⟩ hf) ?_
    refine ev_if (c := v2 = 0) rfl (fun _ => rfl) (fun hc => ?_) (fun hc => ?_)
    · replace h := h.1 hc
      refine ev_n 2 (fun _ => rfl) ?_
      exact h
    · replace h := h.2 hc
      refine ev_n 4 (fun _ => rfl) ?_
      obtain ⟨v4, σ3, hf, h⟩ := h
      refine ev_go rfl (w_callS ⟨Nat.le_of_ble_eq_true rfl, Nat.le_of_ble_eq_true rfl⟩ hf) ?_
      refine ev_n 3 (fun _ => rfl) ?_
      refine ev_if (c := x5 ≤ v4) rfl (fun _ => rfl) (fun hc => ?_) (fun hc => ?_)
      · replace h := h.1 hc
        refine ev_n 2 (fun _ => rfl) ?_
        exact h
      · replace h := h.2 hc
        refine ev_n 6 (fun _ => rfl) ?_
        exact h
theorem m_X2_divide : ∀ pc o, (P_X2_divide KC).lookup pc = some o → Mon_ o := all_mon (a_X2_divide (l := launch0) (E := EC0) EC0_ok)
theorem z_X2_divide {b : Nat} {x3 : Int32} {x4 : Int32} {σ : St_} {out : Out_} (h : Ev_ (P_X2_divide KC) 0 [some (.ref 105), some (.ref b), some (.ref 1), some (.int x3), some (.int x4), none, none, none, none] [] σ out) : f_X2_divide KC [.ref 105, .ref b, .ref 1, .int x3, .int x4] σ = some out := fn_eq m_X2_divide rfl h
set_option maxRecDepth 20000 in
theorem e_X5_hear_0 {m : Nat} {x1 : Int32} {x2 : Int32} {x3 : Int32} {x4 : Int32} {σ : St_} {out : Out_} (hm : isM m) (h : (∃ b1, σ.2.2 m 9 = some b1 ∧ isB b1 ∧ (vpin_ ((x3 * (16 : Int32)) + x2) 144 = true) ∧ (∃ (v3 : Int32) (σ2 : St_), f_X0_partsTold KC [.ref b1, .int (σ.1 (m + 4) (Int32.toNatClampNeg ((x3 * (16 : Int32)) + x2))), .int x3, .int x4, .int x1] σ = some (some (.int v3), σ2) ∧ (vpin_ x3 9 = true) ∧ (((((σ2.1 (m + 2) (Int32.toNatClampNeg x3)) >>> (x2 &&& 31)) &&& (1 : Int32)) = 0 → (∃ b4, σ2.2.2 m 9 = some b4 ∧ isB b4 ∧ (∃ (v6 : Int32) (σ5 : St_), f_X0_retold KC [.ref b4, .int v3] σ2 = some (some (.int v6), σ5) ∧ Ev_ (P_X5_hear KC) 48 [some (.ref m), some (.int x1), some (.int x2), some (.int x3), some (.int x4), some (.int v6), none, none, none] [] σ5 out))) ∧ (¬ ((((σ2.1 (m + 2) (Int32.toNatClampNeg x3)) >>> (x2 &&& 31)) &&& (1 : Int32)) = 0) → Ev_ (P_X5_hear KC) 48 [some (.ref m), some (.int x1), some (.int x2), some (.int x3), some (.int x4), some (.int v3), none, none, none] [] σ2 out))))) : Ev_ (P_X5_hear KC) 0 [some (.ref m), some (.int x1), some (.int x2), some (.int x3), some (.int x4), none, none, none, none] [] σ out := by
  refine ev_n 1 (fun _ => rfl) ?_
  obtain ⟨b1, eb1, hb1, h⟩ := h
  refine ev_go rfl (w_gR (km_0 hm) eb1) ?_
  refine ev_n 1 (fun _ => rfl) ?_
  refine ev_go rfl (w_gF (km_0 hm) (km_r3 hm)) ?_
  refine ev_n 5 (fun _ => rfl) ?_
  obtain ⟨h0, h⟩ := h
  refine ev_go rfl (w_iald (km_k3 hm) h0) ?_
  refine ev_n 3 (fun _ => rfl) ?_
  obtain ⟨v3, σ2, hf, h⟩ := h
  refine ev_go rfl (w_callV rfl rfl (kb_0 hb1) (Nat.le_of_ble_eq_true rfl) hf) ?_
  refine ev_n 2 (fun _ => rfl) ?_
  refine ev_go rfl (w_gF (km_0 hm) (km_r1 hm)) ?_
  refine ev_n 1 (fun _ => rfl) ?_
  obtain ⟨h0, h⟩ := h
  refine ev_go rfl (w_iald (km_k1 hm) h0) ?_
  refine ev_n 4 (fun _ => rfl) ?_
  refine ev_if (c := (((σ2.1 (m + 2) (Int32.toNatClampNeg x3)) >>> (x2 &&& 31)) &&& (1 : Int32)) = 0) rfl (fun _ => rfl) (fun hc => ?_) (fun hc => ?_)
  · replace h := h.1 hc
    refine ev_n 1 (fun _ => rfl) ?_
    obtain ⟨b4, eb4, hb4, h⟩ := h
    refine ev_go rfl (w_gR (km_0 hm) eb4) ?_
    refine ev_n 1 (fun _ => rfl) ?_
    obtain ⟨v6, σ5, hf, h⟩ := h
    refine ev_go rfl (w_callV rfl rfl (kb_0 hb4) (Nat.le_of_ble_eq_true rfl) hf) ?_
    refine ev_n 1 (fun _ => rfl) ?_
    exact h
  · replace h := h.2 hc
    exact h
set_option maxRecDepth 20000 in
theorem e_X5_hear_48 {m : Nat} {x1 : Int32} {x2 : Int32} {x3 : Int32} {x4 : Int32} {x5 : Int32} {σ : St_} {out : Out_} (hm : isM m) (h : (∃ b1, σ.2.2 m 9 = some b1 ∧ isB b1 ∧ (∃ (v3 : Int32) (σ2 : St_), f_X0_lackAt KC [.ref b1, .int x2, .ref (m + 4), .int (x1 * (16 : Int32))] σ = some (some (.int v3), σ2) ∧ (∃ (v5 : Int32) (σ4 : St_), f_X0_ofMillion KC [.int x5, .int ((1000000 : Int32) - v3)] σ2 = some (some (.int v5), σ4) ∧ (vpin_ ((x1 * (16 : Int32)) + x2) 144 = true) ∧ (∃ (v7 : Int32) (σ6 : St_), f_X0_ofMillion KC [.int ((1000000 : Int32) - (σ4.1 (m + 4) (Int32.toNatClampNeg ((x1 * (16 : Int32)) + x2)))), .int v5] σ4 = some (some (.int v7), σ6) ∧ (vpin_ ((x1 * (16 : Int32)) + x2) 144 = true) ∧ (vpin_ x1 9 = true) ∧ (vpin_ x1 9 = true) ∧ out = (none, (sI_ (sI_ σ6 (m + 4) (Int32.toNatClampNeg ((x1 * (16 : Int32)) + x2)) ((σ4.1 (m + 4) (Int32.toNatClampNeg ((x1 * (16 : Int32)) + x2))) + v7)) (m + 3) (Int32.toNatClampNeg x1) (((sI_ σ6 (m + 4) (Int32.toNatClampNeg ((x1 * (16 : Int32)) + x2)) ((σ4.1 (m + 4) (Int32.toNatClampNeg ((x1 * (16 : Int32)) + x2))) + v7)).1 (m + 3) (Int32.toNatClampNeg x1)) ||| ((1 : Int32) <<< (x2 &&& 31)))))))))) : Ev_ (P_X5_hear KC) 48 [some (.ref m), some (.int x1), some (.int x2), some (.int x3), some (.int x4), some (.int x5), none, none, none] [] σ out := by
  refine ev_n 7 (fun _ => rfl) ?_
  obtain ⟨b1, eb1, hb1, h⟩ := h
  refine ev_go rfl (w_gR (km_0 hm) eb1) ?_
  refine ev_n 2 (fun _ => rfl) ?_
  refine ev_go rfl (w_gF (km_0 hm) (km_r3 hm)) ?_
  refine ev_n 1 (fun _ => rfl) ?_
  obtain ⟨v3, σ2, hf, h⟩ := h
  refine ev_go rfl (w_callV rfl rfl (kb_0 hb1) (Nat.le_of_ble_eq_true rfl) hf) ?_
  refine ev_n 1 (fun _ => rfl) ?_
  obtain ⟨v5, σ4, hf, h⟩ := h
  refine ev_go rfl (w_callS ⟨Nat.le_of_ble_eq_true rfl, Nat.le_of_ble_eq_true rfl⟩ hf) ?_
  refine ev_n 2 (fun _ => rfl) ?_
  refine ev_go rfl (w_gF (km_0 hm) (km_r3 hm)) ?_
  refine ev_n 3 (fun _ => rfl) ?_
  obtain ⟨h0, h⟩ := h
  refine ev_go rfl (w_iald (km_k3 hm) h0) ?_
  refine ev_n 2 (fun _ => rfl) ?_
  refine ev_go rfl (w_gF (km_0 hm) (km_r3 hm)) ?_
  refine ev_n 8 (fun _ => rfl) ?_
  obtain ⟨v7, σ6, hf, h⟩ := h
  refine ev_go rfl (w_callS ⟨Nat.le_of_ble_eq_true rfl, Nat.le_of_ble_eq_true rfl⟩ hf) ?_
  refine ev_n 1 (fun _ => rfl) ?_
  obtain ⟨h0, h⟩ := h
  refine ev_go rfl (w_iast (km_k3 hm) h0) ?_
  refine ev_n 1 (fun _ => rfl) ?_
  refine ev_go rfl (w_gF (km_0 hm) (km_r2 hm)) ?_
  refine ev_n 2 (fun _ => rfl) ?_
  obtain ⟨h0, h⟩ := h
  refine ev_go rfl (w_iald (km_k2 hm) h0) ?_
  refine ev_n 4 (fun _ => rfl) ?_
  obtain ⟨h0, h⟩ := h
  refine ev_go rfl (w_iast (km_k2 hm) h0) ?_
  exact ev_ret rfl (fun _ => rfl) h
theorem m_X5_hear : ∀ pc o, (P_X5_hear KC).lookup pc = some o → Mon_ o := all_mon (a_X5_hear (l := launch0) (E := EC0) EC0_ok)
theorem z_X5_hear {m : Nat} {x1 : Int32} {x2 : Int32} {x3 : Int32} {x4 : Int32} {σ : St_} {out : Out_} (h : Ev_ (P_X5_hear KC) 0 [some (.ref m), some (.int x1), some (.int x2), some (.int x3), some (.int x4), none, none, none, none] [] σ out) : f_X5_hear KC [.ref m, .int x1, .int x2, .int x3, .int x4] σ = some out := fn_eq m_X5_hear rfl h
set_option maxRecDepth 20000 in
theorem e_X5_partsIfRead_0 {m : Nat} {x1 : Int32} {x2 : Int32} {σ : St_} {out : Out_} (hm : isM m) (h : (vpin_ ((x1 * (16 : Int32)) + x2) 144 = true) ∧ (∃ b1, σ.2.2 m 9 = some b1 ∧ isB b1 ∧ (∃ (v3 : Int32) (σ2 : St_), f_X0_lackAt KC [.ref b1, .int x2, .ref (m + 4), .int (x1 * (16 : Int32))] σ = some (some (.int v3), σ2) ∧ (∃ (v5 : Int32) (σ4 : St_), f_X0_partsRead KC [.ref b1, .int x1, .int v3] σ2 = some (some (.int v5), σ4) ∧ out = (some (.int (if (σ.1 (m + 4) (Int32.toNatClampNeg ((x1 * (16 : Int32)) + x2))) < v5 then v5 else (σ.1 (m + 4) (Int32.toNatClampNeg ((x1 * (16 : Int32)) + x2))))), σ4))))) : Ev_ (P_X5_partsIfRead KC) 0 [some (.ref m), some (.int x1), some (.int x2), none] [] σ out := by
  refine ev_n 5 (fun _ => rfl) ?_
  refine ev_go rfl (w_gF (km_0 hm) (km_r3 hm)) ?_
  refine ev_n 3 (fun _ => rfl) ?_
  obtain ⟨h0, h⟩ := h
  refine ev_go rfl (w_iald (km_k3 hm) h0) ?_
  refine ev_n 1 (fun _ => rfl) ?_
  obtain ⟨b1, eb1, hb1, h⟩ := h
  refine ev_go rfl (w_gR (km_0 hm) eb1) ?_
  refine ev_n 2 (fun _ => rfl) ?_
  refine ev_go rfl (w_gR (z := b1) (km_0 hm) eb1) ?_
  refine ev_n 2 (fun _ => rfl) ?_
  refine ev_go rfl (w_gF (km_0 hm) (km_r3 hm)) ?_
  refine ev_n 1 (fun _ => rfl) ?_
  obtain ⟨v3, σ2, hf, h⟩ := h
  refine ev_go rfl (w_callV rfl rfl (kb_0 hb1) (Nat.le_of_ble_eq_true rfl) hf) ?_
  obtain ⟨v5, σ4, hf, h⟩ := h
  refine ev_go rfl (w_callV rfl rfl (kb_0 hb1) (Nat.le_of_ble_eq_true rfl) hf) ?_
  refine ev_go rfl (w_max (Nat.le_of_ble_eq_true rfl)) ?_
  exact ev_ret rfl (fun _ => rfl) h
theorem m_X5_partsIfRead : ∀ pc o, (P_X5_partsIfRead KC).lookup pc = some o → Mon_ o := all_mon (a_X5_partsIfRead (l := launch0) (E := EC0) EC0_ok)
theorem z_X5_partsIfRead {m : Nat} {x1 : Int32} {x2 : Int32} {σ : St_} {out : Out_} (h : Ev_ (P_X5_partsIfRead KC) 0 [some (.ref m), some (.int x1), some (.int x2), none] [] σ out) : f_X5_partsIfRead KC [.ref m, .int x1, .int x2] σ = some out := fn_eq m_X5_partsIfRead rfl h
set_option maxRecDepth 20000 in
theorem e_X5_perform_0 {m : Nat} {x1 : Int32} {x2 : Int32} {x3 : Int32} {x4 : Int32} {σ : St_} {out : Out_} (hm : isM m) (h : ((x3 = 0 → (vpin_ x1 9 = true) ∧ (∃ b1, σ.2.2 m 9 = some b1 ∧ isB b1 ∧ (∃ (v3 : Int32) (σ2 : St_), f_X0_readTime KC [.ref b1, .int x1, .int x2] σ = some (some (.int v3), σ2) ∧ (vpin_ x1 9 = true) ∧ (∃ (v5 : Int32) (σ4 : St_), f_X5_partsIfRead KC [.ref m, .int x1, .int x2] (sI_ σ2 (m + 1) (Int32.toNatClampNeg x1) ((σ.1 (m + 1) (Int32.toNatClampNeg x1)) - v3)) = some (some (.int v5), σ4) ∧ (vpin_ ((x1 * (16 : Int32)) + x2) 144 = true) ∧ (vpin_ x1 9 = true) ∧ (vpin_ x1 9 = true) ∧ out = (none, (sI_ (sI_ σ4 (m + 4) (Int32.toNatClampNeg ((x1 * (16 : Int32)) + x2)) v5) (m + 2) (Int32.toNatClampNeg x1) (((sI_ σ4 (m + 4) (Int32.toNatClampNeg ((x1 * (16 : Int32)) + x2)) v5).1 (m + 2) (Int32.toNatClampNeg x1)) ||| ((1 : Int32) <<< (x2 &&& 31))))))))) ∧ (¬ (x3 = 0) → (∃ b6, σ.2.2 m 9 = some b6 ∧ isB b6 ∧ (∃ (v8 : Int32) (σ7 : St_), f_X0_tellTime KC [.ref b6, .int x2, .int x3] σ = some (some (.int v8), σ7) ∧ (vpin_ x1 9 = true) ∧ (vpin_ x1 9 = true) ∧ Ev_ (P_X5_perform KC) 77 [some (.ref m), some (.int x1), some (.int x2), some (.int x3), some (.int x4), some (.int v8), some (.int (0 : Int32))] [] (sI_ σ7 (m + 1) (Int32.toNatClampNeg x1) ((σ7.1 (m + 1) (Int32.toNatClampNeg x1)) - v8)) out))))) : Ev_ (P_X5_perform KC) 0 [some (.ref m), some (.int x1), some (.int x2), some (.int x3), some (.int x4), none, none] [] σ out := by
  refine ev_n 1 (fun _ => rfl) ?_
  refine ev_if (c := x3 = 0) rfl (fun _ => rfl) (fun hc => ?_) (fun hc => ?_)
  · replace h := h.1 hc
    refine ev_n 1 (fun _ => rfl) ?_
    refine ev_go rfl (w_gF (km_0 hm) (km_r0 hm)) ?_
    refine ev_n 2 (fun _ => rfl) ?_
    obtain ⟨h0, h⟩ := h
    refine ev_go rfl (w_iald (km_k0 hm) h0) ?_
    refine ev_n 1 (fun _ => rfl) ?_
    obtain ⟨b1, eb1, hb1, h⟩ := h
    refine ev_go rfl (w_gR (km_0 hm) eb1) ?_
    refine ev_n 2 (fun _ => rfl) ?_
    obtain ⟨v3, σ2, hf, h⟩ := h
    refine ev_go rfl (w_callV rfl rfl (kb_0 hb1) (Nat.le_of_ble_eq_true rfl) hf) ?_
    refine ev_n 1 (fun _ => rfl) ?_
    obtain ⟨h0, h⟩ := h
    refine ev_go rfl (w_iast (km_k0 hm) h0) ?_
    refine ev_n 1 (fun _ => rfl) ?_
    refine ev_go rfl (w_gF (km_0 hm) (km_r3 hm)) ?_
    refine ev_n 8 (fun _ => rfl) ?_
    obtain ⟨v5, σ4, hf, h⟩ := h
    refine ev_go rfl (w_callV rfl rfl (km_0 hm) (Nat.le_of_ble_eq_true rfl) hf) ?_
    obtain ⟨h0, h⟩ := h
    refine ev_go rfl (w_iast (km_k3 hm) h0) ?_
    refine ev_n 1 (fun _ => rfl) ?_
    refine ev_go rfl (w_gF (km_0 hm) (km_r1 hm)) ?_
    refine ev_n 2 (fun _ => rfl) ?_
    obtain ⟨h0, h⟩ := h
    refine ev_go rfl (w_iald (km_k1 hm) h0) ?_
    refine ev_n 4 (fun _ => rfl) ?_
    obtain ⟨h0, h⟩ := h
    refine ev_go rfl (w_iast (km_k1 hm) h0) ?_
    exact ev_ret rfl (fun _ => rfl) h
  · replace h := h.2 hc
    refine ev_n 1 (fun _ => rfl) ?_
    obtain ⟨b6, eb6, hb6, h⟩ := h
    refine ev_go rfl (w_gR (km_0 hm) eb6) ?_
    refine ev_n 2 (fun _ => rfl) ?_
    obtain ⟨v8, σ7, hf, h⟩ := h
    refine ev_go rfl (w_callV rfl rfl (kb_0 hb6) (Nat.le_of_ble_eq_true rfl) hf) ?_
    refine ev_n 2 (fun _ => rfl) ?_
    refine ev_go rfl (w_gF (km_0 hm) (km_r0 hm)) ?_
    refine ev_n 2 (fun _ => rfl) ?_
    obtain ⟨h0, h⟩ := h
    refine ev_go rfl (w_iald (km_k0 hm) h0) ?_
    refine ev_n 2 (fun _ => rfl) ?_
    obtain ⟨h0, h⟩ := h
    refine ev_go rfl (w_iast (km_k0 hm) h0) ?_
    refine ev_n 2 (fun _ => rfl) ?_
    exact h
set_option maxRecDepth 20000 in
theorem e_X5_perform_77 {m : Nat} {x1 : Int32} {x2 : Int32} {x3 : Int32} {x4 : Int32} {x5 : Int32} {x6 : Int32} {σ : St_} {out : Out_} (hm : isM m) (h : (∃ b1, σ.2.2 m 9 = some b1 ∧ isB b1 ∧ (((σ.1 b1 12) ≤ x6 → out = (none, σ)) ∧ (¬ ((σ.1 b1 12) ≤ x6) → ((((x4 >>> (x6 &&& 31)) &&& (1 : Int32)) = 0 → Ev_ (P_X5_perform KC) 77 [some (.ref m), some (.int x1), some (.int x2), some (.int x3), some (.int x4), some (.int x5), some (.int (x6 + 1))] [] σ out) ∧ (¬ (((x4 >>> (x6 &&& 31)) &&& (1 : Int32)) = 0) → (vpin_ x6 9 = true) ∧ (vpin_ x6 9 = true) ∧ (∃ (σ2 : St_), f_X5_hear KC [.ref m, .int x6, .int x2, .int x1, .int x3] (sI_ σ (m + 1) (Int32.toNatClampNeg x6) ((σ.1 (m + 1) (Int32.toNatClampNeg x6)) - x5)) = some (none, σ2) ∧ Ev_ (P_X5_perform KC) 77 [some (.ref m), some (.int x1), some (.int x2), some (.int x3), some (.int x4), some (.int x5), some (.int (x6 + 1))] [] σ2 out))))))) : Ev_ (P_X5_perform KC) 77 [some (.ref m), some (.int x1), some (.int x2), some (.int x3), some (.int x4), some (.int x5), some (.int x6)] [] σ out := by
  refine ev_n 2 (fun _ => rfl) ?_
  obtain ⟨b1, eb1, hb1, h⟩ := h
  refine ev_go rfl (w_gR (km_0 hm) eb1) ?_
  refine ev_go rfl (w_gI (kb_0 hb1)) ?_
  refine ev_if (c := (σ.1 b1 12) ≤ x6) rfl (fun _ => rfl) (fun hc => ?_) (fun hc => ?_)
  · replace h := h.1 hc
    exact ev_ret rfl (fun _ => rfl) h
  · replace h := h.2 hc
    refine ev_n 5 (fun _ => rfl) ?_
    refine ev_if (c := ((x4 >>> (x6 &&& 31)) &&& (1 : Int32)) = 0) rfl (fun _ => rfl) (fun hc => ?_) (fun hc => ?_)
    · replace h := h.1 hc
      refine ev_n 2 (fun _ => rfl) ?_
      exact h
    · replace h := h.2 hc
      refine ev_n 1 (fun _ => rfl) ?_
      refine ev_go rfl (w_gF (km_0 hm) (km_r0 hm)) ?_
      refine ev_n 2 (fun _ => rfl) ?_
      obtain ⟨h0, h⟩ := h
      refine ev_go rfl (w_iald (km_k0 hm) h0) ?_
      refine ev_n 2 (fun _ => rfl) ?_
      obtain ⟨h0, h⟩ := h
      refine ev_go rfl (w_iast (km_k0 hm) h0) ?_
      refine ev_n 5 (fun _ => rfl) ?_
      obtain ⟨σ2, hf, h⟩ := h
      refine ev_go rfl (w_callV rfl rfl (km_0 hm) (Nat.le_of_ble_eq_true rfl) hf) ?_
      refine ev_n 2 (fun _ => rfl) ?_
      exact h
theorem m_X5_perform : ∀ pc o, (P_X5_perform KC).lookup pc = some o → Mon_ o := all_mon (a_X5_perform (l := launch0) (E := EC0) EC0_ok)
theorem z_X5_perform {m : Nat} {x1 : Int32} {x2 : Int32} {x3 : Int32} {x4 : Int32} {σ : St_} {out : Out_} (h : Ev_ (P_X5_perform KC) 0 [some (.ref m), some (.int x1), some (.int x2), some (.int x3), some (.int x4), none, none] [] σ out) : f_X5_perform KC [.ref m, .int x1, .int x2, .int x3, .int x4] σ = some out := fn_eq m_X5_perform rfl h
set_option maxRecDepth 20000 in
theorem e_X5_withTime_0 {m : Nat} {x1 : Int32} {σ : St_} {out : Out_} (hm : isM m) (h : Ev_ (P_X5_withTime KC) 4 [some (.ref m), some (.int x1), some (.int (0 : Int32)), some (.int (0 : Int32))] [] σ out) : Ev_ (P_X5_withTime KC) 0 [some (.ref m), some (.int x1), none, none] [] σ out := by
  refine ev_n 4 (fun _ => rfl) ?_
  exact h
set_option maxRecDepth 20000 in
theorem e_X5_withTime_4 {m : Nat} {x1 : Int32} {x2 : Int32} {x3 : Int32} {σ : St_} {out : Out_} (hm : isM m) (h : (∃ b1, σ.2.2 m 9 = some b1 ∧ isB b1 ∧ (((σ.1 b1 12) ≤ x3 → out = (some (.int x2), σ)) ∧ (¬ ((σ.1 b1 12) ≤ x3) → (vpin_ x3 9 = true) ∧ (((σ.1 (m + 1) (Int32.toNatClampNeg x3)) < x1 → Ev_ (P_X5_withTime KC) 4 [some (.ref m), some (.int x1), some (.int x2), some (.int (x3 + 1))] [] σ out) ∧ (¬ ((σ.1 (m + 1) (Int32.toNatClampNeg x3)) < x1) → Ev_ (P_X5_withTime KC) 4 [some (.ref m), some (.int x1), some (.int (x2 ||| ((1 : Int32) <<< (x3 &&& 31)))), some (.int (x3 + 1))] [] σ out)))))) : Ev_ (P_X5_withTime KC) 4 [some (.ref m), some (.int x1), some (.int x2), some (.int x3)] [] σ out := by
  refine ev_n 2 (fun _ => rfl) ?_
  obtain ⟨b1, eb1, hb1, h⟩ := h
  refine ev_go rfl (w_gR (km_0 hm) eb1) ?_
  refine ev_go rfl (w_gI (kb_0 hb1)) ?_
  refine ev_if (c := (σ.1 b1 12) ≤ x3) rfl (fun _ => rfl) (fun hc => ?_) (fun hc => ?_)
  · replace h := h.1 hc
    refine ev_n 1 (fun _ => rfl) ?_
    exact ev_ret rfl (fun _ => rfl) h
  · replace h := h.2 hc
    refine ev_n 1 (fun _ => rfl) ?_
    refine ev_go rfl (w_gF (km_0 hm) (km_r0 hm)) ?_
    refine ev_n 1 (fun _ => rfl) ?_
    obtain ⟨h0, h⟩ := h
    refine ev_go rfl (w_iald (km_k0 hm) h0) ?_
    refine ev_n 1 (fun _ => rfl) ?_
    refine ev_if (c := (σ.1 (m + 1) (Int32.toNatClampNeg x3)) < x1) rfl (fun _ => rfl) (fun hc => ?_) (fun hc => ?_)
    · replace h := h.1 hc
      refine ev_n 2 (fun _ => rfl) ?_
      exact h
    · replace h := h.2 hc
      refine ev_n 8 (fun _ => rfl) ?_
      exact h
theorem m_X5_withTime : ∀ pc o, (P_X5_withTime KC).lookup pc = some o → Mon_ o := all_mon (a_X5_withTime (l := launch0) (E := EC0) EC0_ok)
theorem z_X5_withTime {m : Nat} {x1 : Int32} {σ : St_} {out : Out_} (h : Ev_ (P_X5_withTime KC) 0 [some (.ref m), some (.int x1), none, none] [] σ out) : f_X5_withTime KC [.ref m, .int x1] σ = some out := fn_eq m_X5_withTime rfl h
set_option maxRecDepth 20000 in
theorem e_X5_wrongOf_0 {m : Nat} {x1 : Int32} {x2 : Int32} {x3 : Int32} {x4 : Int32} {σ : St_} {out : Out_} (hm : isM m) (h : ((x3 = 0 → (vpin_ x1 9 = true) ∧ (∃ b1, σ.2.2 m 9 = some b1 ∧ isB b1 ∧ (∃ (v3 : Int32) (σ2 : St_), f_X0_readTime KC [.ref b1, .int x1, .int x2] σ = some (some (.int v3), σ2) ∧ ((v3 ≤ (σ.1 (m + 1) (Int32.toNatClampNeg x1)) → out = (some (.int (0 : Int32)), σ2)) ∧ (¬ (v3 ≤ (σ.1 (m + 1) (Int32.toNatClampNeg x1))) → out = (some (.int (1 : Int32)), σ2)))))) ∧ (¬ (x3 = 0) → (∃ b4, σ.2.2 m 9 = some b4 ∧ isB b4 ∧ (∃ (v6 : Int32) (σ5 : St_), f_X0_tellTime KC [.ref b4, .int x2, .int x3] σ = some (some (.int v6), σ5) ∧ (vpin_ x1 9 = true) ∧ (((σ5.1 (m + 1) (Int32.toNatClampNeg x1)) < v6 → out = (some (.int (1 : Int32)), σ5)) ∧ (¬ ((σ5.1 (m + 1) (Int32.toNatClampNeg x1)) < v6) → (∃ (v8 : Int32) (σ7 : St_), f_X5_withTime KC [.ref m, .int v6] σ5 = some (some (.int v8), σ7) ∧ (((x4 &&& (v8 ^^^ ((-1) : Int32))) = 0 → (vpin_ ((x1 * (16 : Int32)) + x2) 144 = true) ∧ (((σ7.1 (m + 4) (Int32.toNatClampNeg ((x1 * (16 : Int32)) + x2))) = 0 → out = (some (.int (2 : Int32)), σ7)) ∧ (¬ ((σ7.1 (m + 4) (Int32.toNatClampNeg ((x1 * (16 : Int32)) + x2))) = 0) → out = (some (.int (0 : Int32)), σ7)))) ∧ (¬ ((x4 &&& (v8 ^^^ ((-1) : Int32))) = 0) → out = (some (.int (1 : Int32)), σ7))))))))))) : Ev_ (P_X5_wrongOf KC) 0 [some (.ref m), some (.int x1), some (.int x2), some (.int x3), some (.int x4), none] [] σ out := by
  refine ev_n 1 (fun _ => rfl) ?_
  refine ev_if (c := x3 = 0) rfl (fun _ => rfl) (fun hc => ?_) (fun hc => ?_)
  · replace h := h.1 hc
    refine ev_n 1 (fun _ => rfl) ?_
    refine ev_go rfl (w_gF (km_0 hm) (km_r0 hm)) ?_
    refine ev_n 1 (fun _ => rfl) ?_
    obtain ⟨h0, h⟩ := h
    refine ev_go rfl (w_iald (km_k0 hm) h0) ?_
    refine ev_n 1 (fun _ => rfl) ?_
    obtain ⟨b1, eb1, hb1, h⟩ := h
    refine ev_go rfl (w_gR (km_0 hm) eb1) ?_
    refine ev_n 2 (fun _ => rfl) ?_
    obtain ⟨v3, σ2, hf, h⟩ := h
    refine ev_go rfl (w_callV rfl rfl (kb_0 hb1) (Nat.le_of_ble_eq_true rfl) hf) ?_
    refine ev_if (c := v3 ≤ (σ.1 (m + 1) (Int32.toNatClampNeg x1))) rfl (fun _ => rfl) (fun hc => ?_) (fun hc => ?_)
    · replace h := h.1 hc
      refine ev_n 1 (fun _ => rfl) ?_
      exact ev_ret rfl (fun _ => rfl) h
    · replace h := h.2 hc
      refine ev_n 2 (fun _ => rfl) ?_
      exact ev_ret rfl (fun _ => rfl) h
  · replace h := h.2 hc
    refine ev_n 1 (fun _ => rfl) ?_
    obtain ⟨b4, eb4, hb4, h⟩ := h
    refine ev_go rfl (w_gR (km_0 hm) eb4) ?_
    refine ev_n 2 (fun _ => rfl) ?_
    obtain ⟨v6, σ5, hf, h⟩ := h
    refine ev_go rfl (w_callV rfl rfl (kb_0 hb4) (Nat.le_of_ble_eq_true rfl) hf) ?_
    refine ev_n 2 (fun _ => rfl) ?_
    refine ev_go rfl (w_gF (km_0 hm) (km_r0 hm)) ?_
    refine ev_n 1 (fun _ => rfl) ?_
    obtain ⟨h0, h⟩ := h
    refine ev_go rfl (w_iald (km_k0 hm) h0) ?_
    refine ev_n 1 (fun _ => rfl) ?_
    refine ev_if (c := (σ5.1 (m + 1) (Int32.toNatClampNeg x1)) < v6) rfl (fun _ => rfl) (fun hc => ?_) (fun hc => ?_)
    · replace h := h.1 hc
      refine ev_n 1 (fun _ => rfl) ?_
      exact ev_ret rfl (fun _ => rfl) h
    · replace h := h.2 hc
      refine ev_n 3 (fun _ => rfl) ?_
      obtain ⟨v8, σ7, hf, h⟩ := h
      refine ev_go rfl (w_callV rfl rfl (km_0 hm) (Nat.le_of_ble_eq_true rfl) hf) ?_
      refine ev_n 3 (fun _ => rfl) ?_
      refine ev_if (c := (x4 &&& (v8 ^^^ ((-1) : Int32))) = 0) rfl (fun _ => rfl) (fun hc => ?_) (fun hc => ?_)
      · replace h := h.1 hc
        refine ev_n 1 (fun _ => rfl) ?_
        refine ev_go rfl (w_gF (km_0 hm) (km_r3 hm)) ?_
        refine ev_n 5 (fun _ => rfl) ?_
        obtain ⟨h0, h⟩ := h
        refine ev_go rfl (w_iald (km_k3 hm) h0) ?_
        refine ev_if (c := (σ7.1 (m + 4) (Int32.toNatClampNeg ((x1 * (16 : Int32)) + x2))) = 0) rfl (fun _ => rfl) (fun hc => ?_) (fun hc => ?_)
        · replace h := h.1 hc
          refine ev_n 2 (fun _ => rfl) ?_
          exact ev_ret rfl (fun _ => rfl) h
        · replace h := h.2 hc
          refine ev_n 1 (fun _ => rfl) ?_
          exact ev_ret rfl (fun _ => rfl) h
      · replace h := h.2 hc
        refine ev_n 1 (fun _ => rfl) ?_
        exact ev_ret rfl (fun _ => rfl) h
theorem m_X5_wrongOf : ∀ pc o, (P_X5_wrongOf KC).lookup pc = some o → Mon_ o := all_mon (a_X5_wrongOf (l := launch0) (E := EC0) EC0_ok)
theorem z_X5_wrongOf {m : Nat} {x1 : Int32} {x2 : Int32} {x3 : Int32} {x4 : Int32} {σ : St_} {out : Out_} (h : Ev_ (P_X5_wrongOf KC) 0 [some (.ref m), some (.int x1), some (.int x2), some (.int x3), some (.int x4), none] [] σ out) : f_X5_wrongOf KC [.ref m, .int x1, .int x2, .int x3, .int x4] σ = some out := fn_eq m_X5_wrongOf rfl h
set_option maxRecDepth 20000 in
theorem e_X3_readMissed_0 {x1 : Int32} {σ : St_} {out : Out_}  (h : Ev_ (P_X3_readMissed KC) 2 [some (.ref 92), some (.int x1), some (.int (0 : Int32)), none] [] σ out) : Ev_ (P_X3_readMissed KC) 0 [some (.ref 92), some (.int x1), none, none] [] σ out := by
  refine ev_n 2 (fun _ => rfl) ?_
  exact h
set_option maxRecDepth 20000 in
theorem e_X3_readMissed_2 {x1 : Int32} {x2 : Int32} {σ : St_} {out : Out_}  (h : (((σ.1 92 2) ≤ x2 → out = (none, σ)) ∧ (¬ ((σ.1 92 2) ≤ x2) → (vpin_ x2 100 = true) ∧ (vpin_ x1 9 = true) ∧ (((((σ.1 95 (Int32.toNatClampNeg x1)) >>> ((σ.1 98 (Int32.toNatClampNeg x2)) &&& 31)) &&& (1 : Int32)) = 0 → (∃ (v2 : Int32) (σ1 : St_), f_X5_wrongOf KC [.ref 93, .int x1, .int (σ.1 98 (Int32.toNatClampNeg x2)), .int (0 : Int32), .int (0 : Int32)] σ = some (some (.int v2), σ1) ∧ ((v2 = 0 → (∃ (σ3 : St_), f_X5_perform KC [.ref 93, .int x1, .int (σ.1 98 (Int32.toNatClampNeg x2)), .int (0 : Int32), .int (0 : Int32)] σ1 = some (none, σ3) ∧ Ev_ (P_X3_readMissed KC) 2 [some (.ref 92), some (.int x1), some (.int (x2 + 1)), none] [] σ3 out)) ∧ (¬ (v2 = 0) → out = (none, σ1))))) ∧ (¬ ((((σ.1 95 (Int32.toNatClampNeg x1)) >>> ((σ.1 98 (Int32.toNatClampNeg x2)) &&& 31)) &&& (1 : Int32)) = 0) → Ev_ (P_X3_readMissed KC) 2 [some (.ref 92), some (.int x1), some (.int (x2 + 1)), none] [] σ out))))) : Ev_ (P_X3_readMissed KC) 2 [some (.ref 92), some (.int x1), some (.int x2), none] [] σ out := by
  refine ev_n 2 (fun _ => rfl) ?_
  refine ev_go rfl (w_gI rfl) ?_
  refine ev_if (c := (σ.1 92 2) ≤ x2) rfl (fun _ => rfl) (fun hc => ?_) (fun hc => ?_)
  · replace h := h.1 hc
    exact ev_ret rfl (fun _ => rfl) h
  · replace h := h.2 hc
    refine ev_n 1 (fun _ => rfl) ?_
    refine ev_go rfl (w_gF rfl rfl) ?_
    refine ev_n 1 (fun _ => rfl) ?_
    obtain ⟨h0, h⟩ := h
    refine ev_go rfl (w_iald rfl h0) ?_
    refine ev_n 2 (fun _ => rfl) ?_
    refine ev_go rfl (w_gF rfl rfl) ?_
    refine ev_go rfl (w_gF rfl rfl) ?_
    refine ev_n 1 (fun _ => rfl) ?_
    obtain ⟨h0, h⟩ := h
    refine ev_go rfl (w_iald rfl h0) ?_
    refine ev_n 4 (fun _ => rfl) ?_
    refine ev_if (c := (((σ.1 95 (Int32.toNatClampNeg x1)) >>> ((σ.1 98 (Int32.toNatClampNeg x2)) &&& 31)) &&& (1 : Int32)) = 0) rfl (fun _ => rfl) (fun hc => ?_) (fun hc => ?_)
    · replace h := h.1 hc
      refine ev_n 1 (fun _ => rfl) ?_
      refine ev_go rfl (w_gF rfl rfl) ?_
      refine ev_n 4 (fun _ => rfl) ?_
      obtain ⟨v2, σ1, hf, h⟩ := h
      refine ev_go rfl (w_callV rfl rfl rfl (Nat.le_of_ble_eq_true rfl) hf) ?_
      refine ev_if (c := v2 = 0) rfl (fun _ => rfl) (fun hc => ?_) (fun hc => ?_)
      · replace h := h.1 hc
        refine ev_n 1 (fun _ => rfl) ?_
        refine ev_go rfl (w_gF rfl rfl) ?_
        refine ev_n 4 (fun _ => rfl) ?_
        obtain ⟨σ3, hf, h⟩ := h
        refine ev_go rfl (w_callV rfl rfl rfl (Nat.le_of_ble_eq_true rfl) hf) ?_
        refine ev_n 2 (fun _ => rfl) ?_
        exact h
      · replace h := h.2 hc
        exact ev_ret rfl (fun _ => rfl) h
    · replace h := h.2 hc
      refine ev_n 2 (fun _ => rfl) ?_
      exact h
theorem m_X3_readMissed : ∀ pc o, (P_X3_readMissed KC).lookup pc = some o → Mon_ o := all_mon (a_X3_readMissed (l := launch0) (E := EC0) EC0_ok)
theorem z_X3_readMissed {x1 : Int32} {σ : St_} {out : Out_} (h : Ev_ (P_X3_readMissed KC) 0 [some (.ref 92), some (.int x1), none, none] [] σ out) : f_X3_readMissed KC [.ref 92, .int x1] σ = some out := fn_eq m_X3_readMissed rfl h
set_option maxRecDepth 20000 in
theorem e_X5_inAll_0 {m : Nat} {x1 : Int32} {σ : St_} {out : Out_} (hm : isM m) (h : Ev_ (P_X5_inAll KC) 4 [some (.ref m), some (.int x1), some (.int (0 : Int32)), some (.int (0 : Int32))] [] σ out) : Ev_ (P_X5_inAll KC) 0 [some (.ref m), some (.int x1), none, none] [] σ out := by
  refine ev_n 4 (fun _ => rfl) ?_
  exact h
set_option maxRecDepth 20000 in
theorem e_X5_inAll_4 {m : Nat} {x1 : Int32} {x2 : Int32} {x3 : Int32} {σ : St_} {out : Out_} (hm : isM m) (h : (∃ b1, σ.2.2 m 9 = some b1 ∧ isB b1 ∧ (((σ.1 b1 11) ≤ x3 → out = (some (.int x2), σ)) ∧ (¬ ((σ.1 b1 11) ≤ x3) → (vpin_ x3 16 = true) ∧ (vpin_ ((x1 * (16 : Int32)) + x3) 144 = true) ∧ (∃ (v3 : Int32) (σ2 : St_), f_X0_ofMillion KC [.int (σ.1 (b1 + 3) (Int32.toNatClampNeg x3)), .int (σ.1 (m + 4) (Int32.toNatClampNeg ((x1 * (16 : Int32)) + x3)))] σ = some (some (.int v3), σ2) ∧ Ev_ (P_X5_inAll KC) 4 [some (.ref m), some (.int x1), some (.int (x2 + v3)), some (.int (x3 + 1))] [] σ2 out))))) : Ev_ (P_X5_inAll KC) 4 [some (.ref m), some (.int x1), some (.int x2), some (.int x3)] [] σ out := by
  refine ev_n 2 (fun _ => rfl) ?_
  obtain ⟨b1, eb1, hb1, h⟩ := h
  refine ev_go rfl (w_gR (km_0 hm) eb1) ?_
  refine ev_go rfl (w_gI (kb_0 hb1)) ?_
  refine ev_if (c := (σ.1 b1 11) ≤ x3) rfl (fun _ => rfl) (fun hc => ?_) (fun hc => ?_)
  · replace h := h.1 hc
    refine ev_n 1 (fun _ => rfl) ?_
    exact ev_ret rfl (fun _ => rfl) h
  · replace h := h.2 hc
    refine ev_n 2 (fun _ => rfl) ?_
    refine ev_go rfl (w_gR (z := b1) (km_0 hm) eb1) ?_
    refine ev_go rfl (w_gF (kb_0 hb1) (kb_r2 hb1)) ?_
    refine ev_n 1 (fun _ => rfl) ?_
    obtain ⟨h0, h⟩ := h
    refine ev_go rfl (w_iald (kb_k2 hb1) h0) ?_
    refine ev_n 1 (fun _ => rfl) ?_
    refine ev_go rfl (w_gF (km_0 hm) (km_r3 hm)) ?_
    refine ev_n 5 (fun _ => rfl) ?_
    obtain ⟨h0, h⟩ := h
    refine ev_go rfl (w_iald (km_k3 hm) h0) ?_
    obtain ⟨v3, σ2, hf, h⟩ := h
    refine ev_go rfl (w_callS ⟨Nat.le_of_ble_eq_true rfl, Nat.le_of_ble_eq_true rfl⟩ hf) ?_
    refine ev_n 4 (fun _ => rfl) ?_
    exact h
theorem m_X5_inAll : ∀ pc o, (P_X5_inAll KC).lookup pc = some o → Mon_ o := all_mon (a_X5_inAll (l := launch0) (E := EC0) EC0_ok)
theorem z_X5_inAll {m : Nat} {x1 : Int32} {σ : St_} {out : Out_} (h : Ev_ (P_X5_inAll KC) 0 [some (.ref m), some (.int x1), none, none] [] σ out) : f_X5_inAll KC [.ref m, .int x1] σ = some out := fn_eq m_X5_inAll rfl h
set_option maxRecDepth 20000 in
theorem e_X3_offerHelp_0 {x1 : Int32} {σ : St_} {out : Out_}  (h : (∃ (v2 : Int32) (σ1 : St_), f_X5_inAll KC [.ref 93, .int x1] σ = some (some (.int v2), σ1) ∧ (∃ (σ3 : St_), f_X3_readMissed KC [.ref 92, .int x1] σ1 = some (none, σ3) ∧ (∃ (v5 : Int32) (σ4 : St_), f_X5_inAll KC [.ref 93, .int x1] σ3 = some (some (.int v5), σ4) ∧ (((((σ.1 92 3) - v2) + v5) ≤ (σ4.1 92 6) → out = (none, σ4)) ∧ (¬ ((((σ.1 92 3) - v2) + v5) ≤ (σ4.1 92 6)) → out = (none, (sI_ (sI_ σ4 92 6 (((σ.1 92 3) - v2) + v5)) 92 5 x1)))))))) : Ev_ (P_X3_offerHelp KC) 0 [some (.ref 92), some (.int x1), none, none] [] σ out := by
  refine ev_n 1 (fun _ => rfl) ?_
  refine ev_go rfl (w_gI rfl) ?_
  refine ev_n 1 (fun _ => rfl) ?_
  refine ev_go rfl (w_gF rfl rfl) ?_
  refine ev_n 1 (fun _ => rfl) ?_
  obtain ⟨v2, σ1, hf, h⟩ := h
  refine ev_go rfl (w_callV rfl rfl rfl (Nat.le_of_ble_eq_true rfl) hf) ?_
  refine ev_n 4 (fun _ => rfl) ?_
  obtain ⟨σ3, hf, h⟩ := h
  refine ev_go rfl (w_callV rfl rfl rfl (Nat.le_of_ble_eq_true rfl) hf) ?_
  refine ev_n 2 (fun _ => rfl) ?_
  refine ev_go rfl (w_gF rfl rfl) ?_
  refine ev_n 1 (fun _ => rfl) ?_
  obtain ⟨v5, σ4, hf, h⟩ := h
  refine ev_go rfl (w_callV rfl rfl rfl (Nat.le_of_ble_eq_true rfl) hf) ?_
  refine ev_n 4 (fun _ => rfl) ?_
  refine ev_go rfl (w_gI rfl) ?_
  refine ev_if (c := (((σ.1 92 3) - v2) + v5) ≤ (σ4.1 92 6)) rfl (fun _ => rfl) (fun hc => ?_) (fun hc => ?_)
  · replace h := h.1 hc
    exact ev_ret rfl (fun _ => rfl) h
  · replace h := h.2 hc
    refine ev_n 2 (fun _ => rfl) ?_
    refine ev_go rfl (w_pI rfl) ?_
    refine ev_n 2 (fun _ => rfl) ?_
    refine ev_go rfl (w_pI rfl) ?_
    exact ev_ret rfl (fun _ => rfl) h
theorem m_X3_offerHelp : ∀ pc o, (P_X3_offerHelp KC).lookup pc = some o → Mon_ o := all_mon (a_X3_offerHelp (l := launch0) (E := EC0) EC0_ok)
theorem z_X3_offerHelp {x1 : Int32} {σ : St_} {out : Out_} (h : Ev_ (P_X3_offerHelp KC) 0 [some (.ref 92), some (.int x1), none, none] [] σ out) : f_X3_offerHelp KC [.ref 92, .int x1] σ = some out := fn_eq m_X3_offerHelp rfl h
set_option maxRecDepth 20000 in
theorem e_X3_tryAct_0 {p : Nat} {x2 : Int32} {x3 : Int32} {σ : St_} {out : Out_} (hp : isP p) (h : (vpin_ x2 100 = true) ∧ ((x3 = ((-1) : Int32) → Ev_ (P_X3_tryAct KC) 23 [some (.ref 92), some (.ref p), some (.int x2), some (.int x3), some (.int (σ.1 (p + 4) (Int32.toNatClampNeg x2)))] [] σ out) ∧ (¬ (x3 = ((-1) : Int32)) → Ev_ (P_X3_tryAct KC) 23 [some (.ref 92), some (.ref p), some (.int x2), some (.int x3), some (.int ((σ.1 (p + 4) (Int32.toNatClampNeg x2)) &&& (((1 : Int32) <<< (x3 &&& 31)) ^^^ ((-1) : Int32))))] [] σ out))) : Ev_ (P_X3_tryAct KC) 0 [some (.ref 92), some (.ref p), some (.int x2), some (.int x3), none] [] σ out := by
  refine ev_n 1 (fun _ => rfl) ?_
  refine ev_go rfl (w_gF (kp_0 hp) (kp_r3 hp)) ?_
  refine ev_n 1 (fun _ => rfl) ?_
  obtain ⟨h0, h⟩ := h
  refine ev_go rfl (w_iald (kp_k3 hp) h0) ?_
  refine ev_n 3 (fun _ => rfl) ?_
  refine ev_if (c := x3 = ((-1) : Int32)) rfl (fun _ => rfl) (fun hc => ?_) (fun hc => ?_)
  · replace h := h.1 hc
    exact h
  · replace h := h.2 hc
    refine ev_n 8 (fun _ => rfl) ?_
    exact h
set_option maxRecDepth 20000 in
theorem e_X3_tryAct_23 {p : Nat} {x2 : Int32} {x3 : Int32} {x4 : Int32} {σ : St_} {out : Out_} (hp : isP p) (h : (vpin_ x2 100 = true) ∧ (((σ.1 (p + 1) (Int32.toNatClampNeg x2)) = x3 → out = (some (.int (0 : Int32)), σ)) ∧ (¬ ((σ.1 (p + 1) (Int32.toNatClampNeg x2)) = x3) → (vpin_ x2 100 = true) ∧ (((σ.1 (p + 3) (Int32.toNatClampNeg x2)) = 0 → Ev_ (P_X3_tryAct KC) 49 [some (.ref 92), some (.ref p), some (.int x2), some (.int x3), some (.int x4)] [] σ out) ∧ (¬ ((σ.1 (p + 3) (Int32.toNatClampNeg x2)) = 0) → ((x4 = 0 → out = (some (.int (0 : Int32)), σ)) ∧ (¬ (x4 = 0) → Ev_ (P_X3_tryAct KC) 49 [some (.ref 92), some (.ref p), some (.int x2), some (.int x3), some (.int x4)] [] σ out))))))) : Ev_ (P_X3_tryAct KC) 23 [some (.ref 92), some (.ref p), some (.int x2), some (.int x3), some (.int x4)] [] σ out := by
  refine ev_n 1 (fun _ => rfl) ?_
  refine ev_go rfl (w_gF (kp_0 hp) (kp_r0 hp)) ?_
  refine ev_n 1 (fun _ => rfl) ?_
  obtain ⟨h0, h⟩ := h
  refine ev_go rfl (w_iald (kp_k0 hp) h0) ?_
  refine ev_n 1 (fun _ => rfl) ?_
  refine ev_if (c := (σ.1 (p + 1) (Int32.toNatClampNeg x2)) = x3) rfl (fun _ => rfl) (fun hc => ?_) (fun hc => ?_)
  · replace h := h.1 hc
    refine ev_n 1 (fun _ => rfl) ?_
    exact v_zret (by decide) rfl h
  · replace h := h.2 hc
    refine ev_n 1 (fun _ => rfl) ?_
    refine ev_go rfl (w_gF (kp_0 hp) (kp_r2 hp)) ?_
    refine ev_n 1 (fun _ => rfl) ?_
    obtain ⟨h0, h⟩ := h
    refine ev_go rfl (w_iald (kp_k2 hp) h0) ?_
    refine ev_if (c := (σ.1 (p + 3) (Int32.toNatClampNeg x2)) = 0) rfl (fun _ => rfl) (fun hc => ?_) (fun hc => ?_)
    · replace h := h.1 hc
      exact h
    · replace h := h.2 hc
      refine ev_n 1 (fun _ => rfl) ?_
      refine ev_if (c := x4 = 0) rfl (fun _ => rfl) (fun hc => ?_) (fun hc => ?_)
      · replace h := h.1 hc
        refine ev_n 1 (fun _ => rfl) ?_
        exact v_zret (by decide) rfl h
      · replace h := h.2 hc
        exact h
set_option maxRecDepth 20000 in
theorem e_X3_tryAct_49 {p : Nat} {x2 : Int32} {x3 : Int32} {x4 : Int32} {σ : St_} {out : Out_} (hp : isP p) (h : (vpin_ x2 100 = true) ∧ (vpin_ x2 100 = true) ∧ (vpin_ x2 100 = true) ∧ (∃ (v2 : Int32) (σ1 : St_), f_X5_wrongOf KC [.ref 93, .int (σ.1 (p + 1) (Int32.toNatClampNeg x2)), .int (σ.1 (p + 2) (Int32.toNatClampNeg x2)), .int (σ.1 (p + 3) (Int32.toNatClampNeg x2)), .int x4] σ = some (some (.int v2), σ1) ∧ ((v2 = 0 → (vpin_ x2 100 = true) ∧ (vpin_ x2 100 = true) ∧ (vpin_ x2 100 = true) ∧ (∃ (σ3 : St_), f_X5_perform KC [.ref 93, .int (σ1.1 (p + 1) (Int32.toNatClampNeg x2)), .int (σ1.1 (p + 2) (Int32.toNatClampNeg x2)), .int (σ1.1 (p + 3) (Int32.toNatClampNeg x2)), .int x4] σ1 = some (none, σ3) ∧ out = (some (.int (1 : Int32)), σ3))) ∧ (¬ (v2 = 0) → out = (some (.int (0 : Int32)), σ1))))) : Ev_ (P_X3_tryAct KC) 49 [some (.ref 92), some (.ref p), some (.int x2), some (.int x3), some (.int x4)] [] σ out := by
  refine ev_n 1 (fun _ => rfl) ?_
  refine ev_go rfl (w_gF rfl rfl) ?_
  refine ev_n 1 (fun _ => rfl) ?_
  refine ev_go rfl (w_gF (kp_0 hp) (kp_r0 hp)) ?_
  refine ev_n 1 (fun _ => rfl) ?_
  obtain ⟨h0, h⟩ := h
  refine ev_go rfl (w_iald (kp_k0 hp) h0) ?_
  refine ev_n 1 (fun _ => rfl) ?_
  refine ev_go rfl (w_gF (kp_0 hp) (kp_r1 hp)) ?_
  refine ev_n 1 (fun _ => rfl) ?_
  obtain ⟨h0, h⟩ := h
  refine ev_go rfl (w_iald (kp_k1 hp) h0) ?_
  refine ev_n 1 (fun _ => rfl) ?_
  refine ev_go rfl (w_gF (kp_0 hp) (kp_r2 hp)) ?_
  refine ev_n 1 (fun _ => rfl) ?_
  obtain ⟨h0, h⟩ := h
  refine ev_go rfl (w_iald (kp_k2 hp) h0) ?_
  refine ev_n 1 (fun _ => rfl) ?_
  obtain ⟨v2, σ1, hf, h⟩ := h
  refine ev_go rfl (w_callV rfl rfl rfl (Nat.le_of_ble_eq_true rfl) hf) ?_
  refine ev_if (c := v2 = 0) rfl (fun _ => rfl) (fun hc => ?_) (fun hc => ?_)
  · replace h := h.1 hc
    refine ev_n 1 (fun _ => rfl) ?_
    refine ev_go rfl (w_gF rfl rfl) ?_
    refine ev_n 1 (fun _ => rfl) ?_
    refine ev_go rfl (w_gF (kp_0 hp) (kp_r0 hp)) ?_
    refine ev_n 1 (fun _ => rfl) ?_
    obtain ⟨h0, h⟩ := h
    refine ev_go rfl (w_iald (kp_k0 hp) h0) ?_
    refine ev_n 1 (fun _ => rfl) ?_
    refine ev_go rfl (w_gF (kp_0 hp) (kp_r1 hp)) ?_
    refine ev_n 1 (fun _ => rfl) ?_
    obtain ⟨h0, h⟩ := h
    refine ev_go rfl (w_iald (kp_k1 hp) h0) ?_
    refine ev_n 1 (fun _ => rfl) ?_
    refine ev_go rfl (w_gF (kp_0 hp) (kp_r2 hp)) ?_
    refine ev_n 1 (fun _ => rfl) ?_
    obtain ⟨h0, h⟩ := h
    refine ev_go rfl (w_iald (kp_k2 hp) h0) ?_
    refine ev_n 1 (fun _ => rfl) ?_
    obtain ⟨σ3, hf, h⟩ := h
    refine ev_go rfl (w_callV rfl rfl rfl (Nat.le_of_ble_eq_true rfl) hf) ?_
    refine ev_n 1 (fun _ => rfl) ?_
    exact v_zret (by decide) rfl h
  · replace h := h.2 hc
    refine ev_n 1 (fun _ => rfl) ?_
    exact v_zret (by decide) rfl h
theorem m_X3_tryAct : ∀ pc o, (P_X3_tryAct KC).lookup pc = some o → Mon_ o := all_mon (a_X3_tryAct (l := launch0) (E := EC0) EC0_ok)
theorem z_X3_tryAct {p : Nat} {x2 : Int32} {x3 : Int32} {σ : St_} {out : Out_} (h : Ev_ (P_X3_tryAct KC) 0 [some (.ref 92), some (.ref p), some (.int x2), some (.int x3), none] [] σ out) : f_X3_tryAct KC [.ref 92, .ref p, .int x2, .int x3] σ = some out := fn_eq m_X3_tryAct rfl h
set_option maxRecDepth 20000 in
theorem e_X5_begin_0 {m : Nat} {b : Nat} {σ : St_} {out : Out_} (hm : isM m) (hb : isB b) (h : Ev_ (P_X5_begin KC) 7 [some (.ref m), some (.ref b), some (.int (0 : Int32))] [] (sR_ σ m 9 (some b)) out) : Ev_ (P_X5_begin KC) 0 [some (.ref m), some (.ref b), none] [] σ out := by
  refine ev_n 2 (fun _ => rfl) ?_
  refine ev_go rfl (w_pR (km_0 hm)) ?_
  refine ev_n 2 (fun _ => rfl) ?_
  exact h
set_option maxRecDepth 20000 in
theorem e_X5_begin_7 {m : Nat} {b : Nat} {x2 : Int32} {σ : St_} {out : Out_} (hm : isM m) (hb : isB b) (h : (∃ b1, σ.2.2 m 9 = some b1 ∧ isB b1 ∧ (((σ.1 b1 12) ≤ x2 → Ev_ (P_X5_begin KC) 55 [some (.ref m), some (.ref b), some (.int (0 : Int32))] [] σ out) ∧ (¬ ((σ.1 b1 12) ≤ x2) → (vpin_ x2 9 = true) ∧ (vpin_ x2 9 = true) ∧ (vpin_ x2 9 = true) ∧ (vpin_ x2 9 = true) ∧ Ev_ (P_X5_begin KC) 7 [some (.ref m), some (.ref b), some (.int (x2 + 1))] [] (sI_ (sI_ (sI_ σ (m + 1) (Int32.toNatClampNeg x2) (σ.1 (b1 + 26) (Int32.toNatClampNeg x2))) (m + 2) (Int32.toNatClampNeg x2) (0 : Int32)) (m + 3) (Int32.toNatClampNeg x2) (0 : Int32)) out)))) : Ev_ (P_X5_begin KC) 7 [some (.ref m), some (.ref b), some (.int x2)] [] σ out := by
  refine ev_n 2 (fun _ => rfl) ?_
  obtain ⟨b1, eb1, hb1, h⟩ := h
  refine ev_go rfl (w_gR (km_0 hm) eb1) ?_
  refine ev_go rfl (w_gI (kb_0 hb1)) ?_
  refine ev_if (c := (σ.1 b1 12) ≤ x2) rfl (fun _ => rfl) (fun hc => ?_) (fun hc => ?_)
  · replace h := h.1 hc
    refine ev_n 2 (fun _ => rfl) ?_
    exact h
  · replace h := h.2 hc
    refine ev_n 1 (fun _ => rfl) ?_
    refine ev_go rfl (w_gF (km_0 hm) (km_r0 hm)) ?_
    refine ev_n 2 (fun _ => rfl) ?_
    refine ev_go rfl (w_gR (z := b1) (km_0 hm) eb1) ?_
    refine ev_go rfl (w_gF (kb_0 hb1) (kb_r9 hb1)) ?_
    refine ev_n 1 (fun _ => rfl) ?_
    obtain ⟨h0, h⟩ := h
    refine ev_go rfl (w_iald (kb_k9 hb1) h0) ?_
    obtain ⟨h0, h⟩ := h
    refine ev_go rfl (w_iast (km_k0 hm) h0) ?_
    refine ev_n 1 (fun _ => rfl) ?_
    refine ev_go rfl (w_gF (km_0 hm) (km_r1 hm)) ?_
    refine ev_n 2 (fun _ => rfl) ?_
    obtain ⟨h0, h⟩ := h
    refine ev_go rfl (w_iast (km_k1 hm) h0) ?_
    refine ev_n 1 (fun _ => rfl) ?_
    refine ev_go rfl (w_gF (km_0 hm) (km_r2 hm)) ?_
    refine ev_n 2 (fun _ => rfl) ?_
    obtain ⟨h0, h⟩ := h
    refine ev_go rfl (w_iast (km_k2 hm) h0) ?_
    refine ev_n 2 (fun _ => rfl) ?_
    exact h
set_option maxRecDepth 20000 in
theorem e_X5_begin_55 {m : Nat} {b : Nat} {x2 : Int32} {σ : St_} {out : Out_} (hm : isM m) (hb : isB b) (h : (((Int32.ofNat 144) ≤ x2 → out = (none, (sI_ (sI_ σ m 4 ((-1) : Int32)) m 5 (0 : Int32)))) ∧ (¬ ((Int32.ofNat 144) ≤ x2) → (vpin_ x2 144 = true) ∧ Ev_ (P_X5_begin KC) 55 [some (.ref m), some (.ref b), some (.int (x2 + 1))] [] (sI_ σ (m + 4) (Int32.toNatClampNeg x2) (0 : Int32)) out))) : Ev_ (P_X5_begin KC) 55 [some (.ref m), some (.ref b), some (.int x2)] [] σ out := by
  refine ev_n 2 (fun _ => rfl) ?_
  refine ev_go rfl (w_gF (km_0 hm) (km_r3 hm)) ?_
  refine ev_go rfl (w_alen (km_k3 hm)) ?_
  refine ev_if (c := (Int32.ofNat 144) ≤ x2) rfl (fun _ => rfl) (fun hc => ?_) (fun hc => ?_)
  · replace h := h.1 hc
    refine ev_n 2 (fun _ => rfl) ?_
    refine ev_go rfl (w_pI (km_0 hm)) ?_
    refine ev_n 2 (fun _ => rfl) ?_
    refine ev_go rfl (w_pI (km_0 hm)) ?_
    exact ev_ret rfl (fun _ => rfl) h
  · replace h := h.2 hc
    refine ev_n 1 (fun _ => rfl) ?_
    refine ev_go rfl (w_gF (km_0 hm) (km_r3 hm)) ?_
    refine ev_n 2 (fun _ => rfl) ?_
    obtain ⟨h0, h⟩ := h
    refine ev_go rfl (w_iast (km_k3 hm) h0) ?_
    refine ev_n 2 (fun _ => rfl) ?_
    exact h
theorem m_X5_begin : ∀ pc o, (P_X5_begin KC).lookup pc = some o → Mon_ o := all_mon (a_X5_begin (l := launch0) (E := EC0) EC0_ok)
theorem z_X5_begin {m : Nat} {b : Nat} {σ : St_} {out : Out_} (h : Ev_ (P_X5_begin KC) 0 [some (.ref m), some (.ref b), none] [] σ out) : f_X5_begin KC [.ref m, .ref b] σ = some out := fn_eq m_X5_begin rfl h
set_option maxRecDepth 20000 in
theorem e_X5_sum_0 {m : Nat} {σ : St_} {out : Out_} (hm : isM m) (h : Ev_ (P_X5_sum KC) 4 [some (.ref m), some (.int (0 : Int32)), some (.int (0 : Int32))] [] σ out) : Ev_ (P_X5_sum KC) 0 [some (.ref m), none, none] [] σ out := by
  refine ev_n 4 (fun _ => rfl) ?_
  exact h
set_option maxRecDepth 20000 in
theorem e_X5_sum_4 {m : Nat} {x1 : Int32} {x2 : Int32} {σ : St_} {out : Out_} (hm : isM m) (h : (∃ b1, σ.2.2 m 9 = some b1 ∧ isB b1 ∧ (((σ.1 b1 12) ≤ x2 → out = (some (.int x1), σ)) ∧ (¬ ((σ.1 b1 12) ≤ x2) → (∃ (v3 : Int32) (σ2 : St_), f_X5_inAll KC [.ref m, .int x2] σ = some (some (.int v3), σ2) ∧ Ev_ (P_X5_sum KC) 4 [some (.ref m), some (.int (x1 + v3)), some (.int (x2 + 1))] [] σ2 out))))) : Ev_ (P_X5_sum KC) 4 [some (.ref m), some (.int x1), some (.int x2)] [] σ out := by
  refine ev_n 2 (fun _ => rfl) ?_
  obtain ⟨b1, eb1, hb1, h⟩ := h
  refine ev_go rfl (w_gR (km_0 hm) eb1) ?_
  refine ev_go rfl (w_gI (kb_0 hb1)) ?_
  refine ev_if (c := (σ.1 b1 12) ≤ x2) rfl (fun _ => rfl) (fun hc => ?_) (fun hc => ?_)
  · replace h := h.1 hc
    refine ev_n 1 (fun _ => rfl) ?_
    exact ev_ret rfl (fun _ => rfl) h
  · replace h := h.2 hc
    refine ev_n 3 (fun _ => rfl) ?_
    obtain ⟨v3, σ2, hf, h⟩ := h
    refine ev_go rfl (w_callV rfl rfl (km_0 hm) (Nat.le_of_ble_eq_true rfl) hf) ?_
    refine ev_n 4 (fun _ => rfl) ?_
    exact h
theorem m_X5_sum : ∀ pc o, (P_X5_sum KC).lookup pc = some o → Mon_ o := all_mon (a_X5_sum (l := launch0) (E := EC0) EC0_ok)
theorem z_X5_sum {m : Nat} {σ : St_} {out : Out_} (h : Ev_ (P_X5_sum KC) 0 [some (.ref m), none, none] [] σ out) : f_X5_sum KC [.ref m] σ = some out := fn_eq m_X5_sum rfl h
set_option maxRecDepth 20000 in
theorem e_X3_fall_0 {b : Nat} {p : Nat} {x3 : Int32} {x4 : Int32} {σ : St_} {out : Out_} (hb : isB b) (hp : isP p) (h : (∃ (σ1 : St_), f_X5_begin KC [.ref 93, .ref b] σ = some (none, σ1) ∧ Ev_ (P_X3_fall KC) 21 [some (.ref 92), some (.ref b), some (.ref p), some (.int x3), some (.int x4), some (.int (0 : Int32)), none] [] (sI_ (sI_ σ1 92 2 (0 : Int32)) 92 4 (0 : Int32)) out)) : Ev_ (P_X3_fall KC) 0 [some (.ref 92), some (.ref b), some (.ref p), some (.int x3), some (.int x4), none, none] [] σ out := by
  refine ev_n 1 (fun _ => rfl) ?_
  refine ev_go rfl (w_gF rfl rfl) ?_
  refine ev_n 1 (fun _ => rfl) ?_
  obtain ⟨σ1, hf, h⟩ := h
  refine ev_go rfl (w_callV rfl rfl rfl (Nat.le_of_ble_eq_true rfl) hf) ?_
  refine ev_n 2 (fun _ => rfl) ?_
  refine ev_go rfl (w_pI rfl) ?_
  refine ev_n 2 (fun _ => rfl) ?_
  refine ev_go rfl (w_pI rfl) ?_
  refine ev_n 2 (fun _ => rfl) ?_
  exact h
set_option maxRecDepth 20000 in
theorem e_X3_fall_21 {b : Nat} {p : Nat} {x3 : Int32} {x4 : Int32} {x5 : Int32} {σ : St_} {out : Out_} (hb : isB b) (hp : isP p) (h : (((σ.1 p 4) ≤ x5 → (∃ (v2 : Int32) (σ1 : St_), f_X5_sum KC [.ref 93] σ = some (some (.int v2), σ1) ∧ Ev_ (P_X3_fall KC) 151 [some (.ref 92), some (.ref b), some (.ref p), some (.int x3), some (.int x4), some (.int (0 : Int32)), none] [] (sI_ (sI_ (sI_ σ1 92 3 v2) 92 5 ((-1) : Int32)) 92 6 ((-1) : Int32)) out)) ∧ (¬ ((σ.1 p 4) ≤ x5) → (((100 : Int32) ≤ x5 → (∃ (v4 : Int32) (σ3 : St_), f_X5_sum KC [.ref 93] σ = some (some (.int v4), σ3) ∧ Ev_ (P_X3_fall KC) 151 [some (.ref 92), some (.ref b), some (.ref p), some (.int x3), some (.int x4), some (.int (0 : Int32)), none] [] (sI_ (sI_ (sI_ σ3 92 3 v4) 92 5 ((-1) : Int32)) 92 6 ((-1) : Int32)) out)) ∧ (¬ ((100 : Int32) ≤ x5) → ((x5 < x4 → Ev_ (P_X3_fall KC) 49 [some (.ref 92), some (.ref b), some (.ref p), some (.int x3), some (.int x4), some (.int x5), none] [.int ((-1) : Int32)] σ out) ∧ (¬ (x5 < x4) → Ev_ (P_X3_fall KC) 49 [some (.ref 92), some (.ref b), some (.ref p), some (.int x3), some (.int x4), some (.int x5), none] [.int x3] σ out))))))) : Ev_ (P_X3_fall KC) 21 [some (.ref 92), some (.ref b), some (.ref p), some (.int x3), some (.int x4), some (.int x5), none] [] σ out := by
  refine ev_n 2 (fun _ => rfl) ?_
  refine ev_go rfl (w_gI (kp_0 hp)) ?_
  refine ev_if (c := (σ.1 p 4) ≤ x5) rfl (fun _ => rfl) (fun hc => ?_) (fun hc => ?_)
  · replace h := h.1 hc
    refine ev_n 2 (fun _ => rfl) ?_
    refine ev_go rfl (w_gF rfl rfl) ?_
    obtain ⟨v2, σ1, hf, h⟩ := h
    refine ev_go rfl (w_callV rfl rfl rfl (Nat.le_of_ble_eq_true rfl) hf) ?_
    refine ev_go rfl (w_pI rfl) ?_
    refine ev_n 2 (fun _ => rfl) ?_
    refine ev_go rfl (w_pI rfl) ?_
    refine ev_n 2 (fun _ => rfl) ?_
    refine ev_go rfl (w_pI rfl) ?_
    refine ev_n 2 (fun _ => rfl) ?_
    exact h
  · replace h := h.2 hc
    refine ev_n 2 (fun _ => rfl) ?_
    refine ev_if (c := (100 : Int32) ≤ x5) rfl (fun _ => rfl) (fun hc => ?_) (fun hc => ?_)
    · replace h := h.1 hc
      refine ev_n 2 (fun _ => rfl) ?_
      refine ev_go rfl (w_gF rfl rfl) ?_
      obtain ⟨v4, σ3, hf, h⟩ := h
      refine ev_go rfl (w_callV rfl rfl rfl (Nat.le_of_ble_eq_true rfl) hf) ?_
      refine ev_go rfl (w_pI rfl) ?_
      refine ev_n 2 (fun _ => rfl) ?_
      refine ev_go rfl (w_pI rfl) ?_
      refine ev_n 2 (fun _ => rfl) ?_
      refine ev_go rfl (w_pI rfl) ?_
      refine ev_n 2 (fun _ => rfl) ?_
      exact h
    · replace h := h.2 hc
      refine ev_n 2 (fun _ => rfl) ?_
      refine ev_if (c := x5 < x4) rfl (fun _ => rfl) (fun hc => ?_) (fun hc => ?_)
      · replace h := h.1 hc
        refine ev_n 1 (fun _ => rfl) ?_
        exact h
      · replace h := h.2 hc
        refine ev_n 2 (fun _ => rfl) ?_
        exact h
set_option maxRecDepth 20000 in
theorem e_X3_fall_151 {b : Nat} {p : Nat} {x3 : Int32} {x4 : Int32} {x5 : Int32} {σ : St_} {out : Out_} (hb : isB b) (hp : isP p) (h : (((σ.1 b 12) ≤ x5 → out = (none, σ)) ∧ (¬ ((σ.1 b 12) ≤ x5) → ((x5 = x3 → Ev_ (P_X3_fall KC) 151 [some (.ref 92), some (.ref b), some (.ref p), some (.int x3), some (.int x4), some (.int (x5 + 1)), none] [] σ out) ∧ (¬ (x5 = x3) → (∃ (σ1 : St_), f_X3_offerHelp KC [.ref 92, .int x5] σ = some (none, σ1) ∧ Ev_ (P_X3_fall KC) 151 [some (.ref 92), some (.ref b), some (.ref p), some (.int x3), some (.int x4), some (.int (x5 + 1)), none] [] σ1 out)))))) : Ev_ (P_X3_fall KC) 151 [some (.ref 92), some (.ref b), some (.ref p), some (.int x3), some (.int x4), some (.int x5), none] [] σ out := by
  refine ev_n 2 (fun _ => rfl) ?_
  refine ev_go rfl (w_gI (kb_0 hb)) ?_
  refine ev_if (c := (σ.1 b 12) ≤ x5) rfl (fun _ => rfl) (fun hc => ?_) (fun hc => ?_)
  · replace h := h.1 hc
    exact ev_ret rfl (fun _ => rfl) h
  · replace h := h.2 hc
    refine ev_n 2 (fun _ => rfl) ?_
    refine ev_if (c := x5 = x3) rfl (fun _ => rfl) (fun hc => ?_) (fun hc => ?_)
    · replace h := h.1 hc
      refine ev_n 2 (fun _ => rfl) ?_
      exact h
    · replace h := h.2 hc
      refine ev_n 2 (fun _ => rfl) ?_
      obtain ⟨σ1, hf, h⟩ := h
      refine ev_go rfl (w_callV rfl rfl rfl (Nat.le_of_ble_eq_true rfl) hf) ?_
      refine ev_n 2 (fun _ => rfl) ?_
      exact h
set_option maxRecDepth 20000 in
theorem e_X3_fall_49 {b : Nat} {p : Nat} {x3 : Int32} {x4 : Int32} {x5 : Int32} {y0 : Int32} {σ : St_} {out : Out_} (hb : isB b) (hp : isP p) (h : (vpin_ x5 100 = true) ∧ (((σ.1 (p + 1) (Int32.toNatClampNeg x5)) = y0 → (vpin_ x5 100 = true) ∧ (((σ.1 (p + 3) (Int32.toNatClampNeg x5)) = 0 → (vpin_ x5 100 = true) ∧ (vpin_ (σ.1 92 2) 100 = true) ∧ (∃ (v2 : Int32) (σ1 : St_), f_X3_tryAct KC [.ref 92, .ref p, .int x5, .int y0] (sI_ (sI_ σ 98 (Int32.toNatClampNeg (σ.1 92 2)) (σ.1 (p + 2) (Int32.toNatClampNeg x5))) 92 2 (((sI_ σ 98 (Int32.toNatClampNeg (σ.1 92 2)) (σ.1 (p + 2) (Int32.toNatClampNeg x5))).1 92 2) + (1 : Int32))) = some (some (.int v2), σ1) ∧ ((v2 = 0 → Ev_ (P_X3_fall KC) 21 [some (.ref 92), some (.ref b), some (.ref p), some (.int x3), some (.int x4), some (.int (x5 + 1)), none] [] (sI_ σ1 92 4 ((σ1.1 92 4) + (1 : Int32))) out) ∧ (¬ (v2 = 0) → Ev_ (P_X3_fall KC) 21 [some (.ref 92), some (.ref b), some (.ref p), some (.int x3), some (.int x4), some (.int (x5 + 1)), none] [] σ1 out)))) ∧ (¬ ((σ.1 (p + 3) (Int32.toNatClampNeg x5)) = 0) → (∃ (v4 : Int32) (σ3 : St_), f_X3_tryAct KC [.ref 92, .ref p, .int x5, .int y0] σ = some (some (.int v4), σ3) ∧ ((v4 = 0 → Ev_ (P_X3_fall KC) 21 [some (.ref 92), some (.ref b), some (.ref p), some (.int x3), some (.int x4), some (.int (x5 + 1)), none] [] (sI_ σ3 92 4 ((σ3.1 92 4) + (1 : Int32))) out) ∧ (¬ (v4 = 0) → Ev_ (P_X3_fall KC) 21 [some (.ref 92), some (.ref b), some (.ref p), some (.int x3), some (.int x4), some (.int (x5 + 1)), none] [] σ3 out)))))) ∧ (¬ ((σ.1 (p + 1) (Int32.toNatClampNeg x5)) = y0) → (∃ (v6 : Int32) (σ5 : St_), f_X3_tryAct KC [.ref 92, .ref p, .int x5, .int y0] σ = some (some (.int v6), σ5) ∧ ((v6 = 0 → Ev_ (P_X3_fall KC) 21 [some (.ref 92), some (.ref b), some (.ref p), some (.int x3), some (.int x4), some (.int (x5 + 1)), none] [] (sI_ σ5 92 4 ((σ5.1 92 4) + (1 : Int32))) out) ∧ (¬ (v6 = 0) → Ev_ (P_X3_fall KC) 21 [some (.ref 92), some (.ref b), some (.ref p), some (.int x3), some (.int x4), some (.int (x5 + 1)), none] [] σ5 out)))))) : Ev_ (P_X3_fall KC) 49 [some (.ref 92), some (.ref b), some (.ref p), some (.int x3), some (.int x4), some (.int x5), none] [.int y0] σ out := by
  refine ev_n 2 (fun _ => rfl) ?_
  refine ev_go rfl (w_gF (kp_0 hp) (kp_r0 hp)) ?_
  refine ev_n 1 (fun _ => rfl) ?_
  obtain ⟨h0, h⟩ := h
  refine ev_go rfl (w_iald (kp_k0 hp) h0) ?_
  refine ev_n 1 (fun _ => rfl) ?_
  refine ev_if (c := (σ.1 (p + 1) (Int32.toNatClampNeg x5)) = y0) rfl (fun _ => rfl) (fun hc => ?_) (fun hc => ?_)
  · replace h := h.1 hc
    refine ev_n 1 (fun _ => rfl) ?_
    refine ev_go rfl (w_gF (kp_0 hp) (kp_r2 hp)) ?_
    refine ev_n 1 (fun _ => rfl) ?_
    obtain ⟨h0, h⟩ := h
    refine ev_go rfl (w_iald (kp_k2 hp) h0) ?_
    refine ev_if (c := (σ.1 (p + 3) (Int32.toNatClampNeg x5)) = 0) rfl (fun _ => rfl) (fun hc => ?_) (fun hc => ?_)
    · replace h := h.1 hc
      refine ev_n 1 (fun _ => rfl) ?_
      refine ev_go rfl (w_gF rfl rfl) ?_
      refine ev_n 1 (fun _ => rfl) ?_
      refine ev_go rfl (w_gI rfl) ?_
      refine ev_n 1 (fun _ => rfl) ?_
      refine ev_go rfl (w_gF (kp_0 hp) (kp_r1 hp)) ?_
      refine ev_n 1 (fun _ => rfl) ?_
      obtain ⟨h0, h⟩ := h
      refine ev_go rfl (w_iald (kp_k1 hp) h0) ?_
      obtain ⟨h0, h⟩ := h
      refine ev_go rfl (w_iast rfl h0) ?_
      refine ev_n 2 (fun _ => rfl) ?_
      refine ev_go rfl (w_gI rfl) ?_
      refine ev_n 2 (fun _ => rfl) ?_
      refine ev_go rfl (w_pI rfl) ?_
      refine ev_n 4 (fun _ => rfl) ?_
      obtain ⟨v2, σ1, hf, h⟩ := h
      refine ev_go rfl (w_callV rfl rfl rfl (Nat.le_of_ble_eq_true rfl) hf) ?_
      refine ev_if (c := v2 = 0) rfl (fun _ => rfl) (fun hc => ?_) (fun hc => ?_)
      · replace h := h.1 hc
        refine ev_n 2 (fun _ => rfl) ?_
        refine ev_go rfl (w_gI rfl) ?_
        refine ev_n 2 (fun _ => rfl) ?_
        refine ev_go rfl (w_pI rfl) ?_
        refine ev_n 2 (fun _ => rfl) ?_
        exact h
      · replace h := h.2 hc
        refine ev_n 2 (fun _ => rfl) ?_
        exact h
    · replace h := h.2 hc
      refine ev_n 4 (fun _ => rfl) ?_
      obtain ⟨v4, σ3, hf, h⟩ := h
      refine ev_go rfl (w_callV rfl rfl rfl (Nat.le_of_ble_eq_true rfl) hf) ?_
      refine ev_if (c := v4 = 0) rfl (fun _ => rfl) (fun hc => ?_) (fun hc => ?_)
      · replace h := h.1 hc
        refine ev_n 2 (fun _ => rfl) ?_
        refine ev_go rfl (w_gI rfl) ?_
        refine ev_n 2 (fun _ => rfl) ?_
        refine ev_go rfl (w_pI rfl) ?_
        refine ev_n 2 (fun _ => rfl) ?_
        exact h
      · replace h := h.2 hc
        refine ev_n 2 (fun _ => rfl) ?_
        exact h
  · replace h := h.2 hc
    refine ev_n 4 (fun _ => rfl) ?_
    obtain ⟨v6, σ5, hf, h⟩ := h
    refine ev_go rfl (w_callV rfl rfl rfl (Nat.le_of_ble_eq_true rfl) hf) ?_
    refine ev_if (c := v6 = 0) rfl (fun _ => rfl) (fun hc => ?_) (fun hc => ?_)
    · replace h := h.1 hc
      refine ev_n 2 (fun _ => rfl) ?_
      refine ev_go rfl (w_gI rfl) ?_
      refine ev_n 2 (fun _ => rfl) ?_
      refine ev_go rfl (w_pI rfl) ?_
      refine ev_n 2 (fun _ => rfl) ?_
      exact h
    · replace h := h.2 hc
      refine ev_n 2 (fun _ => rfl) ?_
      exact h
theorem m_X3_fall : ∀ pc o, (P_X3_fall KC).lookup pc = some o → Mon_ o := all_mon (a_X3_fall (l := launch0) (E := EC0) EC0_ok)
theorem z_X3_fall {b : Nat} {p : Nat} {x3 : Int32} {x4 : Int32} {σ : St_} {out : Out_} (h : Ev_ (P_X3_fall KC) 0 [some (.ref 92), some (.ref b), some (.ref p), some (.int x3), some (.int x4), none, none] [] σ out) : f_X3_fall KC [.ref 92, .ref b, .ref p, .int x3, .int x4] σ = some out := fn_eq m_X3_fall rfl h
set_option maxRecDepth 20000 in
theorem e_X4_isKind_0 {x0 : Int32} {x1 : Int32} {σ : St_} {out : Out_}  (h : ((((x0).toInt < 0 ∨ 4 < (x0).toInt) → out = (some (.int (0 : Int32)), σ)) ∧ (x0 = 0 → out = (some (.int (1 : Int32)), σ)) ∧ (x0 = 1 → ((x1 < (1 : Int32) → out = (some (.int (0 : Int32)), σ)) ∧ (¬ (x1 < (1 : Int32)) → (((10 : Int32) < x1 → out = (some (.int (0 : Int32)), σ)) ∧ (¬ ((10 : Int32) < x1) → out = (some (.int (1 : Int32)), σ)))))) ∧ (x0 = 2 → ((x1 < (1 : Int32) → out = (some (.int (0 : Int32)), σ)) ∧ (¬ (x1 < (1 : Int32)) → (((16 : Int32) < x1 → out = (some (.int (0 : Int32)), σ)) ∧ (¬ ((16 : Int32) < x1) → out = (some (.int (1 : Int32)), σ)))))) ∧ (x0 = 3 → ((x1 < (1 : Int32) → out = (some (.int (0 : Int32)), σ)) ∧ (¬ (x1 < (1 : Int32)) → (((4 : Int32) < x1 → out = (some (.int (0 : Int32)), σ)) ∧ (¬ ((4 : Int32) < x1) → out = (some (.int (1 : Int32)), σ)))))) ∧ (x0 = 4 → ((x1 < (1 : Int32) → out = (some (.int (0 : Int32)), σ)) ∧ (¬ (x1 < (1 : Int32)) → (((4 : Int32) < x1 → out = (some (.int (0 : Int32)), σ)) ∧ (¬ ((4 : Int32) < x1) → out = (some (.int (1 : Int32)), σ)))))))) : Ev_ (P_X4_isKind KC) 0 [some (.int x0), some (.int x1)] [] σ out := by
  refine ev_n 1 (fun _ => rfl) ?_
  refine ev_tsw rfl (fun hc => ?_) (fun t hc ht => ?_) (by decide)
  · replace h := h.1 hc
    refine ev_n 1 (fun _ => rfl) ?_
    exact v_zret (by decide) rfl h
  · have hi := tsw_in (n := 5) hc (by decide)
    rcases (show ((x0).toInt - 0).toNat = 0 ∨ ((x0).toInt - 0).toNat = 1 ∨ ((x0).toInt - 0).toNat = 2 ∨ ((x0).toInt - 0).toNat = 3 ∨ ((x0).toInt - 0).toNat = 4 by omega) with e | e | e | e | e
    · rw [e] at ht
      cases ht
      replace h := h.2.1 (tsw_eq hc e (by decide))
      refine ev_n 1 (fun _ => rfl) ?_
      exact v_zret (by decide) rfl h
    · rw [e] at ht
      cases ht
      replace h := h.2.2.1 (tsw_eq hc e (by decide))
      refine ev_n 2 (fun _ => rfl) ?_
      refine ev_if (c := x1 < (1 : Int32)) rfl (fun _ => rfl) (fun hc => ?_) (fun hc => ?_)
      · replace h := h.1 hc
        refine ev_n 1 (fun _ => rfl) ?_
        exact v_zret (by decide) rfl h
      · replace h := h.2 hc
        refine ev_n 2 (fun _ => rfl) ?_
        refine ev_if (c := (10 : Int32) < x1) rfl (fun _ => rfl) (fun hc => ?_) (fun hc => ?_)
        · replace h := h.1 hc
          refine ev_n 1 (fun _ => rfl) ?_
          exact v_zret (by decide) rfl h
        · replace h := h.2 hc
          refine ev_n 2 (fun _ => rfl) ?_
          exact v_zret (by decide) rfl h
    · rw [e] at ht
      cases ht
      replace h := h.2.2.2.1 (tsw_eq hc e (by decide))
      refine ev_n 2 (fun _ => rfl) ?_
      refine ev_if (c := x1 < (1 : Int32)) rfl (fun _ => rfl) (fun hc => ?_) (fun hc => ?_)
      · replace h := h.1 hc
        refine ev_n 1 (fun _ => rfl) ?_
        exact v_zret (by decide) rfl h
      · replace h := h.2 hc
        refine ev_n 2 (fun _ => rfl) ?_
        refine ev_if (c := (16 : Int32) < x1) rfl (fun _ => rfl) (fun hc => ?_) (fun hc => ?_)
        · replace h := h.1 hc
          refine ev_n 1 (fun _ => rfl) ?_
          exact v_zret (by decide) rfl h
        · replace h := h.2 hc
          refine ev_n 2 (fun _ => rfl) ?_
          exact v_zret (by decide) rfl h
    · rw [e] at ht
      cases ht
      replace h := h.2.2.2.2.1 (tsw_eq hc e (by decide))
      refine ev_n 2 (fun _ => rfl) ?_
      refine ev_if (c := x1 < (1 : Int32)) rfl (fun _ => rfl) (fun hc => ?_) (fun hc => ?_)
      · replace h := h.1 hc
        refine ev_n 1 (fun _ => rfl) ?_
        exact v_zret (by decide) rfl h
      · replace h := h.2 hc
        refine ev_n 2 (fun _ => rfl) ?_
        refine ev_if (c := (4 : Int32) < x1) rfl (fun _ => rfl) (fun hc => ?_) (fun hc => ?_)
        · replace h := h.1 hc
          refine ev_n 1 (fun _ => rfl) ?_
          exact v_zret (by decide) rfl h
        · replace h := h.2 hc
          refine ev_n 2 (fun _ => rfl) ?_
          exact v_zret (by decide) rfl h
    · rw [e] at ht
      cases ht
      replace h := h.2.2.2.2.2 (tsw_eq hc e (by decide))
      refine ev_n 2 (fun _ => rfl) ?_
      refine ev_if (c := x1 < (1 : Int32)) rfl (fun _ => rfl) (fun hc => ?_) (fun hc => ?_)
      · replace h := h.1 hc
        refine ev_n 1 (fun _ => rfl) ?_
        exact v_zret (by decide) rfl h
      · replace h := h.2 hc
        refine ev_n 2 (fun _ => rfl) ?_
        refine ev_if (c := (4 : Int32) < x1) rfl (fun _ => rfl) (fun hc => ?_) (fun hc => ?_)
        · replace h := h.1 hc
          refine ev_n 1 (fun _ => rfl) ?_
          exact v_zret (by decide) rfl h
        · replace h := h.2 hc
          refine ev_n 2 (fun _ => rfl) ?_
          exact v_zret (by decide) rfl h
theorem m_X4_isKind : ∀ pc o, (P_X4_isKind KC).lookup pc = some o → Mon_ o := all_mon (a_X4_isKind (l := launch0) (E := EC0) EC0_ok)
theorem z_X4_isKind {x0 : Int32} {x1 : Int32} {σ : St_} {out : Out_} (h : Ev_ (P_X4_isKind KC) 0 [some (.int x0), some (.int x1)] [] σ out) : f_X4_isKind KC [.int x0, .int x1] σ = some out := fn_eq m_X4_isKind rfl h
set_option maxRecDepth 20000 in
theorem e_X6_clear_0 {p : Nat} {σ : St_} {out : Out_} (hp : isP p) (h : out = (none, (sI_ σ p 4 (0 : Int32)))) : Ev_ (P_X6_clear KC) 0 [some (.ref p)] [] σ out := by
  refine ev_n 2 (fun _ => rfl) ?_
  refine ev_go rfl (w_pI (kp_0 hp)) ?_
  exact ev_ret rfl (fun _ => rfl) h
theorem m_X6_clear : ∀ pc o, (P_X6_clear KC).lookup pc = some o → Mon_ o := all_mon (a_X6_clear (l := launch0) (E := EC0) EC0_ok)
theorem z_X6_clear {p : Nat} {σ : St_} {out : Out_} (h : Ev_ (P_X6_clear KC) 0 [some (.ref p)] [] σ out) : f_X6_clear KC [.ref p] σ = some out := fn_eq m_X6_clear rfl h
set_option maxRecDepth 20000 in
theorem e_X4_begin_0 {b : Nat} {p : Nat} {σ : St_} {out : Out_} (hb : isB b) (hp : isP p) (h : (∃ (σ1 : St_), f_X6_clear KC [.ref p] (sR_ (sR_ σ 85 2 (some b)) 85 3 (some p)) = some (none, σ1) ∧ (∃ b2, σ1.2.2 85 2 = some b2 ∧ isB b2 ∧ (∃ (σ3 : St_), f_X5_begin KC [.ref 86, .ref b2] σ1 = some (none, σ3) ∧ out = (none, σ3))))) : Ev_ (P_X4_begin KC) 0 [some (.ref 85), some (.ref b), some (.ref p)] [] σ out := by
  refine ev_n 2 (fun _ => rfl) ?_
  refine ev_go rfl (w_pR rfl) ?_
  refine ev_n 2 (fun _ => rfl) ?_
  refine ev_go rfl (w_pR rfl) ?_
  refine ev_n 1 (fun _ => rfl) ?_
  refine ev_go rfl (w_gR (z := p) rfl (by simp [sR_, sI_, sJ_, u2_])) ?_
  obtain ⟨σ1, hf, h⟩ := h
  refine ev_go rfl (w_callV rfl rfl (kp_0 hp) (Nat.le_of_ble_eq_true rfl) hf) ?_
  refine ev_n 1 (fun _ => rfl) ?_
  refine ev_go rfl (w_gF rfl rfl) ?_
  refine ev_n 1 (fun _ => rfl) ?_
  obtain ⟨b2, eb2, hb2, h⟩ := h
  refine ev_go rfl (w_gR rfl eb2) ?_
  obtain ⟨σ3, hf, h⟩ := h
  refine ev_go rfl (w_callV rfl rfl rfl (Nat.le_of_ble_eq_true rfl) hf) ?_
  exact ev_ret rfl (fun _ => rfl) h
theorem m_X4_begin : ∀ pc o, (P_X4_begin KC).lookup pc = some o → Mon_ o := all_mon (a_X4_begin (l := launch0) (E := EC0) EC0_ok)
theorem z_X4_begin {b : Nat} {p : Nat} {σ : St_} {out : Out_} (h : Ev_ (P_X4_begin KC) 0 [some (.ref 85), some (.ref b), some (.ref p)] [] σ out) : f_X4_begin KC [.ref 85, .ref b, .ref p] σ = some out := fn_eq m_X4_begin rfl h
set_option maxRecDepth 20000 in
theorem e_X4_readerOf_0 {x1 : Int32} {σ : St_} {out : Out_}  (h : Ev_ (P_X4_readerOf KC) 2 [some (.ref 85), some (.int x1), some (.int (0 : Int32))] [] σ out) : Ev_ (P_X4_readerOf KC) 0 [some (.ref 85), some (.int x1), none] [] σ out := by
  refine ev_n 2 (fun _ => rfl) ?_
  exact h
set_option maxRecDepth 20000 in
theorem e_X4_readerOf_2 {x1 : Int32} {x2 : Int32} {σ : St_} {out : Out_}  (h : (∃ b1, σ.2.2 85 2 = some b1 ∧ isB b1 ∧ (((σ.1 b1 12) ≤ x2 → out = (some (.int ((-1) : Int32)), σ)) ∧ (¬ ((σ.1 b1 12) ≤ x2) → (vpin_ x2 9 = true) ∧ (((((σ.1 88 (Int32.toNatClampNeg x2)) >>> (x1 &&& 31)) &&& (1 : Int32)) = 0 → Ev_ (P_X4_readerOf KC) 2 [some (.ref 85), some (.int x1), some (.int (x2 + 1))] [] σ out) ∧ (¬ ((((σ.1 88 (Int32.toNatClampNeg x2)) >>> (x1 &&& 31)) &&& (1 : Int32)) = 0) → out = (some (.int x2), σ))))))) : Ev_ (P_X4_readerOf KC) 2 [some (.ref 85), some (.int x1), some (.int x2)] [] σ out := by
  refine ev_n 2 (fun _ => rfl) ?_
  obtain ⟨b1, eb1, hb1, h⟩ := h
  refine ev_go rfl (w_gR rfl eb1) ?_
  refine ev_go rfl (w_gI (kb_0 hb1)) ?_
  refine ev_if (c := (σ.1 b1 12) ≤ x2) rfl (fun _ => rfl) (fun hc => ?_) (fun hc => ?_)
  · replace h := h.1 hc
    refine ev_n 1 (fun _ => rfl) ?_
    exact ev_ret rfl (fun _ => rfl) h
  · replace h := h.2 hc
    refine ev_n 1 (fun _ => rfl) ?_
    refine ev_go rfl (w_gF rfl rfl) ?_
    refine ev_go rfl (w_gF rfl rfl) ?_
    refine ev_n 1 (fun _ => rfl) ?_
    obtain ⟨h0, h⟩ := h
    refine ev_go rfl (w_iald rfl h0) ?_
    refine ev_n 4 (fun _ => rfl) ?_
    refine ev_if (c := (((σ.1 88 (Int32.toNatClampNeg x2)) >>> (x1 &&& 31)) &&& (1 : Int32)) = 0) rfl (fun _ => rfl) (fun hc => ?_) (fun hc => ?_)
    · replace h := h.1 hc
      refine ev_n 2 (fun _ => rfl) ?_
      exact h
    · replace h := h.2 hc
      refine ev_n 1 (fun _ => rfl) ?_
      exact ev_ret rfl (fun _ => rfl) h
theorem m_X4_readerOf : ∀ pc o, (P_X4_readerOf KC).lookup pc = some o → Mon_ o := all_mon (a_X4_readerOf (l := launch0) (E := EC0) EC0_ok)
theorem z_X4_readerOf {x1 : Int32} {σ : St_} {out : Out_} (h : Ev_ (P_X4_readerOf KC) 0 [some (.ref 85), some (.int x1), none] [] σ out) : f_X4_readerOf KC [.ref 85, .int x1] σ = some out := fn_eq m_X4_readerOf rfl h
set_option maxRecDepth 20000 in
theorem e_X6_isFull_0 {p : Nat} {σ : St_} {out : Out_} (hp : isP p) (h : (((σ.1 p 4) < (100 : Int32) → out = (some (.int (0 : Int32)), σ)) ∧ (¬ ((σ.1 p 4) < (100 : Int32)) → out = (some (.int (1 : Int32)), σ)))) : Ev_ (P_X6_isFull KC) 0 [some (.ref p)] [] σ out := by
  refine ev_n 1 (fun _ => rfl) ?_
  refine ev_go rfl (w_gI (kp_0 hp)) ?_
  refine ev_n 1 (fun _ => rfl) ?_
  refine ev_if (c := (σ.1 p 4) < (100 : Int32)) rfl (fun _ => rfl) (fun hc => ?_) (fun hc => ?_)
  · replace h := h.1 hc
    refine ev_n 1 (fun _ => rfl) ?_
    exact v_zret (by decide) rfl h
  · replace h := h.2 hc
    refine ev_n 2 (fun _ => rfl) ?_
    exact v_zret (by decide) rfl h
theorem m_X6_isFull : ∀ pc o, (P_X6_isFull KC).lookup pc = some o → Mon_ o := all_mon (a_X6_isFull (l := launch0) (E := EC0) EC0_ok)
theorem z_X6_isFull {p : Nat} {σ : St_} {out : Out_} (h : Ev_ (P_X6_isFull KC) 0 [some (.ref p)] [] σ out) : f_X6_isFull KC [.ref p] σ = some out := fn_eq m_X6_isFull rfl h
set_option maxRecDepth 20000 in
theorem e_X6_add_0 {p : Nat} {x1 : Int32} {x2 : Int32} {x3 : Int32} {x4 : Int32} {σ : St_} {out : Out_} (hp : isP p) (h : (∃ (v2 : Int32) (σ1 : St_), f_X6_isFull KC [.ref p] σ = some (some (.int v2), σ1) ∧ ((v2 = 0 → (vpin_ (σ1.1 p 4) 100 = true) ∧ (vpin_ ((sI_ σ1 (p + 1) (Int32.toNatClampNeg (σ1.1 p 4)) x1).1 p 4) 100 = true) ∧ (vpin_ ((sI_ (sI_ σ1 (p + 1) (Int32.toNatClampNeg (σ1.1 p 4)) x1) (p + 2) (Int32.toNatClampNeg ((sI_ σ1 (p + 1) (Int32.toNatClampNeg (σ1.1 p 4)) x1).1 p 4)) x2).1 p 4) 100 = true) ∧ (vpin_ ((sI_ (sI_ (sI_ σ1 (p + 1) (Int32.toNatClampNeg (σ1.1 p 4)) x1) (p + 2) (Int32.toNatClampNeg ((sI_ σ1 (p + 1) (Int32.toNatClampNeg (σ1.1 p 4)) x1).1 p 4)) x2) (p + 3) (Int32.toNatClampNeg ((sI_ (sI_ σ1 (p + 1) (Int32.toNatClampNeg (σ1.1 p 4)) x1) (p + 2) (Int32.toNatClampNeg ((sI_ σ1 (p + 1) (Int32.toNatClampNeg (σ1.1 p 4)) x1).1 p 4)) x2).1 p 4)) x3).1 p 4) 100 = true) ∧ out = (none, (sI_ (sI_ (sI_ (sI_ (sI_ σ1 (p + 1) (Int32.toNatClampNeg (σ1.1 p 4)) x1) (p + 2) (Int32.toNatClampNeg ((sI_ σ1 (p + 1) (Int32.toNatClampNeg (σ1.1 p 4)) x1).1 p 4)) x2) (p + 3) (Int32.toNatClampNeg ((sI_ (sI_ σ1 (p + 1) (Int32.toNatClampNeg (σ1.1 p 4)) x1) (p + 2) (Int32.toNatClampNeg ((sI_ σ1 (p + 1) (Int32.toNatClampNeg (σ1.1 p 4)) x1).1 p 4)) x2).1 p 4)) x3) (p + 4) (Int32.toNatClampNeg ((sI_ (sI_ (sI_ σ1 (p + 1) (Int32.toNatClampNeg (σ1.1 p 4)) x1) (p + 2) (Int32.toNatClampNeg ((sI_ σ1 (p + 1) (Int32.toNatClampNeg (σ1.1 p 4)) x1).1 p 4)) x2) (p + 3) (Int32.toNatClampNeg ((sI_ (sI_ σ1 (p + 1) (Int32.toNatClampNeg (σ1.1 p 4)) x1) (p + 2) (Int32.toNatClampNeg ((sI_ σ1 (p + 1) (Int32.toNatClampNeg (σ1.1 p 4)) x1).1 p 4)) x2).1 p 4)) x3).1 p 4)) x4) p 4 (((sI_ (sI_ (sI_ (sI_ σ1 (p + 1) (Int32.toNatClampNeg (σ1.1 p 4)) x1) (p + 2) (Int32.toNatClampNeg ((sI_ σ1 (p + 1) (Int32.toNatClampNeg (σ1.1 p 4)) x1).1 p 4)) x2) (p + 3) (Int32.toNatClampNeg ((sI_ (sI_ σ1 (p + 1) (Int32.toNatClampNeg (σ1.1 p 4)) x1) (p + 2) (Int32.toNatClampNeg ((sI_ σ1 (p + 1) (Int32.toNatClampNeg (σ1.1 p 4)) x1).1 p 4)) x2).1 p 4)) x3) (p + 4) (Int32.toNatClampNeg ((sI_ (sI_ (sI_ σ1 (p + 1) (Int32.toNatClampNeg (σ1.1 p 4)) x1) (p + 2) (Int32.toNatClampNeg ((sI_ σ1 (p + 1) (Int32.toNatClampNeg (σ1.1 p 4)) x1).1 p 4)) x2) (p + 3) (Int32.toNatClampNeg ((sI_ (sI_ σ1 (p + 1) (Int32.toNatClampNeg (σ1.1 p 4)) x1) (p + 2) (Int32.toNatClampNeg ((sI_ σ1 (p + 1) (Int32.toNatClampNeg (σ1.1 p 4)) x1).1 p 4)) x2).1 p 4)) x3).1 p 4)) x4).1 p 4) + (1 : Int32))))) ∧ (¬ (v2 = 0) → out = (none, σ1))))) : Ev_ (P_X6_add KC) 0 [some (.ref p), some (.int x1), some (.int x2), some (.int x3), some (.int x4)] [] σ out := by
  refine ev_n 1 (fun _ => rfl) ?_
  obtain ⟨v2, σ1, hf, h⟩ := h
  refine ev_go rfl (w_callV rfl rfl (kp_0 hp) (Nat.le_of_ble_eq_true rfl) hf) ?_
  refine ev_if (c := v2 = 0) rfl (fun _ => rfl) (fun hc => ?_) (fun hc => ?_)
  · replace h := h.1 hc
    refine ev_n 1 (fun _ => rfl) ?_
    refine ev_go rfl (w_gF (kp_0 hp) (kp_r0 hp)) ?_
    refine ev_n 1 (fun _ => rfl) ?_
    refine ev_go rfl (w_gI (kp_0 hp)) ?_
    refine ev_n 1 (fun _ => rfl) ?_
    obtain ⟨h0, h⟩ := h
    refine ev_go rfl (w_iast (kp_k0 hp) h0) ?_
    refine ev_n 1 (fun _ => rfl) ?_
    refine ev_go rfl (w_gF (kp_0 hp) (kp_r1 hp)) ?_
    refine ev_n 1 (fun _ => rfl) ?_
    refine ev_go rfl (w_gI (kp_0 hp)) ?_
    refine ev_n 1 (fun _ => rfl) ?_
    obtain ⟨h0, h⟩ := h
    refine ev_go rfl (w_iast (kp_k1 hp) h0) ?_
    refine ev_n 1 (fun _ => rfl) ?_
    refine ev_go rfl (w_gF (kp_0 hp) (kp_r2 hp)) ?_
    refine ev_n 1 (fun _ => rfl) ?_
    refine ev_go rfl (w_gI (kp_0 hp)) ?_
    refine ev_n 1 (fun _ => rfl) ?_
    obtain ⟨h0, h⟩ := h
    refine ev_go rfl (w_iast (kp_k2 hp) h0) ?_
    refine ev_n 1 (fun _ => rfl) ?_
    refine ev_go rfl (w_gF (kp_0 hp) (kp_r3 hp)) ?_
    refine ev_n 1 (fun _ => rfl) ?_
    refine ev_go rfl (w_gI (kp_0 hp)) ?_
    refine ev_n 1 (fun _ => rfl) ?_
    obtain ⟨h0, h⟩ := h
    refine ev_go rfl (w_iast (kp_k3 hp) h0) ?_
    refine ev_n 2 (fun _ => rfl) ?_
    refine ev_go rfl (w_gI (kp_0 hp)) ?_
    refine ev_n 2 (fun _ => rfl) ?_
    refine ev_go rfl (w_pI (kp_0 hp)) ?_
    exact ev_ret rfl (fun _ => rfl) h
  · replace h := h.2 hc
    exact ev_ret rfl (fun _ => rfl) h
theorem m_X6_add : ∀ pc o, (P_X6_add KC).lookup pc = some o → Mon_ o := all_mon (a_X6_add (l := launch0) (E := EC0) EC0_ok)
theorem z_X6_add {p : Nat} {x1 : Int32} {x2 : Int32} {x3 : Int32} {x4 : Int32} {σ : St_} {out : Out_} (h : Ev_ (P_X6_add KC) 0 [some (.ref p), some (.int x1), some (.int x2), some (.int x3), some (.int x4)] [] σ out) : f_X6_add KC [.ref p, .int x1, .int x2, .int x3, .int x4] σ = some out := fn_eq m_X6_add rfl h
set_option maxRecDepth 20000 in
theorem e_X4_tryAct_0 {x1 : Int32} {x2 : Int32} {x3 : Int32} {x4 : Int32} {σ : St_} {out : Out_}  (h : (∃ p1, σ.2.2 85 3 = some p1 ∧ isP p1 ∧ (∃ (v3 : Int32) (σ2 : St_), f_X6_isFull KC [.ref p1] σ = some (some (.int v3), σ2) ∧ ((v3 = 0 → (∃ (v5 : Int32) (σ4 : St_), f_X5_wrongOf KC [.ref 86, .int x1, .int x2, .int x3, .int x4] σ2 = some (some (.int v5), σ4) ∧ ((v5 = 0 → (∃ (σ6 : St_), f_X5_perform KC [.ref 86, .int x1, .int x2, .int x3, .int x4] σ4 = some (none, σ6) ∧ (∃ p7, σ6.2.2 85 3 = some p7 ∧ isP p7 ∧ (∃ (σ8 : St_), f_X6_add KC [.ref p7, .int x1, .int x2, .int x3, .int x4] σ6 = some (none, σ8) ∧ out = (some (.int (1 : Int32)), σ8))))) ∧ (¬ (v5 = 0) → out = (some (.int (0 : Int32)), σ4))))) ∧ (¬ (v3 = 0) → out = (some (.int (0 : Int32)), σ2)))))) : Ev_ (P_X4_tryAct KC) 0 [some (.ref 85), some (.int x1), some (.int x2), some (.int x3), some (.int x4)] [] σ out := by
  refine ev_n 1 (fun _ => rfl) ?_
  obtain ⟨p1, ep1, hp1, h⟩ := h
  refine ev_go rfl (w_gR rfl ep1) ?_
  obtain ⟨v3, σ2, hf, h⟩ := h
  refine ev_go rfl (w_callV rfl rfl (kp_0 hp1) (Nat.le_of_ble_eq_true rfl) hf) ?_
  refine ev_if (c := v3 = 0) rfl (fun _ => rfl) (fun hc => ?_) (fun hc => ?_)
  · replace h := h.1 hc
    refine ev_n 1 (fun _ => rfl) ?_
    refine ev_go rfl (w_gF rfl rfl) ?_
    refine ev_n 4 (fun _ => rfl) ?_
    obtain ⟨v5, σ4, hf, h⟩ := h
    refine ev_go rfl (w_callV rfl rfl rfl (Nat.le_of_ble_eq_true rfl) hf) ?_
    refine ev_if (c := v5 = 0) rfl (fun _ => rfl) (fun hc => ?_) (fun hc => ?_)
    · replace h := h.1 hc
      refine ev_n 1 (fun _ => rfl) ?_
      refine ev_go rfl (w_gF rfl rfl) ?_
      refine ev_n 4 (fun _ => rfl) ?_
      obtain ⟨σ6, hf, h⟩ := h
      refine ev_go rfl (w_callV rfl rfl rfl (Nat.le_of_ble_eq_true rfl) hf) ?_
      refine ev_n 1 (fun _ => rfl) ?_
      obtain ⟨p7, ep7, hp7, h⟩ := h
      refine ev_go rfl (w_gR rfl ep7) ?_
      refine ev_n 4 (fun _ => rfl) ?_
      obtain ⟨σ8, hf, h⟩ := h
      refine ev_go rfl (w_callV rfl rfl (kp_0 hp7) (Nat.le_of_ble_eq_true rfl) hf) ?_
      refine ev_n 1 (fun _ => rfl) ?_
      exact v_zret (by decide) rfl h
    · replace h := h.2 hc
      refine ev_n 1 (fun _ => rfl) ?_
      exact v_zret (by decide) rfl h
  · replace h := h.2 hc
    refine ev_n 1 (fun _ => rfl) ?_
    exact v_zret (by decide) rfl h
theorem m_X4_tryAct : ∀ pc o, (P_X4_tryAct KC).lookup pc = some o → Mon_ o := all_mon (a_X4_tryAct (l := launch0) (E := EC0) EC0_ok)
theorem z_X4_tryAct {x1 : Int32} {x2 : Int32} {x3 : Int32} {x4 : Int32} {σ : St_} {out : Out_} (h : Ev_ (P_X4_tryAct KC) 0 [some (.ref 85), some (.int x1), some (.int x2), some (.int x3), some (.int x4)] [] σ out) : f_X4_tryAct KC [.ref 85, .int x1, .int x2, .int x3, .int x4] σ = some out := fn_eq m_X4_tryAct rfl h
set_option maxRecDepth 20000 in
theorem e_X4_addChains_0 {x1 : Int32} {σ : St_} {out : Out_}  (h : Ev_ (P_X4_addChains KC) 2 [some (.ref 85), some (.int x1), some (.int (0 : Int32)), none, none, none] [] σ out) : Ev_ (P_X4_addChains KC) 0 [some (.ref 85), some (.int x1), none, none, none, none] [] σ out := by
  refine ev_n 2 (fun _ => rfl) ?_
  exact h
set_option maxRecDepth 20000 in
theorem e_X4_addChains_2 {x1 : Int32} {x2 : Int32} {σ : St_} {out : Out_}  (h : (∃ b1, σ.2.2 85 2 = some b1 ∧ isB b1 ∧ (((σ.1 b1 11) ≤ x2 → out = (none, σ)) ∧ (¬ ((σ.1 b1 11) ≤ x2) → (∃ (v3 : Int32) (σ2 : St_), f_X4_readerOf KC [.ref 85, .int x2] σ = some (some (.int v3), σ2) ∧ Ev_ (P_X4_addChains KC) 22 [some (.ref 85), some (.int x1), some (.int x2), some (.int v3), some (.int (1 : Int32)), none] [] σ2 out))))) : Ev_ (P_X4_addChains KC) 2 [some (.ref 85), some (.int x1), some (.int x2), none, none, none] [] σ out := by
  refine ev_n 2 (fun _ => rfl) ?_
  obtain ⟨b1, eb1, hb1, h⟩ := h
  refine ev_go rfl (w_gR rfl eb1) ?_
  refine ev_go rfl (w_gI (kb_0 hb1)) ?_
  refine ev_if (c := (σ.1 b1 11) ≤ x2) rfl (fun _ => rfl) (fun hc => ?_) (fun hc => ?_)
  · replace h := h.1 hc
    exact ev_ret rfl (fun _ => rfl) h
  · replace h := h.2 hc
    refine ev_n 2 (fun _ => rfl) ?_
    obtain ⟨v3, σ2, hf, h⟩ := h
    refine ev_go rfl (w_callV rfl rfl rfl (Nat.le_of_ble_eq_true rfl) hf) ?_
    refine ev_n 3 (fun _ => rfl) ?_
    exact h
set_option maxRecDepth 20000 in
theorem e_X4_addChains_22 {x1 : Int32} {x2 : Int32} {x3 : Int32} {x4 : Int32} {σ : St_} {out : Out_}  (h : (∃ b1, σ.2.2 85 2 = some b1 ∧ isB b1 ∧ (((σ.1 b1 12) ≤ x4 → Ev_ (P_X4_addChains KC) 2 [some (.ref 85), some (.int x1), some (.int (x2 + 1)), none, none, none] [] σ out) ∧ (¬ ((σ.1 b1 12) ≤ x4) → ((x3 = ((-1) : Int32) → Ev_ (P_X4_addChains KC) 2 [some (.ref 85), some (.int x1), some (.int (x2 + 1)), none, none, none] [] σ out) ∧ (¬ (x3 = ((-1) : Int32)) → (((σ.1 b1 12) ≤ (x3 + (1 : Int32)) → Ev_ (P_X4_addChains KC) 59 [some (.ref 85), some (.int x1), some (.int x2), some (.int x3), some (.int x4), none] [.int (0 : Int32)] σ out) ∧ (¬ ((σ.1 b1 12) ≤ (x3 + (1 : Int32))) → Ev_ (P_X4_addChains KC) 59 [some (.ref 85), some (.int x1), some (.int x2), some (.int x3), some (.int x4), none] [.int (x3 + (1 : Int32))] σ out)))))))) : Ev_ (P_X4_addChains KC) 22 [some (.ref 85), some (.int x1), some (.int x2), some (.int x3), some (.int x4), none] [] σ out := by
  refine ev_n 2 (fun _ => rfl) ?_
  obtain ⟨b1, eb1, hb1, h⟩ := h
  refine ev_go rfl (w_gR rfl eb1) ?_
  refine ev_go rfl (w_gI (kb_0 hb1)) ?_
  refine ev_if (c := (σ.1 b1 12) ≤ x4) rfl (fun _ => rfl) (fun hc => ?_) (fun hc => ?_)
  · replace h := h.1 hc
    refine ev_n 2 (fun _ => rfl) ?_
    exact h
  · replace h := h.2 hc
    refine ev_n 2 (fun _ => rfl) ?_
    refine ev_if (c := x3 = ((-1) : Int32)) rfl (fun _ => rfl) (fun hc => ?_) (fun hc => ?_)
    · replace h := h.1 hc
      refine ev_n 2 (fun _ => rfl) ?_
      exact h
    · replace h := h.2 hc
      refine ev_n 4 (fun _ => rfl) ?_
      refine ev_go rfl (w_gR (z := b1) rfl eb1) ?_
      refine ev_go rfl (w_gI (kb_0 hb1)) ?_
      refine ev_if (c := (σ.1 b1 12) ≤ (x3 + (1 : Int32))) rfl (fun _ => rfl) (fun hc => ?_) (fun hc => ?_)
      · replace h := h.1 hc
        refine ev_n 1 (fun _ => rfl) ?_
        exact h
      · replace h := h.2 hc
        refine ev_n 4 (fun _ => rfl) ?_
        exact h
set_option maxRecDepth 20000 in
theorem e_X4_addChains_59 {x1 : Int32} {x2 : Int32} {x3 : Int32} {x4 : Int32} {y0 : Int32} {σ : St_} {out : Out_}  (h : (∃ (v2 : Int32) (σ1 : St_), f_X4_tryAct KC [.ref 85, .int x3, .int x2, .int x1, .int ((1 : Int32) <<< (y0 &&& 31))] σ = some (some (.int v2), σ1) ∧ ((v2 = 0 → Ev_ (P_X4_addChains KC) 22 [some (.ref 85), some (.int x1), some (.int x2), some (.int ((-1) : Int32)), some (.int (x4 + 1)), none] [] σ1 out) ∧ (¬ (v2 = 0) → Ev_ (P_X4_addChains KC) 22 [some (.ref 85), some (.int x1), some (.int x2), some (.int y0), some (.int (x4 + 1)), none] [] σ1 out)))) : Ev_ (P_X4_addChains KC) 59 [some (.ref 85), some (.int x1), some (.int x2), some (.int x3), some (.int x4), none] [.int y0] σ out := by
  refine ev_n 8 (fun _ => rfl) ?_
  obtain ⟨v2, σ1, hf, h⟩ := h
  refine ev_go rfl (w_callV rfl rfl rfl (Nat.le_of_ble_eq_true rfl) hf) ?_
  refine ev_if (c := v2 = 0) rfl (fun _ => rfl) (fun hc => ?_) (fun hc => ?_)
  · replace h := h.1 hc
    refine ev_n 4 (fun _ => rfl) ?_
    exact h
  · replace h := h.2 hc
    refine ev_n 5 (fun _ => rfl) ?_
    exact h
theorem m_X4_addChains : ∀ pc o, (P_X4_addChains KC).lookup pc = some o → Mon_ o := all_mon (a_X4_addChains (l := launch0) (E := EC0) EC0_ok)
theorem z_X4_addChains {x1 : Int32} {σ : St_} {out : Out_} (h : Ev_ (P_X4_addChains KC) 0 [some (.ref 85), some (.int x1), none, none, none, none] [] σ out) : f_X4_addChains KC [.ref 85, .int x1] σ = some out := fn_eq m_X4_addChains rfl h
