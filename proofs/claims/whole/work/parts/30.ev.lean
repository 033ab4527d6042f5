set_option maxRecDepth 20000 in
theorem e_X0_clear_0 {b : Nat} {σ : St_} {out : Out_} (hb : isB b) (h : out = (none, (sI_ (sI_ (sI_ (sI_ (sI_ (sI_ (sI_ σ b 11 (0 : Int32)) b 12 (0 : Int32)) b 13 (0 : Int32)) b 14 (20 : Int32)) b 15 (8 : Int32)) b 16 (0 : Int32)) b 17 (0 : Int32)))) : Ev_ (P_X0_clear KC) 0 [some (.ref b)] [] σ out := by
  refine ev_n 2 (fun _ => rfl) ?_
  refine ev_go rfl (w_pI (kb_0 hb)) ?_
  refine ev_n 2 (fun _ => rfl) ?_
  refine ev_go rfl (w_pI (kb_0 hb)) ?_
  refine ev_n 2 (fun _ => rfl) ?_
  refine ev_go rfl (w_pI (kb_0 hb)) ?_
  refine ev_n 2 (fun _ => rfl) ?_
  refine ev_go rfl (w_pI (kb_0 hb)) ?_
  refine ev_n 2 (fun _ => rfl) ?_
  refine ev_go rfl (w_pI (kb_0 hb)) ?_
  refine ev_n 2 (fun _ => rfl) ?_
  refine ev_go rfl (w_pZ (kb_0 hb) (by decide)) ?_
  refine ev_n 2 (fun _ => rfl) ?_
  refine ev_go rfl (w_pZ (kb_0 hb) (by decide)) ?_
  exact ev_ret rfl (fun _ => rfl) h
theorem m_X0_clear : ∀ pc o, (P_X0_clear KC).lookup pc = some o → Mon_ o := all_mon (a_X0_clear (l := launch0) (E := EC0) EC0_ok)
theorem z_X0_clear {b : Nat} {σ : St_} {out : Out_} (h : Ev_ (P_X0_clear KC) 0 [some (.ref b)] [] σ out) : f_X0_clear KC [.ref b] σ = some out := fn_eq m_X0_clear rfl h
set_option maxRecDepth 20000 in
theorem e_X0_copyRow_0 {q0 n0 : Nat} {q1 n1 : Nat} {x2 : Int32} {σ : St_} {out : Out_} (hq0 : KC.1 q0 = (14, n0)) (hq1 : KC.1 q1 = (14, n1)) (h : ((x2 ≤ 0 → out = (none, σ)) ∧ (¬ (x2 ≤ 0) → (((Int32.ofNat n0) < x2 → out = (none, σ)) ∧ (¬ ((Int32.ofNat n0) < x2) → (((Int32.ofNat n1) < x2 → out = (none, σ)) ∧ (¬ ((Int32.ofNat n1) < x2) → ((¬ (0 : Int32) < 0 ∧ ¬ (0 : Int32) < 0 ∧ ¬ x2 < 0) ∧ (Int32.toNatClampNeg (0 : Int32)) + (Int32.toNatClampNeg x2) ≤ n0 ∧ (Int32.toNatClampNeg (0 : Int32)) + (Int32.toNatClampNeg x2) ≤ n1) ∧ out = (none, (fun q j => if q = q1 then va_cpy (σ.1 q0) (σ.1 q1) (Int32.toNatClampNeg (0 : Int32)) (Int32.toNatClampNeg (0 : Int32)) (Int32.toNatClampNeg x2) j else σ.1 q j, σ.2))))))))) : Ev_ (P_X0_copyRow KC) 0 [some (.ref q0), some (.ref q1), some (.int x2)] [] σ out := by
  refine ev_n 1 (fun _ => rfl) ?_
  refine ev_if (c := x2 ≤ 0) rfl (fun _ => rfl) (fun hc => ?_) (fun hc => ?_)
  · replace h := h.1 hc
    exact ev_ret rfl (fun _ => rfl) h
  · replace h := h.2 hc
    refine ev_n 2 (fun _ => rfl) ?_
    refine ev_go rfl (w_alen hq0) ?_
    refine ev_if (c := (Int32.ofNat n0) < x2) rfl (fun _ => rfl) (fun hc => ?_) (fun hc => ?_)
    · replace h := h.1 hc
      exact ev_ret rfl (fun _ => rfl) h
    · replace h := h.2 hc
      refine ev_n 2 (fun _ => rfl) ?_
      refine ev_go rfl (w_alen hq1) ?_
      refine ev_if (c := (Int32.ofNat n1) < x2) rfl (fun _ => rfl) (fun hc => ?_) (fun hc => ?_)
      · replace h := h.1 hc
        exact ev_ret rfl (fun _ => rfl) h
      · replace h := h.2 hc
        refine ev_n 5 (fun _ => rfl) ?_
        obtain ⟨h0, h⟩ := h
        refine ev_go rfl (w_copy hq0 hq1 h0.1 h0.2.1 h0.2.2 (Nat.le_of_ble_eq_true rfl)) ?_
        exact ev_ret rfl (fun _ => rfl) h
theorem m_X0_copyRow : ∀ pc o, (P_X0_copyRow KC).lookup pc = some o → Mon_ o := all_mon (a_X0_copyRow (l := launch0) (E := EC0) EC0_ok)
theorem z_X0_copyRow {q0 : Nat} {q1 : Nat} {x2 : Int32} {σ : St_} {out : Out_} (h : Ev_ (P_X0_copyRow KC) 0 [some (.ref q0), some (.ref q1), some (.int x2)] [] σ out) : f_X0_copyRow KC [.ref q0, .ref q1, .int x2] σ = some out := fn_eq m_X0_copyRow rfl h
set_option maxRecDepth 20000 in
theorem e_X0_copyFrom_0 {b : Nat} {b1 : Nat} {σ : St_} {out : Out_} (hb : isB b) (hb1 : isB b1) (h : (∃ (σ1 : St_), f_X0_copyRow KC [.ref (b1 + 1), .ref (b + 1), .int (σ.1 b1 11)] σ = some (none, σ1) ∧ (∃ (σ2 : St_), f_X0_copyRow KC [.ref (b1 + 2), .ref (b + 2), .int (σ1.1 b1 11)] σ1 = some (none, σ2) ∧ (∃ (σ3 : St_), f_X0_copyRow KC [.ref (b1 + 3), .ref (b + 3), .int (σ2.1 b1 11)] σ2 = some (none, σ3) ∧ (∃ (σ4 : St_), f_X0_copyRow KC [.ref (b1 + 4), .ref (b + 4), .int (σ3.1 b1 11)] σ3 = some (none, σ4) ∧ Ev_ (P_X0_copyFrom KC) 62 [some (.ref b), some (.ref b1), some (.int (0 : Int32))] [] σ4 out))))) : Ev_ (P_X0_copyFrom KC) 0 [some (.ref b), some (.ref b1), none] [] σ out := by
  refine ev_n 1 (fun _ => rfl) ?_
  refine ev_go rfl (w_gF (kb_0 hb1) (kb_r0 hb1)) ?_
  refine ev_n 1 (fun _ => rfl) ?_
  refine ev_go rfl (w_gF (kb_0 hb) (kb_r0 hb)) ?_
  refine ev_n 1 (fun _ => rfl) ?_
  refine ev_go rfl (w_gI (kb_0 hb1)) ?_
  obtain ⟨σ1, hf, h⟩ := h
  refine ev_go rfl (w_callS ⟨Nat.le_of_ble_eq_true rfl, Nat.le_of_ble_eq_true rfl⟩ hf) ?_
  refine ev_n 1 (fun _ => rfl) ?_
  refine ev_go rfl (w_gF (kb_0 hb1) (kb_r1 hb1)) ?_
  refine ev_n 1 (fun _ => rfl) ?_
  refine ev_go rfl (w_gF (kb_0 hb) (kb_r1 hb)) ?_
  refine ev_n 1 (fun _ => rfl) ?_
  refine ev_go rfl (w_gI (kb_0 hb1)) ?_
  obtain ⟨σ2, hf, h⟩ := h
  refine ev_go rfl (w_callS ⟨Nat.le_of_ble_eq_true rfl, Nat.le_of_ble_eq_true rfl⟩ hf) ?_
  refine ev_n 1 (fun _ => rfl) ?_
  refine ev_go rfl (w_gF (kb_0 hb1) (kb_r2 hb1)) ?_
  refine ev_n 1 (fun _ => rfl) ?_
  refine ev_go rfl (w_gF (kb_0 hb) (kb_r2 hb)) ?_
  refine ev_n 1 (fun _ => rfl) ?_
  refine ev_go rfl (w_gI (kb_0 hb1)) ?_
  obtain ⟨σ3, hf, h⟩ := h
  refine ev_go rfl (w_callS ⟨Nat.le_of_ble_eq_true rfl, Nat.le_of_ble_eq_true rfl⟩ hf) ?_
  refine ev_n 1 (fun _ => rfl) ?_
  refine ev_go rfl (w_gF (kb_0 hb1) (kb_r3 hb1)) ?_
  refine ev_n 1 (fun _ => rfl) ?_
  refine ev_go rfl (w_gF (kb_0 hb) (kb_r3 hb)) ?_
  refine ev_n 1 (fun _ => rfl) ?_
  refine ev_go rfl (w_gI (kb_0 hb1)) ?_
  obtain ⟨σ4, hf, h⟩ := h
  refine ev_go rfl (w_callS ⟨Nat.le_of_ble_eq_true rfl, Nat.le_of_ble_eq_true rfl⟩ hf) ?_
  refine ev_n 2 (fun _ => rfl) ?_
  exact h
set_option maxRecDepth 20000 in
theorem e_X0_copyFrom_62 {b : Nat} {b1 : Nat} {x2 : Int32} {σ : St_} {out : Out_} (hb : isB b) (hb1 : isB b1) (h : (((σ.1 b1 11) ≤ x2 → (∃ (σ1 : St_), f_X0_copyRow KC [.ref (b1 + 22), .ref (b + 22), .int (σ.1 b1 12)] σ = some (none, σ1) ∧ (∃ (σ2 : St_), f_X0_copyRow KC [.ref (b1 + 23), .ref (b + 23), .int (σ1.1 b1 12)] σ1 = some (none, σ2) ∧ (∃ (σ3 : St_), f_X0_copyRow KC [.ref (b1 + 24), .ref (b + 24), .int (σ2.1 b1 12)] σ2 = some (none, σ3) ∧ (∃ (σ4 : St_), f_X0_copyRow KC [.ref (b1 + 25), .ref (b + 25), .int (σ3.1 b1 12)] σ3 = some (none, σ4) ∧ (∃ (σ5 : St_), f_X0_copyRow KC [.ref (b1 + 26), .ref (b + 26), .int (σ4.1 b1 12)] σ4 = some (none, σ5) ∧ (∃ (σ6 : St_), f_X0_copyRow KC [.ref (b1 + 27), .ref (b + 27), .int (σ5.1 b1 12)] σ5 = some (none, σ6) ∧ out = (none, (sI_ (sI_ (sI_ (sI_ (sI_ σ6 b 11 (σ6.1 b1 11)) b 12 ((sI_ σ6 b 11 (σ6.1 b1 11)).1 b1 12)) b 13 ((sI_ (sI_ σ6 b 11 (σ6.1 b1 11)) b 12 ((sI_ σ6 b 11 (σ6.1 b1 11)).1 b1 12)).1 b1 13)) b 14 ((sI_ (sI_ (sI_ σ6 b 11 (σ6.1 b1 11)) b 12 ((sI_ σ6 b 11 (σ6.1 b1 11)).1 b1 12)) b 13 ((sI_ (sI_ σ6 b 11 (σ6.1 b1 11)) b 12 ((sI_ σ6 b 11 (σ6.1 b1 11)).1 b1 12)).1 b1 13)).1 b1 14)) b 15 ((sI_ (sI_ (sI_ (sI_ σ6 b 11 (σ6.1 b1 11)) b 12 ((sI_ σ6 b 11 (σ6.1 b1 11)).1 b1 12)) b 13 ((sI_ (sI_ σ6 b 11 (σ6.1 b1 11)) b 12 ((sI_ σ6 b 11 (σ6.1 b1 11)).1 b1 12)).1 b1 13)) b 14 ((sI_ (sI_ (sI_ σ6 b 11 (σ6.1 b1 11)) b 12 ((sI_ σ6 b 11 (σ6.1 b1 11)).1 b1 12)) b 13 ((sI_ (sI_ σ6 b 11 (σ6.1 b1 11)) b 12 ((sI_ σ6 b 11 (σ6.1 b1 11)).1 b1 12)).1 b1 13)).1 b1 14)).1 b1 15)))))))))) ∧ (¬ ((σ.1 b1 11) ≤ x2) → (vpin_ x2 16 = true) ∧ (vpin_ x2 16 = true) ∧ (∃ (σ9 : St_), f_X0_copyRow KC [.ref (b1 + 6 + Int32.toNatClampNeg x2), .ref (b + 6 + Int32.toNatClampNeg x2), .int (16 : Int32)] σ = some (none, σ9) ∧ Ev_ (P_X0_copyFrom KC) 62 [some (.ref b), some (.ref b1), some (.int (x2 + 1))] [] σ9 out)))) : Ev_ (P_X0_copyFrom KC) 62 [some (.ref b), some (.ref b1), some (.int x2)] [] σ out := by
  refine ev_n 2 (fun _ => rfl) ?_
  refine ev_go rfl (w_gI (kb_0 hb1)) ?_
  refine ev_if (c := (σ.1 b1 11) ≤ x2) rfl (fun _ => rfl) (fun hc => ?_) (fun hc => ?_)
  · replace h := h.1 hc
    refine ev_n 1 (fun _ => rfl) ?_
    refine ev_go rfl (w_gF (kb_0 hb1) (kb_r5 hb1)) ?_
    refine ev_n 1 (fun _ => rfl) ?_
    refine ev_go rfl (w_gF (kb_0 hb) (kb_r5 hb)) ?_
    refine ev_n 1 (fun _ => rfl) ?_
    refine ev_go rfl (w_gI (kb_0 hb1)) ?_
    obtain ⟨σ1, hf, h⟩ := h
    refine ev_go rfl (w_callS ⟨Nat.le_of_ble_eq_true rfl, Nat.le_of_ble_eq_true rfl⟩ hf) ?_
    refine ev_n 1 (fun _ => rfl) ?_
    refine ev_go rfl (w_gF (kb_0 hb1) (kb_r6 hb1)) ?_
    refine ev_n 1 (fun _ => rfl) ?_
    refine ev_go rfl (w_gF (kb_0 hb) (kb_r6 hb)) ?_
    refine ev_n 1 (fun _ => rfl) ?_
    refine ev_go rfl (w_gI (kb_0 hb1)) ?_
    obtain ⟨σ2, hf, h⟩ := h
    refine ev_go rfl (w_callS ⟨Nat.le_of_ble_eq_true rfl, Nat.le_of_ble_eq_true rfl⟩ hf) ?_
    refine ev_n 1 (fun _ => rfl) ?_
    refine ev_go rfl (w_gF (kb_0 hb1) (kb_r7 hb1)) ?_
    refine ev_n 1 (fun _ => rfl) ?_
    refine ev_go rfl (w_gF (kb_0 hb) (kb_r7 hb)) ?_
    refine ev_n 1 (fun _ => rfl) ?_
    refine ev_go rfl (w_gI (kb_0 hb1)) ?_
    obtain ⟨σ3, hf, h⟩ := h
    refine ev_go rfl (w_callS ⟨Nat.le_of_ble_eq_true rfl, Nat.le_of_ble_eq_true rfl⟩ hf) ?_
    refine ev_n 1 (fun _ => rfl) ?_
    refine ev_go rfl (w_gF (kb_0 hb1) (kb_r8 hb1)) ?_
    refine ev_n 1 (fun _ => rfl) ?_
    refine ev_go rfl (w_gF (kb_0 hb) (kb_r8 hb)) ?_
    refine ev_n 1 (fun _ => rfl) ?_
    refine ev_go rfl (w_gI (kb_0 hb1)) ?_
    obtain ⟨σ4, hf, h⟩ := h
    refine ev_go rfl (w_callS ⟨Nat.le_of_ble_eq_true rfl, Nat.le_of_ble_eq_true rfl⟩ hf) ?_
    refine ev_n 1 (fun _ => rfl) ?_
    refine ev_go rfl (w_gF (kb_0 hb1) (kb_r9 hb1)) ?_
    refine ev_n 1 (fun _ => rfl) ?_
    refine ev_go rfl (w_gF (kb_0 hb) (kb_r9 hb)) ?_
    refine ev_n 1 (fun _ => rfl) ?_
    refine ev_go rfl (w_gI (kb_0 hb1)) ?_
    obtain ⟨σ5, hf, h⟩ := h
    refine ev_go rfl (w_callS ⟨Nat.le_of_ble_eq_true rfl, Nat.le_of_ble_eq_true rfl⟩ hf) ?_
    refine ev_n 1 (fun _ => rfl) ?_
    refine ev_go rfl (w_gF (kb_0 hb1) (kb_r10 hb1)) ?_
    refine ev_n 1 (fun _ => rfl) ?_
    refine ev_go rfl (w_gF (kb_0 hb) (kb_r10 hb)) ?_
    refine ev_n 1 (fun _ => rfl) ?_
    refine ev_go rfl (w_gI (kb_0 hb1)) ?_
    obtain ⟨σ6, hf, h⟩ := h
    refine ev_go rfl (w_callS ⟨Nat.le_of_ble_eq_true rfl, Nat.le_of_ble_eq_true rfl⟩ hf) ?_
    refine ev_n 2 (fun _ => rfl) ?_
    refine ev_go rfl (w_gI (kb_0 hb1)) ?_
    refine ev_go rfl (w_pI (kb_0 hb)) ?_
    refine ev_n 2 (fun _ => rfl) ?_
    refine ev_go rfl (w_gI (kb_0 hb1)) ?_
    refine ev_go rfl (w_pI (kb_0 hb)) ?_
    refine ev_n 2 (fun _ => rfl) ?_
    refine ev_go rfl (w_gI (kb_0 hb1)) ?_
    refine ev_go rfl (w_pI (kb_0 hb)) ?_
    refine ev_n 2 (fun _ => rfl) ?_
    refine ev_go rfl (w_gI (kb_0 hb1)) ?_
    refine ev_go rfl (w_pI (kb_0 hb)) ?_
    refine ev_n 2 (fun _ => rfl) ?_
    refine ev_go rfl (w_gI (kb_0 hb1)) ?_
    refine ev_go rfl (w_pI (kb_0 hb)) ?_
    exact ev_ret rfl (fun _ => rfl) h
  · replace h := h.2 hc
    refine ev_n 1 (fun _ => rfl) ?_
    refine ev_go rfl (w_gF (kb_0 hb1) (kb_r4 hb1)) ?_
    refine ev_n 1 (fun _ => rfl) ?_
    obtain ⟨hv7, h⟩ := h
    refine ev_go rfl (w_aald (kb_k4 hb1) (by decide) hv7 (kb_row hb1 _ (vpin_lt hv7))) ?_
    refine ev_n 1 (fun _ => rfl) ?_
    refine ev_go rfl (w_gF (kb_0 hb) (kb_r4 hb)) ?_
    refine ev_n 1 (fun _ => rfl) ?_
    obtain ⟨hv8, h⟩ := h
    refine ev_go rfl (w_aald (kb_k4 hb) (by decide) hv8 (kb_row hb _ (vpin_lt hv8))) ?_
    refine ev_n 1 (fun _ => rfl) ?_
    obtain ⟨σ9, hf, h⟩ := h
    refine ev_go rfl (w_callS ⟨Nat.le_of_ble_eq_true rfl, Nat.le_of_ble_eq_true rfl⟩ hf) ?_
    refine ev_n 2 (fun _ => rfl) ?_
    exact h
theorem m_X0_copyFrom : ∀ pc o, (P_X0_copyFrom KC).lookup pc = some o → Mon_ o := all_mon (a_X0_copyFrom (l := launch0) (E := EC0) EC0_ok)
theorem z_X0_copyFrom {b : Nat} {b1 : Nat} {σ : St_} {out : Out_} (h : Ev_ (P_X0_copyFrom KC) 0 [some (.ref b), some (.ref b1), none] [] σ out) : f_X0_copyFrom KC [.ref b, .ref b1] σ = some out := fn_eq m_X0_copyFrom rfl h
set_option maxRecDepth 20000 in
theorem e_X0_hasChap_0 {b : Nat} {x1 : Int32} {σ : St_} {out : Out_} (hb : isB b) (h : ((x1 < 0 → out = (some (.int (0 : Int32)), σ)) ∧ (¬ (x1 < 0) → (((σ.1 b 11) ≤ x1 → out = (some (.int (0 : Int32)), σ)) ∧ (¬ ((σ.1 b 11) ≤ x1) → out = (some (.int (1 : Int32)), σ)))))) : Ev_ (P_X0_hasChap KC) 0 [some (.ref b), some (.int x1)] [] σ out := by
  refine ev_n 1 (fun _ => rfl) ?_
  refine ev_if (c := x1 < 0) rfl (fun _ => rfl) (fun hc => ?_) (fun hc => ?_)
  · replace h := h.1 hc
    refine ev_n 1 (fun _ => rfl) ?_
    exact v_zret (by decide) rfl h
  · replace h := h.2 hc
    refine ev_n 2 (fun _ => rfl) ?_
    refine ev_go rfl (w_gI (kb_0 hb)) ?_
    refine ev_if (c := (σ.1 b 11) ≤ x1) rfl (fun _ => rfl) (fun hc => ?_) (fun hc => ?_)
    · replace h := h.1 hc
      refine ev_n 1 (fun _ => rfl) ?_
      exact v_zret (by decide) rfl h
    · replace h := h.2 hc
      refine ev_n 2 (fun _ => rfl) ?_
      exact v_zret (by decide) rfl h
theorem m_X0_hasChap : ∀ pc o, (P_X0_hasChap KC).lookup pc = some o → Mon_ o := all_mon (a_X0_hasChap (l := launch0) (E := EC0) EC0_ok)
theorem z_X0_hasChap {b : Nat} {x1 : Int32} {σ : St_} {out : Out_} (h : Ev_ (P_X0_hasChap KC) 0 [some (.ref b), some (.int x1)] [] σ out) : f_X0_hasChap KC [.ref b, .int x1] σ = some out := fn_eq m_X0_hasChap rfl h
set_option maxRecDepth 20000 in
theorem e_X0_hasReader_0 {b : Nat} {x1 : Int32} {σ : St_} {out : Out_} (hb : isB b) (h : ((x1 < 0 → out = (some (.int (0 : Int32)), σ)) ∧ (¬ (x1 < 0) → (((σ.1 b 12) ≤ x1 → out = (some (.int (0 : Int32)), σ)) ∧ (¬ ((σ.1 b 12) ≤ x1) → out = (some (.int (1 : Int32)), σ)))))) : Ev_ (P_X0_hasReader KC) 0 [some (.ref b), some (.int x1)] [] σ out := by
  refine ev_n 1 (fun _ => rfl) ?_
  refine ev_if (c := x1 < 0) rfl (fun _ => rfl) (fun hc => ?_) (fun hc => ?_)
  · replace h := h.1 hc
    refine ev_n 1 (fun _ => rfl) ?_
    exact v_zret (by decide) rfl h
  · replace h := h.2 hc
    refine ev_n 2 (fun _ => rfl) ?_
    refine ev_go rfl (w_gI (kb_0 hb)) ?_
    refine ev_if (c := (σ.1 b 12) ≤ x1) rfl (fun _ => rfl) (fun hc => ?_) (fun hc => ?_)
    · replace h := h.1 hc
      refine ev_n 1 (fun _ => rfl) ?_
      exact v_zret (by decide) rfl h
    · replace h := h.2 hc
      refine ev_n 2 (fun _ => rfl) ?_
      exact v_zret (by decide) rfl h
theorem m_X0_hasReader : ∀ pc o, (P_X0_hasReader KC).lookup pc = some o → Mon_ o := all_mon (a_X0_hasReader (l := launch0) (E := EC0) EC0_ok)
theorem z_X0_hasReader {b : Nat} {x1 : Int32} {σ : St_} {out : Out_} (h : Ev_ (P_X0_hasReader KC) 0 [some (.ref b), some (.int x1)] [] σ out) : f_X0_hasReader KC [.ref b, .int x1] σ = some out := fn_eq m_X0_hasReader rfl h
set_option maxRecDepth 20000 in
theorem e_X0_placeOf_0 {x0 : Int32} {q1 n1 : Nat} {x2 : Int32} {σ : St_} {out : Out_} (hq1 : KC.1 q1 = (14, n1)) (h : Ev_ (P_X0_placeOf KC) 2 [some (.int x0), some (.ref q1), some (.int x2), some (.int (0 : Int32))] [] σ out) : Ev_ (P_X0_placeOf KC) 0 [some (.int x0), some (.ref q1), some (.int x2), none] [] σ out := by
  refine ev_n 2 (fun _ => rfl) ?_
  exact h
set_option maxRecDepth 20000 in
theorem e_X0_placeOf_2 {x0 : Int32} {q1 n1 : Nat} {x2 : Int32} {x3 : Int32} {σ : St_} {out : Out_} (hq1 : KC.1 q1 = (14, n1)) (h : ((x2 ≤ x3 → out = (some (.int ((-1) : Int32)), σ)) ∧ (¬ (x2 ≤ x3) → (((Int32.ofNat n1) ≤ x3 → out = (some (.int ((-1) : Int32)), σ)) ∧ (¬ ((Int32.ofNat n1) ≤ x3) → (vpin_ x3 n1 = true) ∧ (((σ.1 q1 (Int32.toNatClampNeg x3)) = x0 → out = (some (.int x3), σ)) ∧ (¬ ((σ.1 q1 (Int32.toNatClampNeg x3)) = x0) → Ev_ (P_X0_placeOf KC) 2 [some (.int x0), some (.ref q1), some (.int x2), some (.int (x3 + 1))] [] σ out))))))) : Ev_ (P_X0_placeOf KC) 2 [some (.int x0), some (.ref q1), some (.int x2), some (.int x3)] [] σ out := by
  refine ev_n 2 (fun _ => rfl) ?_
  refine ev_if (c := x2 ≤ x3) rfl (fun _ => rfl) (fun hc => ?_) (fun hc => ?_)
  · replace h := h.1 hc
    refine ev_n 1 (fun _ => rfl) ?_
    exact ev_ret rfl (fun _ => rfl) h
  · replace h := h.2 hc
    refine ev_n 2 (fun _ => rfl) ?_
    refine ev_go rfl (w_alen hq1) ?_
    refine ev_if (c := (Int32.ofNat n1) ≤ x3) rfl (fun _ => rfl) (fun hc => ?_) (fun hc => ?_)
    · replace h := h.1 hc
      refine ev_n 1 (fun _ => rfl) ?_
      exact ev_ret rfl (fun _ => rfl) h
    · replace h := h.2 hc
      refine ev_n 2 (fun _ => rfl) ?_
      obtain ⟨h0, h⟩ := h
      refine ev_go rfl (w_iald hq1 h0) ?_
      refine ev_n 1 (fun _ => rfl) ?_
      refine ev_if (c := (σ.1 q1 (Int32.toNatClampNeg x3)) = x0) rfl (fun _ => rfl) (fun hc => ?_) (fun hc => ?_)
      · replace h := h.1 hc
        refine ev_n 1 (fun _ => rfl) ?_
        exact ev_ret rfl (fun _ => rfl) h
      · replace h := h.2 hc
        refine ev_n 2 (fun _ => rfl) ?_
        exact h
theorem m_X0_placeOf : ∀ pc o, (P_X0_placeOf KC).lookup pc = some o → Mon_ o := all_mon (a_X0_placeOf (l := launch0) (E := EC0) EC0_ok)
theorem z_X0_placeOf {x0 : Int32} {q1 : Nat} {x2 : Int32} {σ : St_} {out : Out_} (h : Ev_ (P_X0_placeOf KC) 0 [some (.int x0), some (.ref q1), some (.int x2), none] [] σ out) : f_X0_placeOf KC [.int x0, .ref q1, .int x2] σ = some out := fn_eq m_X0_placeOf rfl h
set_option maxRecDepth 20000 in
theorem e_X0_chapNamed_0 {b : Nat} {x1 : Int32} {σ : St_} {out : Out_} (hb : isB b) (h : (∃ (v2 : Int32) (σ1 : St_), f_X0_placeOf KC [.int x1, .ref (b + 1), .int (σ.1 b 11)] σ = some (some (.int v2), σ1) ∧ out = (some (.int v2), σ1))) : Ev_ (P_X0_chapNamed KC) 0 [some (.ref b), some (.int x1)] [] σ out := by
  refine ev_n 2 (fun _ => rfl) ?_
  refine ev_go rfl (w_gF (kb_0 hb) (kb_r0 hb)) ?_
  refine ev_n 1 (fun _ => rfl) ?_
  refine ev_go rfl (w_gI (kb_0 hb)) ?_
  obtain ⟨v2, σ1, hf, h⟩ := h
  refine ev_go rfl (w_callS ⟨Nat.le_of_ble_eq_true rfl, Nat.le_of_ble_eq_true rfl⟩ hf) ?_
  exact ev_ret rfl (fun _ => rfl) h
theorem m_X0_chapNamed : ∀ pc o, (P_X0_chapNamed KC).lookup pc = some o → Mon_ o := all_mon (a_X0_chapNamed (l := launch0) (E := EC0) EC0_ok)
theorem z_X0_chapNamed {b : Nat} {x1 : Int32} {σ : St_} {out : Out_} (h : Ev_ (P_X0_chapNamed KC) 0 [some (.ref b), some (.int x1)] [] σ out) : f_X0_chapNamed KC [.ref b, .int x1] σ = some out := fn_eq m_X0_chapNamed rfl h
set_option maxRecDepth 20000 in
theorem e_X0_readerNamed_0 {b : Nat} {x1 : Int32} {σ : St_} {out : Out_} (hb : isB b) (h : (∃ (v2 : Int32) (σ1 : St_), f_X0_placeOf KC [.int x1, .ref (b + 22), .int (σ.1 b 12)] σ = some (some (.int v2), σ1) ∧ out = (some (.int v2), σ1))) : Ev_ (P_X0_readerNamed KC) 0 [some (.ref b), some (.int x1)] [] σ out := by
  refine ev_n 2 (fun _ => rfl) ?_
  refine ev_go rfl (w_gF (kb_0 hb) (kb_r5 hb)) ?_
  refine ev_n 1 (fun _ => rfl) ?_
  refine ev_go rfl (w_gI (kb_0 hb)) ?_
  obtain ⟨v2, σ1, hf, h⟩ := h
  refine ev_go rfl (w_callS ⟨Nat.le_of_ble_eq_true rfl, Nat.le_of_ble_eq_true rfl⟩ hf) ?_
  exact ev_ret rfl (fun _ => rfl) h
theorem m_X0_readerNamed : ∀ pc o, (P_X0_readerNamed KC).lookup pc = some o → Mon_ o := all_mon (a_X0_readerNamed (l := launch0) (E := EC0) EC0_ok)
theorem z_X0_readerNamed {b : Nat} {x1 : Int32} {σ : St_} {out : Out_} (h : Ev_ (P_X0_readerNamed KC) 0 [some (.ref b), some (.int x1)] [] σ out) : f_X0_readerNamed KC [.ref b, .int x1] σ = some out := fn_eq m_X0_readerNamed rfl h
set_option maxRecDepth 20000 in
theorem e_X0_leansOnHowMany_0 {b : Nat} {x1 : Int32} {σ : St_} {out : Out_} (hb : isB b) (h : Ev_ (P_X0_leansOnHowMany KC) 4 [some (.ref b), some (.int x1), some (.int (0 : Int32)), some (.int (0 : Int32))] [] σ out) : Ev_ (P_X0_leansOnHowMany KC) 0 [some (.ref b), some (.int x1), none, none] [] σ out := by
  refine ev_n 4 (fun _ => rfl) ?_
  exact h
set_option maxRecDepth 20000 in
theorem e_X0_leansOnHowMany_4 {b : Nat} {x1 : Int32} {x2 : Int32} {x3 : Int32} {σ : St_} {out : Out_} (hb : isB b) (h : ((x1 ≤ x3 → out = (some (.int x2), σ)) ∧ (¬ (x1 ≤ x3) → (vpin_ x1 16 = true) ∧ (vpin_ x3 16 = true) ∧ (((σ.1 (b + 6 + Int32.toNatClampNeg x1) (Int32.toNatClampNeg x3)) ≤ 0 → Ev_ (P_X0_leansOnHowMany KC) 4 [some (.ref b), some (.int x1), some (.int x2), some (.int (x3 + 1))] [] σ out) ∧ (¬ ((σ.1 (b + 6 + Int32.toNatClampNeg x1) (Int32.toNatClampNeg x3)) ≤ 0) → Ev_ (P_X0_leansOnHowMany KC) 4 [some (.ref b), some (.int x1), some (.int (x2 + 1)), some (.int (x3 + 1))] [] σ out))))) : Ev_ (P_X0_leansOnHowMany KC) 4 [some (.ref b), some (.int x1), some (.int x2), some (.int x3)] [] σ out := by
  refine ev_n 2 (fun _ => rfl) ?_
  refine ev_if (c := x1 ≤ x3) rfl (fun _ => rfl) (fun hc => ?_) (fun hc => ?_)
  · replace h := h.1 hc
    refine ev_n 1 (fun _ => rfl) ?_
    exact ev_ret rfl (fun _ => rfl) h
  · replace h := h.2 hc
    refine ev_n 1 (fun _ => rfl) ?_
    refine ev_go rfl (w_gF (kb_0 hb) (kb_r4 hb)) ?_
    refine ev_n 1 (fun _ => rfl) ?_
    obtain ⟨hv1, h⟩ := h
    refine ev_go rfl (w_aald (kb_k4 hb) (by decide) hv1 (kb_row hb _ (vpin_lt hv1))) ?_
    refine ev_n 1 (fun _ => rfl) ?_
    obtain ⟨h0, h⟩ := h
    refine ev_go rfl (w_iald (kb_rk hb _ (vpin_lt hv1)) h0) ?_
    refine ev_if (c := (σ.1 (b + 6 + Int32.toNatClampNeg x1) (Int32.toNatClampNeg x3)) ≤ 0) rfl (fun _ => rfl) (fun hc => ?_) (fun hc => ?_)
    · replace h := h.1 hc
      refine ev_n 2 (fun _ => rfl) ?_
      exact h
    · replace h := h.2 hc
      refine ev_n 3 (fun _ => rfl) ?_
      exact h
theorem m_X0_leansOnHowMany : ∀ pc o, (P_X0_leansOnHowMany KC).lookup pc = some o → Mon_ o := all_mon (a_X0_leansOnHowMany (l := launch0) (E := EC0) EC0_ok)
theorem z_X0_leansOnHowMany {b : Nat} {x1 : Int32} {σ : St_} {out : Out_} (h : Ev_ (P_X0_leansOnHowMany KC) 0 [some (.ref b), some (.int x1), none, none] [] σ out) : f_X0_leansOnHowMany KC [.ref b, .int x1] σ = some out := fn_eq m_X0_leansOnHowMany rfl h
set_option maxRecDepth 20000 in
theorem e_X8_fail_0 {x1 : Int32} {σ : St_} {out : Out_}  (h : out = (some (.int (0 : Int32)), (sI_ (sI_ σ 1 9 x1) 1 10 ((sI_ σ 1 9 x1).1 1 5)))) : Ev_ (P_X8_fail KC) 0 [some (.ref 1), some (.int x1)] [] σ out := by
  refine ev_n 2 (fun _ => rfl) ?_
  refine ev_go rfl (w_pI rfl) ?_
  refine ev_n 2 (fun _ => rfl) ?_
  refine ev_go rfl (w_gI rfl) ?_
  refine ev_go rfl (w_pI rfl) ?_
  refine ev_n 1 (fun _ => rfl) ?_
  exact v_zret (by decide) rfl h
theorem m_X8_fail : ∀ pc o, (P_X8_fail KC).lookup pc = some o → Mon_ o := all_mon (a_X8_fail (l := launch0) (E := EC0) EC0_ok)
theorem z_X8_fail {x1 : Int32} {σ : St_} {out : Out_} (h : Ev_ (P_X8_fail KC) 0 [some (.ref 1), some (.int x1)] [] σ out) : f_X8_fail KC [.ref 1, .int x1] σ = some out := fn_eq m_X8_fail rfl h
set_option maxRecDepth 20000 in
theorem e_X8_isSign_0 {x0 : Int32} {σ : St_} {out : Out_}  (h : ((x0 = (59 : Int32) → out = (some (.int (1 : Int32)), σ)) ∧ (¬ (x0 = (59 : Int32)) → ((x0 = (40 : Int32) → out = (some (.int (1 : Int32)), σ)) ∧ (¬ (x0 = (40 : Int32)) → ((x0 = (41 : Int32) → out = (some (.int (1 : Int32)), σ)) ∧ (¬ (x0 = (41 : Int32)) → ((x0 = (60 : Int32) → out = (some (.int (1 : Int32)), σ)) ∧ (¬ (x0 = (60 : Int32)) → ((x0 = (61 : Int32) → out = (some (.int (1 : Int32)), σ)) ∧ (¬ (x0 = (61 : Int32)) → ((x0 = (62 : Int32) → out = (some (.int (1 : Int32)), σ)) ∧ (¬ (x0 = (62 : Int32)) → out = (some (.int (0 : Int32)), σ)))))))))))))) : Ev_ (P_X8_isSign KC) 0 [some (.int x0)] [] σ out := by
  refine ev_n 2 (fun _ => rfl) ?_
  refine ev_if (c := x0 = (59 : Int32)) rfl (fun _ => rfl) (fun hc => ?_) (fun hc => ?_)
  · replace h := h.1 hc
    refine ev_n 2 (fun _ => rfl) ?_
    exact v_zret (by decide) rfl h
  · replace h := h.2 hc
    refine ev_n 2 (fun _ => rfl) ?_
    refine ev_if (c := x0 = (40 : Int32)) rfl (fun _ => rfl) (fun hc => ?_) (fun hc => ?_)
    · replace h := h.1 hc
      refine ev_n 2 (fun _ => rfl) ?_
      exact v_zret (by decide) rfl h
    · replace h := h.2 hc
      refine ev_n 2 (fun _ => rfl) ?_
      refine ev_if (c := x0 = (41 : Int32)) rfl (fun _ => rfl) (fun hc => ?_) (fun hc => ?_)
      · replace h := h.1 hc
        refine ev_n 2 (fun _ => rfl) ?_
        exact v_zret (by decide) rfl h
      · replace h := h.2 hc
        refine ev_n 2 (fun _ => rfl) ?_
        refine ev_if (c := x0 = (60 : Int32)) rfl (fun _ => rfl) (fun hc => ?_) (fun hc => ?_)
        · replace h := h.1 hc
          refine ev_n 2 (fun _ => rfl) ?_
          exact v_zret (by decide) rfl h
        · replace h := h.2 hc
          refine ev_n 2 (fun _ => rfl) ?_
          refine ev_if (c := x0 = (61 : Int32)) rfl (fun _ => rfl) (fun hc => ?_) (fun hc => ?_)
          · replace h := h.1 hc
            refine ev_n 2 (fun _ => rfl) ?_
            exact v_zret (by decide) rfl h
          · replace h := h.2 hc
            refine ev_n 2 (fun _ => rfl) ?_
            refine ev_if (c := x0 = (62 : Int32)) rfl (fun _ => rfl) (fun hc => ?_) (fun hc => ?_)
            · replace h := h.1 hc
              refine ev_n 2 (fun _ => rfl) ?_
              exact v_zret (by decide) rfl h
            · replace h := h.2 hc
              refine ev_n 1 (fun _ => rfl) ?_
              exact v_zret (by decide) rfl h
theorem m_X8_isSign : ∀ pc o, (P_X8_isSign KC).lookup pc = some o → Mon_ o := all_mon (a_X8_isSign (l := launch0) (E := EC0) EC0_ok)
theorem z_X8_isSign {x0 : Int32} {σ : St_} {out : Out_} (h : Ev_ (P_X8_isSign KC) 0 [some (.int x0)] [] σ out) : f_X8_isSign KC [.int x0] σ = some out := fn_eq m_X8_isSign rfl h
set_option maxRecDepth 20000 in
theorem e_X8_nextWordOrNumber_0  {σ : St_} {out : Out_}  (h : Ev_ (P_X8_nextWordOrNumber KC) 9 [some (.ref 1), some (.int (0 : Int32)), some (.int (0 : Int32)), none] [] (sI_ σ 1 7 (0 : Int32)) out) : Ev_ (P_X8_nextWordOrNumber KC) 0 [some (.ref 1), none, none, none] [] σ out := by
  refine ev_n 6 (fun _ => rfl) ?_
  refine ev_goA rfl (w_pI rfl) rfl ?_
  exact h
set_option maxRecDepth 20000 in
theorem e_X8_nextWordOrNumber_9 {x1 : Int32} {x2 : Int32} {σ : St_} {out : Out_}  (h : (((σ.1 1 2) ≤ (σ.1 1 4) → ((x2 = 0 → ((x1 < (1 : Int32) → ((x1 = 0 → ((x2 < (1 : Int32) → out = (none, (sI_ σ 1 6 (1 : Int32)))) ∧ (¬ (x2 < (1 : Int32)) → (((3 : Int32) < x2 → out = (none, (sI_ σ 1 6 (1 : Int32)))) ∧ (¬ ((3 : Int32) < x2) → out = (none, (sI_ (sI_ σ 1 6 (1 : Int32)) 1 6 (3 : Int32)))))))) ∧ (¬ (x1 = 0) → out = (none, (sI_ σ 1 6 (1 : Int32)))))) ∧ (¬ (x1 < (1 : Int32)) → (((6 : Int32) < x1 → ((x1 = 0 → ((x2 < (1 : Int32) → out = (none, (sI_ σ 1 6 (1 : Int32)))) ∧ (¬ (x2 < (1 : Int32)) → (((3 : Int32) < x2 → out = (none, (sI_ σ 1 6 (1 : Int32)))) ∧ (¬ ((3 : Int32) < x2) → out = (none, (sI_ (sI_ σ 1 6 (1 : Int32)) 1 6 (3 : Int32)))))))) ∧ (¬ (x1 = 0) → out = (none, (sI_ σ 1 6 (1 : Int32)))))) ∧ (¬ ((6 : Int32) < x1) → Ev_ (P_X8_nextWordOrNumber KC) 136 [some (.ref 1), none, none, some (.int (0 : Int32))] [] (sI_ (sI_ σ 1 6 (1 : Int32)) 1 6 (2 : Int32)) out))))) ∧ (¬ (x2 = 0) → ((x1 = 0 → ((x2 < (1 : Int32) → out = (none, (sI_ σ 1 6 (1 : Int32)))) ∧ (¬ (x2 < (1 : Int32)) → (((3 : Int32) < x2 → out = (none, (sI_ σ 1 6 (1 : Int32)))) ∧ (¬ ((3 : Int32) < x2) → out = (none, (sI_ (sI_ σ 1 6 (1 : Int32)) 1 6 (3 : Int32)))))))) ∧ (¬ (x1 = 0) → out = (none, (sI_ σ 1 6 (1 : Int32)))))))) ∧ (¬ ((σ.1 1 2) ≤ (σ.1 1 4)) → (vpin_ (σ.1 1 4) 1040 = true) ∧ (((σ.1 2 (Int32.toNatClampNeg (σ.1 1 4))) < (97 : Int32) → Ev_ (P_X8_nextWordOrNumber KC) 65 [some (.ref 1), some (.int x1), some (.int x2), some (.int (σ.1 2 (Int32.toNatClampNeg (σ.1 1 4))))] [] σ out) ∧ (¬ ((σ.1 2 (Int32.toNatClampNeg (σ.1 1 4))) < (97 : Int32)) → (((122 : Int32) < (σ.1 2 (Int32.toNatClampNeg (σ.1 1 4))) → Ev_ (P_X8_nextWordOrNumber KC) 65 [some (.ref 1), some (.int x1), some (.int x2), some (.int (σ.1 2 (Int32.toNatClampNeg (σ.1 1 4))))] [] σ out) ∧ (¬ ((122 : Int32) < (σ.1 2 (Int32.toNatClampNeg (σ.1 1 4)))) → Ev_ (P_X8_nextWordOrNumber KC) 9 [some (.ref 1), some (.int (x1 + 1)), some (.int x2), none] [] (sI_ (sI_ σ 1 7 (((σ.1 1 7) <<< ((5 : Int32) &&& 31)) ||| (((σ.1 2 (Int32.toNatClampNeg (σ.1 1 4))) - (97 : Int32)) + (1 : Int32)))) 1 4 (((sI_ σ 1 7 (((σ.1 1 7) <<< ((5 : Int32) &&& 31)) ||| (((σ.1 2 (Int32.toNatClampNeg (σ.1 1 4))) - (97 : Int32)) + (1 : Int32)))).1 1 4) + (1 : Int32))) out))))))) : Ev_ (P_X8_nextWordOrNumber KC) 9 [some (.ref 1), some (.int x1), some (.int x2), none] [] σ out := by
  refine ev_n 1 (fun _ => rfl) ?_
  refine ev_go rfl (w_gI rfl) ?_
  refine ev_n 1 (fun _ => rfl) ?_
  refine ev_go rfl (w_gI rfl) ?_
  refine ev_if (c := (σ.1 1 2) ≤ (σ.1 1 4)) rfl (fun _ => rfl) (fun hc => ?_) (fun hc => ?_)
  · replace h := h.1 hc
    refine ev_n 2 (fun _ => rfl) ?_
    refine ev_go rfl (w_pI rfl) ?_
    refine ev_n 1 (fun _ => rfl) ?_
    refine ev_if (c := x2 = 0) rfl (fun _ => rfl) (fun hc => ?_) (fun hc => ?_)
    · replace h := h.1 hc
      refine ev_n 2 (fun _ => rfl) ?_
      refine ev_if (c := x1 < (1 : Int32)) rfl (fun _ => rfl) (fun hc => ?_) (fun hc => ?_)
      · replace h := h.1 hc
        refine ev_n 1 (fun _ => rfl) ?_
        refine ev_if (c := x1 = 0) rfl (fun _ => rfl) (fun hc => ?_) (fun hc => ?_)
        · replace h := h.1 hc
          refine ev_n 2 (fun _ => rfl) ?_
          refine ev_if (c := x2 < (1 : Int32)) rfl (fun _ => rfl) (fun hc => ?_) (fun hc => ?_)
          · replace h := h.1 hc
            exact ev_ret rfl (fun _ => rfl) h
          · replace h := h.2 hc
            refine ev_n 2 (fun _ => rfl) ?_
            refine ev_if (c := (3 : Int32) < x2) rfl (fun _ => rfl) (fun hc => ?_) (fun hc => ?_)
            · replace h := h.1 hc
              exact ev_ret rfl (fun _ => rfl) h
            · replace h := h.2 hc
              refine ev_n 2 (fun _ => rfl) ?_
              refine ev_go rfl (w_pI rfl) ?_
              exact ev_ret rfl (fun _ => rfl) h
        · replace h := h.2 hc
          exact ev_ret rfl (fun _ => rfl) h
      · replace h := h.2 hc
        refine ev_n 2 (fun _ => rfl) ?_
        refine ev_if (c := (6 : Int32) < x1) rfl (fun _ => rfl) (fun hc => ?_) (fun hc => ?_)
        · replace h := h.1 hc
          refine ev_n 1 (fun _ => rfl) ?_
          refine ev_if (c := x1 = 0) rfl (fun _ => rfl) (fun hc => ?_) (fun hc => ?_)
          · replace h := h.1 hc
            refine ev_n 2 (fun _ => rfl) ?_
            refine ev_if (c := x2 < (1 : Int32)) rfl (fun _ => rfl) (fun hc => ?_) (fun hc => ?_)
            · replace h := h.1 hc
              exact ev_ret rfl (fun _ => rfl) h
            · replace h := h.2 hc
              refine ev_n 2 (fun _ => rfl) ?_
              refine ev_if (c := (3 : Int32) < x2) rfl (fun _ => rfl) (fun hc => ?_) (fun hc => ?_)
              · replace h := h.1 hc
                exact ev_ret rfl (fun _ => rfl) h
              · replace h := h.2 hc
                refine ev_n 2 (fun _ => rfl) ?_
                refine ev_go rfl (w_pI rfl) ?_
                exact ev_ret rfl (fun _ => rfl) h
          · replace h := h.2 hc
            exact ev_ret rfl (fun _ => rfl) h
        · replace h := h.2 hc
          refine ev_n 2 (fun _ => rfl) ?_
          refine ev_go rfl (w_pI rfl) ?_
          refine ev_n 2 (fun _ => rfl) ?_
          exact h
    · replace h := h.2 hc
      refine ev_n 1 (fun _ => rfl) ?_
      refine ev_if (c := x1 = 0) rfl (fun _ => rfl) (fun hc => ?_) (fun hc => ?_)
      · replace h := h.1 hc
        refine ev_n 2 (fun _ => rfl) ?_
        refine ev_if (c := x2 < (1 : Int32)) rfl (fun _ => rfl) (fun hc => ?_) (fun hc => ?_)
        · replace h := h.1 hc
          exact ev_ret rfl (fun _ => rfl) h
        · replace h := h.2 hc
          refine ev_n 2 (fun _ => rfl) ?_
          refine ev_if (c := (3 : Int32) < x2) rfl (fun _ => rfl) (fun hc => ?_) (fun hc => ?_)
          · replace h := h.1 hc
            exact ev_ret rfl (fun _ => rfl) h
          · replace h := h.2 hc
            refine ev_n 2 (fun _ => rfl) ?_
            refine ev_go rfl (w_pI rfl) ?_
            exact ev_ret rfl (fun _ => rfl) h
      · replace h := h.2 hc
        exact ev_ret rfl (fun _ => rfl) h
  · replace h := h.2 hc
    refine ev_n 1 (fun _ => rfl) ?_
    refine ev_go rfl (w_gF rfl rfl) ?_
    refine ev_n 1 (fun _ => rfl) ?_
    refine ev_go rfl (w_gI rfl) ?_
    obtain ⟨h0, h⟩ := h
    refine ev_go rfl (w_bald rfl h0) ?_
    refine ev_n 3 (fun _ => rfl) ?_
    refine ev_if (c := (σ.1 2 (Int32.toNatClampNeg (σ.1 1 4))) < (97 : Int32)) rfl (fun _ => rfl) (fun hc => ?_) (fun hc => ?_)
    · replace h := h.1 hc
      exact h
    · replace h := h.2 hc
      refine ev_n 2 (fun _ => rfl) ?_
      refine ev_if (c := (122 : Int32) < (σ.1 2 (Int32.toNatClampNeg (σ.1 1 4)))) rfl (fun _ => rfl) (fun hc => ?_) (fun hc => ?_)
      · replace h := h.1 hc
        exact h
      · replace h := h.2 hc
        refine ev_n 3 (fun _ => rfl) ?_
        refine ev_go rfl (w_gI rfl) ?_
        refine ev_n 8 (fun _ => rfl) ?_
        refine ev_go rfl (w_pI rfl) ?_
        refine ev_n 3 (fun _ => rfl) ?_
        refine ev_go rfl (w_gI rfl) ?_
        refine ev_n 2 (fun _ => rfl) ?_
        refine ev_go rfl (w_pI rfl) ?_
        refine ev_n 1 (fun _ => rfl) ?_
        exact h
set_option maxRecDepth 20000 in
theorem e_X8_nextWordOrNumber_136 {x3 : Int32} {σ : St_} {out : Out_}  (h : (((20 : Int32) ≤ x3 → out = (none, σ)) ∧ (¬ ((20 : Int32) ≤ x3) → (vpin_ x3 20 = true) ∧ (((σ.1 3 (Int32.toNatClampNeg x3)) = (σ.1 1 7) → Ev_ (P_X8_nextWordOrNumber KC) 136 [some (.ref 1), none, none, some (.int (x3 + 1))] [] (sI_ σ 1 6 ((4 : Int32) + x3)) out) ∧ (¬ ((σ.1 3 (Int32.toNatClampNeg x3)) = (σ.1 1 7)) → Ev_ (P_X8_nextWordOrNumber KC) 136 [some (.ref 1), none, none, some (.int (x3 + 1))] [] σ out))))) : Ev_ (P_X8_nextWordOrNumber KC) 136 [some (.ref 1), none, none, some (.int x3)] [] σ out := by
  refine ev_n 2 (fun _ => rfl) ?_
  refine ev_if (c := (20 : Int32) ≤ x3) rfl (fun _ => rfl) (fun hc => ?_) (fun hc => ?_)
  · replace h := h.1 hc
    refine ev_n 1 (fun _ => rfl) ?_
    exact ev_ret rfl (fun _ => rfl) h
  · replace h := h.2 hc
    refine ev_n 1 (fun _ => rfl) ?_
    refine ev_go rfl (w_gF rfl rfl) ?_
    refine ev_n 1 (fun _ => rfl) ?_
    obtain ⟨h0, h⟩ := h
    refine ev_go rfl (w_iald rfl h0) ?_
    refine ev_n 1 (fun _ => rfl) ?_
    refine ev_go rfl (w_gI rfl) ?_
    refine ev_if (c := (σ.1 3 (Int32.toNatClampNeg x3)) = (σ.1 1 7)) rfl (fun _ => rfl) (fun hc => ?_) (fun hc => ?_)
    · replace h := h.1 hc
      refine ev_n 4 (fun _ => rfl) ?_
      refine ev_go rfl (w_pI rfl) ?_
      refine ev_n 2 (fun _ => rfl) ?_
      exact h
    · replace h := h.2 hc
      refine ev_n 2 (fun _ => rfl) ?_
      exact h
set_option maxRecDepth 20000 in
theorem e_X8_nextWordOrNumber_65 {x1 : Int32} {x2 : Int32} {x3 : Int32} {σ : St_} {out : Out_}  (h : ((x3 < (48 : Int32) → ((x2 = 0 → ((x1 < (1 : Int32) → ((x1 = 0 → ((x2 < (1 : Int32) → out = (none, (sI_ σ 1 6 (1 : Int32)))) ∧ (¬ (x2 < (1 : Int32)) → (((3 : Int32) < x2 → out = (none, (sI_ σ 1 6 (1 : Int32)))) ∧ (¬ ((3 : Int32) < x2) → out = (none, (sI_ (sI_ σ 1 6 (1 : Int32)) 1 6 (3 : Int32)))))))) ∧ (¬ (x1 = 0) → out = (none, (sI_ σ 1 6 (1 : Int32)))))) ∧ (¬ (x1 < (1 : Int32)) → (((6 : Int32) < x1 → ((x1 = 0 → ((x2 < (1 : Int32) → out = (none, (sI_ σ 1 6 (1 : Int32)))) ∧ (¬ (x2 < (1 : Int32)) → (((3 : Int32) < x2 → out = (none, (sI_ σ 1 6 (1 : Int32)))) ∧ (¬ ((3 : Int32) < x2) → out = (none, (sI_ (sI_ σ 1 6 (1 : Int32)) 1 6 (3 : Int32)))))))) ∧ (¬ (x1 = 0) → out = (none, (sI_ σ 1 6 (1 : Int32)))))) ∧ (¬ ((6 : Int32) < x1) → Ev_ (P_X8_nextWordOrNumber KC) 136 [some (.ref 1), none, none, some (.int (0 : Int32))] [] (sI_ (sI_ σ 1 6 (1 : Int32)) 1 6 (2 : Int32)) out))))) ∧ (¬ (x2 = 0) → ((x1 = 0 → ((x2 < (1 : Int32) → out = (none, (sI_ σ 1 6 (1 : Int32)))) ∧ (¬ (x2 < (1 : Int32)) → (((3 : Int32) < x2 → out = (none, (sI_ σ 1 6 (1 : Int32)))) ∧ (¬ ((3 : Int32) < x2) → out = (none, (sI_ (sI_ σ 1 6 (1 : Int32)) 1 6 (3 : Int32)))))))) ∧ (¬ (x1 = 0) → out = (none, (sI_ σ 1 6 (1 : Int32)))))))) ∧ (¬ (x3 < (48 : Int32)) → (((57 : Int32) < x3 → ((x2 = 0 → ((x1 < (1 : Int32) → ((x1 = 0 → ((x2 < (1 : Int32) → out = (none, (sI_ σ 1 6 (1 : Int32)))) ∧ (¬ (x2 < (1 : Int32)) → (((3 : Int32) < x2 → out = (none, (sI_ σ 1 6 (1 : Int32)))) ∧ (¬ ((3 : Int32) < x2) → out = (none, (sI_ (sI_ σ 1 6 (1 : Int32)) 1 6 (3 : Int32)))))))) ∧ (¬ (x1 = 0) → out = (none, (sI_ σ 1 6 (1 : Int32)))))) ∧ (¬ (x1 < (1 : Int32)) → (((6 : Int32) < x1 → ((x1 = 0 → ((x2 < (1 : Int32) → out = (none, (sI_ σ 1 6 (1 : Int32)))) ∧ (¬ (x2 < (1 : Int32)) → (((3 : Int32) < x2 → out = (none, (sI_ σ 1 6 (1 : Int32)))) ∧ (¬ ((3 : Int32) < x2) → out = (none, (sI_ (sI_ σ 1 6 (1 : Int32)) 1 6 (3 : Int32)))))))) ∧ (¬ (x1 = 0) → out = (none, (sI_ σ 1 6 (1 : Int32)))))) ∧ (¬ ((6 : Int32) < x1) → Ev_ (P_X8_nextWordOrNumber KC) 136 [some (.ref 1), none, none, some (.int (0 : Int32))] [] (sI_ (sI_ σ 1 6 (1 : Int32)) 1 6 (2 : Int32)) out))))) ∧ (¬ (x2 = 0) → ((x1 = 0 → ((x2 < (1 : Int32) → out = (none, (sI_ σ 1 6 (1 : Int32)))) ∧ (¬ (x2 < (1 : Int32)) → (((3 : Int32) < x2 → out = (none, (sI_ σ 1 6 (1 : Int32)))) ∧ (¬ ((3 : Int32) < x2) → out = (none, (sI_ (sI_ σ 1 6 (1 : Int32)) 1 6 (3 : Int32)))))))) ∧ (¬ (x1 = 0) → out = (none, (sI_ σ 1 6 (1 : Int32)))))))) ∧ (¬ ((57 : Int32) < x3) → Ev_ (P_X8_nextWordOrNumber KC) 9 [some (.ref 1), some (.int x1), some (.int (x2 + 1)), none] [] (sI_ (sI_ σ 1 7 ((((σ.1 1 7) * (10 : Int32)) + x3) - (48 : Int32))) 1 4 (((sI_ σ 1 7 ((((σ.1 1 7) * (10 : Int32)) + x3) - (48 : Int32))).1 1 4) + (1 : Int32))) out))))) : Ev_ (P_X8_nextWordOrNumber KC) 65 [some (.ref 1), some (.int x1), some (.int x2), some (.int x3)] [] σ out := by
  refine ev_n 2 (fun _ => rfl) ?_
  refine ev_if (c := x3 < (48 : Int32)) rfl (fun _ => rfl) (fun hc => ?_) (fun hc => ?_)
  · replace h := h.1 hc
    refine ev_n 2 (fun _ => rfl) ?_
    refine ev_go rfl (w_pI rfl) ?_
    refine ev_n 1 (fun _ => rfl) ?_
    refine ev_if (c := x2 = 0) rfl (fun _ => rfl) (fun hc => ?_) (fun hc => ?_)
    · replace h := h.1 hc
      refine ev_n 2 (fun _ => rfl) ?_
      refine ev_if (c := x1 < (1 : Int32)) rfl (fun _ => rfl) (fun hc => ?_) (fun hc => ?_)
      · replace h := h.1 hc
        refine ev_n 1 (fun _ => rfl) ?_
        refine ev_if (c := x1 = 0) rfl (fun _ => rfl) (fun hc => ?_) (fun hc => ?_)
        · replace h := h.1 hc
          refine ev_n 2 (fun _ => rfl) ?_
          refine ev_if (c := x2 < (1 : Int32)) rfl (fun _ => rfl) (fun hc => ?_) (fun hc => ?_)
          · replace h := h.1 hc
            exact ev_ret rfl (fun _ => rfl) h
          · replace h := h.2 hc
            refine ev_n 2 (fun _ => rfl) ?_
            refine ev_if (c := (3 : Int32) < x2) rfl (fun _ => rfl) (fun hc => ?_) (fun hc => ?_)
            · replace h := h.1 hc
              exact ev_ret rfl (fun _ => rfl) h
            · replace h := h.2 hc
              refine ev_n 2 (fun _ => rfl) ?_
              refine ev_go rfl (w_pI rfl) ?_
              exact ev_ret rfl (fun _ => rfl) h
        · replace h := h.2 hc
          exact ev_ret rfl (fun _ => rfl) h
      · replace h := h.2 hc
        refine ev_n 2 (fun _ => rfl) ?_
        refine ev_if (c := (6 : Int32) < x1) rfl (fun _ => rfl) (fun hc => ?_) (fun hc => ?_)
        · replace h := h.1 hc
          refine ev_n 1 (fun _ => rfl) ?_
          refine ev_if (c := x1 = 0) rfl (fun _ => rfl) (fun hc => ?_) (fun hc => ?_)
          · replace h := h.1 hc
            refine ev_n 2 (fun _ => rfl) ?_
            refine ev_if (c := x2 < (1 : Int32)) rfl (fun _ => rfl) (fun hc => ?_) (fun hc => ?_)
            · replace h := h.1 hc
              exact ev_ret rfl (fun _ => rfl) h
            · replace h := h.2 hc
              refine ev_n 2 (fun _ => rfl) ?_
              refine ev_if (c := (3 : Int32) < x2) rfl (fun _ => rfl) (fun hc => ?_) (fun hc => ?_)
              · replace h := h.1 hc
                exact ev_ret rfl (fun _ => rfl) h
              · replace h := h.2 hc
                refine ev_n 2 (fun _ => rfl) ?_
                refine ev_go rfl (w_pI rfl) ?_
                exact ev_ret rfl (fun _ => rfl) h
          · replace h := h.2 hc
            exact ev_ret rfl (fun _ => rfl) h
        · replace h := h.2 hc
          refine ev_n 2 (fun _ => rfl) ?_
          refine ev_go rfl (w_pI rfl) ?_
          refine ev_n 2 (fun _ => rfl) ?_
          exact h
    · replace h := h.2 hc
      refine ev_n 1 (fun _ => rfl) ?_
      refine ev_if (c := x1 = 0) rfl (fun _ => rfl) (fun hc => ?_) (fun hc => ?_)
      · replace h := h.1 hc
        refine ev_n 2 (fun _ => rfl) ?_
        refine ev_if (c := x2 < (1 : Int32)) rfl (fun _ => rfl) (fun hc => ?_) (fun hc => ?_)
        · replace h := h.1 hc
          exact ev_ret rfl (fun _ => rfl) h
        · replace h := h.2 hc
          refine ev_n 2 (fun _ => rfl) ?_
          refine ev_if (c := (3 : Int32) < x2) rfl (fun _ => rfl) (fun hc => ?_) (fun hc => ?_)
          · replace h := h.1 hc
            exact ev_ret rfl (fun _ => rfl) h
          · replace h := h.2 hc
            refine ev_n 2 (fun _ => rfl) ?_
            refine ev_go rfl (w_pI rfl) ?_
            exact ev_ret rfl (fun _ => rfl) h
      · replace h := h.2 hc
        exact ev_ret rfl (fun _ => rfl) h
  · replace h := h.2 hc
    refine ev_n 2 (fun _ => rfl) ?_
    refine ev_if (c := (57 : Int32) < x3) rfl (fun _ => rfl) (fun hc => ?_) (fun hc => ?_)
    · replace h := h.1 hc
      refine ev_n 2 (fun _ => rfl) ?_
      refine ev_go rfl (w_pI rfl) ?_
      refine ev_n 1 (fun _ => rfl) ?_
      refine ev_if (c := x2 = 0) rfl (fun _ => rfl) (fun hc => ?_) (fun hc => ?_)
      · replace h := h.1 hc
        refine ev_n 2 (fun _ => rfl) ?_
        refine ev_if (c := x1 < (1 : Int32)) rfl (fun _ => rfl) (fun hc => ?_) (fun hc => ?_)
        · replace h := h.1 hc
          refine ev_n 1 (fun _ => rfl) ?_
          refine ev_if (c := x1 = 0) rfl (fun _ => rfl) (fun hc => ?_) (fun hc => ?_)
          · replace h := h.1 hc
            refine ev_n 2 (fun _ => rfl) ?_
            refine ev_if (c := x2 < (1 : Int32)) rfl (fun _ => rfl) (fun hc => ?_) (fun hc => ?_)
            · replace h := h.1 hc
              exact ev_ret rfl (fun _ => rfl) h
            · replace h := h.2 hc
              refine ev_n 2 (fun _ => rfl) ?_
              refine ev_if (c := (3 : Int32) < x2) rfl (fun _ => rfl) (fun hc => ?_) (fun hc => ?_)
              · replace h := h.1 hc
                exact ev_ret rfl (fun _ => rfl) h
              · replace h := h.2 hc
                refine ev_n 2 (fun _ => rfl) ?_
                refine ev_go rfl (w_pI rfl) ?_
                exact ev_ret rfl (fun _ => rfl) h
          · replace h := h.2 hc
            exact ev_ret rfl (fun _ => rfl) h
        · replace h := h.2 hc
          refine ev_n 2 (fun _ => rfl) ?_
          refine ev_if (c := (6 : Int32) < x1) rfl (fun _ => rfl) (fun hc => ?_) (fun hc => ?_)
          · replace h := h.1 hc
            refine ev_n 1 (fun _ => rfl) ?_
            refine ev_if (c := x1 = 0) rfl (fun _ => rfl) (fun hc => ?_) (fun hc => ?_)
            · replace h := h.1 hc
              refine ev_n 2 (fun _ => rfl) ?_
              refine ev_if (c := x2 < (1 : Int32)) rfl (fun _ => rfl) (fun hc => ?_) (fun hc => ?_)
              · replace h := h.1 hc
                exact ev_ret rfl (fun _ => rfl) h
              · replace h := h.2 hc
                refine ev_n 2 (fun _ => rfl) ?_
                refine ev_if (c := (3 : Int32) < x2) rfl (fun _ => rfl) (fun hc => ?_) (fun hc => ?_)
                · replace h := h.1 hc
                  exact ev_ret rfl (fun _ => rfl) h
                · replace h := h.2 hc
                  refine ev_n 2 (fun _ => rfl) ?_
                  refine ev_go rfl (w_pI rfl) ?_
                  exact ev_ret rfl (fun _ => rfl) h
            · replace h := h.2 hc
              exact ev_ret rfl (fun _ => rfl) h
          · replace h := h.2 hc
            refine ev_n 2 (fun _ => rfl) ?_
            refine ev_go rfl (w_pI rfl) ?_
            refine ev_n 2 (fun _ => rfl) ?_
            exact h
      · replace h := h.2 hc
        refine ev_n 1 (fun _ => rfl) ?_
        refine ev_if (c := x1 = 0) rfl (fun _ => rfl) (fun hc => ?_) (fun hc => ?_)
        · replace h := h.1 hc
          refine ev_n 2 (fun _ => rfl) ?_
          refine ev_if (c := x2 < (1 : Int32)) rfl (fun _ => rfl) (fun hc => ?_) (fun hc => ?_)
          · replace h := h.1 hc
            exact ev_ret rfl (fun _ => rfl) h
          · replace h := h.2 hc
            refine ev_n 2 (fun _ => rfl) ?_
            refine ev_if (c := (3 : Int32) < x2) rfl (fun _ => rfl) (fun hc => ?_) (fun hc => ?_)
            · replace h := h.1 hc
              exact ev_ret rfl (fun _ => rfl) h
            · replace h := h.2 hc
              refine ev_n 2 (fun _ => rfl) ?_
              refine ev_go rfl (w_pI rfl) ?_
              exact ev_ret rfl (fun _ => rfl) h
        · replace h := h.2 hc
          exact ev_ret rfl (fun _ => rfl) h
    · replace h := h.2 hc
      refine ev_n 3 (fun _ => rfl) ?_
      refine ev_go rfl (w_gI rfl) ?_
      refine ev_n 6 (fun _ => rfl) ?_
      refine ev_go rfl (w_pI rfl) ?_
      refine ev_n 2 (fun _ => rfl) ?_
      refine ev_go rfl (w_gI rfl) ?_
      refine ev_n 2 (fun _ => rfl) ?_
      refine ev_go rfl (w_pI rfl) ?_
      refine ev_n 1 (fun _ => rfl) ?_
      exact h
theorem m_X8_nextWordOrNumber : ∀ pc o, (P_X8_nextWordOrNumber KC).lookup pc = some o → Mon_ o := all_mon (a_X8_nextWordOrNumber (l := launch0) (E := EC0) EC0_ok)
theorem z_X8_nextWordOrNumber  {σ : St_} {out : Out_} (h : Ev_ (P_X8_nextWordOrNumber KC) 0 [some (.ref 1), none, none, none] [] σ out) : f_X8_nextWordOrNumber KC [.ref 1] σ = some out := fn_eq m_X8_nextWordOrNumber rfl h
set_option maxRecDepth 20000 in
theorem e_X8_next_0  {σ : St_} {out : Out_}  (h : (((σ.1 1 2) ≤ (σ.1 1 4) → Ev_ (P_X8_next KC) 52 [some (.ref 1)] [] σ out) ∧ (¬ ((σ.1 1 2) ≤ (σ.1 1 4)) → (vpin_ (σ.1 1 4) 1040 = true) ∧ (((σ.1 2 (Int32.toNatClampNeg (σ.1 1 4))) = (32 : Int32) → Ev_ (P_X8_next KC) 0 [some (.ref 1)] [] (sI_ σ 1 4 ((σ.1 1 4) + (1 : Int32))) out) ∧ (¬ ((σ.1 2 (Int32.toNatClampNeg (σ.1 1 4))) = (32 : Int32)) → (vpin_ (σ.1 1 4) 1040 = true) ∧ (((σ.1 2 (Int32.toNatClampNeg (σ.1 1 4))) = (10 : Int32) → Ev_ (P_X8_next KC) 0 [some (.ref 1)] [] (sI_ σ 1 4 ((σ.1 1 4) + (1 : Int32))) out) ∧ (¬ ((σ.1 2 (Int32.toNatClampNeg (σ.1 1 4))) = (10 : Int32)) → Ev_ (P_X8_next KC) 52 [some (.ref 1)] [] σ out))))))) : Ev_ (P_X8_next KC) 0 [some (.ref 1)] [] σ out := by
  refine ev_n 1 (fun _ => rfl) ?_
  refine ev_go rfl (w_gI rfl) ?_
  refine ev_n 1 (fun _ => rfl) ?_
  refine ev_go rfl (w_gI rfl) ?_
  refine ev_if (c := (σ.1 1 2) ≤ (σ.1 1 4)) rfl (fun _ => rfl) (fun hc => ?_) (fun hc => ?_)
  · replace h := h.1 hc
    exact h
  · replace h := h.2 hc
    refine ev_n 1 (fun _ => rfl) ?_
    refine ev_go rfl (w_gF rfl rfl) ?_
    refine ev_n 1 (fun _ => rfl) ?_
    refine ev_go rfl (w_gI rfl) ?_
    obtain ⟨h0, h⟩ := h
    refine ev_go rfl (w_bald rfl h0) ?_
    refine ev_n 1 (fun _ => rfl) ?_
    refine ev_if (c := (σ.1 2 (Int32.toNatClampNeg (σ.1 1 4))) = (32 : Int32)) rfl (fun _ => rfl) (fun hc => ?_) (fun hc => ?_)
    · replace h := h.1 hc
      refine ev_n 2 (fun _ => rfl) ?_
      refine ev_go rfl (w_gI rfl) ?_
      refine ev_n 2 (fun _ => rfl) ?_
      refine ev_go rfl (w_pI rfl) ?_
      refine ev_n 1 (fun _ => rfl) ?_
      exact h
    · replace h := h.2 hc
      refine ev_n 1 (fun _ => rfl) ?_
      refine ev_go rfl (w_gF rfl rfl) ?_
      refine ev_n 1 (fun _ => rfl) ?_
      refine ev_go rfl (w_gI rfl) ?_
      obtain ⟨h0, h⟩ := h
      refine ev_go rfl (w_bald rfl h0) ?_
      refine ev_n 1 (fun _ => rfl) ?_
      refine ev_if (c := (σ.1 2 (Int32.toNatClampNeg (σ.1 1 4))) = (10 : Int32)) rfl (fun _ => rfl) (fun hc => ?_) (fun hc => ?_)
      · replace h := h.1 hc
        refine ev_n 2 (fun _ => rfl) ?_
        refine ev_go rfl (w_gI rfl) ?_
        refine ev_n 2 (fun _ => rfl) ?_
        refine ev_go rfl (w_pI rfl) ?_
        refine ev_n 1 (fun _ => rfl) ?_
        exact h
      · replace h := h.2 hc
        exact h
set_option maxRecDepth 20000 in
theorem e_X8_next_52  {σ : St_} {out : Out_}  (h : ((((sI_ σ 1 5 (σ.1 1 4)).1 1 2) ≤ ((sI_ σ 1 5 (σ.1 1 4)).1 1 3) → Ev_ (P_X8_next KC) 98 [some (.ref 1)] [] (sI_ σ 1 5 (σ.1 1 4)) out) ∧ (¬ (((sI_ σ 1 5 (σ.1 1 4)).1 1 2) ≤ ((sI_ σ 1 5 (σ.1 1 4)).1 1 3)) → ((((sI_ σ 1 5 (σ.1 1 4)).1 1 4) < ((sI_ σ 1 5 (σ.1 1 4)).1 1 3) → Ev_ (P_X8_next KC) 98 [some (.ref 1)] [] (sI_ σ 1 5 (σ.1 1 4)) out) ∧ (¬ (((sI_ σ 1 5 (σ.1 1 4)).1 1 4) < ((sI_ σ 1 5 (σ.1 1 4)).1 1 3)) → out = (none, (sI_ (sI_ (sI_ σ 1 5 (σ.1 1 4)) 1 5 ((sI_ σ 1 5 (σ.1 1 4)).1 1 3)) 1 6 (1 : Int32)))))))) : Ev_ (P_X8_next KC) 52 [some (.ref 1)] [] σ out := by
  refine ev_n 2 (fun _ => rfl) ?_
  refine ev_go rfl (w_gI rfl) ?_
  refine ev_go rfl (w_pI rfl) ?_
  refine ev_n 1 (fun _ => rfl) ?_
  refine ev_go rfl (w_gI rfl) ?_
  refine ev_n 1 (fun _ => rfl) ?_
  refine ev_go rfl (w_gI rfl) ?_
  refine ev_if (c := ((sI_ σ 1 5 (σ.1 1 4)).1 1 2) ≤ ((sI_ σ 1 5 (σ.1 1 4)).1 1 3)) rfl (fun _ => rfl) (fun hc => ?_) (fun hc => ?_)
  · replace h := h.1 hc
    exact h
  · replace h := h.2 hc
    refine ev_n 1 (fun _ => rfl) ?_
    refine ev_go rfl (w_gI rfl) ?_
    refine ev_n 1 (fun _ => rfl) ?_
    refine ev_go rfl (w_gI rfl) ?_
    refine ev_if (c := ((sI_ σ 1 5 (σ.1 1 4)).1 1 4) < ((sI_ σ 1 5 (σ.1 1 4)).1 1 3)) rfl (fun _ => rfl) (fun hc => ?_) (fun hc => ?_)
    · replace h := h.1 hc
      exact h
    · replace h := h.2 hc
      refine ev_n 2 (fun _ => rfl) ?_
      refine ev_go rfl (w_gI rfl) ?_
      refine ev_go rfl (w_pI rfl) ?_
      refine ev_n 2 (fun _ => rfl) ?_
      refine ev_go rfl (w_pI rfl) ?_
      refine ev_n 1 (fun _ => rfl) ?_
      exact ev_ret rfl (fun _ => rfl) h
set_option maxRecDepth 20000 in
theorem e_X8_next_98  {σ : St_} {out : Out_}  (h : (((σ.1 1 4) < (σ.1 1 2) → (vpin_ (σ.1 1 4) 1040 = true) ∧ (∃ (v2 : Int32) (σ1 : St_), f_X8_isSign KC [.int (σ.1 2 (Int32.toNatClampNeg (σ.1 1 4)))] σ = some (some (.int v2), σ1) ∧ ((v2 = 0 → (∃ (σ3 : St_), f_X8_nextWordOrNumber KC [.ref 1] σ1 = some (none, σ3) ∧ out = (none, σ3))) ∧ (¬ (v2 = 0) → (vpin_ (σ1.1 1 4) 1040 = true) ∧ out = (none, (sI_ (sI_ σ1 1 6 (σ1.1 2 (Int32.toNatClampNeg (σ1.1 1 4)))) 1 4 (((sI_ σ1 1 6 (σ1.1 2 (Int32.toNatClampNeg (σ1.1 1 4)))).1 1 4) + (1 : Int32)))))))) ∧ (¬ ((σ.1 1 4) < (σ.1 1 2)) → out = (none, (sI_ σ 1 6 (0 : Int32)))))) : Ev_ (P_X8_next KC) 98 [some (.ref 1)] [] σ out := by
  refine ev_n 1 (fun _ => rfl) ?_
  refine ev_go rfl (w_gI rfl) ?_
  refine ev_n 1 (fun _ => rfl) ?_
  refine ev_go rfl (w_gI rfl) ?_
  refine ev_if (c := (σ.1 1 4) < (σ.1 1 2)) rfl (fun _ => rfl) (fun hc => ?_) (fun hc => ?_)
  · replace h := h.1 hc
    refine ev_n 1 (fun _ => rfl) ?_
    refine ev_go rfl (w_gF rfl rfl) ?_
    refine ev_n 1 (fun _ => rfl) ?_
    refine ev_go rfl (w_gI rfl) ?_
    obtain ⟨h0, h⟩ := h
    refine ev_go rfl (w_bald rfl h0) ?_
    obtain ⟨v2, σ1, hf, h⟩ := h
    refine ev_go rfl (w_callS ⟨Nat.le_of_ble_eq_true rfl, Nat.le_of_ble_eq_true rfl⟩ hf) ?_
    refine ev_if (c := v2 = 0) rfl (fun _ => rfl) (fun hc => ?_) (fun hc => ?_)
    · replace h := h.1 hc
      refine ev_n 1 (fun _ => rfl) ?_
      obtain ⟨σ3, hf, h⟩ := h
      refine ev_go rfl (w_callV rfl rfl rfl (Nat.le_of_ble_eq_true rfl) hf) ?_
      exact ev_ret rfl (fun _ => rfl) h
    · replace h := h.2 hc
      refine ev_n 2 (fun _ => rfl) ?_
      refine ev_go rfl (w_gF rfl rfl) ?_
      refine ev_n 1 (fun _ => rfl) ?_
      refine ev_go rfl (w_gI rfl) ?_
      obtain ⟨h0, h⟩ := h
      refine ev_go rfl (w_bald rfl h0) ?_
      refine ev_go rfl (w_pI rfl) ?_
      refine ev_n 2 (fun _ => rfl) ?_
      refine ev_go rfl (w_gI rfl) ?_
      refine ev_n 2 (fun _ => rfl) ?_
      refine ev_go rfl (w_pI rfl) ?_
      refine ev_n 1 (fun _ => rfl) ?_
      exact ev_ret rfl (fun _ => rfl) h
  · replace h := h.2 hc
    refine ev_n 2 (fun _ => rfl) ?_
    refine ev_go rfl (w_pI rfl) ?_
    refine ev_n 1 (fun _ => rfl) ?_
    exact ev_ret rfl (fun _ => rfl) h
theorem m_X8_next : ∀ pc o, (P_X8_next KC).lookup pc = some o → Mon_ o := all_mon (a_X8_next (l := launch0) (E := EC0) EC0_ok)
theorem z_X8_next  {σ : St_} {out : Out_} (h : Ev_ (P_X8_next KC) 0 [some (.ref 1)] [] σ out) : f_X8_next KC [.ref 1] σ = some out := fn_eq m_X8_next rfl h
set_option maxRecDepth 20000 in
theorem e_X8_takeNumber_0 {x1 : Int32} {x2 : Int32} {σ : St_} {out : Out_}  (h : (((σ.1 1 6) = (3 : Int32) → (((σ.1 1 7) < x1 → (∃ (v2 : Int32) (σ1 : St_), f_X8_fail KC [.ref 1, .int (2 : Int32)] σ = some (some (.int v2), σ1) ∧ (v2 = 0 ∨ v2 = 1) ∧ out = (some (.int v2), σ1))) ∧ (¬ ((σ.1 1 7) < x1) → (((σ.1 1 7) ≤ x2 → (∃ (σ3 : St_), f_X8_next KC [.ref 1] (sI_ σ 1 8 (σ.1 1 7)) = some (none, σ3) ∧ out = (some (.int (1 : Int32)), σ3))) ∧ (¬ ((σ.1 1 7) ≤ x2) → (∃ (v5 : Int32) (σ4 : St_), f_X8_fail KC [.ref 1, .int (2 : Int32)] σ = some (some (.int v5), σ4) ∧ (v5 = 0 ∨ v5 = 1) ∧ out = (some (.int v5), σ4))))))) ∧ (¬ ((σ.1 1 6) = (3 : Int32)) → (∃ (v7 : Int32) (σ6 : St_), f_X8_fail KC [.ref 1, .int (1 : Int32)] σ = some (some (.int v7), σ6) ∧ (v7 = 0 ∨ v7 = 1) ∧ out = (some (.int v7), σ6))))) : Ev_ (P_X8_takeNumber KC) 0 [some (.ref 1), some (.int x1), some (.int x2)] [] σ out := by
  refine ev_n 1 (fun _ => rfl) ?_
  refine ev_go rfl (w_gI rfl) ?_
  refine ev_n 1 (fun _ => rfl) ?_
  refine ev_if (c := (σ.1 1 6) = (3 : Int32)) rfl (fun _ => rfl) (fun hc => ?_) (fun hc => ?_)
  · replace h := h.1 hc
    refine ev_n 1 (fun _ => rfl) ?_
    refine ev_go rfl (w_gI rfl) ?_
    refine ev_n 1 (fun _ => rfl) ?_
    refine ev_if (c := (σ.1 1 7) < x1) rfl (fun _ => rfl) (fun hc => ?_) (fun hc => ?_)
    · replace h := h.1 hc
      refine ev_n 2 (fun _ => rfl) ?_
      obtain ⟨v2, σ1, hf, h⟩ := h
      refine ev_go rfl (w_callV rfl rfl rfl (Nat.le_of_ble_eq_true rfl) hf) ?_
      exact v_zret h.1 rfl h.2
    · replace h := h.2 hc
      refine ev_n 1 (fun _ => rfl) ?_
      refine ev_go rfl (w_gI rfl) ?_
      refine ev_n 1 (fun _ => rfl) ?_
      refine ev_if (c := (σ.1 1 7) ≤ x2) rfl (fun _ => rfl) (fun hc => ?_) (fun hc => ?_)
      · replace h := h.1 hc
        refine ev_n 2 (fun _ => rfl) ?_
        refine ev_go rfl (w_gI rfl) ?_
        refine ev_go rfl (w_pI rfl) ?_
        refine ev_n 1 (fun _ => rfl) ?_
        obtain ⟨σ3, hf, h⟩ := h
        refine ev_go rfl (w_callV rfl rfl rfl (Nat.le_of_ble_eq_true rfl) hf) ?_
        refine ev_n 1 (fun _ => rfl) ?_
        exact v_zret (by decide) rfl h
      · replace h := h.2 hc
        refine ev_n 2 (fun _ => rfl) ?_
        obtain ⟨v5, σ4, hf, h⟩ := h
        refine ev_go rfl (w_callV rfl rfl rfl (Nat.le_of_ble_eq_true rfl) hf) ?_
        exact v_zret h.1 rfl h.2
  · replace h := h.2 hc
    refine ev_n 2 (fun _ => rfl) ?_
    obtain ⟨v7, σ6, hf, h⟩ := h
    refine ev_go rfl (w_callV rfl rfl rfl (Nat.le_of_ble_eq_true rfl) hf) ?_
    exact v_zret h.1 rfl h.2
theorem m_X8_takeNumber : ∀ pc o, (P_X8_takeNumber KC).lookup pc = some o → Mon_ o := all_mon (a_X8_takeNumber (l := launch0) (E := EC0) EC0_ok)
theorem z_X8_takeNumber {x1 : Int32} {x2 : Int32} {σ : St_} {out : Out_} (h : Ev_ (P_X8_takeNumber KC) 0 [some (.ref 1), some (.int x1), some (.int x2)] [] σ out) : f_X8_takeNumber KC [.ref 1, .int x1, .int x2] σ = some out := fn_eq m_X8_takeNumber rfl h
set_option maxRecDepth 20000 in
theorem e_X0_readAgain_0 {b : Nat} {σ : St_} {out : Out_} (hb : isB b) (h : (((σ.1 b 17) = 0 → (∃ (σ1 : St_), f_X8_next KC [.ref 1] σ = some (none, σ1) ∧ (∃ (v3 : Int32) (σ2 : St_), f_X8_takeNumber KC [.ref 1, .int (0 : Int32), .int (10 : Int32)] σ1 = some (some (.int v3), σ2) ∧ ((v3 = 0 → out = (some (.int (0 : Int32)), σ2)) ∧ (¬ (v3 = 0) → out = (some (.int (1 : Int32)), (sI_ (sI_ σ2 b 15 (σ2.1 1 8)) b 17 (1 : Int32)))))))) ∧ (¬ ((σ.1 b 17) = 0) → (∃ (v5 : Int32) (σ4 : St_), f_X8_fail KC [.ref 1, .int (3 : Int32)] σ = some (some (.int v5), σ4) ∧ (v5 = 0 ∨ v5 = 1) ∧ out = (some (.int v5), σ4))))) : Ev_ (P_X0_readAgain KC) 0 [some (.ref b), some (.ref 1)] [] σ out := by
  refine ev_n 1 (fun _ => rfl) ?_
  refine ev_go rfl (w_gI (kb_0 hb)) ?_
  refine ev_if (c := (σ.1 b 17) = 0) rfl (fun _ => rfl) (fun hc => ?_) (fun hc => ?_)
  · replace h := h.1 hc
    refine ev_n 1 (fun _ => rfl) ?_
    obtain ⟨σ1, hf, h⟩ := h
    refine ev_go rfl (w_callV rfl rfl rfl (Nat.le_of_ble_eq_true rfl) hf) ?_
    refine ev_n 3 (fun _ => rfl) ?_
    obtain ⟨v3, σ2, hf, h⟩ := h
    refine ev_go rfl (w_callV rfl rfl rfl (Nat.le_of_ble_eq_true rfl) hf) ?_
    refine ev_if (c := v3 = 0) rfl (fun _ => rfl) (fun hc => ?_) (fun hc => ?_)
    · replace h := h.1 hc
      refine ev_n 1 (fun _ => rfl) ?_
      exact v_zret (by decide) rfl h
    · replace h := h.2 hc
      refine ev_n 2 (fun _ => rfl) ?_
      refine ev_go rfl (w_gI rfl) ?_
      refine ev_go rfl (w_pI (kb_0 hb)) ?_
      refine ev_n 2 (fun _ => rfl) ?_
      refine ev_go rfl (w_pZ (kb_0 hb) (by decide)) ?_
      refine ev_n 1 (fun _ => rfl) ?_
      exact v_zret (by decide) rfl h
  · replace h := h.2 hc
    refine ev_n 2 (fun _ => rfl) ?_
    obtain ⟨v5, σ4, hf, h⟩ := h
    refine ev_go rfl (w_callV rfl rfl rfl (Nat.le_of_ble_eq_true rfl) hf) ?_
    exact v_zret h.1 rfl h.2
theorem m_X0_readAgain : ∀ pc o, (P_X0_readAgain KC).lookup pc = some o → Mon_ o := all_mon (a_X0_readAgain (l := launch0) (E := EC0) EC0_ok)
theorem z_X0_readAgain {b : Nat} {σ : St_} {out : Out_} (h : Ev_ (P_X0_readAgain KC) 0 [some (.ref b), some (.ref 1)] [] σ out) : f_X0_readAgain KC [.ref b, .ref 1] σ = some out := fn_eq m_X0_readAgain rfl h
set_option maxRecDepth 20000 in
theorem e_X8_takeChap_0 {b : Nat} {σ : St_} {out : Out_} (hb : isB b) (h : (((σ.1 1 6) = (2 : Int32) → (∃ (v2 : Int32) (σ1 : St_), f_X0_chapNamed KC [.ref b, .int (σ.1 1 7)] σ = some (some (.int v2), σ1) ∧ ((v2 = ((-1) : Int32) → (∃ (v4 : Int32) (σ3 : St_), f_X8_fail KC [.ref 1, .int (3 : Int32)] σ1 = some (some (.int v4), σ3) ∧ (v4 = 0 ∨ v4 = 1) ∧ out = (some (.int v4), σ3))) ∧ (¬ (v2 = ((-1) : Int32)) → (∃ (σ5 : St_), f_X8_next KC [.ref 1] σ1 = some (none, σ5) ∧ out = (some (.int (1 : Int32)), (sI_ σ5 1 8 v2))))))) ∧ (¬ ((σ.1 1 6) = (2 : Int32)) → (∃ (v7 : Int32) (σ6 : St_), f_X8_fail KC [.ref 1, .int (1 : Int32)] σ = some (some (.int v7), σ6) ∧ (v7 = 0 ∨ v7 = 1) ∧ out = (some (.int v7), σ6))))) : Ev_ (P_X8_takeChap KC) 0 [some (.ref 1), some (.ref b), none] [] σ out := by
  refine ev_n 1 (fun _ => rfl) ?_
  refine ev_go rfl (w_gI rfl) ?_
  refine ev_n 1 (fun _ => rfl) ?_
  refine ev_if (c := (σ.1 1 6) = (2 : Int32)) rfl (fun _ => rfl) (fun hc => ?_) (fun hc => ?_)
  · replace h := h.1 hc
    refine ev_n 2 (fun _ => rfl) ?_
    refine ev_go rfl (w_gI rfl) ?_
    obtain ⟨v2, σ1, hf, h⟩ := h
    refine ev_go rfl (w_callV rfl rfl (kb_0 hb) (Nat.le_of_ble_eq_true rfl) hf) ?_
    refine ev_n 3 (fun _ => rfl) ?_
    refine ev_if (c := v2 = ((-1) : Int32)) rfl (fun _ => rfl) (fun hc => ?_) (fun hc => ?_)
    · replace h := h.1 hc
      refine ev_n 2 (fun _ => rfl) ?_
      obtain ⟨v4, σ3, hf, h⟩ := h
      refine ev_go rfl (w_callV rfl rfl rfl (Nat.le_of_ble_eq_true rfl) hf) ?_
      exact v_zret h.1 rfl h.2
    · replace h := h.2 hc
      refine ev_n 1 (fun _ => rfl) ?_
      obtain ⟨σ5, hf, h⟩ := h
      refine ev_go rfl (w_callV rfl rfl rfl (Nat.le_of_ble_eq_true rfl) hf) ?_
      refine ev_n 2 (fun _ => rfl) ?_
      refine ev_go rfl (w_pI rfl) ?_
      refine ev_n 1 (fun _ => rfl) ?_
      exact v_zret (by decide) rfl h
  · replace h := h.2 hc
    refine ev_n 2 (fun _ => rfl) ?_
    obtain ⟨v7, σ6, hf, h⟩ := h
    refine ev_go rfl (w_callV rfl rfl rfl (Nat.le_of_ble_eq_true rfl) hf) ?_
    exact v_zret h.1 rfl h.2
theorem m_X8_takeChap : ∀ pc o, (P_X8_takeChap KC).lookup pc = some o → Mon_ o := all_mon (a_X8_takeChap (l := launch0) (E := EC0) EC0_ok)
theorem z_X8_takeChap {b : Nat} {σ : St_} {out : Out_} (h : Ev_ (P_X8_takeChap KC) 0 [some (.ref 1), some (.ref b), none] [] σ out) : f_X8_takeChap KC [.ref 1, .ref b] σ = some out := fn_eq m_X8_takeChap rfl h
set_option maxRecDepth 20000 in
theorem e_X0_readLeanings_0 {b : Nat} {x2 : Int32} {σ : St_} {out : Out_} (hb : isB b) (h : Ev_ (P_X0_readLeanings KC) 2 [some (.ref b), some (.ref 1), some (.int x2), some (.int (0 : Int32)), none, none] [] σ out) : Ev_ (P_X0_readLeanings KC) 0 [some (.ref b), some (.ref 1), some (.int x2), none, none, none] [] σ out := by
  refine ev_n 2 (fun _ => rfl) ?_
  exact h
set_option maxRecDepth 20000 in
theorem e_X0_readLeanings_2 {b : Nat} {x2 : Int32} {x3 : Int32} {σ : St_} {out : Out_} (hb : isB b) (h : (((16 : Int32) ≤ x3 → Ev_ (P_X0_readLeanings KC) 29 [some (.ref b), some (.ref 1), some (.int x2), some (.int (10 : Int32)), some (.int (0 : Int32)), none] [] σ out) ∧ (¬ ((16 : Int32) ≤ x3) → (vpin_ x2 16 = true) ∧ (vpin_ x3 16 = true) ∧ Ev_ (P_X0_readLeanings KC) 2 [some (.ref b), some (.ref 1), some (.int x2), some (.int (x3 + 1)), none, none] [] (sI_ σ (b + 6 + Int32.toNatClampNeg x2) (Int32.toNatClampNeg x3) (0 : Int32)) out))) : Ev_ (P_X0_readLeanings KC) 2 [some (.ref b), some (.ref 1), some (.int x2), some (.int x3), none, none] [] σ out := by
  refine ev_n 2 (fun _ => rfl) ?_
  refine ev_if (c := (16 : Int32) ≤ x3) rfl (fun _ => rfl) (fun hc => ?_) (fun hc => ?_)
  · replace h := h.1 hc
    refine ev_n 4 (fun _ => rfl) ?_
    exact h
  · replace h := h.2 hc
    refine ev_n 1 (fun _ => rfl) ?_
    refine ev_go rfl (w_gF (kb_0 hb) (kb_r4 hb)) ?_
    refine ev_n 1 (fun _ => rfl) ?_
    obtain ⟨hv1, h⟩ := h
    refine ev_go rfl (w_aald (kb_k4 hb) (by decide) hv1 (kb_row hb _ (vpin_lt hv1))) ?_
    refine ev_n 2 (fun _ => rfl) ?_
    obtain ⟨h0, h⟩ := h
    refine ev_go rfl (w_iast (kb_rk hb _ (vpin_lt hv1)) h0) ?_
    refine ev_n 2 (fun _ => rfl) ?_
    exact h
set_option maxRecDepth 20000 in
theorem e_X0_readLeanings_29 {b : Nat} {x2 : Int32} {x3 : Int32} {x4 : Int32} {σ : St_} {out : Out_} (hb : isB b) (h : (((16 : Int32) ≤ x4 → out = (some (.int (1 : Int32)), σ)) ∧ (¬ ((16 : Int32) ≤ x4) → (((σ.1 1 6) = (5 : Int32) → (∃ (σ1 : St_), f_X8_next KC [.ref 1] σ = some (none, σ1) ∧ (((σ1.1 1 6) = (2 : Int32) → (∃ (v3 : Int32) (σ2 : St_), f_X0_chapNamed KC [.ref b, .int (σ1.1 1 7)] σ1 = some (some (.int v3), σ2) ∧ Ev_ (P_X0_readLeanings KC) 68 [some (.ref b), some (.ref 1), some (.int x2), some (.int x3), some (.int x4), none] [.int v3] σ2 out)) ∧ (¬ ((σ1.1 1 6) = (2 : Int32)) → Ev_ (P_X0_readLeanings KC) 68 [some (.ref b), some (.ref 1), some (.int x2), some (.int x3), some (.int x4), none] [.int ((-1) : Int32)] σ1 out)))) ∧ (¬ ((σ.1 1 6) = (5 : Int32)) → out = (some (.int (1 : Int32)), σ)))))) : Ev_ (P_X0_readLeanings KC) 29 [some (.ref b), some (.ref 1), some (.int x2), some (.int x3), some (.int x4), none] [] σ out := by
  refine ev_n 2 (fun _ => rfl) ?_
  refine ev_if (c := (16 : Int32) ≤ x4) rfl (fun _ => rfl) (fun hc => ?_) (fun hc => ?_)
  · replace h := h.1 hc
    refine ev_n 1 (fun _ => rfl) ?_
    exact v_zret (by decide) rfl h
  · replace h := h.2 hc
    refine ev_n 1 (fun _ => rfl) ?_
    refine ev_go rfl (w_gI rfl) ?_
    refine ev_n 1 (fun _ => rfl) ?_
    refine ev_if (c := (σ.1 1 6) = (5 : Int32)) rfl (fun _ => rfl) (fun hc => ?_) (fun hc => ?_)
    · replace h := h.1 hc
      refine ev_n 1 (fun _ => rfl) ?_
      obtain ⟨σ1, hf, h⟩ := h
      refine ev_go rfl (w_callV rfl rfl rfl (Nat.le_of_ble_eq_true rfl) hf) ?_
      refine ev_n 1 (fun _ => rfl) ?_
      refine ev_go rfl (w_gI rfl) ?_
      refine ev_n 1 (fun _ => rfl) ?_
      refine ev_if (c := (σ1.1 1 6) = (2 : Int32)) rfl (fun _ => rfl) (fun hc => ?_) (fun hc => ?_)
      · replace h := h.1 hc
        refine ev_n 2 (fun _ => rfl) ?_
        refine ev_go rfl (w_gI rfl) ?_
        obtain ⟨v3, σ2, hf, h⟩ := h
        refine ev_go rfl (w_callV rfl rfl (kb_0 hb) (Nat.le_of_ble_eq_true rfl) hf) ?_
        refine ev_n 1 (fun _ => rfl) ?_
        exact h
      · replace h := h.2 hc
        refine ev_n 1 (fun _ => rfl) ?_
        exact h
    · replace h := h.2 hc
      refine ev_n 1 (fun _ => rfl) ?_
      exact v_zret (by decide) rfl h
set_option maxRecDepth 20000 in
theorem e_X0_readLeanings_68 {b : Nat} {x2 : Int32} {x3 : Int32} {x4 : Int32} {y0 : Int32} {σ : St_} {out : Out_} (hb : isB b) (h : ((y0 = ((-1) : Int32) → Ev_ (P_X0_readLeanings KC) 94 [some (.ref b), some (.ref 1), some (.int x2), some (.int x3), some (.int x4), some (.int y0)] [] σ out) ∧ (¬ (y0 = ((-1) : Int32)) → (vpin_ x2 16 = true) ∧ (vpin_ y0 16 = true) ∧ (((σ.1 (b + 6 + Int32.toNatClampNeg x2) (Int32.toNatClampNeg y0)) ≤ 0 → Ev_ (P_X0_readLeanings KC) 94 [some (.ref b), some (.ref 1), some (.int x2), some (.int x3), some (.int x4), some (.int y0)] [] σ out) ∧ (¬ ((σ.1 (b + 6 + Int32.toNatClampNeg x2) (Int32.toNatClampNeg y0)) ≤ 0) → (∃ (v3 : Int32) (σ2 : St_), f_X8_fail KC [.ref 1, .int (3 : Int32)] σ = some (some (.int v3), σ2) ∧ (v3 = 0 ∨ v3 = 1) ∧ out = (some (.int v3), σ2))))))) : Ev_ (P_X0_readLeanings KC) 68 [some (.ref b), some (.ref 1), some (.int x2), some (.int x3), some (.int x4), none] [.int y0] σ out := by
  refine ev_n 3 (fun _ => rfl) ?_
  refine ev_if (c := y0 = ((-1) : Int32)) rfl (fun _ => rfl) (fun hc => ?_) (fun hc => ?_)
  · replace h := h.1 hc
    exact h
  · replace h := h.2 hc
    refine ev_n 1 (fun _ => rfl) ?_
    refine ev_go rfl (w_gF (kb_0 hb) (kb_r4 hb)) ?_
    refine ev_n 1 (fun _ => rfl) ?_
    obtain ⟨hv1, h⟩ := h
    refine ev_go rfl (w_aald (kb_k4 hb) (by decide) hv1 (kb_row hb _ (vpin_lt hv1))) ?_
    refine ev_n 1 (fun _ => rfl) ?_
    obtain ⟨h0, h⟩ := h
    refine ev_go rfl (w_iald (kb_rk hb _ (vpin_lt hv1)) h0) ?_
    refine ev_if (c := (σ.1 (b + 6 + Int32.toNatClampNeg x2) (Int32.toNatClampNeg y0)) ≤ 0) rfl (fun _ => rfl) (fun hc => ?_) (fun hc => ?_)
    · replace h := h.1 hc
      exact h
    · replace h := h.2 hc
      refine ev_n 2 (fun _ => rfl) ?_
      obtain ⟨v3, σ2, hf, h⟩ := h
      refine ev_go rfl (w_callV rfl rfl rfl (Nat.le_of_ble_eq_true rfl) hf) ?_
      exact v_zret h.1 rfl h.2
set_option maxRecDepth 20000 in
theorem e_X0_readLeanings_94 {b : Nat} {x2 : Int32} {x3 : Int32} {x4 : Int32} {x5 : Int32} {σ : St_} {out : Out_} (hb : isB b) (h : (∃ (v2 : Int32) (σ1 : St_), f_X8_takeChap KC [.ref 1, .ref b] σ = some (some (.int v2), σ1) ∧ ((v2 = 0 → out = (some (.int (0 : Int32)), σ1)) ∧ (¬ (v2 = 0) → (∃ (v4 : Int32) (σ3 : St_), f_X8_takeNumber KC [.ref 1, .int (1 : Int32), .int x3] σ1 = some (some (.int v4), σ3) ∧ ((v4 = 0 → out = (some (.int (0 : Int32)), σ3)) ∧ (¬ (v4 = 0) → ((x5 = ((-1) : Int32) → Ev_ (P_X0_readLeanings KC) 29 [some (.ref b), some (.ref 1), some (.int x2), some (.int x3), some (.int (x4 + 1)), none] [] σ3 out) ∧ (¬ (x5 = ((-1) : Int32)) → (vpin_ x2 16 = true) ∧ (vpin_ x5 16 = true) ∧ Ev_ (P_X0_readLeanings KC) 29 [some (.ref b), some (.ref 1), some (.int x2), some (.int (x3 - ((sI_ σ3 (b + 6 + Int32.toNatClampNeg x2) (Int32.toNatClampNeg x5) (σ3.1 1 8)).1 1 8))), some (.int (x4 + 1)), none] [] (sI_ σ3 (b + 6 + Int32.toNatClampNeg x2) (Int32.toNatClampNeg x5) (σ3.1 1 8)) out))))))))) : Ev_ (P_X0_readLeanings KC) 94 [some (.ref b), some (.ref 1), some (.int x2), some (.int x3), some (.int x4), some (.int x5)] [] σ out := by
  refine ev_n 2 (fun _ => rfl) ?_
  obtain ⟨v2, σ1, hf, h⟩ := h
  refine ev_go rfl (w_callV rfl rfl rfl (Nat.le_of_ble_eq_true rfl) hf) ?_
  refine ev_if (c := v2 = 0) rfl (fun _ => rfl) (fun hc => ?_) (fun hc => ?_)
  · replace h := h.1 hc
    refine ev_n 1 (fun _ => rfl) ?_
    exact v_zret (by decide) rfl h
  · replace h := h.2 hc
    refine ev_n 3 (fun _ => rfl) ?_
    obtain ⟨v4, σ3, hf, h⟩ := h
    refine ev_go rfl (w_callV rfl rfl rfl (Nat.le_of_ble_eq_true rfl) hf) ?_
    refine ev_if (c := v4 = 0) rfl (fun _ => rfl) (fun hc => ?_) (fun hc => ?_)
    · replace h := h.1 hc
      refine ev_n 1 (fun _ => rfl) ?_
      exact v_zret (by decide) rfl h
    · replace h := h.2 hc
      refine ev_n 2 (fun _ => rfl) ?_
      refine ev_if (c := x5 = ((-1) : Int32)) rfl (fun _ => rfl) (fun hc => ?_) (fun hc => ?_)
      · replace h := h.1 hc
        refine ev_n 2 (fun _ => rfl) ?_
        exact h
      · replace h := h.2 hc
        refine ev_n 1 (fun _ => rfl) ?_
        refine ev_go rfl (w_gF (kb_0 hb) (kb_r4 hb)) ?_
        refine ev_n 1 (fun _ => rfl) ?_
        obtain ⟨hv5, h⟩ := h
        refine ev_go rfl (w_aald (kb_k4 hb) (by decide) hv5 (kb_row hb _ (vpin_lt hv5))) ?_
        refine ev_n 2 (fun _ => rfl) ?_
        refine ev_go rfl (w_gI rfl) ?_
        obtain ⟨h0, h⟩ := h
        refine ev_go rfl (w_iast (kb_rk hb _ (vpin_lt hv5)) h0) ?_
        refine ev_n 2 (fun _ => rfl) ?_
        refine ev_go rfl (w_gI rfl) ?_
        refine ev_n 4 (fun _ => rfl) ?_
        exact h
theorem m_X0_readLeanings : ∀ pc o, (P_X0_readLeanings KC).lookup pc = some o → Mon_ o := all_mon (a_X0_readLeanings (l := launch0) (E := EC0) EC0_ok)
theorem z_X0_readLeanings {b : Nat} {x2 : Int32} {σ : St_} {out : Out_} (h : Ev_ (P_X0_readLeanings KC) 0 [some (.ref b), some (.ref 1), some (.int x2), none, none, none] [] σ out) : f_X0_readLeanings KC [.ref b, .ref 1, .int x2] σ = some out := fn_eq m_X0_readLeanings rfl h
set_option maxRecDepth 20000 in
theorem e_X8_take_0 {x1 : Int32} {σ : St_} {out : Out_}  (h : (((σ.1 1 6) = x1 → (∃ (σ1 : St_), f_X8_next KC [.ref 1] (sI_ σ 1 8 (σ.1 1 7)) = some (none, σ1) ∧ out = (some (.int (1 : Int32)), σ1))) ∧ (¬ ((σ.1 1 6) = x1) → (∃ (v3 : Int32) (σ2 : St_), f_X8_fail KC [.ref 1, .int (1 : Int32)] σ = some (some (.int v3), σ2) ∧ (v3 = 0 ∨ v3 = 1) ∧ out = (some (.int v3), σ2))))) : Ev_ (P_X8_take KC) 0 [some (.ref 1), some (.int x1)] [] σ out := by
  refine ev_n 1 (fun _ => rfl) ?_
  refine ev_go rfl (w_gI rfl) ?_
  refine ev_n 1 (fun _ => rfl) ?_
  refine ev_if (c := (σ.1 1 6) = x1) rfl (fun _ => rfl) (fun hc => ?_) (fun hc => ?_)
  · replace h := h.1 hc
    refine ev_n 2 (fun _ => rfl) ?_
    refine ev_go rfl (w_gI rfl) ?_
    refine ev_go rfl (w_pI rfl) ?_
    refine ev_n 1 (fun _ => rfl) ?_
    obtain ⟨σ1, hf, h⟩ := h
    refine ev_go rfl (w_callV rfl rfl rfl (Nat.le_of_ble_eq_true rfl) hf) ?_
    refine ev_n 1 (fun _ => rfl) ?_
    exact v_zret (by decide) rfl h
  · replace h := h.2 hc
    refine ev_n 2 (fun _ => rfl) ?_
    obtain ⟨v3, σ2, hf, h⟩ := h
    refine ev_go rfl (w_callV rfl rfl rfl (Nat.le_of_ble_eq_true rfl) hf) ?_
    exact v_zret h.1 rfl h.2
theorem m_X8_take : ∀ pc o, (P_X8_take KC).lookup pc = some o → Mon_ o := all_mon (a_X8_take (l := launch0) (E := EC0) EC0_ok)
theorem z_X8_take {x1 : Int32} {σ : St_} {out : Out_} (h : Ev_ (P_X8_take KC) 0 [some (.ref 1), some (.int x1)] [] σ out) : f_X8_take KC [.ref 1, .int x1] σ = some out := fn_eq m_X8_take rfl h
set_option maxRecDepth 20000 in
theorem e_X0_takeNewName_0 {b : Nat} {σ : St_} {out : Out_} (hb : isB b) (h : (((σ.1 1 6) = (2 : Int32) → (∃ (v2 : Int32) (σ1 : St_), f_X0_chapNamed KC [.ref b, .int (σ.1 1 7)] σ = some (some (.int v2), σ1) ∧ ((v2 = ((-1) : Int32) → (∃ (v4 : Int32) (σ3 : St_), f_X0_readerNamed KC [.ref b, .int (σ1.1 1 7)] σ1 = some (some (.int v4), σ3) ∧ ((v4 = ((-1) : Int32) → (∃ (v6 : Int32) (σ5 : St_), f_X8_take KC [.ref 1, .int (2 : Int32)] σ3 = some (some (.int v6), σ5) ∧ (v6 = 0 ∨ v6 = 1) ∧ out = (some (.int v6), σ5))) ∧ (¬ (v4 = ((-1) : Int32)) → (∃ (v8 : Int32) (σ7 : St_), f_X8_fail KC [.ref 1, .int (3 : Int32)] σ3 = some (some (.int v8), σ7) ∧ (v8 = 0 ∨ v8 = 1) ∧ out = (some (.int v8), σ7)))))) ∧ (¬ (v2 = ((-1) : Int32)) → (∃ (v10 : Int32) (σ9 : St_), f_X8_fail KC [.ref 1, .int (3 : Int32)] σ1 = some (some (.int v10), σ9) ∧ (v10 = 0 ∨ v10 = 1) ∧ out = (some (.int v10), σ9)))))) ∧ (¬ ((σ.1 1 6) = (2 : Int32)) → (∃ (v12 : Int32) (σ11 : St_), f_X8_fail KC [.ref 1, .int (1 : Int32)] σ = some (some (.int v12), σ11) ∧ (v12 = 0 ∨ v12 = 1) ∧ out = (some (.int v12), σ11))))) : Ev_ (P_X0_takeNewName KC) 0 [some (.ref b), some (.ref 1)] [] σ out := by
  refine ev_n 1 (fun _ => rfl) ?_
  refine ev_go rfl (w_gI rfl) ?_
  refine ev_n 1 (fun _ => rfl) ?_
  refine ev_if (c := (σ.1 1 6) = (2 : Int32)) rfl (fun _ => rfl) (fun hc => ?_) (fun hc => ?_)
  · replace h := h.1 hc
    refine ev_n 2 (fun _ => rfl) ?_
    refine ev_go rfl (w_gI rfl) ?_
    obtain ⟨v2, σ1, hf, h⟩ := h
    refine ev_go rfl (w_callV rfl rfl (kb_0 hb) (Nat.le_of_ble_eq_true rfl) hf) ?_
    refine ev_n 1 (fun _ => rfl) ?_
    refine ev_if (c := v2 = ((-1) : Int32)) rfl (fun _ => rfl) (fun hc => ?_) (fun hc => ?_)
    · replace h := h.1 hc
      refine ev_n 2 (fun _ => rfl) ?_
      refine ev_go rfl (w_gI rfl) ?_
      obtain ⟨v4, σ3, hf, h⟩ := h
      refine ev_go rfl (w_callV rfl rfl (kb_0 hb) (Nat.le_of_ble_eq_true rfl) hf) ?_
      refine ev_n 1 (fun _ => rfl) ?_
      refine ev_if (c := v4 = ((-1) : Int32)) rfl (fun _ => rfl) (fun hc => ?_) (fun hc => ?_)
      · replace h := h.1 hc
        refine ev_n 2 (fun _ => rfl) ?_
        obtain ⟨v6, σ5, hf, h⟩ := h
        refine ev_go rfl (w_callV rfl rfl rfl (Nat.le_of_ble_eq_true rfl) hf) ?_
        exact v_zret h.1 rfl h.2
      · replace h := h.2 hc
        refine ev_n 2 (fun _ => rfl) ?_
        obtain ⟨v8, σ7, hf, h⟩ := h
        refine ev_go rfl (w_callV rfl rfl rfl (Nat.le_of_ble_eq_true rfl) hf) ?_
        exact v_zret h.1 rfl h.2
    · replace h := h.2 hc
      refine ev_n 2 (fun _ => rfl) ?_
      obtain ⟨v10, σ9, hf, h⟩ := h
      refine ev_go rfl (w_callV rfl rfl rfl (Nat.le_of_ble_eq_true rfl) hf) ?_
      exact v_zret h.1 rfl h.2
  · replace h := h.2 hc
    refine ev_n 2 (fun _ => rfl) ?_
    obtain ⟨v12, σ11, hf, h⟩ := h
    refine ev_go rfl (w_callV rfl rfl rfl (Nat.le_of_ble_eq_true rfl) hf) ?_
    exact v_zret h.1 rfl h.2
theorem m_X0_takeNewName : ∀ pc o, (P_X0_takeNewName KC).lookup pc = some o → Mon_ o := all_mon (a_X0_takeNewName (l := launch0) (E := EC0) EC0_ok)
theorem z_X0_takeNewName {b : Nat} {σ : St_} {out : Out_} (h : Ev_ (P_X0_takeNewName KC) 0 [some (.ref b), some (.ref 1)] [] σ out) : f_X0_takeNewName KC [.ref b, .ref 1] σ = some out := fn_eq m_X0_takeNewName rfl h
set_option maxRecDepth 20000 in
theorem e_X0_readChap_0 {b : Nat} {σ : St_} {out : Out_} (hb : isB b) (h : (((σ.1 b 11) < (16 : Int32) → (∃ (σ1 : St_), f_X8_next KC [.ref 1] σ = some (none, σ1) ∧ (∃ (v3 : Int32) (σ2 : St_), f_X0_takeNewName KC [.ref b, .ref 1] σ1 = some (some (.int v3), σ2) ∧ ((v3 = 0 → out = (some (.int (0 : Int32)), σ2)) ∧ (¬ (v3 = 0) → (vpin_ (σ.1 b 11) 16 = true) ∧ (∃ (v5 : Int32) (σ4 : St_), f_X8_takeNumber KC [.ref 1, .int (1 : Int32), .int (999 : Int32)] (sI_ σ2 (b + 1) (Int32.toNatClampNeg (σ.1 b 11)) (σ2.1 1 8)) = some (some (.int v5), σ4) ∧ ((v5 = 0 → out = (some (.int (0 : Int32)), σ4)) ∧ (¬ (v5 = 0) → (vpin_ (σ.1 b 11) 16 = true) ∧ (∃ (v7 : Int32) (σ6 : St_), f_X8_takeNumber KC [.ref 1, .int (0 : Int32), .int (999 : Int32)] (sI_ σ4 (b + 2) (Int32.toNatClampNeg (σ.1 b 11)) (σ4.1 1 8)) = some (some (.int v7), σ6) ∧ ((v7 = 0 → out = (some (.int (0 : Int32)), σ6)) ∧ (¬ (v7 = 0) → (vpin_ (σ.1 b 11) 16 = true) ∧ (∃ (v9 : Int32) (σ8 : St_), f_X0_readLeanings KC [.ref b, .ref 1, .int (σ.1 b 11)] (sI_ σ6 (b + 3) (Int32.toNatClampNeg (σ.1 b 11)) (σ6.1 1 8)) = some (some (.int v9), σ8) ∧ ((v9 = 0 → out = (some (.int (0 : Int32)), σ8)) ∧ (¬ (v9 = 0) → (((σ8.1 1 6) = (6 : Int32) → Ev_ (P_X0_readChap KC) 117 [some (.ref b), some (.ref 1), some (.int (σ.1 b 11))] [.int (1 : Int32), .int (σ.1 b 11), .ref (b + 4)] σ8 out) ∧ (¬ ((σ8.1 1 6) = (6 : Int32)) → Ev_ (P_X0_readChap KC) 117 [some (.ref b), some (.ref 1), some (.int (σ.1 b 11))] [.int (0 : Int32), .int (σ.1 b 11), .ref (b + 4)] σ8 out)))))))))))))))) ∧ (¬ ((σ.1 b 11) < (16 : Int32)) → (∃ (v11 : Int32) (σ10 : St_), f_X8_fail KC [.ref 1, .int (4 : Int32)] σ = some (some (.int v11), σ10) ∧ (v11 = 0 ∨ v11 = 1) ∧ out = (some (.int v11), σ10))))) : Ev_ (P_X0_readChap KC) 0 [some (.ref b), some (.ref 1), none] [] σ out := by
  refine ev_n 1 (fun _ => rfl) ?_
  refine ev_go rfl (w_gI (kb_0 hb)) ?_
  refine ev_n 3 (fun _ => rfl) ?_
  refine ev_if (c := (σ.1 b 11) < (16 : Int32)) rfl (fun _ => rfl) (fun hc => ?_) (fun hc => ?_)
  · replace h := h.1 hc
    refine ev_n 1 (fun _ => rfl) ?_
    obtain ⟨σ1, hf, h⟩ := h
    refine ev_go rfl (w_callV rfl rfl rfl (Nat.le_of_ble_eq_true rfl) hf) ?_
    refine ev_n 2 (fun _ => rfl) ?_
    obtain ⟨v3, σ2, hf, h⟩ := h
    refine ev_go rfl (w_callV rfl rfl (kb_0 hb) (Nat.le_of_ble_eq_true rfl) hf) ?_
    refine ev_if (c := v3 = 0) rfl (fun _ => rfl) (fun hc => ?_) (fun hc => ?_)
    · replace h := h.1 hc
      refine ev_n 1 (fun _ => rfl) ?_
      exact v_zret (by decide) rfl h
    · replace h := h.2 hc
      refine ev_n 1 (fun _ => rfl) ?_
      refine ev_go rfl (w_gF (kb_0 hb) (kb_r0 hb)) ?_
      refine ev_n 2 (fun _ => rfl) ?_
      refine ev_go rfl (w_gI rfl) ?_
      obtain ⟨h0, h⟩ := h
      refine ev_go rfl (w_iast (kb_k0 hb) h0) ?_
      refine ev_n 3 (fun _ => rfl) ?_
      obtain ⟨v5, σ4, hf, h⟩ := h
      refine ev_go rfl (w_callV rfl rfl rfl (Nat.le_of_ble_eq_true rfl) hf) ?_
      refine ev_if (c := v5 = 0) rfl (fun _ => rfl) (fun hc => ?_) (fun hc => ?_)
      · replace h := h.1 hc
        refine ev_n 1 (fun _ => rfl) ?_
        exact v_zret (by decide) rfl h
      · replace h := h.2 hc
        refine ev_n 1 (fun _ => rfl) ?_
        refine ev_go rfl (w_gF (kb_0 hb) (kb_r1 hb)) ?_
        refine ev_n 2 (fun _ => rfl) ?_
        refine ev_go rfl (w_gI rfl) ?_
        obtain ⟨h0, h⟩ := h
        refine ev_go rfl (w_iast (kb_k1 hb) h0) ?_
        refine ev_n 3 (fun _ => rfl) ?_
        obtain ⟨v7, σ6, hf, h⟩ := h
        refine ev_go rfl (w_callV rfl rfl rfl (Nat.le_of_ble_eq_true rfl) hf) ?_
        refine ev_if (c := v7 = 0) rfl (fun _ => rfl) (fun hc => ?_) (fun hc => ?_)
        · replace h := h.1 hc
          refine ev_n 1 (fun _ => rfl) ?_
          exact v_zret (by decide) rfl h
        · replace h := h.2 hc
          refine ev_n 1 (fun _ => rfl) ?_
          refine ev_go rfl (w_gF (kb_0 hb) (kb_r2 hb)) ?_
          refine ev_n 2 (fun _ => rfl) ?_
          refine ev_go rfl (w_gI rfl) ?_
          obtain ⟨h0, h⟩ := h
          refine ev_go rfl (w_iast (kb_k2 hb) h0) ?_
          refine ev_n 3 (fun _ => rfl) ?_
          obtain ⟨v9, σ8, hf, h⟩ := h
          refine ev_go rfl (w_callV rfl rfl (kb_0 hb) (Nat.le_of_ble_eq_true rfl) hf) ?_
          refine ev_if (c := v9 = 0) rfl (fun _ => rfl) (fun hc => ?_) (fun hc => ?_)
          · replace h := h.1 hc
            refine ev_n 1 (fun _ => rfl) ?_
            exact v_zret (by decide) rfl h
          · replace h := h.2 hc
            refine ev_n 1 (fun _ => rfl) ?_
            refine ev_go rfl (w_gF (kb_0 hb) (kb_r3 hb)) ?_
            refine ev_n 2 (fun _ => rfl) ?_
            refine ev_go rfl (w_gI rfl) ?_
            refine ev_n 1 (fun _ => rfl) ?_
            refine ev_if (c := (σ8.1 1 6) = (6 : Int32)) rfl (fun _ => rfl) (fun hc => ?_) (fun hc => ?_)
            · replace h := h.1 hc
              refine ev_n 2 (fun _ => rfl) ?_
              exact h
            · replace h := h.2 hc
              refine ev_n 1 (fun _ => rfl) ?_
              exact h
  · replace h := h.2 hc
    refine ev_n 2 (fun _ => rfl) ?_
    obtain ⟨v11, σ10, hf, h⟩ := h
    refine ev_go rfl (w_callV rfl rfl rfl (Nat.le_of_ble_eq_true rfl) hf) ?_
    exact v_zret h.1 rfl h.2
set_option maxRecDepth 20000 in
theorem e_X0_readChap_117 {b : Nat} {x2 : Int32} {y0 : Int32} {y1 : Int32} {qy2 : Nat} {σ : St_} {out : Out_} (hb : isB b) (hqy2 : KC.1 qy2 = (14, 16)) (h : (vpin_ y1 16 = true) ∧ (vpin_ x2 16 = true) ∧ ((((sI_ σ qy2 (Int32.toNatClampNeg y1) y0).1 (b + 4) (Int32.toNatClampNeg x2)) = (1 : Int32) → (∃ (σ1 : St_), f_X8_next KC [.ref 1] (sI_ σ qy2 (Int32.toNatClampNeg y1) y0) = some (none, σ1) ∧ out = (some (.int (1 : Int32)), (sI_ σ1 b 11 ((σ1.1 b 11) + (1 : Int32)))))) ∧ (¬ (((sI_ σ qy2 (Int32.toNatClampNeg y1) y0).1 (b + 4) (Int32.toNatClampNeg x2)) = (1 : Int32)) → out = (some (.int (1 : Int32)), (sI_ (sI_ σ qy2 (Int32.toNatClampNeg y1) y0) b 11 (((sI_ σ qy2 (Int32.toNatClampNeg y1) y0).1 b 11) + (1 : Int32))))))) : Ev_ (P_X0_readChap KC) 117 [some (.ref b), some (.ref 1), some (.int x2)] [.int y0, .int y1, .ref qy2] σ out := by
  obtain ⟨h0, h⟩ := h
  refine ev_go rfl (w_iast hqy2 h0) ?_
  refine ev_n 1 (fun _ => rfl) ?_
  refine ev_go rfl (w_gF (kb_0 hb) (kb_r3 hb)) ?_
  refine ev_n 1 (fun _ => rfl) ?_
  obtain ⟨h0, h⟩ := h
  refine ev_go rfl (w_iald (kb_k3 hb) h0) ?_
  refine ev_n 1 (fun _ => rfl) ?_
  refine ev_if (c := ((sI_ σ qy2 (Int32.toNatClampNeg y1) y0).1 (b + 4) (Int32.toNatClampNeg x2)) = (1 : Int32)) rfl (fun _ => rfl) (fun hc => ?_) (fun hc => ?_)
  · replace h := h.1 hc
    refine ev_n 1 (fun _ => rfl) ?_
    obtain ⟨σ1, hf, h⟩ := h
    refine ev_go rfl (w_callV rfl rfl rfl (Nat.le_of_ble_eq_true rfl) hf) ?_
    refine ev_n 2 (fun _ => rfl) ?_
    refine ev_go rfl (w_gI (kb_0 hb)) ?_
    refine ev_n 2 (fun _ => rfl) ?_
    refine ev_go rfl (w_pI (kb_0 hb)) ?_
    refine ev_n 1 (fun _ => rfl) ?_
    exact v_zret (by decide) rfl h
  · replace h := h.2 hc
    refine ev_n 2 (fun _ => rfl) ?_
    refine ev_go rfl (w_gI (kb_0 hb)) ?_
    refine ev_n 2 (fun _ => rfl) ?_
    refine ev_go rfl (w_pI (kb_0 hb)) ?_
    refine ev_n 1 (fun _ => rfl) ?_
    exact v_zret (by decide) rfl h
theorem m_X0_readChap : ∀ pc o, (P_X0_readChap KC).lookup pc = some o → Mon_ o := all_mon (a_X0_readChap (l := launch0) (E := EC0) EC0_ok)
theorem z_X0_readChap {b : Nat} {σ : St_} {out : Out_} (h : Ev_ (P_X0_readChap KC) 0 [some (.ref b), some (.ref 1), none] [] σ out) : f_X0_readChap KC [.ref b, .ref 1] σ = some out := fn_eq m_X0_readChap rfl h
set_option maxRecDepth 20000 in
theorem e_X0_takeInto_0 {x1 : Int32} {x2 : Int32} {q3 n3 : Nat} {x4 : Int32} {σ : St_} {out : Out_} (hq3 : KC.1 q3 = (14, n3)) (h : (∃ (v2 : Int32) (σ1 : St_), f_X8_takeNumber KC [.ref 1, .int x1, .int x2] σ = some (some (.int v2), σ1) ∧ ((v2 = 0 → out = (some (.int (0 : Int32)), σ1)) ∧ (¬ (v2 = 0) → ((x4 < 0 → out = (some (.int (1 : Int32)), σ1)) ∧ (¬ (x4 < 0) → (((Int32.ofNat n3) ≤ x4 → out = (some (.int (1 : Int32)), σ1)) ∧ (¬ ((Int32.ofNat n3) ≤ x4) → (vpin_ x4 n3 = true) ∧ out = (some (.int (1 : Int32)), (sI_ σ1 q3 (Int32.toNatClampNeg x4) (σ1.1 1 8))))))))))) : Ev_ (P_X0_takeInto KC) 0 [some (.ref 1), some (.int x1), some (.int x2), some (.ref q3), some (.int x4)] [] σ out := by
  refine ev_n 3 (fun _ => rfl) ?_
  obtain ⟨v2, σ1, hf, h⟩ := h
  refine ev_go rfl (w_callV rfl rfl rfl (Nat.le_of_ble_eq_true rfl) hf) ?_
  refine ev_if (c := v2 = 0) rfl (fun _ => rfl) (fun hc => ?_) (fun hc => ?_)
  · replace h := h.1 hc
    refine ev_n 1 (fun _ => rfl) ?_
    exact v_zret (by decide) rfl h
  · replace h := h.2 hc
    refine ev_n 1 (fun _ => rfl) ?_
    refine ev_if (c := x4 < 0) rfl (fun _ => rfl) (fun hc => ?_) (fun hc => ?_)
    · replace h := h.1 hc
      refine ev_n 1 (fun _ => rfl) ?_
      exact v_zret (by decide) rfl h
    · replace h := h.2 hc
      refine ev_n 2 (fun _ => rfl) ?_
      refine ev_go rfl (w_alen hq3) ?_
      refine ev_if (c := (Int32.ofNat n3) ≤ x4) rfl (fun _ => rfl) (fun hc => ?_) (fun hc => ?_)
      · replace h := h.1 hc
        refine ev_n 1 (fun _ => rfl) ?_
        exact v_zret (by decide) rfl h
      · replace h := h.2 hc
        refine ev_n 3 (fun _ => rfl) ?_
        refine ev_go rfl (w_gI rfl) ?_
        obtain ⟨h0, h⟩ := h
        refine ev_go rfl (w_iast hq3 h0) ?_
        refine ev_n 1 (fun _ => rfl) ?_
        exact v_zret (by decide) rfl h
theorem m_X0_takeInto : ∀ pc o, (P_X0_takeInto KC).lookup pc = some o → Mon_ o := all_mon (a_X0_takeInto (l := launch0) (E := EC0) EC0_ok)
theorem z_X0_takeInto {x1 : Int32} {x2 : Int32} {q3 : Nat} {x4 : Int32} {σ : St_} {out : Out_} (h : Ev_ (P_X0_takeInto KC) 0 [some (.ref 1), some (.int x1), some (.int x2), some (.ref q3), some (.int x4)] [] σ out) : f_X0_takeInto KC [.ref 1, .int x1, .int x2, .ref q3, .int x4] σ = some out := fn_eq m_X0_takeInto rfl h
set_option maxRecDepth 20000 in
theorem e_X0_readReader_0 {b : Nat} {σ : St_} {out : Out_} (hb : isB b) (h : (((σ.1 b 12) < (9 : Int32) → (∃ (σ1 : St_), f_X8_next KC [.ref 1] σ = some (none, σ1) ∧ (∃ (v3 : Int32) (σ2 : St_), f_X0_takeNewName KC [.ref b, .ref 1] σ1 = some (some (.int v3), σ2) ∧ ((v3 = 0 → out = (some (.int (0 : Int32)), σ2)) ∧ (¬ (v3 = 0) → (vpin_ (σ.1 b 12) 9 = true) ∧ (∃ (v5 : Int32) (σ4 : St_), f_X0_takeInto KC [.ref 1, .int (1 : Int32), .int (99 : Int32), .ref (b + 23), .int (σ.1 b 12)] (sI_ σ2 (b + 22) (Int32.toNatClampNeg (σ.1 b 12)) (σ2.1 1 8)) = some (some (.int v5), σ4) ∧ ((v5 = 0 → out = (some (.int (0 : Int32)), σ4)) ∧ (¬ (v5 = 0) → (∃ (v7 : Int32) (σ6 : St_), f_X0_takeInto KC [.ref 1, .int (0 : Int32), .int (10 : Int32), .ref (b + 24), .int (σ.1 b 12)] σ4 = some (some (.int v7), σ6) ∧ ((v7 = 0 → out = (some (.int (0 : Int32)), σ6)) ∧ (¬ (v7 = 0) → (∃ (v9 : Int32) (σ8 : St_), f_X0_takeInto KC [.ref 1, .int (0 : Int32), .int (10 : Int32), .ref (b + 25), .int (σ.1 b 12)] σ6 = some (some (.int v9), σ8) ∧ ((v9 = 0 → out = (some (.int (0 : Int32)), σ8)) ∧ (¬ (v9 = 0) → (∃ (v11 : Int32) (σ10 : St_), f_X0_takeInto KC [.ref 1, .int (0 : Int32), .int (240 : Int32), .ref (b + 26), .int (σ.1 b 12)] σ8 = some (some (.int v11), σ10) ∧ ((v11 = 0 → out = (some (.int (0 : Int32)), σ10)) ∧ (¬ (v11 = 0) → (vpin_ (σ.1 b 12) 9 = true) ∧ ((((sI_ σ10 (b + 27) (Int32.toNatClampNeg (σ.1 b 12)) (0 : Int32)).1 1 6) = (8 : Int32) → (∃ (σ12 : St_), f_X8_next KC [.ref 1] (sI_ σ10 (b + 27) (Int32.toNatClampNeg (σ.1 b 12)) (0 : Int32)) = some (none, σ12) ∧ (∃ (v14 : Int32) (σ13 : St_), f_X0_takeInto KC [.ref 1, .int (0 : Int32), .int (10 : Int32), .ref (b + 27), .int (σ.1 b 12)] σ12 = some (some (.int v14), σ13) ∧ ((v14 = 0 → out = (some (.int (0 : Int32)), σ13)) ∧ (¬ (v14 = 0) → out = (some (.int (1 : Int32)), (sI_ σ13 b 12 ((σ13.1 b 12) + (1 : Int32))))))))) ∧ (¬ (((sI_ σ10 (b + 27) (Int32.toNatClampNeg (σ.1 b 12)) (0 : Int32)).1 1 6) = (8 : Int32)) → out = (some (.int (1 : Int32)), (sI_ (sI_ σ10 (b + 27) (Int32.toNatClampNeg (σ.1 b 12)) (0 : Int32)) b 12 (((sI_ σ10 (b + 27) (Int32.toNatClampNeg (σ.1 b 12)) (0 : Int32)).1 b 12) + (1 : Int32))))))))))))))))))))))) ∧ (¬ ((σ.1 b 12) < (9 : Int32)) → (∃ (v16 : Int32) (σ15 : St_), f_X8_fail KC [.ref 1, .int (4 : Int32)] σ = some (some (.int v16), σ15) ∧ (v16 = 0 ∨ v16 = 1) ∧ out = (some (.int v16), σ15))))) : Ev_ (P_X0_readReader KC) 0 [some (.ref b), some (.ref 1), none] [] σ out := by
  refine ev_n 1 (fun _ => rfl) ?_
  refine ev_go rfl (w_gI (kb_0 hb)) ?_
  refine ev_n 3 (fun _ => rfl) ?_
  refine ev_if (c := (σ.1 b 12) < (9 : Int32)) rfl (fun _ => rfl) (fun hc => ?_) (fun hc => ?_)
  · replace h := h.1 hc
    refine ev_n 1 (fun _ => rfl) ?_
    obtain ⟨σ1, hf, h⟩ := h
    refine ev_go rfl (w_callV rfl rfl rfl (Nat.le_of_ble_eq_true rfl) hf) ?_
    refine ev_n 2 (fun _ => rfl) ?_
    obtain ⟨v3, σ2, hf, h⟩ := h
    refine ev_go rfl (w_callV rfl rfl (kb_0 hb) (Nat.le_of_ble_eq_true rfl) hf) ?_
    refine ev_if (c := v3 = 0) rfl (fun _ => rfl) (fun hc => ?_) (fun hc => ?_)
    · replace h := h.1 hc
      refine ev_n 1 (fun _ => rfl) ?_
      exact v_zret (by decide) rfl h
    · replace h := h.2 hc
      refine ev_n 1 (fun _ => rfl) ?_
      refine ev_go rfl (w_gF (kb_0 hb) (kb_r5 hb)) ?_
      refine ev_n 2 (fun _ => rfl) ?_
      refine ev_go rfl (w_gI rfl) ?_
      obtain ⟨h0, h⟩ := h
      refine ev_go rfl (w_iast (kb_k5 hb) h0) ?_
      refine ev_n 4 (fun _ => rfl) ?_
      refine ev_go rfl (w_gF (kb_0 hb) (kb_r6 hb)) ?_
      refine ev_n 1 (fun _ => rfl) ?_
      obtain ⟨v5, σ4, hf, h⟩ := h
      refine ev_go rfl (w_callS ⟨Nat.le_of_ble_eq_true rfl, Nat.le_of_ble_eq_true rfl⟩ hf) ?_
      refine ev_if (c := v5 = 0) rfl (fun _ => rfl) (fun hc => ?_) (fun hc => ?_)
      · replace h := h.1 hc
        refine ev_n 1 (fun _ => rfl) ?_
        exact v_zret (by decide) rfl h
      · replace h := h.2 hc
        refine ev_n 4 (fun _ => rfl) ?_
        refine ev_go rfl (w_gF (kb_0 hb) (kb_r7 hb)) ?_
        refine ev_n 1 (fun _ => rfl) ?_
        obtain ⟨v7, σ6, hf, h⟩ := h
        refine ev_go rfl (w_callS ⟨Nat.le_of_ble_eq_true rfl, Nat.le_of_ble_eq_true rfl⟩ hf) ?_
        refine ev_if (c := v7 = 0) rfl (fun _ => rfl) (fun hc => ?_) (fun hc => ?_)
        · replace h := h.1 hc
          refine ev_n 1 (fun _ => rfl) ?_
          exact v_zret (by decide) rfl h
        · replace h := h.2 hc
          refine ev_n 4 (fun _ => rfl) ?_
          refine ev_go rfl (w_gF (kb_0 hb) (kb_r8 hb)) ?_
          refine ev_n 1 (fun _ => rfl) ?_
          obtain ⟨v9, σ8, hf, h⟩ := h
          refine ev_go rfl (w_callS ⟨Nat.le_of_ble_eq_true rfl, Nat.le_of_ble_eq_true rfl⟩ hf) ?_
          refine ev_if (c := v9 = 0) rfl (fun _ => rfl) (fun hc => ?_) (fun hc => ?_)
          · replace h := h.1 hc
            refine ev_n 1 (fun _ => rfl) ?_
            exact v_zret (by decide) rfl h
          · replace h := h.2 hc
            refine ev_n 4 (fun _ => rfl) ?_
            refine ev_go rfl (w_gF (kb_0 hb) (kb_r9 hb)) ?_
            refine ev_n 1 (fun _ => rfl) ?_
            obtain ⟨v11, σ10, hf, h⟩ := h
            refine ev_go rfl (w_callS ⟨Nat.le_of_ble_eq_true rfl, Nat.le_of_ble_eq_true rfl⟩ hf) ?_
            refine ev_if (c := v11 = 0) rfl (fun _ => rfl) (fun hc => ?_) (fun hc => ?_)
            · replace h := h.1 hc
              refine ev_n 1 (fun _ => rfl) ?_
              exact v_zret (by decide) rfl h
            · replace h := h.2 hc
              refine ev_n 1 (fun _ => rfl) ?_
              refine ev_go rfl (w_gF (kb_0 hb) (kb_r10 hb)) ?_
              refine ev_n 2 (fun _ => rfl) ?_
              obtain ⟨h0, h⟩ := h
              refine ev_go rfl (w_iast (kb_k10 hb) h0) ?_
              refine ev_n 1 (fun _ => rfl) ?_
              refine ev_go rfl (w_gI rfl) ?_
              refine ev_n 1 (fun _ => rfl) ?_
              refine ev_if (c := ((sI_ σ10 (b + 27) (Int32.toNatClampNeg (σ.1 b 12)) (0 : Int32)).1 1 6) = (8 : Int32)) rfl (fun _ => rfl) (fun hc => ?_) (fun hc => ?_)
              · replace h := h.1 hc
                refine ev_n 1 (fun _ => rfl) ?_
                obtain ⟨σ12, hf, h⟩ := h
                refine ev_go rfl (w_callV rfl rfl rfl (Nat.le_of_ble_eq_true rfl) hf) ?_
                refine ev_n 4 (fun _ => rfl) ?_
                refine ev_go rfl (w_gF (kb_0 hb) (kb_r10 hb)) ?_
                refine ev_n 1 (fun _ => rfl) ?_
                obtain ⟨v14, σ13, hf, h⟩ := h
                refine ev_go rfl (w_callS ⟨Nat.le_of_ble_eq_true rfl, Nat.le_of_ble_eq_true rfl⟩ hf) ?_
                refine ev_if (c := v14 = 0) rfl (fun _ => rfl) (fun hc => ?_) (fun hc => ?_)
                · replace h := h.1 hc
                  refine ev_n 1 (fun _ => rfl) ?_
                  exact v_zret (by decide) rfl h
                · replace h := h.2 hc
                  refine ev_n 2 (fun _ => rfl) ?_
                  refine ev_go rfl (w_gI (kb_0 hb)) ?_
                  refine ev_n 2 (fun _ => rfl) ?_
                  refine ev_go rfl (w_pI (kb_0 hb)) ?_
                  refine ev_n 1 (fun _ => rfl) ?_
                  exact v_zret (by decide) rfl h
              · replace h := h.2 hc
                refine ev_n 2 (fun _ => rfl) ?_
                refine ev_go rfl (w_gI (kb_0 hb)) ?_
                refine ev_n 2 (fun _ => rfl) ?_
                refine ev_go rfl (w_pI (kb_0 hb)) ?_
                refine ev_n 1 (fun _ => rfl) ?_
                exact v_zret (by decide) rfl h
  · replace h := h.2 hc
    refine ev_n 2 (fun _ => rfl) ?_
    obtain ⟨v16, σ15, hf, h⟩ := h
    refine ev_go rfl (w_callV rfl rfl rfl (Nat.le_of_ble_eq_true rfl) hf) ?_
    exact v_zret h.1 rfl h.2
theorem m_X0_readReader : ∀ pc o, (P_X0_readReader KC).lookup pc = some o → Mon_ o := all_mon (a_X0_readReader (l := launch0) (E := EC0) EC0_ok)
theorem z_X0_readReader {b : Nat} {σ : St_} {out : Out_} (h : Ev_ (P_X0_readReader KC) 0 [some (.ref b), some (.ref 1), none] [] σ out) : f_X0_readReader KC [.ref b, .ref 1] σ = some out := fn_eq m_X0_readReader rfl h
set_option maxRecDepth 20000 in
theorem e_X0_readSpeed_0 {b : Nat} {σ : St_} {out : Out_} (hb : isB b) (h : (((σ.1 b 16) = 0 → (∃ (σ1 : St_), f_X8_next KC [.ref 1] σ = some (none, σ1) ∧ (∃ (v3 : Int32) (σ2 : St_), f_X8_takeNumber KC [.ref 1, .int (1 : Int32), .int (99 : Int32)] σ1 = some (some (.int v3), σ2) ∧ ((v3 = 0 → out = (some (.int (0 : Int32)), σ2)) ∧ (¬ (v3 = 0) → out = (some (.int (1 : Int32)), (sI_ (sI_ σ2 b 14 (σ2.1 1 8)) b 16 (1 : Int32)))))))) ∧ (¬ ((σ.1 b 16) = 0) → (∃ (v5 : Int32) (σ4 : St_), f_X8_fail KC [.ref 1, .int (3 : Int32)] σ = some (some (.int v5), σ4) ∧ (v5 = 0 ∨ v5 = 1) ∧ out = (some (.int v5), σ4))))) : Ev_ (P_X0_readSpeed KC) 0 [some (.ref b), some (.ref 1)] [] σ out := by
  refine ev_n 1 (fun _ => rfl) ?_
  refine ev_go rfl (w_gI (kb_0 hb)) ?_
  refine ev_if (c := (σ.1 b 16) = 0) rfl (fun _ => rfl) (fun hc => ?_) (fun hc => ?_)
  · replace h := h.1 hc
    refine ev_n 1 (fun _ => rfl) ?_
    obtain ⟨σ1, hf, h⟩ := h
    refine ev_go rfl (w_callV rfl rfl rfl (Nat.le_of_ble_eq_true rfl) hf) ?_
    refine ev_n 3 (fun _ => rfl) ?_
    obtain ⟨v3, σ2, hf, h⟩ := h
    refine ev_go rfl (w_callV rfl rfl rfl (Nat.le_of_ble_eq_true rfl) hf) ?_
    refine ev_if (c := v3 = 0) rfl (fun _ => rfl) (fun hc => ?_) (fun hc => ?_)
    · replace h := h.1 hc
      refine ev_n 1 (fun _ => rfl) ?_
      exact v_zret (by decide) rfl h
    · replace h := h.2 hc
      refine ev_n 2 (fun _ => rfl) ?_
      refine ev_go rfl (w_gI rfl) ?_
      refine ev_go rfl (w_pI (kb_0 hb)) ?_
      refine ev_n 2 (fun _ => rfl) ?_
      refine ev_go rfl (w_pZ (kb_0 hb) (by decide)) ?_
      refine ev_n 1 (fun _ => rfl) ?_
      exact v_zret (by decide) rfl h
  · replace h := h.2 hc
    refine ev_n 2 (fun _ => rfl) ?_
    obtain ⟨v5, σ4, hf, h⟩ := h
    refine ev_go rfl (w_callV rfl rfl rfl (Nat.le_of_ble_eq_true rfl) hf) ?_
    exact v_zret h.1 rfl h.2
theorem m_X0_readSpeed : ∀ pc o, (P_X0_readSpeed KC).lookup pc = some o → Mon_ o := all_mon (a_X0_readSpeed (l := launch0) (E := EC0) EC0_ok)
theorem z_X0_readSpeed {b : Nat} {σ : St_} {out : Out_} (h : Ev_ (P_X0_readSpeed KC) 0 [some (.ref b), some (.ref 1)] [] σ out) : f_X0_readSpeed KC [.ref b, .ref 1] σ = some out := fn_eq m_X0_readSpeed rfl h
set_option maxRecDepth 20000 in
theorem e_X0_readFrom_0 {b : Nat} {σ : St_} {out : Out_} (hb : isB b) (h : (∃ (σ1 : St_), f_X0_clear KC [.ref b] σ = some (none, σ1) ∧ Ev_ (P_X0_readFrom KC) 6 [some (.ref b), some (.ref 1), some (.int (0 : Int32)), none] [] σ1 out)) : Ev_ (P_X0_readFrom KC) 0 [some (.ref b), some (.ref 1), none, none] [] σ out := by
  refine ev_n 1 (fun _ => rfl) ?_
  obtain ⟨σ1, hf, h⟩ := h
  refine ev_go rfl (w_callV rfl rfl (kb_0 hb) (Nat.le_of_ble_eq_true rfl) hf) ?_
  refine ev_n 2 (fun _ => rfl) ?_
  exact h
set_option maxRecDepth 20000 in
theorem e_X0_readFrom_6 {b : Nat} {x2 : Int32} {σ : St_} {out : Out_} (hb : isB b) (h : (((1040 : Int32) ≤ x2 → out = (some (.int (1 : Int32)), σ)) ∧ (¬ ((1040 : Int32) ≤ x2) → (((σ.1 1 6) = 0 → out = (some (.int (1 : Int32)), σ)) ∧ (¬ ((σ.1 1 6) = 0) → (((((σ.1 1 6)).toInt < 4 ∨ 10 < ((σ.1 1 6)).toInt) → (∃ (v2 : Int32) (σ1 : St_), f_X8_fail KC [.ref 1, .int (1 : Int32)] σ = some (some (.int v2), σ1) ∧ Ev_ (P_X0_readFrom KC) 110 [some (.ref b), some (.ref 1), some (.int x2), some (.int v2)] [] σ1 out)) ∧ ((σ.1 1 6) = 4 → (∃ (v4 : Int32) (σ3 : St_), f_X0_readChap KC [.ref b, .ref 1] σ = some (some (.int v4), σ3) ∧ Ev_ (P_X0_readFrom KC) 110 [some (.ref b), some (.ref 1), some (.int x2), some (.int v4)] [] σ3 out)) ∧ ((σ.1 1 6) = 5 → (∃ (v6 : Int32) (σ5 : St_), f_X8_fail KC [.ref 1, .int (1 : Int32)] σ = some (some (.int v6), σ5) ∧ Ev_ (P_X0_readFrom KC) 110 [some (.ref b), some (.ref 1), some (.int x2), some (.int v6)] [] σ5 out)) ∧ ((σ.1 1 6) = 6 → (∃ (v8 : Int32) (σ7 : St_), f_X8_fail KC [.ref 1, .int (1 : Int32)] σ = some (some (.int v8), σ7) ∧ Ev_ (P_X0_readFrom KC) 110 [some (.ref b), some (.ref 1), some (.int x2), some (.int v8)] [] σ7 out)) ∧ ((σ.1 1 6) = 7 → (∃ (v10 : Int32) (σ9 : St_), f_X0_readReader KC [.ref b, .ref 1] σ = some (some (.int v10), σ9) ∧ Ev_ (P_X0_readFrom KC) 110 [some (.ref b), some (.ref 1), some (.int x2), some (.int v10)] [] σ9 out)) ∧ ((σ.1 1 6) = 8 → (∃ (v12 : Int32) (σ11 : St_), f_X8_fail KC [.ref 1, .int (1 : Int32)] σ = some (some (.int v12), σ11) ∧ Ev_ (P_X0_readFrom KC) 110 [some (.ref b), some (.ref 1), some (.int x2), some (.int v12)] [] σ11 out)) ∧ ((σ.1 1 6) = 9 → (∃ (v14 : Int32) (σ13 : St_), f_X0_readSpeed KC [.ref b, .ref 1] σ = some (some (.int v14), σ13) ∧ Ev_ (P_X0_readFrom KC) 110 [some (.ref b), some (.ref 1), some (.int x2), some (.int v14)] [] σ13 out)) ∧ ((σ.1 1 6) = 10 → (∃ (v16 : Int32) (σ15 : St_), f_X0_readAgain KC [.ref b, .ref 1] σ = some (some (.int v16), σ15) ∧ Ev_ (P_X0_readFrom KC) 110 [some (.ref b), some (.ref 1), some (.int x2), some (.int v16)] [] σ15 out)))))))) : Ev_ (P_X0_readFrom KC) 6 [some (.ref b), some (.ref 1), some (.int x2), none] [] σ out := by
  refine ev_n 2 (fun _ => rfl) ?_
  refine ev_if (c := (1040 : Int32) ≤ x2) rfl (fun _ => rfl) (fun hc => ?_) (fun hc => ?_)
  · replace h := h.1 hc
    refine ev_n 1 (fun _ => rfl) ?_
    exact v_zret (by decide) rfl h
  · replace h := h.2 hc
    refine ev_n 1 (fun _ => rfl) ?_
    refine ev_go rfl (w_gI rfl) ?_
    refine ev_if (c := (σ.1 1 6) = 0) rfl (fun _ => rfl) (fun hc => ?_) (fun hc => ?_)
    · replace h := h.1 hc
      refine ev_n 1 (fun _ => rfl) ?_
      exact v_zret (by decide) rfl h
    · replace h := h.2 hc
      refine ev_n 1 (fun _ => rfl) ?_
      refine ev_go rfl (w_gI rfl) ?_
      refine ev_tsw rfl (fun hc => ?_) (fun t hc ht => ?_) (by decide)
      · replace h := h.1 hc
        refine ev_n 2 (fun _ => rfl) ?_
        obtain ⟨v2, σ1, hf, h⟩ := h
        refine ev_go rfl (w_callV rfl rfl rfl (Nat.le_of_ble_eq_true rfl) hf) ?_
        refine ev_n 1 (fun _ => rfl) ?_
        exact h
      · have hi := tsw_in (n := 7) hc (by decide)
        rcases (show (((σ.1 1 6)).toInt - 4).toNat = 0 ∨ (((σ.1 1 6)).toInt - 4).toNat = 1 ∨ (((σ.1 1 6)).toInt - 4).toNat = 2 ∨ (((σ.1 1 6)).toInt - 4).toNat = 3 ∨ (((σ.1 1 6)).toInt - 4).toNat = 4 ∨ (((σ.1 1 6)).toInt - 4).toNat = 5 ∨ (((σ.1 1 6)).toInt - 4).toNat = 6 by omega) with e | e | e | e | e | e | e
        · rw [e] at ht
          cases ht
          replace h := h.2.1 (tsw_eq hc e (by decide))
          refine ev_n 2 (fun _ => rfl) ?_
          obtain ⟨v4, σ3, hf, h⟩ := h
          refine ev_go rfl (w_callV rfl rfl (kb_0 hb) (Nat.le_of_ble_eq_true rfl) hf) ?_
          refine ev_n 2 (fun _ => rfl) ?_
          exact h
        · rw [e] at ht
          cases ht
          replace h := h.2.2.1 (tsw_eq hc e (by decide))
          refine ev_n 2 (fun _ => rfl) ?_
          obtain ⟨v6, σ5, hf, h⟩ := h
          refine ev_go rfl (w_callV rfl rfl rfl (Nat.le_of_ble_eq_true rfl) hf) ?_
          refine ev_n 1 (fun _ => rfl) ?_
          exact h
        · rw [e] at ht
          cases ht
          replace h := h.2.2.2.1 (tsw_eq hc e (by decide))
          refine ev_n 2 (fun _ => rfl) ?_
          obtain ⟨v8, σ7, hf, h⟩ := h
          refine ev_go rfl (w_callV rfl rfl rfl (Nat.le_of_ble_eq_true rfl) hf) ?_
          refine ev_n 1 (fun _ => rfl) ?_
          exact h
        · rw [e] at ht
          cases ht
          replace h := h.2.2.2.2.1 (tsw_eq hc e (by decide))
          refine ev_n 2 (fun _ => rfl) ?_
          obtain ⟨v10, σ9, hf, h⟩ := h
          refine ev_go rfl (w_callV rfl rfl (kb_0 hb) (Nat.le_of_ble_eq_true rfl) hf) ?_
          refine ev_n 2 (fun _ => rfl) ?_
          exact h
        · rw [e] at ht
          cases ht
          replace h := h.2.2.2.2.2.1 (tsw_eq hc e (by decide))
          refine ev_n 2 (fun _ => rfl) ?_
          obtain ⟨v12, σ11, hf, h⟩ := h
          refine ev_go rfl (w_callV rfl rfl rfl (Nat.le_of_ble_eq_true rfl) hf) ?_
          refine ev_n 1 (fun _ => rfl) ?_
          exact h
        · rw [e] at ht
          cases ht
          replace h := h.2.2.2.2.2.2.1 (tsw_eq hc e (by decide))
          refine ev_n 2 (fun _ => rfl) ?_
          obtain ⟨v14, σ13, hf, h⟩ := h
          refine ev_go rfl (w_callV rfl rfl (kb_0 hb) (Nat.le_of_ble_eq_true rfl) hf) ?_
          refine ev_n 2 (fun _ => rfl) ?_
          exact h
        · rw [e] at ht
          cases ht
          replace h := h.2.2.2.2.2.2.2 (tsw_eq hc e (by decide))
          refine ev_n 2 (fun _ => rfl) ?_
          obtain ⟨v16, σ15, hf, h⟩ := h
          refine ev_go rfl (w_callV rfl rfl (kb_0 hb) (Nat.le_of_ble_eq_true rfl) hf) ?_
          refine ev_n 2 (fun _ => rfl) ?_
          exact h
set_option maxRecDepth 20000 in
theorem e_X0_readFrom_110 {b : Nat} {x2 : Int32} {x3 : Int32} {σ : St_} {out : Out_} (hb : isB b) (h : ((x3 = 0 → out = (some (.int (0 : Int32)), σ)) ∧ (¬ (x3 = 0) → (∃ (v2 : Int32) (σ1 : St_), f_X8_take KC [.ref 1, .int (59 : Int32)] σ = some (some (.int v2), σ1) ∧ ((v2 = 0 → out = (some (.int (0 : Int32)), σ1)) ∧ (¬ (v2 = 0) → Ev_ (P_X0_readFrom KC) 6 [some (.ref b), some (.ref 1), some (.int (x2 + 1)), none] [] (sI_ σ1 b 13 ((σ1.1 b 13) + (1 : Int32))) out)))))) : Ev_ (P_X0_readFrom KC) 110 [some (.ref b), some (.ref 1), some (.int x2), some (.int x3)] [] σ out := by
  refine ev_n 1 (fun _ => rfl) ?_
  refine ev_if (c := x3 = 0) rfl (fun _ => rfl) (fun hc => ?_) (fun hc => ?_)
  · replace h := h.1 hc
    refine ev_n 1 (fun _ => rfl) ?_
    exact v_zret (by decide) rfl h
  · replace h := h.2 hc
    refine ev_n 2 (fun _ => rfl) ?_
    obtain ⟨v2, σ1, hf, h⟩ := h
    refine ev_go rfl (w_callV rfl rfl rfl (Nat.le_of_ble_eq_true rfl) hf) ?_
    refine ev_if (c := v2 = 0) rfl (fun _ => rfl) (fun hc => ?_) (fun hc => ?_)
    · replace h := h.1 hc
      refine ev_n 1 (fun _ => rfl) ?_
      exact v_zret (by decide) rfl h
    · replace h := h.2 hc
      refine ev_n 2 (fun _ => rfl) ?_
      refine ev_go rfl (w_gI (kb_0 hb)) ?_
      refine ev_n 2 (fun _ => rfl) ?_
      refine ev_go rfl (w_pI (kb_0 hb)) ?_
      refine ev_n 2 (fun _ => rfl) ?_
      exact h
theorem m_X0_readFrom : ∀ pc o, (P_X0_readFrom KC).lookup pc = some o → Mon_ o := all_mon (a_X0_readFrom (l := launch0) (E := EC0) EC0_ok)
theorem z_X0_readFrom {b : Nat} {σ : St_} {out : Out_} (h : Ev_ (P_X0_readFrom KC) 0 [some (.ref b), some (.ref 1), none, none] [] σ out) : f_X0_readFrom KC [.ref b, .ref 1] σ = some out := fn_eq m_X0_readFrom rfl h
set_option maxRecDepth 20000 in
theorem e_X0_cutUp_0 {x0 : Int32} {x1 : Int32} {σ : St_} {out : Out_}  (h : (((1 : Int32) ≤ x1 → (¬ x1 = 0) ∧ out = (some (.int (((x0 + x1) - (1 : Int32)) / x1)), σ)) ∧ (¬ ((1 : Int32) ≤ x1) → out = (some (.int (0 : Int32)), σ)))) : Ev_ (P_X0_cutUp KC) 0 [some (.int x0), some (.int x1)] [] σ out := by
  refine ev_n 2 (fun _ => rfl) ?_
  refine ev_if (c := (1 : Int32) ≤ x1) rfl (fun _ => rfl) (fun hc => ?_) (fun hc => ?_)
  · replace h := h.1 hc
    refine ev_n 6 (fun _ => rfl) ?_
    obtain ⟨h0, h⟩ := h
    refine ev_go rfl (w_div h0) ?_
    exact ev_ret rfl (fun _ => rfl) h
  · replace h := h.2 hc
    refine ev_n 2 (fun _ => rfl) ?_
    exact ev_ret rfl (fun _ => rfl) h
theorem m_X0_cutUp : ∀ pc o, (P_X0_cutUp KC).lookup pc = some o → Mon_ o := all_mon (a_X0_cutUp (l := launch0) (E := EC0) EC0_ok)
theorem z_X0_cutUp {x0 : Int32} {x1 : Int32} {σ : St_} {out : Out_} (h : Ev_ (P_X0_cutUp KC) 0 [some (.int x0), some (.int x1)] [] σ out) : f_X0_cutUp KC [.int x0, .int x1] σ = some out := fn_eq m_X0_cutUp rfl h
set_option maxRecDepth 20000 in
theorem e_X0_readTime_0 {b : Nat} {x1 : Int32} {x2 : Int32} {σ : St_} {out : Out_} (hb : isB b) (h : (vpin_ x2 16 = true) ∧ (vpin_ x1 9 = true) ∧ (∃ (v2 : Int32) (σ1 : St_), f_X0_cutUp KC [.int (σ.1 (b + 2) (Int32.toNatClampNeg x2)), .int (σ.1 (b + 23) (Int32.toNatClampNeg x1))] σ = some (some (.int v2), σ1) ∧ out = (some (.int v2), σ1))) : Ev_ (P_X0_readTime KC) 0 [some (.ref b), some (.int x1), some (.int x2)] [] σ out := by
  refine ev_n 1 (fun _ => rfl) ?_
  refine ev_go rfl (w_gF (kb_0 hb) (kb_r1 hb)) ?_
  refine ev_n 1 (fun _ => rfl) ?_
  obtain ⟨h0, h⟩ := h
  refine ev_go rfl (w_iald (kb_k1 hb) h0) ?_
  refine ev_n 1 (fun _ => rfl) ?_
  refine ev_go rfl (w_gF (kb_0 hb) (kb_r6 hb)) ?_
  refine ev_n 1 (fun _ => rfl) ?_
  obtain ⟨h0, h⟩ := h
  refine ev_go rfl (w_iald (kb_k6 hb) h0) ?_
  obtain ⟨v2, σ1, hf, h⟩ := h
  refine ev_go rfl (w_callS ⟨Nat.le_of_ble_eq_true rfl, Nat.le_of_ble_eq_true rfl⟩ hf) ?_
  exact ev_ret rfl (fun _ => rfl) h
theorem m_X0_readTime : ∀ pc o, (P_X0_readTime KC).lookup pc = some o → Mon_ o := all_mon (a_X0_readTime (l := launch0) (E := EC0) EC0_ok)
theorem z_X0_readTime {b : Nat} {x1 : Int32} {x2 : Int32} {σ : St_} {out : Out_} (h : Ev_ (P_X0_readTime KC) 0 [some (.ref b), some (.int x1), some (.int x2)] [] σ out) : f_X0_readTime KC [.ref b, .int x1, .int x2] σ = some out := fn_eq m_X0_readTime rfl h
set_option maxRecDepth 20000 in
theorem e_X0_tellTime_0 {b : Nat} {x1 : Int32} {x2 : Int32} {σ : St_} {out : Out_} (hb : isB b) (h : (vpin_ x1 16 = true) ∧ (∃ (v2 : Int32) (σ1 : St_), f_X0_cutUp KC [.int ((σ.1 (b + 2) (Int32.toNatClampNeg x1)) * x2), .int ((4 : Int32) * (σ.1 b 14))] σ = some (some (.int v2), σ1) ∧ out = (some (.int v2), σ1))) : Ev_ (P_X0_tellTime KC) 0 [some (.ref b), some (.int x1), some (.int x2)] [] σ out := by
  refine ev_n 1 (fun _ => rfl) ?_
  refine ev_go rfl (w_gF (kb_0 hb) (kb_r1 hb)) ?_
  refine ev_n 1 (fun _ => rfl) ?_
  obtain ⟨h0, h⟩ := h
  refine ev_go rfl (w_iald (kb_k1 hb) h0) ?_
  refine ev_n 4 (fun _ => rfl) ?_
  refine ev_go rfl (w_gI (kb_0 hb)) ?_
  refine ev_n 1 (fun _ => rfl) ?_
  obtain ⟨v2, σ1, hf, h⟩ := h
  refine ev_go rfl (w_callS ⟨Nat.le_of_ble_eq_true rfl, Nat.le_of_ble_eq_true rfl⟩ hf) ?_
  exact ev_ret rfl (fun _ => rfl) h
theorem m_X0_tellTime : ∀ pc o, (P_X0_tellTime KC).lookup pc = some o → Mon_ o := all_mon (a_X0_tellTime (l := launch0) (E := EC0) EC0_ok)
theorem z_X0_tellTime {b : Nat} {x1 : Int32} {x2 : Int32} {σ : St_} {out : Out_} (h : Ev_ (P_X0_tellTime KC) 0 [some (.ref b), some (.int x1), some (.int x2)] [] σ out) : f_X0_tellTime KC [.ref b, .int x1, .int x2] σ = some out := fn_eq m_X0_tellTime rfl h
set_option maxRecDepth 20000 in
theorem e_X0_lackAt_0 {b : Nat} {x1 : Int32} {q2 n2 : Nat} {x3 : Int32} {σ : St_} {out : Out_} (hb : isB b) (hq2 : KC.1 q2 = (14, n2)) (h : Ev_ (P_X0_lackAt KC) 6 [some (.ref b), some (.int x1), some (.ref q2), some (.int x3), some (.int (0 : Int32)), some (.int (0 : Int32))] [] σ out) : Ev_ (P_X0_lackAt KC) 0 [some (.ref b), some (.int x1), some (.ref q2), some (.int x3), none, none] [] σ out := by
  refine ev_n 4 (fun _ => rfl) ?_
  exact h
set_option maxRecDepth 20000 in
theorem e_X0_lackAt_6 {b : Nat} {x1 : Int32} {q2 n2 : Nat} {x3 : Int32} {x4 : Int32} {x5 : Int32} {σ : St_} {out : Out_} (hb : isB b) (hq2 : KC.1 q2 = (14, n2)) (h : ((x1 ≤ x5 → out = (some (.int (x4 / (10 : Int32))), σ)) ∧ (¬ (x1 ≤ x5) → (vpin_ x1 16 = true) ∧ (vpin_ x5 16 = true) ∧ (((σ.1 (b + 6 + Int32.toNatClampNeg x1) (Int32.toNatClampNeg x5)) ≤ 0 → Ev_ (P_X0_lackAt KC) 6 [some (.ref b), some (.int x1), some (.ref q2), some (.int x3), some (.int x4), some (.int (x5 + 1))] [] σ out) ∧ (¬ ((σ.1 (b + 6 + Int32.toNatClampNeg x1) (Int32.toNatClampNeg x5)) ≤ 0) → (vpin_ x1 16 = true) ∧ (vpin_ x5 16 = true) ∧ (vpin_ (x3 + x5) n2 = true) ∧ Ev_ (P_X0_lackAt KC) 6 [some (.ref b), some (.int x1), some (.ref q2), some (.int x3), some (.int (x4 + ((σ.1 (b + 6 + Int32.toNatClampNeg x1) (Int32.toNatClampNeg x5)) * ((1000000 : Int32) - (σ.1 q2 (Int32.toNatClampNeg (x3 + x5))))))), some (.int (x5 + 1))] [] σ out))))) : Ev_ (P_X0_lackAt KC) 6 [some (.ref b), some (.int x1), some (.ref q2), some (.int x3), some (.int x4), some (.int x5)] [] σ out := by
  refine ev_n 2 (fun _ => rfl) ?_
  refine ev_if (c := x1 ≤ x5) rfl (fun _ => rfl) (fun hc => ?_) (fun hc => ?_)
  · replace h := h.1 hc
    refine ev_n 2 (fun _ => rfl) ?_
    refine ev_go rfl (w_div (by decide)) ?_
    exact ev_ret rfl (fun _ => rfl) h
  · replace h := h.2 hc
    refine ev_n 1 (fun _ => rfl) ?_
    refine ev_go rfl (w_gF (kb_0 hb) (kb_r4 hb)) ?_
    refine ev_n 1 (fun _ => rfl) ?_
    obtain ⟨hv1, h⟩ := h
    refine ev_go rfl (w_aald (kb_k4 hb) (by decide) hv1 (kb_row hb _ (vpin_lt hv1))) ?_
    refine ev_n 1 (fun _ => rfl) ?_
    obtain ⟨h0, h⟩ := h
    refine ev_go rfl (w_iald (kb_rk hb _ (vpin_lt hv1)) h0) ?_
    refine ev_if (c := (σ.1 (b + 6 + Int32.toNatClampNeg x1) (Int32.toNatClampNeg x5)) ≤ 0) rfl (fun _ => rfl) (fun hc => ?_) (fun hc => ?_)
    · replace h := h.1 hc
      refine ev_n 2 (fun _ => rfl) ?_
      exact h
    · replace h := h.2 hc
      refine ev_n 2 (fun _ => rfl) ?_
      refine ev_go rfl (w_gF (kb_0 hb) (kb_r4 hb)) ?_
      refine ev_n 1 (fun _ => rfl) ?_
      obtain ⟨hv2, h⟩ := h
      refine ev_go rfl (w_aald (kb_k4 hb) (by decide) hv2 (kb_row hb _ (vpin_lt hv2))) ?_
      refine ev_n 1 (fun _ => rfl) ?_
      obtain ⟨h0, h⟩ := h
      refine ev_go rfl (w_iald (kb_rk hb _ (vpin_lt hv2)) h0) ?_
      refine ev_n 5 (fun _ => rfl) ?_
      obtain ⟨h0, h⟩ := h
      refine ev_go rfl (w_iald hq2 h0) ?_
      refine ev_n 6 (fun _ => rfl) ?_
      exact h
theorem m_X0_lackAt : ∀ pc o, (P_X0_lackAt KC).lookup pc = some o → Mon_ o := all_mon (a_X0_lackAt (l := launch0) (E := EC0) EC0_ok)
theorem z_X0_lackAt {b : Nat} {x1 : Int32} {q2 : Nat} {x3 : Int32} {σ : St_} {out : Out_} (h : Ev_ (P_X0_lackAt KC) 0 [some (.ref b), some (.int x1), some (.ref q2), some (.int x3), none, none] [] σ out) : f_X0_lackAt KC [.ref b, .int x1, .ref q2, .int x3] σ = some out := fn_eq m_X0_lackAt rfl h
set_option maxRecDepth 20000 in
theorem e_X0_partsRead_0 {b : Nat} {x1 : Int32} {x2 : Int32} {σ : St_} {out : Out_} (hb : isB b) (h : (vpin_ x1 9 = true) ∧ out = (some (.int ((((1000000 : Int32) - (x2 / (2 : Int32))) * ((10 : Int32) - (σ.1 (b + 27) (Int32.toNatClampNeg x1)))) / (10 : Int32))), σ)) : Ev_ (P_X0_partsRead KC) 0 [some (.ref b), some (.int x1), some (.int x2)] [] σ out := by
  refine ev_n 3 (fun _ => rfl) ?_
  refine ev_go rfl (w_div (by decide)) ?_
  refine ev_n 3 (fun _ => rfl) ?_
  refine ev_go rfl (w_gF (kb_0 hb) (kb_r10 hb)) ?_
  refine ev_n 1 (fun _ => rfl) ?_
  obtain ⟨h0, h⟩ := h
  refine ev_go rfl (w_iald (kb_k10 hb) h0) ?_
  refine ev_n 3 (fun _ => rfl) ?_
  refine ev_go rfl (w_div (by decide)) ?_
  exact ev_ret rfl (fun _ => rfl) h
theorem m_X0_partsRead : ∀ pc o, (P_X0_partsRead KC).lookup pc = some o → Mon_ o := all_mon (a_X0_partsRead (l := launch0) (E := EC0) EC0_ok)
theorem z_X0_partsRead {b : Nat} {x1 : Int32} {x2 : Int32} {σ : St_} {out : Out_} (h : Ev_ (P_X0_partsRead KC) 0 [some (.ref b), some (.int x1), some (.int x2)] [] σ out) : f_X0_partsRead KC [.ref b, .int x1, .int x2] σ = some out := fn_eq m_X0_partsRead rfl h
set_option maxRecDepth 20000 in
theorem e_X0_partsTold_0 {b : Nat} {x1 : Int32} {x2 : Int32} {x3 : Int32} {x4 : Int32} {σ : St_} {out : Out_} (hb : isB b) (h : (vpin_ x2 9 = true) ∧ (vpin_ x4 9 = true) ∧ out = (some (.int ((((((x1 * (σ.1 (b + 24) (Int32.toNatClampNeg x2))) / (10 : Int32)) * x3) / (4 : Int32)) * (σ.1 (b + 25) (Int32.toNatClampNeg x4))) / (10 : Int32))), σ)) : Ev_ (P_X0_partsTold KC) 0 [some (.ref b), some (.int x1), some (.int x2), some (.int x3), some (.int x4), none] [] σ out := by
  refine ev_n 2 (fun _ => rfl) ?_
  refine ev_go rfl (w_gF (kb_0 hb) (kb_r7 hb)) ?_
  refine ev_n 1 (fun _ => rfl) ?_
  obtain ⟨h0, h⟩ := h
  refine ev_go rfl (w_iald (kb_k7 hb) h0) ?_
  refine ev_n 2 (fun _ => rfl) ?_
  refine ev_go rfl (w_div (by decide)) ?_
  refine ev_n 3 (fun _ => rfl) ?_
  refine ev_go rfl (w_div (by decide)) ?_
  refine ev_n 3 (fun _ => rfl) ?_
  refine ev_go rfl (w_gF (kb_0 hb) (kb_r8 hb)) ?_
  refine ev_n 1 (fun _ => rfl) ?_
  obtain ⟨h0, h⟩ := h
  refine ev_go rfl (w_iald (kb_k8 hb) h0) ?_
  refine ev_n 2 (fun _ => rfl) ?_
  refine ev_go rfl (w_div (by decide)) ?_
  exact ev_ret rfl (fun _ => rfl) h
theorem m_X0_partsTold : ∀ pc o, (P_X0_partsTold KC).lookup pc = some o → Mon_ o := all_mon (a_X0_partsTold (l := launch0) (E := EC0) EC0_ok)
theorem z_X0_partsTold {b : Nat} {x1 : Int32} {x2 : Int32} {x3 : Int32} {x4 : Int32} {σ : St_} {out : Out_} (h : Ev_ (P_X0_partsTold KC) 0 [some (.ref b), some (.int x1), some (.int x2), some (.int x3), some (.int x4), none] [] σ out) : f_X0_partsTold KC [.ref b, .int x1, .int x2, .int x3, .int x4] σ = some out := fn_eq m_X0_partsTold rfl h
set_option maxRecDepth 20000 in
theorem e_X0_retold_0 {b : Nat} {x1 : Int32} {σ : St_} {out : Out_} (hb : isB b) (h : out = (some (.int ((x1 * (σ.1 b 15)) / (10 : Int32))), σ)) : Ev_ (P_X0_retold KC) 0 [some (.ref b), some (.int x1)] [] σ out := by
  refine ev_n 2 (fun _ => rfl) ?_
  refine ev_go rfl (w_gI (kb_0 hb)) ?_
  refine ev_n 2 (fun _ => rfl) ?_
  refine ev_go rfl (w_div (by decide)) ?_
  exact ev_ret rfl (fun _ => rfl) h
theorem m_X0_retold : ∀ pc o, (P_X0_retold KC).lookup pc = some o → Mon_ o := all_mon (a_X0_retold (l := launch0) (E := EC0) EC0_ok)
theorem z_X0_retold {b : Nat} {x1 : Int32} {σ : St_} {out : Out_} (h : Ev_ (P_X0_retold KC) 0 [some (.ref b), some (.int x1)] [] σ out) : f_X0_retold KC [.ref b, .int x1] σ = some out := fn_eq m_X0_retold rfl h
set_option maxRecDepth 20000 in
theorem e_X0_ofMillion_0 {x0 : Int32} {x1 : Int32} {σ : St_} {out : Out_}  (h : out = (some (.int (Int64.toInt32 (((Int32.toInt64 x0) * (Int32.toInt64 x1)) / (1000000 : Int64)))), σ)) : Ev_ (P_X0_ofMillion KC) 0 [some (.int x0), some (.int x1)] [] σ out := by
  refine ev_n 6 (fun _ => rfl) ?_
  refine ev_go rfl (w_ldiv (by decide)) ?_
  refine ev_n 1 (fun _ => rfl) ?_
  exact ev_ret rfl (fun _ => rfl) h
theorem m_X0_ofMillion : ∀ pc o, (P_X0_ofMillion KC).lookup pc = some o → Mon_ o := all_mon (a_X0_ofMillion (l := launch0) (E := EC0) EC0_ok)
theorem z_X0_ofMillion {x0 : Int32} {x1 : Int32} {σ : St_} {out : Out_} (h : Ev_ (P_X0_ofMillion KC) 0 [some (.int x0), some (.int x1)] [] σ out) : f_X0_ofMillion KC [.int x0, .int x1] σ = some out := fn_eq m_X0_ofMillion rfl h
set_option maxRecDepth 20000 in
theorem e_X1_readAlone_0 {b : Nat} {x2 : Int32} {σ : St_} {out : Out_} (hb : isB b) (h : (vpin_ x2 9 = true) ∧ Ev_ (P_X1_readAlone KC) 16 [some (.ref 133), some (.ref b), some (.int x2), some (.int (if (240 : Int32) < (σ.1 (b + 26) (Int32.toNatClampNeg x2)) then (240 : Int32) else (σ.1 (b + 26) (Int32.toNatClampNeg x2)))), some (.int (0 : Int32)), none, none, none] [] σ out) : Ev_ (P_X1_readAlone KC) 0 [some (.ref 133), some (.ref b), some (.int x2), none, none, none, none, none] [] σ out := by
  refine ev_n 1 (fun _ => rfl) ?_
  refine ev_go rfl (w_gF (kb_0 hb) (kb_r9 hb)) ?_
  refine ev_n 1 (fun _ => rfl) ?_
  obtain ⟨h0, h⟩ := h
  refine ev_go rfl (w_iald (kb_k9 hb) h0) ?_
  refine ev_n 1 (fun _ => rfl) ?_
  refine ev_go rfl (w_min (Nat.le_of_ble_eq_true rfl)) ?_
  refine ev_n 3 (fun _ => rfl) ?_
  exact h
set_option maxRecDepth 20000 in
theorem e_X1_readAlone_16 {b : Nat} {x2 : Int32} {x3 : Int32} {x4 : Int32} {σ : St_} {out : Out_} (hb : isB b) (h : ((x3 < x4 → Ev_ (P_X1_readAlone KC) 47 [some (.ref 133), some (.ref b), some (.int x2), some (.int x3), some (.int (0 : Int32)), none, none, none] [] σ out) ∧ (¬ (x3 < x4) → (vpin_ x4 241 = true) ∧ (vpin_ x4 241 = true) ∧ Ev_ (P_X1_readAlone KC) 16 [some (.ref 133), some (.ref b), some (.int x2), some (.int x3), some (.int (x4 + 1)), none, none, none] [] (sI_ (sI_ σ 134 (Int32.toNatClampNeg x4) (0 : Int32)) 135 (Int32.toNatClampNeg x4) (0 : Int32)) out))) : Ev_ (P_X1_readAlone KC) 16 [some (.ref 133), some (.ref b), some (.int x2), some (.int x3), some (.int x4), none, none, none] [] σ out := by
  refine ev_n 2 (fun _ => rfl) ?_
  refine ev_if (c := x3 < x4) rfl (fun _ => rfl) (fun hc => ?_) (fun hc => ?_)
  · replace h := h.1 hc
    refine ev_n 2 (fun _ => rfl) ?_
    exact h
  · replace h := h.2 hc
    refine ev_n 1 (fun _ => rfl) ?_
    refine ev_go rfl (w_gF rfl rfl) ?_
    refine ev_n 2 (fun _ => rfl) ?_
    obtain ⟨h0, h⟩ := h
    refine ev_go rfl (w_iast rfl h0) ?_
    refine ev_n 1 (fun _ => rfl) ?_
    refine ev_go rfl (w_gF rfl rfl) ?_
    refine ev_n 2 (fun _ => rfl) ?_
    obtain ⟨h0, h⟩ := h
    refine ev_go rfl (w_iast rfl h0) ?_
    refine ev_n 2 (fun _ => rfl) ?_
    exact h
set_option maxRecDepth 20000 in
theorem e_X1_readAlone_47 {b : Nat} {x2 : Int32} {x3 : Int32} {x4 : Int32} {σ : St_} {out : Out_} (hb : isB b) (h : (((σ.1 b 11) ≤ x4 → (vpin_ x3 241 = true) ∧ (vpin_ x3 241 = true) ∧ out = (none, (sI_ (sI_ σ 133 0 (σ.1 134 (Int32.toNatClampNeg x3))) 133 1 ((sI_ σ 133 0 (σ.1 134 (Int32.toNatClampNeg x3))).1 135 (Int32.toNatClampNeg x3))))) ∧ (¬ ((σ.1 b 11) ≤ x4) → (∃ (v2 : Int32) (σ1 : St_), f_X0_readTime KC [.ref b, .int x2, .int x4] σ = some (some (.int v2), σ1) ∧ Ev_ (P_X1_readAlone KC) 68 [some (.ref 133), some (.ref b), some (.int x2), some (.int x3), some (.int x4), some (.int v2), some (.int x3), none] [] σ1 out)))) : Ev_ (P_X1_readAlone KC) 47 [some (.ref 133), some (.ref b), some (.int x2), some (.int x3), some (.int x4), none, none, none] [] σ out := by
  refine ev_n 2 (fun _ => rfl) ?_
  refine ev_go rfl (w_gI (kb_0 hb)) ?_
  refine ev_if (c := (σ.1 b 11) ≤ x4) rfl (fun _ => rfl) (fun hc => ?_) (fun hc => ?_)
  · replace h := h.1 hc
    refine ev_n 2 (fun _ => rfl) ?_
    refine ev_go rfl (w_gF rfl rfl) ?_
    refine ev_n 1 (fun _ => rfl) ?_
    obtain ⟨h0, h⟩ := h
    refine ev_go rfl (w_iald rfl h0) ?_
    refine ev_go rfl (w_pI rfl) ?_
    refine ev_n 2 (fun _ => rfl) ?_
    refine ev_go rfl (w_gF rfl rfl) ?_
    refine ev_n 1 (fun _ => rfl) ?_
    obtain ⟨h0, h⟩ := h
    refine ev_go rfl (w_iald rfl h0) ?_
    refine ev_go rfl (w_pI rfl) ?_
    exact ev_ret rfl (fun _ => rfl) h
  · replace h := h.2 hc
    refine ev_n 3 (fun _ => rfl) ?_
    obtain ⟨v2, σ1, hf, h⟩ := h
    refine ev_go rfl (w_callV rfl rfl (kb_0 hb) (Nat.le_of_ble_eq_true rfl) hf) ?_
    refine ev_n 3 (fun _ => rfl) ?_
    exact h
set_option maxRecDepth 20000 in
theorem e_X1_readAlone_68 {b : Nat} {x2 : Int32} {x3 : Int32} {x4 : Int32} {x5 : Int32} {x6 : Int32} {σ : St_} {out : Out_} (hb : isB b) (h : ((x6 < x5 → Ev_ (P_X1_readAlone KC) 47 [some (.ref 133), some (.ref b), some (.int x2), some (.int x3), some (.int (x4 + 1)), none, none, none] [] σ out) ∧ (¬ (x6 < x5) → (vpin_ (x6 - x5) 241 = true) ∧ (vpin_ x4 16 = true) ∧ (vpin_ x6 241 = true) ∧ ((((σ.1 134 (Int32.toNatClampNeg (x6 - x5))) + (σ.1 (b + 3) (Int32.toNatClampNeg x4))) ≤ (σ.1 134 (Int32.toNatClampNeg x6)) → Ev_ (P_X1_readAlone KC) 68 [some (.ref 133), some (.ref b), some (.int x2), some (.int x3), some (.int x4), some (.int x5), some (.int (x6 + (-1))), none] [] σ out) ∧ (¬ (((σ.1 134 (Int32.toNatClampNeg (x6 - x5))) + (σ.1 (b + 3) (Int32.toNatClampNeg x4))) ≤ (σ.1 134 (Int32.toNatClampNeg x6))) → (vpin_ x6 241 = true) ∧ (vpin_ (x6 - x5) 241 = true) ∧ (vpin_ x6 241 = true) ∧ Ev_ (P_X1_readAlone KC) 68 [some (.ref 133), some (.ref b), some (.int x2), some (.int x3), some (.int x4), some (.int x5), some (.int (x6 + (-1))), none] [] (sI_ (sI_ σ 134 (Int32.toNatClampNeg x6) ((σ.1 134 (Int32.toNatClampNeg (x6 - x5))) + (σ.1 (b + 3) (Int32.toNatClampNeg x4)))) 135 (Int32.toNatClampNeg x6) (((sI_ σ 134 (Int32.toNatClampNeg x6) ((σ.1 134 (Int32.toNatClampNeg (x6 - x5))) + (σ.1 (b + 3) (Int32.toNatClampNeg x4)))).1 135 (Int32.toNatClampNeg (x6 - x5))) ||| ((1 : Int32) <<< (x4 &&& 31)))) out))))) : Ev_ (P_X1_readAlone KC) 68 [some (.ref 133), some (.ref b), some (.int x2), some (.int x3), some (.int x4), some (.int x5), some (.int x6), none] [] σ out := by
  refine ev_n 2 (fun _ => rfl) ?_
  refine ev_if (c := x6 < x5) rfl (fun _ => rfl) (fun hc => ?_) (fun hc => ?_)
  · replace h := h.1 hc
    refine ev_n 2 (fun _ => rfl) ?_
    exact h
  · replace h := h.2 hc
    refine ev_n 1 (fun _ => rfl) ?_
    refine ev_go rfl (w_gF rfl rfl) ?_
    refine ev_n 3 (fun _ => rfl) ?_
    obtain ⟨h0, h⟩ := h
    refine ev_go rfl (w_iald rfl h0) ?_
    refine ev_n 1 (fun _ => rfl) ?_
    refine ev_go rfl (w_gF (kb_0 hb) (kb_r2 hb)) ?_
    refine ev_n 1 (fun _ => rfl) ?_
    obtain ⟨h0, h⟩ := h
    refine ev_go rfl (w_iald (kb_k2 hb) h0) ?_
    refine ev_n 4 (fun _ => rfl) ?_
    refine ev_go rfl (w_gF rfl rfl) ?_
    refine ev_n 1 (fun _ => rfl) ?_
    obtain ⟨h0, h⟩ := h
    refine ev_go rfl (w_iald rfl h0) ?_
    refine ev_if (c := ((σ.1 134 (Int32.toNatClampNeg (x6 - x5))) + (σ.1 (b + 3) (Int32.toNatClampNeg x4))) ≤ (σ.1 134 (Int32.toNatClampNeg x6))) rfl (fun _ => rfl) (fun hc => ?_) (fun hc => ?_)
    · replace h := h.1 hc
      refine ev_n 2 (fun _ => rfl) ?_
      exact h
    · replace h := h.2 hc
      refine ev_n 1 (fun _ => rfl) ?_
      refine ev_go rfl (w_gF rfl rfl) ?_
      refine ev_n 2 (fun _ => rfl) ?_
      obtain ⟨h0, h⟩ := h
      refine ev_go rfl (w_iast rfl h0) ?_
      refine ev_n 1 (fun _ => rfl) ?_
      refine ev_go rfl (w_gF rfl rfl) ?_
      refine ev_n 2 (fun _ => rfl) ?_
      refine ev_go rfl (w_gF rfl rfl) ?_
      refine ev_n 3 (fun _ => rfl) ?_
      obtain ⟨h0, h⟩ := h
      refine ev_go rfl (w_iald rfl h0) ?_
      refine ev_n 4 (fun _ => rfl) ?_
      obtain ⟨h0, h⟩ := h
      refine ev_go rfl (w_iast rfl h0) ?_
      refine ev_n 2 (fun _ => rfl) ?_
      exact h
theorem m_X1_readAlone : ∀ pc o, (P_X1_readAlone KC).lookup pc = some o → Mon_ o := all_mon (a_X1_readAlone (l := launch0) (E := EC0) EC0_ok)
theorem z_X1_readAlone {b : Nat} {x2 : Int32} {σ : St_} {out : Out_} (h : Ev_ (P_X1_readAlone KC) 0 [some (.ref 133), some (.ref b), some (.int x2), none, none, none, none, none] [] σ out) : f_X1_readAlone KC [.ref 133, .ref b, .int x2] σ = some out := fn_eq m_X1_readAlone rfl h
set_option maxRecDepth 20000 in
theorem e_X1_tryLeaving_0 {x1 : Int32} {x2 : Int32} {x3 : Int32} {x4 : Int32} {x5 : Int32} {r_X1_tryLeaving : Fn_} {σ : St_} {out : Out_}  (h : ((x5 < (σ.1 133 0) → ((0 ≤ x1 → (vpin_ x1 16 = true) ∧ ((x2 < (σ.1 137 (Int32.toNatClampNeg x1)) → Ev_ (P_X1_tryLeaving KC r_X1_tryLeaving) 64 [some (.ref 133), some (.int x1), some (.int x2), some (.int x3), some (.int x4), some (.int x5)] [] σ out) ∧ (¬ (x2 < (σ.1 137 (Int32.toNatClampNeg x1))) → (vpin_ x1 16 = true) ∧ (vpin_ x1 16 = true) ∧ (∃ (σ1 : St_), r_X1_tryLeaving [.ref 133, .int (x1 - (1 : Int32)), .int (x2 - (σ.1 137 (Int32.toNatClampNeg x1))), .int (x3 ||| (σ.1 138 (Int32.toNatClampNeg x1))), .int x4, .int x5] σ = some (none, σ1) ∧ Ev_ (P_X1_tryLeaving KC r_X1_tryLeaving) 64 [some (.ref 133), some (.int x1), some (.int x2), some (.int x3), some (.int x4), some (.int x5)] [] σ1 out)))) ∧ (¬ (0 ≤ x1) → out = (none, (sI_ (sI_ σ 133 0 x5) 133 1 x4))))) ∧ (¬ (x5 < (σ.1 133 0)) → out = (none, σ)))) : Ev_ (P_X1_tryLeaving KC r_X1_tryLeaving) 0 [some (.ref 133), some (.int x1), some (.int x2), some (.int x3), some (.int x4), some (.int x5)] [] σ out := by
  refine ev_n 2 (fun _ => rfl) ?_
  refine ev_go rfl (w_gI rfl) ?_
  refine ev_if (c := x5 < (σ.1 133 0)) rfl (fun _ => rfl) (fun hc => ?_) (fun hc => ?_)
  · replace h := h.1 hc
    refine ev_n 1 (fun _ => rfl) ?_
    refine ev_if (c := 0 ≤ x1) rfl (fun _ => rfl) (fun hc => ?_) (fun hc => ?_)
    · replace h := h.1 hc
      refine ev_n 1 (fun _ => rfl) ?_
      refine ev_go rfl (w_gF rfl rfl) ?_
      refine ev_n 1 (fun _ => rfl) ?_
      obtain ⟨h0, h⟩ := h
      refine ev_go rfl (w_iald rfl h0) ?_
      refine ev_n 1 (fun _ => rfl) ?_
      refine ev_if (c := x2 < (σ.1 137 (Int32.toNatClampNeg x1))) rfl (fun _ => rfl) (fun hc => ?_) (fun hc => ?_)
      · replace h := h.1 hc
        exact h
      · replace h := h.2 hc
        refine ev_n 6 (fun _ => rfl) ?_
        refine ev_go rfl (w_gF rfl rfl) ?_
        refine ev_n 1 (fun _ => rfl) ?_
        obtain ⟨h0, h⟩ := h
        refine ev_go rfl (w_iald rfl h0) ?_
        refine ev_n 3 (fun _ => rfl) ?_
        refine ev_go rfl (w_gF rfl rfl) ?_
        refine ev_n 1 (fun _ => rfl) ?_
        obtain ⟨h0, h⟩ := h
        refine ev_go rfl (w_iald rfl h0) ?_
        refine ev_n 3 (fun _ => rfl) ?_
        obtain ⟨σ1, hf, h⟩ := h
        refine ev_go rfl (w_callV rfl rfl rfl (Nat.le_of_ble_eq_true rfl) hf) ?_
        exact h
    · replace h := h.2 hc
      refine ev_n 2 (fun _ => rfl) ?_
      refine ev_go rfl (w_pI rfl) ?_
      refine ev_n 2 (fun _ => rfl) ?_
      refine ev_go rfl (w_pI rfl) ?_
      exact ev_ret rfl (fun _ => rfl) h
  · replace h := h.2 hc
    exact ev_ret rfl (fun _ => rfl) h
set_option maxRecDepth 20000 in
theorem e_X1_tryLeaving_64 {x1 : Int32} {x2 : Int32} {x3 : Int32} {x4 : Int32} {x5 : Int32} {r_X1_tryLeaving : Fn_} {σ : St_} {out : Out_}  (h : ((((x3 >>> (x1 &&& 31)) &&& (1 : Int32)) = 0 → (∃ b1, σ.2.2 133 8 = some b1 ∧ isB b1 ∧ (vpin_ x1 16 = true) ∧ (∃ (σ2 : St_), r_X1_tryLeaving [.ref 133, .int (x1 - (1 : Int32)), .int x2, .int x3, .int (x4 ||| ((1 : Int32) <<< (x1 &&& 31))), .int (x5 + (σ.1 (b1 + 3) (Int32.toNatClampNeg x1)))] σ = some (none, σ2) ∧ out = (none, σ2)))) ∧ (¬ (((x3 >>> (x1 &&& 31)) &&& (1 : Int32)) = 0) → out = (none, σ)))) : Ev_ (P_X1_tryLeaving KC r_X1_tryLeaving) 64 [some (.ref 133), some (.int x1), some (.int x2), some (.int x3), some (.int x4), some (.int x5)] [] σ out := by
  refine ev_n 5 (fun _ => rfl) ?_
  refine ev_if (c := ((x3 >>> (x1 &&& 31)) &&& (1 : Int32)) = 0) rfl (fun _ => rfl) (fun hc => ?_) (fun hc => ?_)
  · replace h := h.1 hc
    refine ev_n 8 (fun _ => rfl) ?_
    refine ev_n 5 (fun _ => rfl) ?_
    obtain ⟨b1, eb1, hb1, h⟩ := h
    refine ev_go rfl (w_gR rfl eb1) ?_
    refine ev_go rfl (w_gF (kb_0 hb1) (kb_r2 hb1)) ?_
    refine ev_n 1 (fun _ => rfl) ?_
    obtain ⟨h0, h⟩ := h
    refine ev_go rfl (w_iald (kb_k2 hb1) h0) ?_
    refine ev_n 1 (fun _ => rfl) ?_
    obtain ⟨σ2, hf, h⟩ := h
    refine ev_go rfl (w_callV rfl rfl rfl (Nat.le_of_ble_eq_true rfl) hf) ?_
    exact ev_ret rfl (fun _ => rfl) h
  · replace h := h.2 hc
    exact ev_ret rfl (fun _ => rfl) h
theorem m_X1_tryLeaving (d : Nat) : ∀ pc o, (P_X1_tryLeaving KC (f_X1_tryLeaving KC d)).lookup pc = some o → Mon_ o := all_mon (a_X1_tryLeaving (l := launch0) (E := EC0) EC0_ok (t_X1_tryLeaving EC0_ok d))
theorem z_X1_tryLeaving {x1 : Int32} {x2 : Int32} {x3 : Int32} {x4 : Int32} {x5 : Int32} {σ : St_} {out : Out_} {d : Nat} (h : Ev_ (P_X1_tryLeaving KC (f_X1_tryLeaving KC d)) 0 [some (.ref 133), some (.int x1), some (.int x2), some (.int x3), some (.int x4), some (.int x5)] [] σ out) : f_X1_tryLeaving KC (d + 1) [.ref 133, .int x1, .int x2, .int x3, .int x4, .int x5] σ = some out := show fn_ (P_X1_tryLeaving KC (f_X1_tryLeaving KC d)) 6 [.ref 133, .int x1, .int x2, .int x3, .int x4, .int x5] σ = some out from fn_eq (m_X1_tryLeaving d) rfl h
