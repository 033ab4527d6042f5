set_option maxRecDepth 20000 in
theorem e_X12_book_0  {σ : St_} {out : Out_}  (h : (∃ (σ1 : St_), f_X12_begin KC [.ref 219, .int (1000 : Int32)] σ = some (none, σ1) ∧ (vpin_ (0 : Int32) 390 = true) ∧ (vpin_ (1 : Int32) 390 = true) ∧ (vpin_ (2 : Int32) 390 = true) ∧ (vpin_ (3 : Int32) 390 = true) ∧ Ev_ (P_X12_book KC) 44 [some (.ref 219), some (.int (0 : Int32)), none] [] (sI_ (sI_ (sI_ (sI_ (sI_ σ1 222 (Int32.toNatClampNeg (0 : Int32)) (0 : Int32)) 222 (Int32.toNatClampNeg (1 : Int32)) (0 : Int32)) 222 (Int32.toNatClampNeg (2 : Int32)) (20 : Int32)) 222 (Int32.toNatClampNeg (3 : Int32)) (8 : Int32)) 219 22 (0 : Int32)) out)) : Ev_ (P_X12_book KC) 0 [some (.ref 219), none, none] [] σ out := by
  refine ev_n 2 (fun _ => rfl) ?_
  obtain ⟨σ1, hf, h⟩ := h
  refine ev_go rfl (w_callV rfl rfl rfl (Nat.le_of_ble_eq_true rfl) hf) ?_
  refine ev_n 1 (fun _ => rfl) ?_
  refine ev_go rfl (w_gF rfl rfl) ?_
  refine ev_n 2 (fun _ => rfl) ?_
  obtain ⟨h0, h⟩ := h
  refine ev_go rfl (w_iast rfl h0) ?_
  refine ev_n 1 (fun _ => rfl) ?_
  refine ev_go rfl (w_gF rfl rfl) ?_
  refine ev_n 2 (fun _ => rfl) ?_
  obtain ⟨h0, h⟩ := h
  refine ev_go rfl (w_iast rfl h0) ?_
  refine ev_n 1 (fun _ => rfl) ?_
  refine ev_go rfl (w_gF rfl rfl) ?_
  refine ev_n 2 (fun _ => rfl) ?_
  obtain ⟨h0, h⟩ := h
  refine ev_go rfl (w_iast rfl h0) ?_
  refine ev_n 1 (fun _ => rfl) ?_
  refine ev_go rfl (w_gF rfl rfl) ?_
  refine ev_n 2 (fun _ => rfl) ?_
  obtain ⟨h0, h⟩ := h
  refine ev_go rfl (w_iast rfl h0) ?_
  refine ev_n 2 (fun _ => rfl) ?_
  refine ev_go rfl (w_pI rfl) ?_
  refine ev_n 2 (fun _ => rfl) ?_
  exact h
set_option maxRecDepth 20000 in
theorem e_X12_book_44 {x1 : Int32} {σ : St_} {out : Out_}  (h : (((σ.1 219 7) = 0 → Ev_ (P_X12_book KC) 73 [some (.ref 219), some (.int x1), some (.int (0 : Int32))] [] σ out) ∧ (¬ ((σ.1 219 7) = 0) → (∃ (v2 : Int32) (σ1 : St_), f_X12_readLine KC [.ref 219] σ = some (some (.int v2), σ1) ∧ ((v2 = 0 → out = (some (.int (((-1) : Int32) - (σ1.1 219 11))), σ1)) ∧ (¬ (v2 = 0) → Ev_ (P_X12_book KC) 44 [some (.ref 219), some (.int (x1 + 1)), none] [] σ1 out)))))) : Ev_ (P_X12_book KC) 44 [some (.ref 219), some (.int x1), none] [] σ out := by
  refine ev_n 1 (fun _ => rfl) ?_
  refine ev_go rfl (w_gI rfl) ?_
  refine ev_if (c := (σ.1 219 7) = 0) rfl (fun _ => rfl) (fun hc => ?_) (fun hc => ?_)
  · replace h := h.1 hc
    refine ev_n 2 (fun _ => rfl) ?_
    exact h
  · replace h := h.2 hc
    refine ev_n 1 (fun _ => rfl) ?_
    obtain ⟨v2, σ1, hf, h⟩ := h
    refine ev_go rfl (w_callV rfl rfl rfl (Nat.le_of_ble_eq_true rfl) hf) ?_
    refine ev_if (c := v2 = 0) rfl (fun _ => rfl) (fun hc => ?_) (fun hc => ?_)
    · replace h := h.1 hc
      refine ev_n 2 (fun _ => rfl) ?_
      refine ev_go rfl (w_gI rfl) ?_
      refine ev_n 1 (fun _ => rfl) ?_
      exact ev_ret rfl (fun _ => rfl) h
    · replace h := h.2 hc
      refine ev_n 2 (fun _ => rfl) ?_
      exact h
set_option maxRecDepth 20000 in
theorem e_X12_book_73 {x1 : Int32} {x2 : Int32} {σ : St_} {out : Out_}  (h : (((390 : Int32) ≤ x2 → Ev_ (P_X12_book KC) 100 [some (.ref 219), some (.int x1), some (.int (0 : Int32))] [] σ out) ∧ (¬ ((390 : Int32) ≤ x2) → (vpin_ x2 390 = true) ∧ (vpin_ x2 1050 = true) ∧ Ev_ (P_X12_book KC) 73 [some (.ref 219), some (.int x1), some (.int (x2 + 1))] [] (sI_ σ 221 (Int32.toNatClampNeg x2) (σ.1 222 (Int32.toNatClampNeg x2))) out))) : Ev_ (P_X12_book KC) 73 [some (.ref 219), some (.int x1), some (.int x2)] [] σ out := by
  refine ev_n 2 (fun _ => rfl) ?_
  refine ev_if (c := (390 : Int32) ≤ x2) rfl (fun _ => rfl) (fun hc => ?_) (fun hc => ?_)
  · replace h := h.1 hc
    refine ev_n 2 (fun _ => rfl) ?_
    exact h
  · replace h := h.2 hc
    refine ev_n 1 (fun _ => rfl) ?_
    refine ev_go rfl (w_gF rfl rfl) ?_
    refine ev_n 2 (fun _ => rfl) ?_
    refine ev_go rfl (w_gF rfl rfl) ?_
    refine ev_n 1 (fun _ => rfl) ?_
    obtain ⟨h0, h⟩ := h
    refine ev_go rfl (w_iald rfl h0) ?_
    obtain ⟨h0, h⟩ := h
    refine ev_go rfl (w_iast rfl h0) ?_
    refine ev_n 2 (fun _ => rfl) ?_
    exact h
set_option maxRecDepth 20000 in
theorem e_X12_book_100 {x1 : Int32} {x2 : Int32} {σ : St_} {out : Out_}  (h : (((25 : Int32) ≤ x2 → (vpin_ (390 : Int32) 1050 = true) ∧ (vpin_ (800 : Int32) 1050 = true) ∧ out = (some (.int x1), (sI_ (sI_ σ 221 (Int32.toNatClampNeg (390 : Int32)) (0 : Int32)) 221 (Int32.toNatClampNeg (800 : Int32)) (0 : Int32)))) ∧ (¬ ((25 : Int32) ≤ x2) → (vpin_ x2 25 = true) ∧ (vpin_ x2 25 = true) ∧ Ev_ (P_X12_book KC) 100 [some (.ref 219), some (.int x1), some (.int (x2 + 1))] [] (sJ_ σ 224 (Int32.toNatClampNeg x2) (σ.2.1 225 (Int32.toNatClampNeg x2))) out))) : Ev_ (P_X12_book KC) 100 [some (.ref 219), some (.int x1), some (.int x2)] [] σ out := by
  refine ev_n 2 (fun _ => rfl) ?_
  refine ev_if (c := (25 : Int32) ≤ x2) rfl (fun _ => rfl) (fun hc => ?_) (fun hc => ?_)
  · replace h := h.1 hc
    refine ev_n 1 (fun _ => rfl) ?_
    refine ev_go rfl (w_gF rfl rfl) ?_
    refine ev_n 2 (fun _ => rfl) ?_
    obtain ⟨h0, h⟩ := h
    refine ev_go rfl (w_iast rfl h0) ?_
    refine ev_n 1 (fun _ => rfl) ?_
    refine ev_go rfl (w_gF rfl rfl) ?_
    refine ev_n 2 (fun _ => rfl) ?_
    obtain ⟨h0, h⟩ := h
    refine ev_go rfl (w_iast rfl h0) ?_
    refine ev_n 1 (fun _ => rfl) ?_
    exact ev_ret rfl (fun _ => rfl) h
  · replace h := h.2 hc
    refine ev_n 1 (fun _ => rfl) ?_
    refine ev_go rfl (w_gF rfl rfl) ?_
    refine ev_n 2 (fun _ => rfl) ?_
    refine ev_go rfl (w_gF rfl rfl) ?_
    refine ev_n 1 (fun _ => rfl) ?_
    obtain ⟨h0, h⟩ := h
    refine ev_go rfl (w_lald rfl h0) ?_
    obtain ⟨h0, h⟩ := h
    refine ev_go rfl (w_last rfl h0) ?_
    refine ev_n 2 (fun _ => rfl) ?_
    exact h
theorem m_X12_book : ∀ pc o, (P_X12_book KC).lookup pc = some o → Mon_ o := all_mon (a_X12_book (l := launch0) (E := EC0) EC0_ok)
theorem z_X12_book  {σ : St_} {out : Out_} (h : Ev_ (P_X12_book KC) 0 [some (.ref 219), none, none] [] σ out) : f_X12_book KC [.ref 219] σ = some out := fn_eq m_X12_book rfl h
set_option maxRecDepth 20000 in
theorem e_X12_fault_0  {σ : St_} {out : Out_}  (h : out = (some (.int ((sI_ σ 219 0 (0 : Int32)).1 219 10)), (sI_ σ 219 0 (0 : Int32)))) : Ev_ (P_X12_fault KC) 0 [some (.ref 219)] [] σ out := by
  refine ev_n 2 (fun _ => rfl) ?_
  refine ev_go rfl (w_pI rfl) ?_
  refine ev_n 1 (fun _ => rfl) ?_
  refine ev_go rfl (w_gI rfl) ?_
  exact ev_ret rfl (fun _ => rfl) h
theorem m_X12_fault : ∀ pc o, (P_X12_fault KC).lookup pc = some o → Mon_ o := all_mon (a_X12_fault (l := launch0) (E := EC0) EC0_ok)
theorem z_X12_fault  {σ : St_} {out : Out_} (h : Ev_ (P_X12_fault KC) 0 [some (.ref 219)] [] σ out) : f_X12_fault KC [.ref 219] σ = some out := fn_eq m_X12_fault rfl h
set_option maxRecDepth 20000 in
theorem e_X12_chap_0 {x1 : Int32} {x2 : Int32} {σ : St_} {out : Out_}  (h : (∃ (σ1 : St_), f_X12_lay KC [.ref 219] σ = some (none, σ1) ∧ (∃ (v3 : Int32) (σ2 : St_), f_X12_isChap KC [.ref 219, .int x1] σ1 = some (some (.int v3), σ2) ∧ ((v3 = 0 → (∃ (v5 : Int32) (σ4 : St_), f_X12_refuse KC [.ref 219] σ2 = some (some (.int v5), σ4) ∧ out = (some (.int v5), σ4))) ∧ (¬ (v3 = 0) → (∃ (v7 : Int32) (σ6 : St_), f_X12_isIn KC [.int x2, .int (0 : Int32), .int (3 : Int32)] σ2 = some (some (.int v7), σ6) ∧ ((v7 = 0 → (∃ (v9 : Int32) (σ8 : St_), f_X12_refuse KC [.ref 219] σ6 = some (some (.int v9), σ8) ∧ out = (some (.int v9), σ8))) ∧ (¬ (v7 = 0) → (((3 : Int32) ≤ x2 → Ev_ (P_X12_chap KC) 48 [some (.ref 219), some (.int x1), some (.int x2), some (.int (0 : Int32)), some (.int (0 : Int32))] [] (sI_ σ6 219 0 (0 : Int32)) out) ∧ (¬ ((3 : Int32) ≤ x2) → (∃ (v11 : Int32) (σ10 : St_), f_X12_chapOf KC [.ref 219, .int x1, .int x2] (sI_ σ6 219 0 (0 : Int32)) = some (some (.int v11), σ10) ∧ out = (some (.int v11), σ10)))))))))))) : Ev_ (P_X12_chap KC) 0 [some (.ref 219), some (.int x1), some (.int x2), none, none] [] σ out := by
  refine ev_n 1 (fun _ => rfl) ?_
  obtain ⟨σ1, hf, h⟩ := h
  refine ev_go rfl (w_callV rfl rfl rfl (Nat.le_of_ble_eq_true rfl) hf) ?_
  refine ev_n 2 (fun _ => rfl) ?_
  obtain ⟨v3, σ2, hf, h⟩ := h
  refine ev_go rfl (w_callV rfl rfl rfl (Nat.le_of_ble_eq_true rfl) hf) ?_
  refine ev_if (c := v3 = 0) rfl (fun _ => rfl) (fun hc => ?_) (fun hc => ?_)
  · replace h := h.1 hc
    refine ev_n 1 (fun _ => rfl) ?_
    obtain ⟨v5, σ4, hf, h⟩ := h
    refine ev_go rfl (w_callV rfl rfl rfl (Nat.le_of_ble_eq_true rfl) hf) ?_
    exact ev_ret rfl (fun _ => rfl) h
  · replace h := h.2 hc
    refine ev_n 3 (fun _ => rfl) ?_
    obtain ⟨v7, σ6, hf, h⟩ := h
    refine ev_go rfl (w_callS ⟨Nat.le_of_ble_eq_true rfl, Nat.le_of_ble_eq_true rfl⟩ hf) ?_
    refine ev_if (c := v7 = 0) rfl (fun _ => rfl) (fun hc => ?_) (fun hc => ?_)
    · replace h := h.1 hc
      refine ev_n 1 (fun _ => rfl) ?_
      obtain ⟨v9, σ8, hf, h⟩ := h
      refine ev_go rfl (w_callV rfl rfl rfl (Nat.le_of_ble_eq_true rfl) hf) ?_
      exact ev_ret rfl (fun _ => rfl) h
    · replace h := h.2 hc
      refine ev_n 2 (fun _ => rfl) ?_
      refine ev_go rfl (w_pI rfl) ?_
      refine ev_n 2 (fun _ => rfl) ?_
      refine ev_if (c := (3 : Int32) ≤ x2) rfl (fun _ => rfl) (fun hc => ?_) (fun hc => ?_)
      · replace h := h.1 hc
        refine ev_n 4 (fun _ => rfl) ?_
        exact h
      · replace h := h.2 hc
        refine ev_n 3 (fun _ => rfl) ?_
        obtain ⟨v11, σ10, hf, h⟩ := h
        refine ev_go rfl (w_callV rfl rfl rfl (Nat.le_of_ble_eq_true rfl) hf) ?_
        exact ev_ret rfl (fun _ => rfl) h
set_option maxRecDepth 20000 in
theorem e_X12_chap_48 {x1 : Int32} {x2 : Int32} {x3 : Int32} {x4 : Int32} {σ : St_} {out : Out_}  (h : ((x1 ≤ x4 → out = (some (.int x3), σ)) ∧ (¬ (x1 ≤ x4) → (∃ (v2 : Int32) (σ1 : St_), f_X12_leanOf KC [.ref 219, .int x1, .int x4] σ = some (some (.int v2), σ1) ∧ ((v2 ≤ 0 → Ev_ (P_X12_chap KC) 48 [some (.ref 219), some (.int x1), some (.int x2), some (.int x3), some (.int (x4 + 1))] [] σ1 out) ∧ (¬ (v2 ≤ 0) → Ev_ (P_X12_chap KC) 48 [some (.ref 219), some (.int x1), some (.int x2), some (.int (x3 + 1)), some (.int (x4 + 1))] [] σ1 out)))))) : Ev_ (P_X12_chap KC) 48 [some (.ref 219), some (.int x1), some (.int x2), some (.int x3), some (.int x4)] [] σ out := by
  refine ev_n 2 (fun _ => rfl) ?_
  refine ev_if (c := x1 ≤ x4) rfl (fun _ => rfl) (fun hc => ?_) (fun hc => ?_)
  · replace h := h.1 hc
    refine ev_n 1 (fun _ => rfl) ?_
    exact ev_ret rfl (fun _ => rfl) h
  · replace h := h.2 hc
    refine ev_n 3 (fun _ => rfl) ?_
    obtain ⟨v2, σ1, hf, h⟩ := h
    refine ev_go rfl (w_callV rfl rfl rfl (Nat.le_of_ble_eq_true rfl) hf) ?_
    refine ev_if (c := v2 ≤ 0) rfl (fun _ => rfl) (fun hc => ?_) (fun hc => ?_)
    · replace h := h.1 hc
      refine ev_n 2 (fun _ => rfl) ?_
      exact h
    · replace h := h.2 hc
      refine ev_n 3 (fun _ => rfl) ?_
      exact h
theorem m_X12_chap : ∀ pc o, (P_X12_chap KC).lookup pc = some o → Mon_ o := all_mon (a_X12_chap (l := launch0) (E := EC0) EC0_ok)
theorem z_X12_chap {x1 : Int32} {x2 : Int32} {σ : St_} {out : Out_} (h : Ev_ (P_X12_chap KC) 0 [some (.ref 219), some (.int x1), some (.int x2), none, none] [] σ out) : f_X12_chap KC [.ref 219, .int x1, .int x2] σ = some out := fn_eq m_X12_chap rfl h
set_option maxRecDepth 20000 in
theorem e_X12_leans_0 {x1 : Int32} {x2 : Int32} {σ : St_} {out : Out_}  (h : (∃ (σ1 : St_), f_X12_lay KC [.ref 219] (sI_ σ 219 0 (0 : Int32)) = some (none, σ1) ∧ (∃ (v3 : Int32) (σ2 : St_), f_X12_isChap KC [.ref 219, .int x1] σ1 = some (some (.int v3), σ2) ∧ ((v3 = 0 → out = (some (.int ((-1) : Int32)), σ2)) ∧ (¬ (v3 = 0) → (∃ (v5 : Int32) (σ4 : St_), f_X12_isChap KC [.ref 219, .int x2] σ2 = some (some (.int v5), σ4) ∧ ((v5 = 0 → out = (some (.int ((-1) : Int32)), σ4)) ∧ (¬ (v5 = 0) → ((x1 ≤ x2 → out = (some (.int (0 : Int32)), σ4)) ∧ (¬ (x1 ≤ x2) → (∃ (v7 : Int32) (σ6 : St_), f_X12_leanOf KC [.ref 219, .int x1, .int x2] σ4 = some (some (.int v7), σ6) ∧ out = (some (.int v7), σ6)))))))))))) : Ev_ (P_X12_leans KC) 0 [some (.ref 219), some (.int x1), some (.int x2)] [] σ out := by
  refine ev_n 2 (fun _ => rfl) ?_
  refine ev_go rfl (w_pI rfl) ?_
  refine ev_n 1 (fun _ => rfl) ?_
  obtain ⟨σ1, hf, h⟩ := h
  refine ev_go rfl (w_callV rfl rfl rfl (Nat.le_of_ble_eq_true rfl) hf) ?_
  refine ev_n 2 (fun _ => rfl) ?_
  obtain ⟨v3, σ2, hf, h⟩ := h
  refine ev_go rfl (w_callV rfl rfl rfl (Nat.le_of_ble_eq_true rfl) hf) ?_
  refine ev_if (c := v3 = 0) rfl (fun _ => rfl) (fun hc => ?_) (fun hc => ?_)
  · replace h := h.1 hc
    refine ev_n 2 (fun _ => rfl) ?_
    exact ev_ret rfl (fun _ => rfl) h
  · replace h := h.2 hc
    refine ev_n 2 (fun _ => rfl) ?_
    obtain ⟨v5, σ4, hf, h⟩ := h
    refine ev_go rfl (w_callV rfl rfl rfl (Nat.le_of_ble_eq_true rfl) hf) ?_
    refine ev_if (c := v5 = 0) rfl (fun _ => rfl) (fun hc => ?_) (fun hc => ?_)
    · replace h := h.1 hc
      refine ev_n 2 (fun _ => rfl) ?_
      exact ev_ret rfl (fun _ => rfl) h
    · replace h := h.2 hc
      refine ev_n 2 (fun _ => rfl) ?_
      refine ev_if (c := x1 ≤ x2) rfl (fun _ => rfl) (fun hc => ?_) (fun hc => ?_)
      · replace h := h.1 hc
        refine ev_n 1 (fun _ => rfl) ?_
        exact ev_ret rfl (fun _ => rfl) h
      · replace h := h.2 hc
        refine ev_n 3 (fun _ => rfl) ?_
        obtain ⟨v7, σ6, hf, h⟩ := h
        refine ev_go rfl (w_callV rfl rfl rfl (Nat.le_of_ble_eq_true rfl) hf) ?_
        refine ev_n 1 (fun _ => rfl) ?_
        exact ev_ret rfl (fun _ => rfl) h
theorem m_X12_leans : ∀ pc o, (P_X12_leans KC).lookup pc = some o → Mon_ o := all_mon (a_X12_leans (l := launch0) (E := EC0) EC0_ok)
theorem z_X12_leans {x1 : Int32} {x2 : Int32} {σ : St_} {out : Out_} (h : Ev_ (P_X12_leans KC) 0 [some (.ref 219), some (.int x1), some (.int x2)] [] σ out) : f_X12_leans KC [.ref 219, .int x1, .int x2] σ = some out := fn_eq m_X12_leans rfl h
set_option maxRecDepth 20000 in
theorem e_X12_reader_0 {x1 : Int32} {x2 : Int32} {σ : St_} {out : Out_}  (h : (∃ (σ1 : St_), f_X12_lay KC [.ref 219] σ = some (none, σ1) ∧ (∃ (v3 : Int32) (σ2 : St_), f_X12_isReader KC [.ref 219, .int x1] σ1 = some (some (.int v3), σ2) ∧ ((v3 = 0 → (∃ (v5 : Int32) (σ4 : St_), f_X12_refuse KC [.ref 219] σ2 = some (some (.int v5), σ4) ∧ out = (some (.int v5), σ4))) ∧ (¬ (v3 = 0) → (∃ (v7 : Int32) (σ6 : St_), f_X12_isIn KC [.int x2, .int (0 : Int32), .int (4 : Int32)] σ2 = some (some (.int v7), σ6) ∧ ((v7 = 0 → (∃ (v9 : Int32) (σ8 : St_), f_X12_refuse KC [.ref 219] σ6 = some (some (.int v9), σ8) ∧ out = (some (.int v9), σ8))) ∧ (¬ (v7 = 0) → (∃ (v11 : Int32) (σ10 : St_), f_X12_readerOf KC [.ref 219, .int x1, .int x2] (sI_ σ6 219 0 (0 : Int32)) = some (some (.int v11), σ10) ∧ out = (some (.int v11), σ10)))))))))) : Ev_ (P_X12_reader KC) 0 [some (.ref 219), some (.int x1), some (.int x2)] [] σ out := by
  refine ev_n 1 (fun _ => rfl) ?_
  obtain ⟨σ1, hf, h⟩ := h
  refine ev_go rfl (w_callV rfl rfl rfl (Nat.le_of_ble_eq_true rfl) hf) ?_
  refine ev_n 2 (fun _ => rfl) ?_
  obtain ⟨v3, σ2, hf, h⟩ := h
  refine ev_go rfl (w_callV rfl rfl rfl (Nat.le_of_ble_eq_true rfl) hf) ?_
  refine ev_if (c := v3 = 0) rfl (fun _ => rfl) (fun hc => ?_) (fun hc => ?_)
  · replace h := h.1 hc
    refine ev_n 1 (fun _ => rfl) ?_
    obtain ⟨v5, σ4, hf, h⟩ := h
    refine ev_go rfl (w_callV rfl rfl rfl (Nat.le_of_ble_eq_true rfl) hf) ?_
    exact ev_ret rfl (fun _ => rfl) h
  · replace h := h.2 hc
    refine ev_n 3 (fun _ => rfl) ?_
    obtain ⟨v7, σ6, hf, h⟩ := h
    refine ev_go rfl (w_callS ⟨Nat.le_of_ble_eq_true rfl, Nat.le_of_ble_eq_true rfl⟩ hf) ?_
    refine ev_if (c := v7 = 0) rfl (fun _ => rfl) (fun hc => ?_) (fun hc => ?_)
    · replace h := h.1 hc
      refine ev_n 1 (fun _ => rfl) ?_
      obtain ⟨v9, σ8, hf, h⟩ := h
      refine ev_go rfl (w_callV rfl rfl rfl (Nat.le_of_ble_eq_true rfl) hf) ?_
      exact ev_ret rfl (fun _ => rfl) h
    · replace h := h.2 hc
      refine ev_n 2 (fun _ => rfl) ?_
      refine ev_go rfl (w_pI rfl) ?_
      refine ev_n 3 (fun _ => rfl) ?_
      obtain ⟨v11, σ10, hf, h⟩ := h
      refine ev_go rfl (w_callV rfl rfl rfl (Nat.le_of_ble_eq_true rfl) hf) ?_
      exact ev_ret rfl (fun _ => rfl) h
theorem m_X12_reader : ∀ pc o, (P_X12_reader KC).lookup pc = some o → Mon_ o := all_mon (a_X12_reader (l := launch0) (E := EC0) EC0_ok)
theorem z_X12_reader {x1 : Int32} {x2 : Int32} {σ : St_} {out : Out_} (h : Ev_ (P_X12_reader KC) 0 [some (.ref 219), some (.int x1), some (.int x2)] [] σ out) : f_X12_reader KC [.ref 219, .int x1, .int x2] σ = some out := fn_eq m_X12_reader rfl h
set_option maxRecDepth 20000 in
theorem e_X12_addAct_0 {x1 : Int32} {x2 : Int32} {x3 : Int32} {x4 : Int32} {σ : St_} {out : Out_}  (h : (((σ.1 219 24) = (100 : Int32) → out = (some (.int (0 : Int32)), σ)) ∧ (¬ ((σ.1 219 24) = (100 : Int32)) → (vpin_ (((4 : Int32) * (σ.1 219 24)) + (0 : Int32)) 400 = true) ∧ (vpin_ (((4 : Int32) * ((sI_ σ 228 (Int32.toNatClampNeg (((4 : Int32) * (σ.1 219 24)) + (0 : Int32))) x1).1 219 24)) + (1 : Int32)) 400 = true) ∧ (vpin_ (((4 : Int32) * ((sI_ (sI_ σ 228 (Int32.toNatClampNeg (((4 : Int32) * (σ.1 219 24)) + (0 : Int32))) x1) 228 (Int32.toNatClampNeg (((4 : Int32) * ((sI_ σ 228 (Int32.toNatClampNeg (((4 : Int32) * (σ.1 219 24)) + (0 : Int32))) x1).1 219 24)) + (1 : Int32))) x2).1 219 24)) + (2 : Int32)) 400 = true) ∧ (vpin_ (((4 : Int32) * ((sI_ (sI_ (sI_ σ 228 (Int32.toNatClampNeg (((4 : Int32) * (σ.1 219 24)) + (0 : Int32))) x1) 228 (Int32.toNatClampNeg (((4 : Int32) * ((sI_ σ 228 (Int32.toNatClampNeg (((4 : Int32) * (σ.1 219 24)) + (0 : Int32))) x1).1 219 24)) + (1 : Int32))) x2) 228 (Int32.toNatClampNeg (((4 : Int32) * ((sI_ (sI_ σ 228 (Int32.toNatClampNeg (((4 : Int32) * (σ.1 219 24)) + (0 : Int32))) x1) 228 (Int32.toNatClampNeg (((4 : Int32) * ((sI_ σ 228 (Int32.toNatClampNeg (((4 : Int32) * (σ.1 219 24)) + (0 : Int32))) x1).1 219 24)) + (1 : Int32))) x2).1 219 24)) + (2 : Int32))) x3).1 219 24)) + (3 : Int32)) 400 = true) ∧ out = (some (.int (1 : Int32)), (sI_ (sI_ (sI_ (sI_ (sI_ σ 228 (Int32.toNatClampNeg (((4 : Int32) * (σ.1 219 24)) + (0 : Int32))) x1) 228 (Int32.toNatClampNeg (((4 : Int32) * ((sI_ σ 228 (Int32.toNatClampNeg (((4 : Int32) * (σ.1 219 24)) + (0 : Int32))) x1).1 219 24)) + (1 : Int32))) x2) 228 (Int32.toNatClampNeg (((4 : Int32) * ((sI_ (sI_ σ 228 (Int32.toNatClampNeg (((4 : Int32) * (σ.1 219 24)) + (0 : Int32))) x1) 228 (Int32.toNatClampNeg (((4 : Int32) * ((sI_ σ 228 (Int32.toNatClampNeg (((4 : Int32) * (σ.1 219 24)) + (0 : Int32))) x1).1 219 24)) + (1 : Int32))) x2).1 219 24)) + (2 : Int32))) x3) 228 (Int32.toNatClampNeg (((4 : Int32) * ((sI_ (sI_ (sI_ σ 228 (Int32.toNatClampNeg (((4 : Int32) * (σ.1 219 24)) + (0 : Int32))) x1) 228 (Int32.toNatClampNeg (((4 : Int32) * ((sI_ σ 228 (Int32.toNatClampNeg (((4 : Int32) * (σ.1 219 24)) + (0 : Int32))) x1).1 219 24)) + (1 : Int32))) x2) 228 (Int32.toNatClampNeg (((4 : Int32) * ((sI_ (sI_ σ 228 (Int32.toNatClampNeg (((4 : Int32) * (σ.1 219 24)) + (0 : Int32))) x1) 228 (Int32.toNatClampNeg (((4 : Int32) * ((sI_ σ 228 (Int32.toNatClampNeg (((4 : Int32) * (σ.1 219 24)) + (0 : Int32))) x1).1 219 24)) + (1 : Int32))) x2).1 219 24)) + (2 : Int32))) x3).1 219 24)) + (3 : Int32))) x4) 219 24 (((sI_ (sI_ (sI_ (sI_ σ 228 (Int32.toNatClampNeg (((4 : Int32) * (σ.1 219 24)) + (0 : Int32))) x1) 228 (Int32.toNatClampNeg (((4 : Int32) * ((sI_ σ 228 (Int32.toNatClampNeg (((4 : Int32) * (σ.1 219 24)) + (0 : Int32))) x1).1 219 24)) + (1 : Int32))) x2) 228 (Int32.toNatClampNeg (((4 : Int32) * ((sI_ (sI_ σ 228 (Int32.toNatClampNeg (((4 : Int32) * (σ.1 219 24)) + (0 : Int32))) x1) 228 (Int32.toNatClampNeg (((4 : Int32) * ((sI_ σ 228 (Int32.toNatClampNeg (((4 : Int32) * (σ.1 219 24)) + (0 : Int32))) x1).1 219 24)) + (1 : Int32))) x2).1 219 24)) + (2 : Int32))) x3) 228 (Int32.toNatClampNeg (((4 : Int32) * ((sI_ (sI_ (sI_ σ 228 (Int32.toNatClampNeg (((4 : Int32) * (σ.1 219 24)) + (0 : Int32))) x1) 228 (Int32.toNatClampNeg (((4 : Int32) * ((sI_ σ 228 (Int32.toNatClampNeg (((4 : Int32) * (σ.1 219 24)) + (0 : Int32))) x1).1 219 24)) + (1 : Int32))) x2) 228 (Int32.toNatClampNeg (((4 : Int32) * ((sI_ (sI_ σ 228 (Int32.toNatClampNeg (((4 : Int32) * (σ.1 219 24)) + (0 : Int32))) x1) 228 (Int32.toNatClampNeg (((4 : Int32) * ((sI_ σ 228 (Int32.toNatClampNeg (((4 : Int32) * (σ.1 219 24)) + (0 : Int32))) x1).1 219 24)) + (1 : Int32))) x2).1 219 24)) + (2 : Int32))) x3).1 219 24)) + (3 : Int32))) x4).1 219 24) + (1 : Int32))))))) : Ev_ (P_X12_addAct KC) 0 [some (.ref 219), some (.int x1), some (.int x2), some (.int x3), some (.int x4)] [] σ out := by
  refine ev_n 1 (fun _ => rfl) ?_
  refine ev_go rfl (w_gI rfl) ?_
  refine ev_n 1 (fun _ => rfl) ?_
  refine ev_if (c := (σ.1 219 24) = (100 : Int32)) rfl (fun _ => rfl) (fun hc => ?_) (fun hc => ?_)
  · replace h := h.1 hc
    refine ev_n 1 (fun _ => rfl) ?_
    exact v_zret (by decide) rfl h
  · replace h := h.2 hc
    refine ev_n 1 (fun _ => rfl) ?_
    refine ev_go rfl (w_gF rfl rfl) ?_
    refine ev_n 2 (fun _ => rfl) ?_
    refine ev_go rfl (w_gI rfl) ?_
    refine ev_n 4 (fun _ => rfl) ?_
    obtain ⟨h0, h⟩ := h
    refine ev_go rfl (w_iast rfl h0) ?_
    refine ev_n 1 (fun _ => rfl) ?_
    refine ev_go rfl (w_gF rfl rfl) ?_
    refine ev_n 2 (fun _ => rfl) ?_
    refine ev_go rfl (w_gI rfl) ?_
    refine ev_n 4 (fun _ => rfl) ?_
    obtain ⟨h0, h⟩ := h
    refine ev_go rfl (w_iast rfl h0) ?_
    refine ev_n 1 (fun _ => rfl) ?_
    refine ev_go rfl (w_gF rfl rfl) ?_
    refine ev_n 2 (fun _ => rfl) ?_
    refine ev_go rfl (w_gI rfl) ?_
    refine ev_n 4 (fun _ => rfl) ?_
    obtain ⟨h0, h⟩ := h
    refine ev_go rfl (w_iast rfl h0) ?_
    refine ev_n 1 (fun _ => rfl) ?_
    refine ev_go rfl (w_gF rfl rfl) ?_
    refine ev_n 2 (fun _ => rfl) ?_
    refine ev_go rfl (w_gI rfl) ?_
    refine ev_n 4 (fun _ => rfl) ?_
    obtain ⟨h0, h⟩ := h
    refine ev_go rfl (w_iast rfl h0) ?_
    refine ev_n 2 (fun _ => rfl) ?_
    refine ev_go rfl (w_gI rfl) ?_
    refine ev_n 2 (fun _ => rfl) ?_
    refine ev_go rfl (w_pI rfl) ?_
    refine ev_n 1 (fun _ => rfl) ?_
    exact v_zret (by decide) rfl h
theorem m_X12_addAct : ∀ pc o, (P_X12_addAct KC).lookup pc = some o → Mon_ o := all_mon (a_X12_addAct (l := launch0) (E := EC0) EC0_ok)
theorem z_X12_addAct {x1 : Int32} {x2 : Int32} {x3 : Int32} {x4 : Int32} {σ : St_} {out : Out_} (h : Ev_ (P_X12_addAct KC) 0 [some (.ref 219), some (.int x1), some (.int x2), some (.int x3), some (.int x4)] [] σ out) : f_X12_addAct KC [.ref 219, .int x1, .int x2, .int x3, .int x4] σ = some out := fn_eq m_X12_addAct rfl h
set_option maxRecDepth 20000 in
theorem e_X12_plans_0  {σ : St_} {out : Out_}  (h : Ev_ (P_X12_plans KC) 2 [some (.ref 219), some (.int (0 : Int32))] [] σ out) : Ev_ (P_X12_plans KC) 0 [some (.ref 219), none] [] σ out := by
  refine ev_n 2 (fun _ => rfl) ?_
  exact h
set_option maxRecDepth 20000 in
theorem e_X12_plans_2 {x1 : Int32} {σ : St_} {out : Out_}  (h : ((((4 : Int32) * (σ.1 219 24)) ≤ x1 → (vpin_ (390 : Int32) 1050 = true) ∧ out = (some (.int ((sI_ σ 221 (Int32.toNatClampNeg (390 : Int32)) (σ.1 219 24)).1 219 24)), (sI_ σ 221 (Int32.toNatClampNeg (390 : Int32)) (σ.1 219 24)))) ∧ (¬ (((4 : Int32) * (σ.1 219 24)) ≤ x1) → (vpin_ x1 400 = true) ∧ (vpin_ ((400 : Int32) + x1) 1050 = true) ∧ Ev_ (P_X12_plans KC) 2 [some (.ref 219), some (.int (x1 + 1))] [] (sI_ σ 221 (Int32.toNatClampNeg ((400 : Int32) + x1)) (σ.1 228 (Int32.toNatClampNeg x1))) out))) : Ev_ (P_X12_plans KC) 2 [some (.ref 219), some (.int x1)] [] σ out := by
  refine ev_n 3 (fun _ => rfl) ?_
  refine ev_go rfl (w_gI rfl) ?_
  refine ev_n 1 (fun _ => rfl) ?_
  refine ev_if (c := ((4 : Int32) * (σ.1 219 24)) ≤ x1) rfl (fun _ => rfl) (fun hc => ?_) (fun hc => ?_)
  · replace h := h.1 hc
    refine ev_n 1 (fun _ => rfl) ?_
    refine ev_go rfl (w_gF rfl rfl) ?_
    refine ev_n 2 (fun _ => rfl) ?_
    refine ev_go rfl (w_gI rfl) ?_
    obtain ⟨h0, h⟩ := h
    refine ev_go rfl (w_iast rfl h0) ?_
    refine ev_n 1 (fun _ => rfl) ?_
    refine ev_go rfl (w_gI rfl) ?_
    exact ev_ret rfl (fun _ => rfl) h
  · replace h := h.2 hc
    refine ev_n 1 (fun _ => rfl) ?_
    refine ev_go rfl (w_gF rfl rfl) ?_
    refine ev_n 4 (fun _ => rfl) ?_
    refine ev_go rfl (w_gF rfl rfl) ?_
    refine ev_n 1 (fun _ => rfl) ?_
    obtain ⟨h0, h⟩ := h
    refine ev_go rfl (w_iald rfl h0) ?_
    obtain ⟨h0, h⟩ := h
    refine ev_go rfl (w_iast rfl h0) ?_
    refine ev_n 2 (fun _ => rfl) ?_
    exact h
theorem m_X12_plans : ∀ pc o, (P_X12_plans KC).lookup pc = some o → Mon_ o := all_mon (a_X12_plans (l := launch0) (E := EC0) EC0_ok)
theorem z_X12_plans  {σ : St_} {out : Out_} (h : Ev_ (P_X12_plans KC) 0 [some (.ref 219), none] [] σ out) : f_X12_plans KC [.ref 219] σ = some out := fn_eq m_X12_plans rfl h
set_option maxRecDepth 20000 in
theorem e_X12_named_0 {x1 : Int32} {x2 : Int32} {σ : St_} {out : Out_}  (h : (∃ (v2 : Int32) (σ1 : St_), f_X12_isName KC [.ref 219] σ = some (some (.int v2), σ1) ∧ ((v2 = 0 → out = (some (.int ((-2) : Int32)), σ1)) ∧ (¬ (v2 = 0) → Ev_ (P_X12_named KC) 12 [some (.ref 219), some (.int x1), some (.int x2), some (.int (0 : Int32))] [] σ1 out)))) : Ev_ (P_X12_named KC) 0 [some (.ref 219), some (.int x1), some (.int x2), none] [] σ out := by
  refine ev_n 1 (fun _ => rfl) ?_
  obtain ⟨v2, σ1, hf, h⟩ := h
  refine ev_go rfl (w_callV rfl rfl rfl (Nat.le_of_ble_eq_true rfl) hf) ?_
  refine ev_if (c := v2 = 0) rfl (fun _ => rfl) (fun hc => ?_) (fun hc => ?_)
  · replace h := h.1 hc
    refine ev_n 1 (fun _ => rfl) ?_
    exact ev_ret rfl (fun _ => rfl) h
  · replace h := h.2 hc
    refine ev_n 2 (fun _ => rfl) ?_
    exact h
set_option maxRecDepth 20000 in
theorem e_X12_named_12 {x1 : Int32} {x2 : Int32} {x3 : Int32} {σ : St_} {out : Out_}  (h : ((x2 ≤ x3 → out = (some (.int ((-1) : Int32)), σ)) ∧ (¬ (x2 ≤ x3) → (vpin_ (x1 + x3) 25 = true) ∧ (((lg_cmp (σ.2.1 224 (Int32.toNatClampNeg (x1 + x3))) (σ.2.1 219 12)) = 0 → out = (some (.int x3), σ)) ∧ (¬ ((lg_cmp (σ.2.1 224 (Int32.toNatClampNeg (x1 + x3))) (σ.2.1 219 12)) = 0) → Ev_ (P_X12_named KC) 12 [some (.ref 219), some (.int x1), some (.int x2), some (.int (x3 + 1))] [] σ out))))) : Ev_ (P_X12_named KC) 12 [some (.ref 219), some (.int x1), some (.int x2), some (.int x3)] [] σ out := by
  refine ev_n 2 (fun _ => rfl) ?_
  refine ev_if (c := x2 ≤ x3) rfl (fun _ => rfl) (fun hc => ?_) (fun hc => ?_)
  · replace h := h.1 hc
    refine ev_n 1 (fun _ => rfl) ?_
    exact ev_ret rfl (fun _ => rfl) h
  · replace h := h.2 hc
    refine ev_n 1 (fun _ => rfl) ?_
    refine ev_go rfl (w_gF rfl rfl) ?_
    refine ev_n 3 (fun _ => rfl) ?_
    obtain ⟨h0, h⟩ := h
    refine ev_go rfl (w_lald rfl h0) ?_
    refine ev_n 1 (fun _ => rfl) ?_
    refine ev_go rfl (w_gJ rfl) ?_
    refine ev_n 1 (fun _ => rfl) ?_
    refine ev_if (c := (lg_cmp (σ.2.1 224 (Int32.toNatClampNeg (x1 + x3))) (σ.2.1 219 12)) = 0) rfl (fun _ => rfl) (fun hc => ?_) (fun hc => ?_)
    · replace h := h.1 hc
      refine ev_n 1 (fun _ => rfl) ?_
      exact ev_ret rfl (fun _ => rfl) h
    · replace h := h.2 hc
      refine ev_n 2 (fun _ => rfl) ?_
      exact h
theorem m_X12_named : ∀ pc o, (P_X12_named KC).lookup pc = some o → Mon_ o := all_mon (a_X12_named (l := launch0) (E := EC0) EC0_ok)
theorem z_X12_named {x1 : Int32} {x2 : Int32} {σ : St_} {out : Out_} (h : Ev_ (P_X12_named KC) 0 [some (.ref 219), some (.int x1), some (.int x2), none] [] σ out) : f_X12_named KC [.ref 219, .int x1, .int x2] σ = some out := fn_eq m_X12_named rfl h
set_option maxRecDepth 20000 in
theorem e_X12_readNamed_0 {x1 : Int32} {x2 : Int32} {σ : St_} {out : Out_}  (h : (∃ (v2 : Int32) (σ1 : St_), f_X12_named KC [.ref 219, .int x1, .int x2] σ = some (some (.int v2), σ1) ∧ ((0 ≤ v2 → (∃ (σ3 : St_), f_X12_go KC [.ref 219] (sI_ σ1 219 13 v2) = some (none, σ3) ∧ out = (some (.int (1 : Int32)), σ3))) ∧ (¬ (0 ≤ v2) → ((v2 = ((-1) : Int32) → (∃ (v5 : Int32) (σ4 : St_), f_X12_bad KC [.ref 219, .int (3 : Int32)] σ1 = some (some (.int v5), σ4) ∧ (v5 = 0 ∨ v5 = 1) ∧ out = (some (.int v5), σ4))) ∧ (¬ (v2 = ((-1) : Int32)) → (∃ (v7 : Int32) (σ6 : St_), f_X12_bad KC [.ref 219, .int (1 : Int32)] σ1 = some (some (.int v7), σ6) ∧ (v7 = 0 ∨ v7 = 1) ∧ out = (some (.int v7), σ6)))))))) : Ev_ (P_X12_readNamed KC) 0 [some (.ref 219), some (.int x1), some (.int x2), none] [] σ out := by
  refine ev_n 3 (fun _ => rfl) ?_
  obtain ⟨v2, σ1, hf, h⟩ := h
  refine ev_go rfl (w_callV rfl rfl rfl (Nat.le_of_ble_eq_true rfl) hf) ?_
  refine ev_n 2 (fun _ => rfl) ?_
  refine ev_if (c := 0 ≤ v2) rfl (fun _ => rfl) (fun hc => ?_) (fun hc => ?_)
  · replace h := h.1 hc
    refine ev_n 2 (fun _ => rfl) ?_
    refine ev_go rfl (w_pI rfl) ?_
    refine ev_n 1 (fun _ => rfl) ?_
    obtain ⟨σ3, hf, h⟩ := h
    refine ev_go rfl (w_callV rfl rfl rfl (Nat.le_of_ble_eq_true rfl) hf) ?_
    refine ev_n 1 (fun _ => rfl) ?_
    exact v_zret (by decide) rfl h
  · replace h := h.2 hc
    refine ev_n 3 (fun _ => rfl) ?_
    refine ev_if (c := v2 = ((-1) : Int32)) rfl (fun _ => rfl) (fun hc => ?_) (fun hc => ?_)
    · replace h := h.1 hc
      refine ev_n 2 (fun _ => rfl) ?_
      obtain ⟨v5, σ4, hf, h⟩ := h
      refine ev_go rfl (w_callV rfl rfl rfl (Nat.le_of_ble_eq_true rfl) hf) ?_
      exact v_zret h.1 rfl h.2
    · replace h := h.2 hc
      refine ev_n 1 (fun _ => rfl) ?_
      obtain ⟨v7, σ6, hf, h⟩ := h
      refine ev_go rfl (w_callV rfl rfl rfl (Nat.le_of_ble_eq_true rfl) hf) ?_
      exact v_zret h.1 rfl h.2
theorem m_X12_readNamed : ∀ pc o, (P_X12_readNamed KC).lookup pc = some o → Mon_ o := all_mon (a_X12_readNamed (l := launch0) (E := EC0) EC0_ok)
theorem z_X12_readNamed {x1 : Int32} {x2 : Int32} {σ : St_} {out : Out_} (h : Ev_ (P_X12_readNamed KC) 0 [some (.ref 219), some (.int x1), some (.int x2), none] [] σ out) : f_X12_readNamed KC [.ref 219, .int x1, .int x2] σ = some out := fn_eq m_X12_readNamed rfl h
set_option maxRecDepth 20000 in
theorem e_X12_readListeners_0 {x1 : Int32} {σ : St_} {out : Out_}  (h : (∃ (v2 : Int32) (σ1 : St_), f_X12_isWord KC [.ref 219, .int (10 : Int32)] σ = some (some (.int v2), σ1) ∧ ((v2 = 0 → Ev_ (P_X12_readListeners KC) 47 [some (.ref 219), some (.int x1), some (.int (0 : Int32)), none] [] σ1 out) ∧ (¬ (v2 = 0) → (∃ (v4 : Int32) (σ3 : St_), f_X12_readers KC [.ref 219] σ1 = some (some (.int v4), σ3) ∧ ((((((1 : Int32) <<< (v4 &&& 31)) - (1 : Int32)) &&& (((1 : Int32) <<< (x1 &&& 31)) ^^^ ((-1) : Int32))) = 0 → (∃ (v6 : Int32) (σ5 : St_), f_X12_bad KC [.ref 219, .int (1 : Int32)] σ3 = some (some (.int v6), σ5) ∧ (v6 = 0 ∨ v6 = 1) ∧ out = (some (.int v6), σ5))) ∧ (¬ (((((1 : Int32) <<< (v4 &&& 31)) - (1 : Int32)) &&& (((1 : Int32) <<< (x1 &&& 31)) ^^^ ((-1) : Int32))) = 0) → (∃ (σ7 : St_), f_X12_go KC [.ref 219] σ3 = some (none, σ7) ∧ out = (some (.int (1 : Int32)), (sI_ σ7 219 13 ((((1 : Int32) <<< (v4 &&& 31)) - (1 : Int32)) &&& (((1 : Int32) <<< (x1 &&& 31)) ^^^ ((-1) : Int32))))))))))))) : Ev_ (P_X12_readListeners KC) 0 [some (.ref 219), some (.int x1), none, none] [] σ out := by
  refine ev_n 4 (fun _ => rfl) ?_
  obtain ⟨v2, σ1, hf, h⟩ := h
  refine ev_go rfl (w_callV rfl rfl rfl (Nat.le_of_ble_eq_true rfl) hf) ?_
  refine ev_if (c := v2 = 0) rfl (fun _ => rfl) (fun hc => ?_) (fun hc => ?_)
  · replace h := h.1 hc
    exact h
  · replace h := h.2 hc
    refine ev_n 2 (fun _ => rfl) ?_
    obtain ⟨v4, σ3, hf, h⟩ := h
    refine ev_go rfl (w_callV rfl rfl rfl (Nat.le_of_ble_eq_true rfl) hf) ?_
    refine ev_n 8 (fun _ => rfl) ?_
    refine ev_n 3 (fun _ => rfl) ?_
    refine ev_if (c := ((((1 : Int32) <<< (v4 &&& 31)) - (1 : Int32)) &&& (((1 : Int32) <<< (x1 &&& 31)) ^^^ ((-1) : Int32))) = 0) rfl (fun _ => rfl) (fun hc => ?_) (fun hc => ?_)
    · replace h := h.1 hc
      refine ev_n 2 (fun _ => rfl) ?_
      obtain ⟨v6, σ5, hf, h⟩ := h
      refine ev_go rfl (w_callV rfl rfl rfl (Nat.le_of_ble_eq_true rfl) hf) ?_
      exact v_zret h.1 rfl h.2
    · replace h := h.2 hc
      refine ev_n 1 (fun _ => rfl) ?_
      obtain ⟨σ7, hf, h⟩ := h
      refine ev_go rfl (w_callV rfl rfl rfl (Nat.le_of_ble_eq_true rfl) hf) ?_
      refine ev_n 2 (fun _ => rfl) ?_
      refine ev_go rfl (w_pI rfl) ?_
      refine ev_n 1 (fun _ => rfl) ?_
      exact v_zret (by decide) rfl h
set_option maxRecDepth 20000 in
theorem e_X12_readListeners_47 {x1 : Int32} {x2 : Int32} {σ : St_} {out : Out_}  (h : (∃ (v2 : Int32) (σ1 : St_), f_X12_readers KC [.ref 219] σ = some (some (.int v2), σ1) ∧ (∃ (v4 : Int32) (σ3 : St_), f_X12_named KC [.ref 219, .int (16 : Int32), .int v2] σ1 = some (some (.int v4), σ3) ∧ ((v4 < 0 → ((v4 = ((-2) : Int32) → (∃ (v6 : Int32) (σ5 : St_), f_X12_bad KC [.ref 219, .int (1 : Int32)] σ3 = some (some (.int v6), σ5) ∧ (v6 = 0 ∨ v6 = 1) ∧ out = (some (.int v6), σ5))) ∧ (¬ (v4 = ((-2) : Int32)) → (∃ (v8 : Int32) (σ7 : St_), f_X12_bad KC [.ref 219, .int (3 : Int32)] σ3 = some (some (.int v8), σ7) ∧ (v8 = 0 ∨ v8 = 1) ∧ out = (some (.int v8), σ7))))) ∧ (¬ (v4 < 0) → ((v4 = x1 → ((v4 = ((-2) : Int32) → (∃ (v10 : Int32) (σ9 : St_), f_X12_bad KC [.ref 219, .int (1 : Int32)] σ3 = some (some (.int v10), σ9) ∧ (v10 = 0 ∨ v10 = 1) ∧ out = (some (.int v10), σ9))) ∧ (¬ (v4 = ((-2) : Int32)) → (∃ (v12 : Int32) (σ11 : St_), f_X12_bad KC [.ref 219, .int (3 : Int32)] σ3 = some (some (.int v12), σ11) ∧ (v12 = 0 ∨ v12 = 1) ∧ out = (some (.int v12), σ11))))) ∧ (¬ (v4 = x1) → (∃ (v14 : Int32) (σ13 : St_), f_X12_has KC [.int x2, .int v4] σ3 = some (some (.int v14), σ13) ∧ ((v14 = 0 → (∃ (σ15 : St_), f_X12_go KC [.ref 219] σ13 = some (none, σ15) ∧ (((σ15.1 219 7) = (2 : Int32) → Ev_ (P_X12_readListeners KC) 47 [some (.ref 219), some (.int x1), some (.int (x2 ||| ((1 : Int32) <<< (v4 &&& 31)))), none] [] σ15 out) ∧ (¬ ((σ15.1 219 7) = (2 : Int32)) → out = (some (.int (1 : Int32)), (sI_ σ15 219 13 (x2 ||| ((1 : Int32) <<< (v4 &&& 31))))))))) ∧ (¬ (v14 = 0) → ((v4 = ((-2) : Int32) → (∃ (v17 : Int32) (σ16 : St_), f_X12_bad KC [.ref 219, .int (1 : Int32)] σ13 = some (some (.int v17), σ16) ∧ (v17 = 0 ∨ v17 = 1) ∧ out = (some (.int v17), σ16))) ∧ (¬ (v4 = ((-2) : Int32)) → (∃ (v19 : Int32) (σ18 : St_), f_X12_bad KC [.ref 219, .int (3 : Int32)] σ13 = some (some (.int v19), σ18) ∧ (v19 = 0 ∨ v19 = 1) ∧ out = (some (.int v19), σ18)))))))))))))) : Ev_ (P_X12_readListeners KC) 47 [some (.ref 219), some (.int x1), some (.int x2), none] [] σ out := by
  refine ev_n 3 (fun _ => rfl) ?_
  obtain ⟨v2, σ1, hf, h⟩ := h
  refine ev_go rfl (w_callV rfl rfl rfl (Nat.le_of_ble_eq_true rfl) hf) ?_
  obtain ⟨v4, σ3, hf, h⟩ := h
  refine ev_go rfl (w_callV rfl rfl rfl (Nat.le_of_ble_eq_true rfl) hf) ?_
  refine ev_n 2 (fun _ => rfl) ?_
  refine ev_if (c := v4 < 0) rfl (fun _ => rfl) (fun hc => ?_) (fun hc => ?_)
  · replace h := h.1 hc
    refine ev_n 3 (fun _ => rfl) ?_
    refine ev_if (c := v4 = ((-2) : Int32)) rfl (fun _ => rfl) (fun hc => ?_) (fun hc => ?_)
    · replace h := h.1 hc
      refine ev_n 2 (fun _ => rfl) ?_
      obtain ⟨v6, σ5, hf, h⟩ := h
      refine ev_go rfl (w_callV rfl rfl rfl (Nat.le_of_ble_eq_true rfl) hf) ?_
      exact v_zret h.1 rfl h.2
    · replace h := h.2 hc
      refine ev_n 1 (fun _ => rfl) ?_
      obtain ⟨v8, σ7, hf, h⟩ := h
      refine ev_go rfl (w_callV rfl rfl rfl (Nat.le_of_ble_eq_true rfl) hf) ?_
      exact v_zret h.1 rfl h.2
  · replace h := h.2 hc
    refine ev_n 2 (fun _ => rfl) ?_
    refine ev_if (c := v4 = x1) rfl (fun _ => rfl) (fun hc => ?_) (fun hc => ?_)
    · replace h := h.1 hc
      refine ev_n 3 (fun _ => rfl) ?_
      refine ev_if (c := v4 = ((-2) : Int32)) rfl (fun _ => rfl) (fun hc => ?_) (fun hc => ?_)
      · replace h := h.1 hc
        refine ev_n 2 (fun _ => rfl) ?_
        obtain ⟨v10, σ9, hf, h⟩ := h
        refine ev_go rfl (w_callV rfl rfl rfl (Nat.le_of_ble_eq_true rfl) hf) ?_
        exact v_zret h.1 rfl h.2
      · replace h := h.2 hc
        refine ev_n 1 (fun _ => rfl) ?_
        obtain ⟨v12, σ11, hf, h⟩ := h
        refine ev_go rfl (w_callV rfl rfl rfl (Nat.le_of_ble_eq_true rfl) hf) ?_
        exact v_zret h.1 rfl h.2
    · replace h := h.2 hc
      refine ev_n 2 (fun _ => rfl) ?_
      obtain ⟨v14, σ13, hf, h⟩ := h
      refine ev_go rfl (w_callS ⟨Nat.le_of_ble_eq_true rfl, Nat.le_of_ble_eq_true rfl⟩ hf) ?_
      refine ev_if (c := v14 = 0) rfl (fun _ => rfl) (fun hc => ?_) (fun hc => ?_)
      · replace h := h.1 hc
        refine ev_n 7 (fun _ => rfl) ?_
        obtain ⟨σ15, hf, h⟩ := h
        refine ev_go rfl (w_callV rfl rfl rfl (Nat.le_of_ble_eq_true rfl) hf) ?_
        refine ev_n 1 (fun _ => rfl) ?_
        refine ev_go rfl (w_gI rfl) ?_
        refine ev_n 1 (fun _ => rfl) ?_
        refine ev_if (c := (σ15.1 219 7) = (2 : Int32)) rfl (fun _ => rfl) (fun hc => ?_) (fun hc => ?_)
        · replace h := h.1 hc
          exact h
        · replace h := h.2 hc
          refine ev_n 2 (fun _ => rfl) ?_
          refine ev_go rfl (w_pI rfl) ?_
          refine ev_n 1 (fun _ => rfl) ?_
          exact v_zret (by decide) rfl h
      · replace h := h.2 hc
        refine ev_n 3 (fun _ => rfl) ?_
        refine ev_if (c := v4 = ((-2) : Int32)) rfl (fun _ => rfl) (fun hc => ?_) (fun hc => ?_)
        · replace h := h.1 hc
          refine ev_n 2 (fun _ => rfl) ?_
          obtain ⟨v17, σ16, hf, h⟩ := h
          refine ev_go rfl (w_callV rfl rfl rfl (Nat.le_of_ble_eq_true rfl) hf) ?_
          exact v_zret h.1 rfl h.2
        · replace h := h.2 hc
          refine ev_n 1 (fun _ => rfl) ?_
          obtain ⟨v19, σ18, hf, h⟩ := h
          refine ev_go rfl (w_callV rfl rfl rfl (Nat.le_of_ble_eq_true rfl) hf) ?_
          exact v_zret h.1 rfl h.2
theorem m_X12_readListeners : ∀ pc o, (P_X12_readListeners KC).lookup pc = some o → Mon_ o := all_mon (a_X12_readListeners (l := launch0) (E := EC0) EC0_ok)
theorem z_X12_readListeners {x1 : Int32} {σ : St_} {out : Out_} (h : Ev_ (P_X12_readListeners KC) 0 [some (.ref 219), some (.int x1), none, none] [] σ out) : f_X12_readListeners KC [.ref 219, .int x1] σ = some out := fn_eq m_X12_readListeners rfl h
set_option maxRecDepth 20000 in
theorem e_X12_readAct_0  {σ : St_} {out : Out_}  (h : (∃ (v2 : Int32) (σ1 : St_), f_X12_readers KC [.ref 219] σ = some (some (.int v2), σ1) ∧ (∃ (v4 : Int32) (σ3 : St_), f_X12_named KC [.ref 219, .int (16 : Int32), .int v2] σ1 = some (some (.int v4), σ3) ∧ ((0 ≤ v4 → (((σ3.1 219 24) = (60 : Int32) → (∃ (v6 : Int32) (σ5 : St_), f_X12_bad KC [.ref 219, .int (4 : Int32)] σ3 = some (some (.int v6), σ5) ∧ (v6 = 0 ∨ v6 = 1) ∧ out = (some (.int v6), σ5))) ∧ (¬ ((σ3.1 219 24) = (60 : Int32)) → (∃ (σ7 : St_), f_X12_go KC [.ref 219] σ3 = some (none, σ7) ∧ (∃ (v9 : Int32) (σ8 : St_), f_X12_isWord KC [.ref 219, .int (8 : Int32)] σ7 = some (some (.int v9), σ8) ∧ ((v9 = 0 → (∃ (v11 : Int32) (σ10 : St_), f_X12_isWord KC [.ref 219, .int (7 : Int32)] σ8 = some (some (.int v11), σ10) ∧ ((v11 = 0 → (∃ (v13 : Int32) (σ12 : St_), f_X12_bad KC [.ref 219, .int (1 : Int32)] σ10 = some (some (.int v13), σ12) ∧ (v13 = 0 ∨ v13 = 1) ∧ out = (some (.int v13), σ12))) ∧ (¬ (v11 = 0) → Ev_ (P_X12_readAct KC) 75 [some (.ref 219), some (.int v4), some (.int v9), none, none] [] σ10 out)))) ∧ (¬ (v9 = 0) → Ev_ (P_X12_readAct KC) 75 [some (.ref 219), some (.int v4), some (.int v9), none, none] [] σ8 out))))))) ∧ (¬ (0 ≤ v4) → ((v4 = ((-1) : Int32) → (∃ (v15 : Int32) (σ14 : St_), f_X12_bad KC [.ref 219, .int (3 : Int32)] σ3 = some (some (.int v15), σ14) ∧ (v15 = 0 ∨ v15 = 1) ∧ out = (some (.int v15), σ14))) ∧ (¬ (v4 = ((-1) : Int32)) → (∃ (v17 : Int32) (σ16 : St_), f_X12_bad KC [.ref 219, .int (1 : Int32)] σ3 = some (some (.int v17), σ16) ∧ (v17 = 0 ∨ v17 = 1) ∧ out = (some (.int v17), σ16))))))))) : Ev_ (P_X12_readAct KC) 0 [some (.ref 219), none, none, none, none] [] σ out := by
  refine ev_n 3 (fun _ => rfl) ?_
  obtain ⟨v2, σ1, hf, h⟩ := h
  refine ev_go rfl (w_callV rfl rfl rfl (Nat.le_of_ble_eq_true rfl) hf) ?_
  obtain ⟨v4, σ3, hf, h⟩ := h
  refine ev_go rfl (w_callV rfl rfl rfl (Nat.le_of_ble_eq_true rfl) hf) ?_
  refine ev_n 2 (fun _ => rfl) ?_
  refine ev_if (c := 0 ≤ v4) rfl (fun _ => rfl) (fun hc => ?_) (fun hc => ?_)
  · replace h := h.1 hc
    refine ev_n 1 (fun _ => rfl) ?_
    refine ev_go rfl (w_gI rfl) ?_
    refine ev_n 1 (fun _ => rfl) ?_
    refine ev_if (c := (σ3.1 219 24) = (60 : Int32)) rfl (fun _ => rfl) (fun hc => ?_) (fun hc => ?_)
    · replace h := h.1 hc
      refine ev_n 2 (fun _ => rfl) ?_
      obtain ⟨v6, σ5, hf, h⟩ := h
      refine ev_go rfl (w_callV rfl rfl rfl (Nat.le_of_ble_eq_true rfl) hf) ?_
      exact v_zret h.1 rfl h.2
    · replace h := h.2 hc
      refine ev_n 1 (fun _ => rfl) ?_
      obtain ⟨σ7, hf, h⟩ := h
      refine ev_go rfl (w_callV rfl rfl rfl (Nat.le_of_ble_eq_true rfl) hf) ?_
      refine ev_n 2 (fun _ => rfl) ?_
      obtain ⟨v9, σ8, hf, h⟩ := h
      refine ev_go rfl (w_callV rfl rfl rfl (Nat.le_of_ble_eq_true rfl) hf) ?_
      refine ev_n 2 (fun _ => rfl) ?_
      refine ev_if (c := v9 = 0) rfl (fun _ => rfl) (fun hc => ?_) (fun hc => ?_)
      · replace h := h.1 hc
        refine ev_n 2 (fun _ => rfl) ?_
        obtain ⟨v11, σ10, hf, h⟩ := h
        refine ev_go rfl (w_callV rfl rfl rfl (Nat.le_of_ble_eq_true rfl) hf) ?_
        refine ev_if (c := v11 = 0) rfl (fun _ => rfl) (fun hc => ?_) (fun hc => ?_)
        · replace h := h.1 hc
          refine ev_n 2 (fun _ => rfl) ?_
          obtain ⟨v13, σ12, hf, h⟩ := h
          refine ev_go rfl (w_callV rfl rfl rfl (Nat.le_of_ble_eq_true rfl) hf) ?_
          exact v_zret h.1 rfl h.2
        · replace h := h.2 hc
          exact h
      · replace h := h.2 hc
        exact h
  · replace h := h.2 hc
    refine ev_n 3 (fun _ => rfl) ?_
    refine ev_if (c := v4 = ((-1) : Int32)) rfl (fun _ => rfl) (fun hc => ?_) (fun hc => ?_)
    · replace h := h.1 hc
      refine ev_n 2 (fun _ => rfl) ?_
      obtain ⟨v15, σ14, hf, h⟩ := h
      refine ev_go rfl (w_callV rfl rfl rfl (Nat.le_of_ble_eq_true rfl) hf) ?_
      exact v_zret h.1 rfl h.2
    · replace h := h.2 hc
      refine ev_n 1 (fun _ => rfl) ?_
      obtain ⟨v17, σ16, hf, h⟩ := h
      refine ev_go rfl (w_callV rfl rfl rfl (Nat.le_of_ble_eq_true rfl) hf) ?_
      exact v_zret h.1 rfl h.2
set_option maxRecDepth 20000 in
theorem e_X12_readAct_75 {x1 : Int32} {x2 : Int32} {σ : St_} {out : Out_}  (h : (∃ (σ1 : St_), f_X12_go KC [.ref 219] σ = some (none, σ1) ∧ (∃ (v3 : Int32) (σ2 : St_), f_X12_chaps KC [.ref 219] σ1 = some (some (.int v3), σ2) ∧ (∃ (v5 : Int32) (σ4 : St_), f_X12_readNamed KC [.ref 219, .int (0 : Int32), .int v3] σ2 = some (some (.int v5), σ4) ∧ ((v5 = 0 → out = (some (.int (0 : Int32)), σ4)) ∧ (¬ (v5 = 0) → ((x2 = 0 → (∃ (v7 : Int32) (σ6 : St_), f_X12_addAct KC [.ref 219, .int x1, .int (σ4.1 219 13), .int (0 : Int32), .int (0 : Int32)] σ4 = some (some (.int v7), σ6) ∧ (∃ (v9 : Int32) (σ8 : St_), f_X12_readEnd KC [.ref 219] σ6 = some (some (.int v9), σ8) ∧ (v9 = 0 ∨ v9 = 1) ∧ out = (some (.int v9), σ8)))) ∧ (¬ (x2 = 0) → (∃ (v11 : Int32) (σ10 : St_), f_X12_readNumber KC [.ref 219, .int (1 : Int32), .int (4 : Int32)] σ4 = some (some (.int v11), σ10) ∧ ((v11 = 0 → out = (some (.int (0 : Int32)), σ10)) ∧ (¬ (v11 = 0) → (∃ (v13 : Int32) (σ12 : St_), f_X12_isWord KC [.ref 219, .int (9 : Int32)] σ10 = some (some (.int v13), σ12) ∧ ((v13 = 0 → (∃ (v15 : Int32) (σ14 : St_), f_X12_bad KC [.ref 219, .int (1 : Int32)] σ12 = some (some (.int v15), σ14) ∧ (v15 = 0 ∨ v15 = 1) ∧ out = (some (.int v15), σ14))) ∧ (¬ (v13 = 0) → (∃ (σ16 : St_), f_X12_go KC [.ref 219] σ12 = some (none, σ16) ∧ (∃ (v18 : Int32) (σ17 : St_), f_X12_readListeners KC [.ref 219, .int x1] σ16 = some (some (.int v18), σ17) ∧ ((v18 = 0 → out = (some (.int (0 : Int32)), σ17)) ∧ (¬ (v18 = 0) → (∃ (v20 : Int32) (σ19 : St_), f_X12_addAct KC [.ref 219, .int x1, .int (σ4.1 219 13), .int (σ10.1 219 13), .int (σ17.1 219 13)] σ17 = some (some (.int v20), σ19) ∧ (∃ (v22 : Int32) (σ21 : St_), f_X12_readEnd KC [.ref 219] σ19 = some (some (.int v22), σ21) ∧ (v22 = 0 ∨ v22 = 1) ∧ out = (some (.int v22), σ21))))))))))))))))))))) : Ev_ (P_X12_readAct KC) 75 [some (.ref 219), some (.int x1), some (.int x2), none, none] [] σ out := by
  refine ev_n 1 (fun _ => rfl) ?_
  obtain ⟨σ1, hf, h⟩ := h
  refine ev_go rfl (w_callV rfl rfl rfl (Nat.le_of_ble_eq_true rfl) hf) ?_
  refine ev_n 3 (fun _ => rfl) ?_
  obtain ⟨v3, σ2, hf, h⟩ := h
  refine ev_go rfl (w_callV rfl rfl rfl (Nat.le_of_ble_eq_true rfl) hf) ?_
  obtain ⟨v5, σ4, hf, h⟩ := h
  refine ev_go rfl (w_callV rfl rfl rfl (Nat.le_of_ble_eq_true rfl) hf) ?_
  refine ev_if (c := v5 = 0) rfl (fun _ => rfl) (fun hc => ?_) (fun hc => ?_)
  · replace h := h.1 hc
    refine ev_n 1 (fun _ => rfl) ?_
    exact v_zret (by decide) rfl h
  · replace h := h.2 hc
    refine ev_n 1 (fun _ => rfl) ?_
    refine ev_go rfl (w_gI rfl) ?_
    refine ev_n 2 (fun _ => rfl) ?_
    refine ev_if (c := x2 = 0) rfl (fun _ => rfl) (fun hc => ?_) (fun hc => ?_)
    · replace h := h.1 hc
      refine ev_n 5 (fun _ => rfl) ?_
      obtain ⟨v7, σ6, hf, h⟩ := h
      refine ev_go rfl (w_callV rfl rfl rfl (Nat.le_of_ble_eq_true rfl) hf) ?_
      refine ev_n 2 (fun _ => rfl) ?_
      obtain ⟨v9, σ8, hf, h⟩ := h
      refine ev_go rfl (w_callV rfl rfl rfl (Nat.le_of_ble_eq_true rfl) hf) ?_
      exact v_zret h.1 rfl h.2
    · replace h := h.2 hc
      refine ev_n 3 (fun _ => rfl) ?_
      obtain ⟨v11, σ10, hf, h⟩ := h
      refine ev_go rfl (w_callV rfl rfl rfl (Nat.le_of_ble_eq_true rfl) hf) ?_
      refine ev_if (c := v11 = 0) rfl (fun _ => rfl) (fun hc => ?_) (fun hc => ?_)
      · replace h := h.1 hc
        refine ev_n 1 (fun _ => rfl) ?_
        exact v_zret (by decide) rfl h
      · replace h := h.2 hc
        refine ev_n 1 (fun _ => rfl) ?_
        refine ev_go rfl (w_gI rfl) ?_
        refine ev_n 3 (fun _ => rfl) ?_
        obtain ⟨v13, σ12, hf, h⟩ := h
        refine ev_go rfl (w_callV rfl rfl rfl (Nat.le_of_ble_eq_true rfl) hf) ?_
        refine ev_if (c := v13 = 0) rfl (fun _ => rfl) (fun hc => ?_) (fun hc => ?_)
        · replace h := h.1 hc
          refine ev_n 2 (fun _ => rfl) ?_
          obtain ⟨v15, σ14, hf, h⟩ := h
          refine ev_go rfl (w_callV rfl rfl rfl (Nat.le_of_ble_eq_true rfl) hf) ?_
          exact v_zret h.1 rfl h.2
        · replace h := h.2 hc
          refine ev_n 1 (fun _ => rfl) ?_
          obtain ⟨σ16, hf, h⟩ := h
          refine ev_go rfl (w_callV rfl rfl rfl (Nat.le_of_ble_eq_true rfl) hf) ?_
          refine ev_n 2 (fun _ => rfl) ?_
          obtain ⟨v18, σ17, hf, h⟩ := h
          refine ev_go rfl (w_callV rfl rfl rfl (Nat.le_of_ble_eq_true rfl) hf) ?_
          refine ev_if (c := v18 = 0) rfl (fun _ => rfl) (fun hc => ?_) (fun hc => ?_)
          · replace h := h.1 hc
            refine ev_n 1 (fun _ => rfl) ?_
            exact v_zret (by decide) rfl h
          · replace h := h.2 hc
            refine ev_n 5 (fun _ => rfl) ?_
            refine ev_go rfl (w_gI rfl) ?_
            obtain ⟨v20, σ19, hf, h⟩ := h
            refine ev_go rfl (w_callV rfl rfl rfl (Nat.le_of_ble_eq_true rfl) hf) ?_
            refine ev_n 2 (fun _ => rfl) ?_
            obtain ⟨v22, σ21, hf, h⟩ := h
            refine ev_go rfl (w_callV rfl rfl rfl (Nat.le_of_ble_eq_true rfl) hf) ?_
            exact v_zret h.1 rfl h.2
theorem m_X12_readAct : ∀ pc o, (P_X12_readAct KC).lookup pc = some o → Mon_ o := all_mon (a_X12_readAct (l := launch0) (E := EC0) EC0_ok)
theorem z_X12_readAct  {σ : St_} {out : Out_} (h : Ev_ (P_X12_readAct KC) 0 [some (.ref 219), none, none, none, none] [] σ out) : f_X12_readAct KC [.ref 219] σ = some out := fn_eq m_X12_readAct rfl h
set_option maxRecDepth 20000 in
theorem e_X12_plan_0  {σ : St_} {out : Out_}  (h : (∃ (σ1 : St_), f_X12_begin KC [.ref 219, .int (700 : Int32)] σ = some (none, σ1) ∧ Ev_ (P_X12_plan KC) 12 [some (.ref 219)] [] (sI_ σ1 219 24 (0 : Int32)) out)) : Ev_ (P_X12_plan KC) 0 [some (.ref 219)] [] σ out := by
  refine ev_n 2 (fun _ => rfl) ?_
  obtain ⟨σ1, hf, h⟩ := h
  refine ev_go rfl (w_callV rfl rfl rfl (Nat.le_of_ble_eq_true rfl) hf) ?_
  refine ev_n 2 (fun _ => rfl) ?_
  refine ev_go rfl (w_pI rfl) ?_
  exact h
set_option maxRecDepth 20000 in
theorem e_X12_plan_12  {σ : St_} {out : Out_}  (h : (((σ.1 219 7) = 0 → (∃ (v2 : Int32) (σ1 : St_), f_X12_plans KC [.ref 219] σ = some (some (.int v2), σ1) ∧ out = (some (.int v2), σ1))) ∧ (¬ ((σ.1 219 7) = 0) → (∃ (v4 : Int32) (σ3 : St_), f_X12_readAct KC [.ref 219] σ = some (some (.int v4), σ3) ∧ ((v4 = 0 → out = (some (.int (((-1) : Int32) - (σ3.1 219 11))), σ3)) ∧ (¬ (v4 = 0) → Ev_ (P_X12_plan KC) 12 [some (.ref 219)] [] σ3 out)))))) : Ev_ (P_X12_plan KC) 12 [some (.ref 219)] [] σ out := by
  refine ev_n 1 (fun _ => rfl) ?_
  refine ev_go rfl (w_gI rfl) ?_
  refine ev_if (c := (σ.1 219 7) = 0) rfl (fun _ => rfl) (fun hc => ?_) (fun hc => ?_)
  · replace h := h.1 hc
    refine ev_n 1 (fun _ => rfl) ?_
    obtain ⟨v2, σ1, hf, h⟩ := h
    refine ev_go rfl (w_callV rfl rfl rfl (Nat.le_of_ble_eq_true rfl) hf) ?_
    exact ev_ret rfl (fun _ => rfl) h
  · replace h := h.2 hc
    refine ev_n 1 (fun _ => rfl) ?_
    obtain ⟨v4, σ3, hf, h⟩ := h
    refine ev_go rfl (w_callV rfl rfl rfl (Nat.le_of_ble_eq_true rfl) hf) ?_
    refine ev_if (c := v4 = 0) rfl (fun _ => rfl) (fun hc => ?_) (fun hc => ?_)
    · replace h := h.1 hc
      refine ev_n 2 (fun _ => rfl) ?_
      refine ev_go rfl (w_gI rfl) ?_
      refine ev_n 1 (fun _ => rfl) ?_
      exact ev_ret rfl (fun _ => rfl) h
    · replace h := h.2 hc
      exact h
theorem m_X12_plan : ∀ pc o, (P_X12_plan KC).lookup pc = some o → Mon_ o := all_mon (a_X12_plan (l := launch0) (E := EC0) EC0_ok)
theorem z_X12_plan  {σ : St_} {out : Out_} (h : Ev_ (P_X12_plan KC) 0 [some (.ref 219)] [] σ out) : f_X12_plan KC [.ref 219] σ = some out := fn_eq m_X12_plan rfl h
set_option maxRecDepth 20000 in
theorem e_X12_act_0 {x1 : Int32} {x2 : Int32} {σ : St_} {out : Out_}  (h : (∃ (σ1 : St_), f_X12_lay KC [.ref 219] σ = some (none, σ1) ∧ ((x1 < 0 → (∃ (v3 : Int32) (σ2 : St_), f_X12_refuse KC [.ref 219] σ1 = some (some (.int v3), σ2) ∧ out = (some (.int v3), σ2))) ∧ (¬ (x1 < 0) → (vpin_ (390 : Int32) 1050 = true) ∧ (((σ1.1 221 (Int32.toNatClampNeg (390 : Int32))) ≤ x1 → (∃ (v5 : Int32) (σ4 : St_), f_X12_refuse KC [.ref 219] σ1 = some (some (.int v5), σ4) ∧ out = (some (.int v5), σ4))) ∧ (¬ ((σ1.1 221 (Int32.toNatClampNeg (390 : Int32))) ≤ x1) → (∃ (v7 : Int32) (σ6 : St_), f_X12_isIn KC [.int x2, .int (0 : Int32), .int (3 : Int32)] σ1 = some (some (.int v7), σ6) ∧ ((v7 = 0 → (∃ (v9 : Int32) (σ8 : St_), f_X12_refuse KC [.ref 219] σ6 = some (some (.int v9), σ8) ∧ out = (some (.int v9), σ8))) ∧ (¬ (v7 = 0) → (vpin_ (((400 : Int32) + ((4 : Int32) * x1)) + x2) 1050 = true) ∧ out = (some (.int ((sI_ σ6 219 0 (0 : Int32)).1 221 (Int32.toNatClampNeg (((400 : Int32) + ((4 : Int32) * x1)) + x2)))), (sI_ σ6 219 0 (0 : Int32)))))))))))) : Ev_ (P_X12_act KC) 0 [some (.ref 219), some (.int x1), some (.int x2)] [] σ out := by
  refine ev_n 1 (fun _ => rfl) ?_
  obtain ⟨σ1, hf, h⟩ := h
  refine ev_go rfl (w_callV rfl rfl rfl (Nat.le_of_ble_eq_true rfl) hf) ?_
  refine ev_n 1 (fun _ => rfl) ?_
  refine ev_if (c := x1 < 0) rfl (fun _ => rfl) (fun hc => ?_) (fun hc => ?_)
  · replace h := h.1 hc
    refine ev_n 1 (fun _ => rfl) ?_
    obtain ⟨v3, σ2, hf, h⟩ := h
    refine ev_go rfl (w_callV rfl rfl rfl (Nat.le_of_ble_eq_true rfl) hf) ?_
    exact ev_ret rfl (fun _ => rfl) h
  · replace h := h.2 hc
    refine ev_n 2 (fun _ => rfl) ?_
    refine ev_go rfl (w_gF rfl rfl) ?_
    refine ev_n 1 (fun _ => rfl) ?_
    obtain ⟨h0, h⟩ := h
    refine ev_go rfl (w_iald rfl h0) ?_
    refine ev_if (c := (σ1.1 221 (Int32.toNatClampNeg (390 : Int32))) ≤ x1) rfl (fun _ => rfl) (fun hc => ?_) (fun hc => ?_)
    · replace h := h.1 hc
      refine ev_n 1 (fun _ => rfl) ?_
      obtain ⟨v5, σ4, hf, h⟩ := h
      refine ev_go rfl (w_callV rfl rfl rfl (Nat.le_of_ble_eq_true rfl) hf) ?_
      exact ev_ret rfl (fun _ => rfl) h
    · replace h := h.2 hc
      refine ev_n 3 (fun _ => rfl) ?_
      obtain ⟨v7, σ6, hf, h⟩ := h
      refine ev_go rfl (w_callS ⟨Nat.le_of_ble_eq_true rfl, Nat.le_of_ble_eq_true rfl⟩ hf) ?_
      refine ev_if (c := v7 = 0) rfl (fun _ => rfl) (fun hc => ?_) (fun hc => ?_)
      · replace h := h.1 hc
        refine ev_n 1 (fun _ => rfl) ?_
        obtain ⟨v9, σ8, hf, h⟩ := h
        refine ev_go rfl (w_callV rfl rfl rfl (Nat.le_of_ble_eq_true rfl) hf) ?_
        exact ev_ret rfl (fun _ => rfl) h
      · replace h := h.2 hc
        refine ev_n 2 (fun _ => rfl) ?_
        refine ev_go rfl (w_pI rfl) ?_
        refine ev_n 1 (fun _ => rfl) ?_
        refine ev_go rfl (w_gF rfl rfl) ?_
        refine ev_n 7 (fun _ => rfl) ?_
        obtain ⟨h0, h⟩ := h
        refine ev_go rfl (w_iald rfl h0) ?_
        exact ev_ret rfl (fun _ => rfl) h
theorem m_X12_act : ∀ pc o, (P_X12_act KC).lookup pc = some o → Mon_ o := all_mon (a_X12_act (l := launch0) (E := EC0) EC0_ok)
theorem z_X12_act {x1 : Int32} {x2 : Int32} {σ : St_} {out : Out_} (h : Ev_ (P_X12_act KC) 0 [some (.ref 219), some (.int x1), some (.int x2)] [] σ out) : f_X12_act KC [.ref 219, .int x1, .int x2] σ = some out := fn_eq m_X12_act rfl h
set_option maxRecDepth 20000 in
theorem e_X12_dawn_0  {σ : St_} {out : Out_}  (h : Ev_ (P_X12_dawn KC) 2 [some (.ref 219), some (.int (0 : Int32))] [] σ out) : Ev_ (P_X12_dawn KC) 0 [some (.ref 219), none] [] σ out := by
  refine ev_n 2 (fun _ => rfl) ?_
  exact h
set_option maxRecDepth 20000 in
theorem e_X12_dawn_2 {x1 : Int32} {σ : St_} {out : Out_}  (h : (((144 : Int32) ≤ x1 → Ev_ (P_X12_dawn KC) 24 [some (.ref 219), some (.int (0 : Int32))] [] σ out) ∧ (¬ ((144 : Int32) ≤ x1) → (vpin_ x1 144 = true) ∧ Ev_ (P_X12_dawn KC) 2 [some (.ref 219), some (.int (x1 + 1))] [] (sI_ σ 229 (Int32.toNatClampNeg x1) (0 : Int32)) out))) : Ev_ (P_X12_dawn KC) 2 [some (.ref 219), some (.int x1)] [] σ out := by
  refine ev_n 2 (fun _ => rfl) ?_
  refine ev_if (c := (144 : Int32) ≤ x1) rfl (fun _ => rfl) (fun hc => ?_) (fun hc => ?_)
  · replace h := h.1 hc
    refine ev_n 2 (fun _ => rfl) ?_
    exact h
  · replace h := h.2 hc
    refine ev_n 1 (fun _ => rfl) ?_
    refine ev_go rfl (w_gF rfl rfl) ?_
    refine ev_n 2 (fun _ => rfl) ?_
    obtain ⟨h0, h⟩ := h
    refine ev_go rfl (w_iast rfl h0) ?_
    refine ev_n 2 (fun _ => rfl) ?_
    exact h
set_option maxRecDepth 20000 in
theorem e_X12_dawn_24 {x1 : Int32} {σ : St_} {out : Out_}  (h : (∃ (v2 : Int32) (σ1 : St_), f_X12_readers KC [.ref 219] σ = some (some (.int v2), σ1) ∧ ((v2 ≤ x1 → out = (none, σ1)) ∧ (¬ (v2 ≤ x1) → (∃ (v4 : Int32) (σ3 : St_), f_X12_readerOf KC [.ref 219, .int x1, .int (3 : Int32)] σ1 = some (some (.int v4), σ3) ∧ (vpin_ x1 9 = true) ∧ (vpin_ x1 9 = true) ∧ (vpin_ x1 9 = true) ∧ Ev_ (P_X12_dawn KC) 24 [some (.ref 219), some (.int (x1 + 1))] [] (sI_ (sI_ (sI_ σ3 230 (Int32.toNatClampNeg x1) v4) 231 (Int32.toNatClampNeg x1) (0 : Int32)) 232 (Int32.toNatClampNeg x1) (0 : Int32)) out))))) : Ev_ (P_X12_dawn KC) 24 [some (.ref 219), some (.int x1)] [] σ out := by
  refine ev_n 2 (fun _ => rfl) ?_
  obtain ⟨v2, σ1, hf, h⟩ := h
  refine ev_go rfl (w_callV rfl rfl rfl (Nat.le_of_ble_eq_true rfl) hf) ?_
  refine ev_if (c := v2 ≤ x1) rfl (fun _ => rfl) (fun hc => ?_) (fun hc => ?_)
  · replace h := h.1 hc
    exact ev_ret rfl (fun _ => rfl) h
  · replace h := h.2 hc
    refine ev_n 1 (fun _ => rfl) ?_
    refine ev_go rfl (w_gF rfl rfl) ?_
    refine ev_n 4 (fun _ => rfl) ?_
    obtain ⟨v4, σ3, hf, h⟩ := h
    refine ev_go rfl (w_callV rfl rfl rfl (Nat.le_of_ble_eq_true rfl) hf) ?_
    obtain ⟨h0, h⟩ := h
    refine ev_go rfl (w_iast rfl h0) ?_
    refine ev_n 1 (fun _ => rfl) ?_
    refine ev_go rfl (w_gF rfl rfl) ?_
    refine ev_n 2 (fun _ => rfl) ?_
    obtain ⟨h0, h⟩ := h
    refine ev_go rfl (w_iast rfl h0) ?_
    refine ev_n 1 (fun _ => rfl) ?_
    refine ev_go rfl (w_gF rfl rfl) ?_
    refine ev_n 2 (fun _ => rfl) ?_
    obtain ⟨h0, h⟩ := h
    refine ev_go rfl (w_iast rfl h0) ?_
    refine ev_n 2 (fun _ => rfl) ?_
    exact h
theorem m_X12_dawn : ∀ pc o, (P_X12_dawn KC).lookup pc = some o → Mon_ o := all_mon (a_X12_dawn (l := launch0) (E := EC0) EC0_ok)
theorem z_X12_dawn  {σ : St_} {out : Out_} (h : Ev_ (P_X12_dawn KC) 0 [some (.ref 219), none] [] σ out) : f_X12_dawn KC [.ref 219] σ = some out := fn_eq m_X12_dawn rfl h
set_option maxRecDepth 20000 in
theorem e_X12_lackOf_0 {x1 : Int32} {x2 : Int32} {σ : St_} {out : Out_}  (h : Ev_ (P_X12_lackOf KC) 5 [some (.ref 219), some (.int x1), some (.int x2), some (.int (0 : Int32)), some (.int (0 : Int32))] [] σ out) : Ev_ (P_X12_lackOf KC) 0 [some (.ref 219), some (.int x1), some (.int x2), none, none] [] σ out := by
  refine ev_n 4 (fun _ => rfl) ?_
  exact h
set_option maxRecDepth 20000 in
theorem e_X12_lackOf_5 {x1 : Int32} {x2 : Int32} {x3 : Int32} {x4 : Int32} {σ : St_} {out : Out_}  (h : ((x2 ≤ x4 → out = (some (.int (x3 / (10 : Int32))), σ)) ∧ (¬ (x2 ≤ x4) → (∃ (v2 : Int32) (σ1 : St_), f_X12_leanOf KC [.ref 219, .int x2, .int x4] σ = some (some (.int v2), σ1) ∧ (vpin_ (((16 : Int32) * x1) + x4) 144 = true) ∧ Ev_ (P_X12_lackOf KC) 5 [some (.ref 219), some (.int x1), some (.int x2), some (.int (x3 + (v2 * ((1000000 : Int32) - (σ1.1 229 (Int32.toNatClampNeg (((16 : Int32) * x1) + x4))))))), some (.int (x4 + 1))] [] σ1 out)))) : Ev_ (P_X12_lackOf KC) 5 [some (.ref 219), some (.int x1), some (.int x2), some (.int x3), some (.int x4)] [] σ out := by
  refine ev_n 2 (fun _ => rfl) ?_
  refine ev_if (c := x2 ≤ x4) rfl (fun _ => rfl) (fun hc => ?_) (fun hc => ?_)
  · replace h := h.1 hc
    refine ev_n 2 (fun _ => rfl) ?_
    refine ev_go rfl (w_div (by decide)) ?_
    exact ev_ret rfl (fun _ => rfl) h
  · replace h := h.2 hc
    refine ev_n 4 (fun _ => rfl) ?_
    obtain ⟨v2, σ1, hf, h⟩ := h
    refine ev_go rfl (w_callV rfl rfl rfl (Nat.le_of_ble_eq_true rfl) hf) ?_
    refine ev_n 2 (fun _ => rfl) ?_
    refine ev_go rfl (w_gF rfl rfl) ?_
    refine ev_n 5 (fun _ => rfl) ?_
    obtain ⟨h0, h⟩ := h
    refine ev_go rfl (w_iald rfl h0) ?_
    refine ev_n 6 (fun _ => rfl) ?_
    exact h
theorem m_X12_lackOf : ∀ pc o, (P_X12_lackOf KC).lookup pc = some o → Mon_ o := all_mon (a_X12_lackOf (l := launch0) (E := EC0) EC0_ok)
theorem z_X12_lackOf {x1 : Int32} {x2 : Int32} {σ : St_} {out : Out_} (h : Ev_ (P_X12_lackOf KC) 0 [some (.ref 219), some (.int x1), some (.int x2), none, none] [] σ out) : f_X12_lackOf KC [.ref 219, .int x1, .int x2] σ = some out := fn_eq m_X12_lackOf rfl h
set_option maxRecDepth 20000 in
theorem e_X12_up_0 {x0 : Int32} {x1 : Int32} {σ : St_} {out : Out_}  (h : (¬ x1 = 0) ∧ out = (some (.int (((x0 + x1) - (1 : Int32)) / x1)), σ)) : Ev_ (P_X12_up KC) 0 [some (.int x0), some (.int x1)] [] σ out := by
  refine ev_n 6 (fun _ => rfl) ?_
  obtain ⟨h0, h⟩ := h
  refine ev_go rfl (w_div h0) ?_
  exact ev_ret rfl (fun _ => rfl) h
theorem m_X12_up : ∀ pc o, (P_X12_up KC).lookup pc = some o → Mon_ o := all_mon (a_X12_up (l := launch0) (E := EC0) EC0_ok)
theorem z_X12_up {x0 : Int32} {x1 : Int32} {σ : St_} {out : Out_} (h : Ev_ (P_X12_up KC) 0 [some (.int x0), some (.int x1)] [] σ out) : f_X12_up KC [.int x0, .int x1] σ = some out := fn_eq m_X12_up rfl h
set_option maxRecDepth 20000 in
theorem e_X12_timeToRead_0 {x1 : Int32} {x2 : Int32} {σ : St_} {out : Out_}  (h : (∃ (v2 : Int32) (σ1 : St_), f_X12_chapOf KC [.ref 219, .int x2, .int (0 : Int32)] σ = some (some (.int v2), σ1) ∧ (∃ (v4 : Int32) (σ3 : St_), f_X12_readerOf KC [.ref 219, .int x1, .int (0 : Int32)] σ1 = some (some (.int v4), σ3) ∧ (∃ (v6 : Int32) (σ5 : St_), f_X12_up KC [.int v2, .int v4] σ3 = some (some (.int v6), σ5) ∧ out = (some (.int v6), σ5))))) : Ev_ (P_X12_timeToRead KC) 0 [some (.ref 219), some (.int x1), some (.int x2)] [] σ out := by
  refine ev_n 3 (fun _ => rfl) ?_
  obtain ⟨v2, σ1, hf, h⟩ := h
  refine ev_go rfl (w_callV rfl rfl rfl (Nat.le_of_ble_eq_true rfl) hf) ?_
  refine ev_n 3 (fun _ => rfl) ?_
  obtain ⟨v4, σ3, hf, h⟩ := h
  refine ev_go rfl (w_callV rfl rfl rfl (Nat.le_of_ble_eq_true rfl) hf) ?_
  obtain ⟨v6, σ5, hf, h⟩ := h
  refine ev_go rfl (w_callS ⟨Nat.le_of_ble_eq_true rfl, Nat.le_of_ble_eq_true rfl⟩ hf) ?_
  exact ev_ret rfl (fun _ => rfl) h
theorem m_X12_timeToRead : ∀ pc o, (P_X12_timeToRead KC).lookup pc = some o → Mon_ o := all_mon (a_X12_timeToRead (l := launch0) (E := EC0) EC0_ok)
theorem z_X12_timeToRead {x1 : Int32} {x2 : Int32} {σ : St_} {out : Out_} (h : Ev_ (P_X12_timeToRead KC) 0 [some (.ref 219), some (.int x1), some (.int x2)] [] σ out) : f_X12_timeToRead KC [.ref 219, .int x1, .int x2] σ = some out := fn_eq m_X12_timeToRead rfl h
set_option maxRecDepth 20000 in
theorem e_X12_timeToTell_0 {x1 : Int32} {x2 : Int32} {σ : St_} {out : Out_}  (h : (∃ (v2 : Int32) (σ1 : St_), f_X12_chapOf KC [.ref 219, .int x1, .int (0 : Int32)] σ = some (some (.int v2), σ1) ∧ (vpin_ (2 : Int32) 1050 = true) ∧ (∃ (v4 : Int32) (σ3 : St_), f_X12_up KC [.int (v2 * x2), .int ((4 : Int32) * (σ1.1 221 (Int32.toNatClampNeg (2 : Int32))))] σ1 = some (some (.int v4), σ3) ∧ out = (some (.int v4), σ3)))) : Ev_ (P_X12_timeToTell KC) 0 [some (.ref 219), some (.int x1), some (.int x2)] [] σ out := by
  refine ev_n 3 (fun _ => rfl) ?_
  obtain ⟨v2, σ1, hf, h⟩ := h
  refine ev_go rfl (w_callV rfl rfl rfl (Nat.le_of_ble_eq_true rfl) hf) ?_
  refine ev_n 4 (fun _ => rfl) ?_
  refine ev_go rfl (w_gF rfl rfl) ?_
  refine ev_n 1 (fun _ => rfl) ?_
  obtain ⟨h0, h⟩ := h
  refine ev_go rfl (w_iald rfl h0) ?_
  refine ev_n 1 (fun _ => rfl) ?_
  obtain ⟨v4, σ3, hf, h⟩ := h
  refine ev_go rfl (w_callS ⟨Nat.le_of_ble_eq_true rfl, Nat.le_of_ble_eq_true rfl⟩ hf) ?_
  exact ev_ret rfl (fun _ => rfl) h
theorem m_X12_timeToTell : ∀ pc o, (P_X12_timeToTell KC).lookup pc = some o → Mon_ o := all_mon (a_X12_timeToTell (l := launch0) (E := EC0) EC0_ok)
theorem z_X12_timeToTell {x1 : Int32} {x2 : Int32} {σ : St_} {out : Out_} (h : Ev_ (P_X12_timeToTell KC) 0 [some (.ref 219), some (.int x1), some (.int x2)] [] σ out) : f_X12_timeToTell KC [.ref 219, .int x1, .int x2] σ = some out := fn_eq m_X12_timeToTell rfl h
set_option maxRecDepth 20000 in
theorem e_X12_reads_0 {x1 : Int32} {x2 : Int32} {σ : St_} {out : Out_}  (h : (vpin_ x1 9 = true) ∧ (∃ (v2 : Int32) (σ1 : St_), f_X12_timeToRead KC [.ref 219, .int x1, .int x2] σ = some (some (.int v2), σ1) ∧ (vpin_ x1 9 = true) ∧ (∃ (v4 : Int32) (σ3 : St_), f_X12_lackOf KC [.ref 219, .int x1, .int x2] (sI_ σ1 230 (Int32.toNatClampNeg x1) ((σ.1 230 (Int32.toNatClampNeg x1)) - v2)) = some (some (.int v4), σ3) ∧ (∃ (v6 : Int32) (σ5 : St_), f_X12_readerOf KC [.ref 219, .int x1, .int (4 : Int32)] σ3 = some (some (.int v6), σ5) ∧ (vpin_ (((16 : Int32) * x1) + x2) 144 = true) ∧ ((((((1000000 : Int32) - (v4 / (2 : Int32))) * ((10 : Int32) - v6)) / (10 : Int32)) ≤ (σ5.1 229 (Int32.toNatClampNeg (((16 : Int32) * x1) + x2))) → (vpin_ x1 9 = true) ∧ (vpin_ x1 9 = true) ∧ out = (none, (sI_ σ5 231 (Int32.toNatClampNeg x1) ((σ5.1 231 (Int32.toNatClampNeg x1)) ||| ((1 : Int32) <<< (x2 &&& 31)))))) ∧ (¬ (((((1000000 : Int32) - (v4 / (2 : Int32))) * ((10 : Int32) - v6)) / (10 : Int32)) ≤ (σ5.1 229 (Int32.toNatClampNeg (((16 : Int32) * x1) + x2)))) → (vpin_ (((16 : Int32) * x1) + x2) 144 = true) ∧ (vpin_ x1 9 = true) ∧ (vpin_ x1 9 = true) ∧ out = (none, (sI_ (sI_ σ5 229 (Int32.toNatClampNeg (((16 : Int32) * x1) + x2)) ((((1000000 : Int32) - (v4 / (2 : Int32))) * ((10 : Int32) - v6)) / (10 : Int32))) 231 (Int32.toNatClampNeg x1) (((sI_ σ5 229 (Int32.toNatClampNeg (((16 : Int32) * x1) + x2)) ((((1000000 : Int32) - (v4 / (2 : Int32))) * ((10 : Int32) - v6)) / (10 : Int32))).1 231 (Int32.toNatClampNeg x1)) ||| ((1 : Int32) <<< (x2 &&& 31))))))))))) : Ev_ (P_X12_reads KC) 0 [some (.ref 219), some (.int x1), some (.int x2), none] [] σ out := by
  refine ev_n 1 (fun _ => rfl) ?_
  refine ev_go rfl (w_gF rfl rfl) ?_
  refine ev_n 2 (fun _ => rfl) ?_
  obtain ⟨h0, h⟩ := h
  refine ev_go rfl (w_iald rfl h0) ?_
  refine ev_n 3 (fun _ => rfl) ?_
  obtain ⟨v2, σ1, hf, h⟩ := h
  refine ev_go rfl (w_callV rfl rfl rfl (Nat.le_of_ble_eq_true rfl) hf) ?_
  refine ev_n 1 (fun _ => rfl) ?_
  obtain ⟨h0, h⟩ := h
  refine ev_go rfl (w_iast rfl h0) ?_
  refine ev_n 4 (fun _ => rfl) ?_
  obtain ⟨v4, σ3, hf, h⟩ := h
  refine ev_go rfl (w_callV rfl rfl rfl (Nat.le_of_ble_eq_true rfl) hf) ?_
  refine ev_n 1 (fun _ => rfl) ?_
  refine ev_go rfl (w_div (by decide)) ?_
  refine ev_n 5 (fun _ => rfl) ?_
  obtain ⟨v6, σ5, hf, h⟩ := h
  refine ev_go rfl (w_callV rfl rfl rfl (Nat.le_of_ble_eq_true rfl) hf) ?_
  refine ev_n 3 (fun _ => rfl) ?_
  refine ev_go rfl (w_div (by decide)) ?_
  refine ev_n 3 (fun _ => rfl) ?_
  refine ev_go rfl (w_gF rfl rfl) ?_
  refine ev_n 5 (fun _ => rfl) ?_
  obtain ⟨h0, h⟩ := h
  refine ev_go rfl (w_iald rfl h0) ?_
  refine ev_if (c := ((((1000000 : Int32) - (v4 / (2 : Int32))) * ((10 : Int32) - v6)) / (10 : Int32)) ≤ (σ5.1 229 (Int32.toNatClampNeg (((16 : Int32) * x1) + x2)))) rfl (fun _ => rfl) (fun hc => ?_) (fun hc => ?_)
  · replace h := h.1 hc
    refine ev_n 1 (fun _ => rfl) ?_
    refine ev_go rfl (w_gF rfl rfl) ?_
    refine ev_n 2 (fun _ => rfl) ?_
    obtain ⟨h0, h⟩ := h
    refine ev_go rfl (w_iald rfl h0) ?_
    refine ev_n 4 (fun _ => rfl) ?_
    obtain ⟨h0, h⟩ := h
    refine ev_go rfl (w_iast rfl h0) ?_
    exact ev_ret rfl (fun _ => rfl) h
  · replace h := h.2 hc
    refine ev_n 1 (fun _ => rfl) ?_
    refine ev_go rfl (w_gF rfl rfl) ?_
    refine ev_n 6 (fun _ => rfl) ?_
    obtain ⟨h0, h⟩ := h
    refine ev_go rfl (w_iast rfl h0) ?_
    refine ev_n 1 (fun _ => rfl) ?_
    refine ev_go rfl (w_gF rfl rfl) ?_
    refine ev_n 2 (fun _ => rfl) ?_
    obtain ⟨h0, h⟩ := h
    refine ev_go rfl (w_iald rfl h0) ?_
    refine ev_n 4 (fun _ => rfl) ?_
    obtain ⟨h0, h⟩ := h
    refine ev_go rfl (w_iast rfl h0) ?_
    exact ev_ret rfl (fun _ => rfl) h
theorem m_X12_reads : ∀ pc o, (P_X12_reads KC).lookup pc = some o → Mon_ o := all_mon (a_X12_reads (l := launch0) (E := EC0) EC0_ok)
theorem z_X12_reads {x1 : Int32} {x2 : Int32} {σ : St_} {out : Out_} (h : Ev_ (P_X12_reads KC) 0 [some (.ref 219), some (.int x1), some (.int x2), none] [] σ out) : f_X12_reads KC [.ref 219, .int x1, .int x2] σ = some out := fn_eq m_X12_reads rfl h
set_option maxRecDepth 20000 in
theorem e_X12_given_0 {x1 : Int32} {x2 : Int32} {x3 : Int32} {x4 : Int32} {x5 : Int32} {σ : St_} {out : Out_}  (h : (∃ (v2 : Int32) (σ1 : St_), f_X12_readerOf KC [.ref 219, .int x1, .int (1 : Int32)] σ = some (some (.int v2), σ1) ∧ (∃ (v4 : Int32) (σ3 : St_), f_X12_readerOf KC [.ref 219, .int x4, .int (2 : Int32)] σ1 = some (some (.int v4), σ3) ∧ ((x3 = 0 → (vpin_ (3 : Int32) 1050 = true) ∧ out = (some (.int ((((((((x2 * v2) / (10 : Int32)) * x5) / (4 : Int32)) * v4) / (10 : Int32)) * (σ3.1 221 (Int32.toNatClampNeg (3 : Int32)))) / (10 : Int32))), σ3)) ∧ (¬ (x3 = 0) → out = (some (.int ((((((x2 * v2) / (10 : Int32)) * x5) / (4 : Int32)) * v4) / (10 : Int32))), σ3)))))) : Ev_ (P_X12_given KC) 0 [some (.ref 219), some (.int x1), some (.int x2), some (.int x3), some (.int x4), some (.int x5), none] [] σ out := by
  refine ev_n 4 (fun _ => rfl) ?_
  obtain ⟨v2, σ1, hf, h⟩ := h
  refine ev_go rfl (w_callV rfl rfl rfl (Nat.le_of_ble_eq_true rfl) hf) ?_
  refine ev_n 2 (fun _ => rfl) ?_
  refine ev_go rfl (w_div (by decide)) ?_
  refine ev_n 3 (fun _ => rfl) ?_
  refine ev_go rfl (w_div (by decide)) ?_
  refine ev_n 3 (fun _ => rfl) ?_
  obtain ⟨v4, σ3, hf, h⟩ := h
  refine ev_go rfl (w_callV rfl rfl rfl (Nat.le_of_ble_eq_true rfl) hf) ?_
  refine ev_n 2 (fun _ => rfl) ?_
  refine ev_go rfl (w_div (by decide)) ?_
  refine ev_n 2 (fun _ => rfl) ?_
  refine ev_if (c := x3 = 0) rfl (fun _ => rfl) (fun hc => ?_) (fun hc => ?_)
  · replace h := h.1 hc
    refine ev_n 2 (fun _ => rfl) ?_
    refine ev_go rfl (w_gF rfl rfl) ?_
    refine ev_n 1 (fun _ => rfl) ?_
    obtain ⟨h0, h⟩ := h
    refine ev_go rfl (w_iald rfl h0) ?_
    refine ev_n 2 (fun _ => rfl) ?_
    refine ev_go rfl (w_div (by decide)) ?_
    exact ev_ret rfl (fun _ => rfl) h
  · replace h := h.2 hc
    refine ev_n 2 (fun _ => rfl) ?_
    exact ev_ret rfl (fun _ => rfl) h
theorem m_X12_given : ∀ pc o, (P_X12_given KC).lookup pc = some o → Mon_ o := all_mon (a_X12_given (l := launch0) (E := EC0) EC0_ok)
theorem z_X12_given {x1 : Int32} {x2 : Int32} {x3 : Int32} {x4 : Int32} {x5 : Int32} {σ : St_} {out : Out_} (h : Ev_ (P_X12_given KC) 0 [some (.ref 219), some (.int x1), some (.int x2), some (.int x3), some (.int x4), some (.int x5), none] [] σ out) : f_X12_given KC [.ref 219, .int x1, .int x2, .int x3, .int x4, .int x5] σ = some out := fn_eq m_X12_given rfl h
set_option maxRecDepth 20000 in
theorem e_X12_gets_0 {x1 : Int32} {x2 : Int32} {x3 : Int32} {x4 : Int32} {σ : St_} {out : Out_}  (h : (vpin_ (((16 : Int32) * x1) + x3) 144 = true) ∧ (vpin_ x1 9 = true) ∧ (∃ (v2 : Int32) (σ1 : St_), f_X12_has KC [.int (σ.1 231 (Int32.toNatClampNeg x1)), .int x3] σ = some (some (.int v2), σ1) ∧ (∃ (v4 : Int32) (σ3 : St_), f_X12_given KC [.ref 219, .int x1, .int (σ.1 229 (Int32.toNatClampNeg (((16 : Int32) * x1) + x3))), .int v2, .int x2, .int x4] σ1 = some (some (.int v4), σ3) ∧ (∃ (v6 : Int32) (σ5 : St_), f_X12_lackOf KC [.ref 219, .int x2, .int x3] σ3 = some (some (.int v6), σ5) ∧ (vpin_ (((16 : Int32) * x2) + x3) 144 = true) ∧ (vpin_ (((16 : Int32) * x2) + x3) 144 = true) ∧ (vpin_ x2 9 = true) ∧ (vpin_ x2 9 = true) ∧ out = (none, (sI_ (sI_ σ5 229 (Int32.toNatClampNeg (((16 : Int32) * x2) + x3)) ((σ5.1 229 (Int32.toNatClampNeg (((16 : Int32) * x2) + x3))) + (Int64.toInt32 (((Int32.toInt64 ((1000000 : Int32) - (σ5.1 229 (Int32.toNatClampNeg (((16 : Int32) * x2) + x3))))) * (Int32.toInt64 (Int64.toInt32 (((Int32.toInt64 v4) * (Int32.toInt64 ((1000000 : Int32) - v6))) / (1000000 : Int64))))) / (1000000 : Int64))))) 232 (Int32.toNatClampNeg x2) (((sI_ σ5 229 (Int32.toNatClampNeg (((16 : Int32) * x2) + x3)) ((σ5.1 229 (Int32.toNatClampNeg (((16 : Int32) * x2) + x3))) + (Int64.toInt32 (((Int32.toInt64 ((1000000 : Int32) - (σ5.1 229 (Int32.toNatClampNeg (((16 : Int32) * x2) + x3))))) * (Int32.toInt64 (Int64.toInt32 (((Int32.toInt64 v4) * (Int32.toInt64 ((1000000 : Int32) - v6))) / (1000000 : Int64))))) / (1000000 : Int64))))).1 232 (Int32.toNatClampNeg x2)) ||| ((1 : Int32) <<< (x3 &&& 31))))))))) : Ev_ (P_X12_gets KC) 0 [some (.ref 219), some (.int x1), some (.int x2), some (.int x3), some (.int x4), none, none] [] σ out := by
  refine ev_n 3 (fun _ => rfl) ?_
  refine ev_go rfl (w_gF rfl rfl) ?_
  refine ev_n 5 (fun _ => rfl) ?_
  obtain ⟨h0, h⟩ := h
  refine ev_go rfl (w_iald rfl h0) ?_
  refine ev_n 1 (fun _ => rfl) ?_
  refine ev_go rfl (w_gF rfl rfl) ?_
  refine ev_n 1 (fun _ => rfl) ?_
  obtain ⟨h0, h⟩ := h
  refine ev_go rfl (w_iald rfl h0) ?_
  refine ev_n 1 (fun _ => rfl) ?_
  obtain ⟨v2, σ1, hf, h⟩ := h
  refine ev_go rfl (w_callS ⟨Nat.le_of_ble_eq_true rfl, Nat.le_of_ble_eq_true rfl⟩ hf) ?_
  refine ev_n 2 (fun _ => rfl) ?_
  obtain ⟨v4, σ3, hf, h⟩ := h
  refine ev_go rfl (w_callV rfl rfl rfl (Nat.le_of_ble_eq_true rfl) hf) ?_
  refine ev_n 7 (fun _ => rfl) ?_
  obtain ⟨v6, σ5, hf, h⟩ := h
  refine ev_go rfl (w_callV rfl rfl rfl (Nat.le_of_ble_eq_true rfl) hf) ?_
  refine ev_n 4 (fun _ => rfl) ?_
  refine ev_go rfl (w_ldiv (by decide)) ?_
  refine ev_n 3 (fun _ => rfl) ?_
  refine ev_go rfl (w_gF rfl rfl) ?_
  refine ev_n 5 (fun _ => rfl) ?_
  obtain ⟨h0, h⟩ := h
  refine ev_go rfl (w_iald rfl h0) ?_
  refine ev_n 2 (fun _ => rfl) ?_
  refine ev_go rfl (w_gF rfl rfl) ?_
  refine ev_n 8 (fun _ => rfl) ?_
  refine ev_n 6 (fun _ => rfl) ?_
  refine ev_go rfl (w_ldiv (by decide)) ?_
  refine ev_n 2 (fun _ => rfl) ?_
  obtain ⟨h0, h⟩ := h
  refine ev_go rfl (w_iast rfl h0) ?_
  refine ev_n 1 (fun _ => rfl) ?_
  refine ev_go rfl (w_gF rfl rfl) ?_
  refine ev_n 2 (fun _ => rfl) ?_
  obtain ⟨h0, h⟩ := h
  refine ev_go rfl (w_iald rfl h0) ?_
  refine ev_n 4 (fun _ => rfl) ?_
  obtain ⟨h0, h⟩ := h
  refine ev_go rfl (w_iast rfl h0) ?_
  exact ev_ret rfl (fun _ => rfl) h
theorem m_X12_gets : ∀ pc o, (P_X12_gets KC).lookup pc = some o → Mon_ o := all_mon (a_X12_gets (l := launch0) (E := EC0) EC0_ok)
theorem z_X12_gets {x1 : Int32} {x2 : Int32} {x3 : Int32} {x4 : Int32} {σ : St_} {out : Out_} (h : Ev_ (P_X12_gets KC) 0 [some (.ref 219), some (.int x1), some (.int x2), some (.int x3), some (.int x4), none, none] [] σ out) : f_X12_gets KC [.ref 219, .int x1, .int x2, .int x3, .int x4] σ = some out := fn_eq m_X12_gets rfl h
set_option maxRecDepth 20000 in
theorem e_X12_wrong_0 {x1 : Int32} {x2 : Int32} {x3 : Int32} {x4 : Int32} {σ : St_} {out : Out_}  (h : ((x3 = 0 → (vpin_ x1 9 = true) ∧ (∃ (v2 : Int32) (σ1 : St_), f_X12_timeToRead KC [.ref 219, .int x1, .int x2] σ = some (some (.int v2), σ1) ∧ ((v2 ≤ (σ.1 230 (Int32.toNatClampNeg x1)) → out = (some (.int (0 : Int32)), σ1)) ∧ (¬ (v2 ≤ (σ.1 230 (Int32.toNatClampNeg x1))) → out = (some (.int (1 : Int32)), σ1))))) ∧ (¬ (x3 = 0) → (∃ (v4 : Int32) (σ3 : St_), f_X12_timeToTell KC [.ref 219, .int x2, .int x3] σ = some (some (.int v4), σ3) ∧ (vpin_ x1 9 = true) ∧ ((v4 ≤ (σ3.1 230 (Int32.toNatClampNeg x1)) → Ev_ (P_X12_wrong KC) 49 [some (.ref 219), some (.int x1), some (.int x2), some (.int x3), some (.int x4), some (.int v4), some (.int (0 : Int32))] [] σ3 out) ∧ (¬ (v4 ≤ (σ3.1 230 (Int32.toNatClampNeg x1))) → out = (some (.int (1 : Int32)), σ3))))))) : Ev_ (P_X12_wrong KC) 0 [some (.ref 219), some (.int x1), some (.int x2), some (.int x3), some (.int x4), none, none] [] σ out := by
  refine ev_n 1 (fun _ => rfl) ?_
  refine ev_if (c := x3 = 0) rfl (fun _ => rfl) (fun hc => ?_) (fun hc => ?_)
  · replace h := h.1 hc
    refine ev_n 1 (fun _ => rfl) ?_
    refine ev_go rfl (w_gF rfl rfl) ?_
    refine ev_n 1 (fun _ => rfl) ?_
    obtain ⟨h0, h⟩ := h
    refine ev_go rfl (w_iald rfl h0) ?_
    refine ev_n 3 (fun _ => rfl) ?_
    obtain ⟨v2, σ1, hf, h⟩ := h
    refine ev_go rfl (w_callV rfl rfl rfl (Nat.le_of_ble_eq_true rfl) hf) ?_
    refine ev_if (c := v2 ≤ (σ.1 230 (Int32.toNatClampNeg x1))) rfl (fun _ => rfl) (fun hc => ?_) (fun hc => ?_)
    · replace h := h.1 hc
      refine ev_n 1 (fun _ => rfl) ?_
      exact ev_ret rfl (fun _ => rfl) h
    · replace h := h.2 hc
      refine ev_n 2 (fun _ => rfl) ?_
      exact ev_ret rfl (fun _ => rfl) h
  · replace h := h.2 hc
    refine ev_n 3 (fun _ => rfl) ?_
    obtain ⟨v4, σ3, hf, h⟩ := h
    refine ev_go rfl (w_callV rfl rfl rfl (Nat.le_of_ble_eq_true rfl) hf) ?_
    refine ev_n 2 (fun _ => rfl) ?_
    refine ev_go rfl (w_gF rfl rfl) ?_
    refine ev_n 1 (fun _ => rfl) ?_
    obtain ⟨h0, h⟩ := h
    refine ev_go rfl (w_iald rfl h0) ?_
    refine ev_n 1 (fun _ => rfl) ?_
    refine ev_if (c := v4 ≤ (σ3.1 230 (Int32.toNatClampNeg x1))) rfl (fun _ => rfl) (fun hc => ?_) (fun hc => ?_)
    · replace h := h.1 hc
      refine ev_n 2 (fun _ => rfl) ?_
      exact h
    · replace h := h.2 hc
      refine ev_n 1 (fun _ => rfl) ?_
      exact ev_ret rfl (fun _ => rfl) h
set_option maxRecDepth 20000 in
theorem e_X12_wrong_49 {x1 : Int32} {x2 : Int32} {x3 : Int32} {x4 : Int32} {x5 : Int32} {x6 : Int32} {σ : St_} {out : Out_}  (h : (∃ (v2 : Int32) (σ1 : St_), f_X12_readers KC [.ref 219] σ = some (some (.int v2), σ1) ∧ ((v2 ≤ x6 → (vpin_ (((16 : Int32) * x1) + x2) 144 = true) ∧ (((σ1.1 229 (Int32.toNatClampNeg (((16 : Int32) * x1) + x2))) = 0 → out = (some (.int (2 : Int32)), σ1)) ∧ (¬ ((σ1.1 229 (Int32.toNatClampNeg (((16 : Int32) * x1) + x2))) = 0) → out = (some (.int (0 : Int32)), σ1)))) ∧ (¬ (v2 ≤ x6) → (∃ (v4 : Int32) (σ3 : St_), f_X12_has KC [.int x4, .int x6] σ1 = some (some (.int v4), σ3) ∧ ((v4 = 0 → Ev_ (P_X12_wrong KC) 49 [some (.ref 219), some (.int x1), some (.int x2), some (.int x3), some (.int x4), some (.int x5), some (.int (x6 + 1))] [] σ3 out) ∧ (¬ (v4 = 0) → (vpin_ x6 9 = true) ∧ ((x5 ≤ (σ3.1 230 (Int32.toNatClampNeg x6)) → Ev_ (P_X12_wrong KC) 49 [some (.ref 219), some (.int x1), some (.int x2), some (.int x3), some (.int x4), some (.int x5), some (.int (x6 + 1))] [] σ3 out) ∧ (¬ (x5 ≤ (σ3.1 230 (Int32.toNatClampNeg x6))) → out = (some (.int (1 : Int32)), σ3)))))))))) : Ev_ (P_X12_wrong KC) 49 [some (.ref 219), some (.int x1), some (.int x2), some (.int x3), some (.int x4), some (.int x5), some (.int x6)] [] σ out := by
  refine ev_n 2 (fun _ => rfl) ?_
  obtain ⟨v2, σ1, hf, h⟩ := h
  refine ev_go rfl (w_callV rfl rfl rfl (Nat.le_of_ble_eq_true rfl) hf) ?_
  refine ev_if (c := v2 ≤ x6) rfl (fun _ => rfl) (fun hc => ?_) (fun hc => ?_)
  · replace h := h.1 hc
    refine ev_n 1 (fun _ => rfl) ?_
    refine ev_go rfl (w_gF rfl rfl) ?_
    refine ev_n 5 (fun _ => rfl) ?_
    obtain ⟨h0, h⟩ := h
    refine ev_go rfl (w_iald rfl h0) ?_
    refine ev_if (c := (σ1.1 229 (Int32.toNatClampNeg (((16 : Int32) * x1) + x2))) = 0) rfl (fun _ => rfl) (fun hc => ?_) (fun hc => ?_)
    · replace h := h.1 hc
      refine ev_n 2 (fun _ => rfl) ?_
      exact ev_ret rfl (fun _ => rfl) h
    · replace h := h.2 hc
      refine ev_n 1 (fun _ => rfl) ?_
      exact ev_ret rfl (fun _ => rfl) h
  · replace h := h.2 hc
    refine ev_n 2 (fun _ => rfl) ?_
    obtain ⟨v4, σ3, hf, h⟩ := h
    refine ev_go rfl (w_callS ⟨Nat.le_of_ble_eq_true rfl, Nat.le_of_ble_eq_true rfl⟩ hf) ?_
    refine ev_if (c := v4 = 0) rfl (fun _ => rfl) (fun hc => ?_) (fun hc => ?_)
    · replace h := h.1 hc
      refine ev_n 2 (fun _ => rfl) ?_
      exact h
    · replace h := h.2 hc
      refine ev_n 1 (fun _ => rfl) ?_
      refine ev_go rfl (w_gF rfl rfl) ?_
      refine ev_n 1 (fun _ => rfl) ?_
      obtain ⟨h0, h⟩ := h
      refine ev_go rfl (w_iald rfl h0) ?_
      refine ev_n 1 (fun _ => rfl) ?_
      refine ev_if (c := x5 ≤ (σ3.1 230 (Int32.toNatClampNeg x6))) rfl (fun _ => rfl) (fun hc => ?_) (fun hc => ?_)
      · replace h := h.1 hc
        refine ev_n 2 (fun _ => rfl) ?_
        exact h
      · replace h := h.2 hc
        refine ev_n 1 (fun _ => rfl) ?_
        exact ev_ret rfl (fun _ => rfl) h
theorem m_X12_wrong : ∀ pc o, (P_X12_wrong KC).lookup pc = some o → Mon_ o := all_mon (a_X12_wrong (l := launch0) (E := EC0) EC0_ok)
theorem z_X12_wrong {x1 : Int32} {x2 : Int32} {x3 : Int32} {x4 : Int32} {σ : St_} {out : Out_} (h : Ev_ (P_X12_wrong KC) 0 [some (.ref 219), some (.int x1), some (.int x2), some (.int x3), some (.int x4), none, none] [] σ out) : f_X12_wrong KC [.ref 219, .int x1, .int x2, .int x3, .int x4] σ = some out := fn_eq m_X12_wrong rfl h
set_option maxRecDepth 20000 in
theorem e_X12_does_0 {x1 : Int32} {x2 : Int32} {x3 : Int32} {x4 : Int32} {σ : St_} {out : Out_}  (h : ((x3 = 0 → (∃ (σ1 : St_), f_X12_reads KC [.ref 219, .int x1, .int x2] σ = some (none, σ1) ∧ out = (none, σ1))) ∧ (¬ (x3 = 0) → (∃ (v3 : Int32) (σ2 : St_), f_X12_timeToTell KC [.ref 219, .int x2, .int x3] σ = some (some (.int v3), σ2) ∧ (vpin_ x1 9 = true) ∧ (vpin_ x1 9 = true) ∧ Ev_ (P_X12_does KC) 33 [some (.ref 219), some (.int x1), some (.int x2), some (.int x3), some (.int x4), some (.int v3), some (.int (0 : Int32))] [] (sI_ σ2 230 (Int32.toNatClampNeg x1) ((σ2.1 230 (Int32.toNatClampNeg x1)) - v3)) out)))) : Ev_ (P_X12_does KC) 0 [some (.ref 219), some (.int x1), some (.int x2), some (.int x3), some (.int x4), none, none] [] σ out := by
  refine ev_n 1 (fun _ => rfl) ?_
  refine ev_if (c := x3 = 0) rfl (fun _ => rfl) (fun hc => ?_) (fun hc => ?_)
  · replace h := h.1 hc
    refine ev_n 3 (fun _ => rfl) ?_
    obtain ⟨σ1, hf, h⟩ := h
    refine ev_go rfl (w_callV rfl rfl rfl (Nat.le_of_ble_eq_true rfl) hf) ?_
    exact ev_ret rfl (fun _ => rfl) h
  · replace h := h.2 hc
    refine ev_n 3 (fun _ => rfl) ?_
    obtain ⟨v3, σ2, hf, h⟩ := h
    refine ev_go rfl (w_callV rfl rfl rfl (Nat.le_of_ble_eq_true rfl) hf) ?_
    refine ev_n 2 (fun _ => rfl) ?_
    refine ev_go rfl (w_gF rfl rfl) ?_
    refine ev_n 2 (fun _ => rfl) ?_
    obtain ⟨h0, h⟩ := h
    refine ev_go rfl (w_iald rfl h0) ?_
    refine ev_n 2 (fun _ => rfl) ?_
    obtain ⟨h0, h⟩ := h
    refine ev_go rfl (w_iast rfl h0) ?_
    refine ev_n 2 (fun _ => rfl) ?_
    exact h
set_option maxRecDepth 20000 in
theorem e_X12_does_33 {x1 : Int32} {x2 : Int32} {x3 : Int32} {x4 : Int32} {x5 : Int32} {x6 : Int32} {σ : St_} {out : Out_}  (h : (∃ (v2 : Int32) (σ1 : St_), f_X12_readers KC [.ref 219] σ = some (some (.int v2), σ1) ∧ ((v2 ≤ x6 → out = (none, σ1)) ∧ (¬ (v2 ≤ x6) → (∃ (v4 : Int32) (σ3 : St_), f_X12_has KC [.int x4, .int x6] σ1 = some (some (.int v4), σ3) ∧ ((v4 = 0 → Ev_ (P_X12_does KC) 33 [some (.ref 219), some (.int x1), some (.int x2), some (.int x3), some (.int x4), some (.int x5), some (.int (x6 + 1))] [] σ3 out) ∧ (¬ (v4 = 0) → (vpin_ x6 9 = true) ∧ (vpin_ x6 9 = true) ∧ (∃ (σ5 : St_), f_X12_gets KC [.ref 219, .int x1, .int x6, .int x2, .int x3] (sI_ σ3 230 (Int32.toNatClampNeg x6) ((σ3.1 230 (Int32.toNatClampNeg x6)) - x5)) = some (none, σ5) ∧ Ev_ (P_X12_does KC) 33 [some (.ref 219), some (.int x1), some (.int x2), some (.int x3), some (.int x4), some (.int x5), some (.int (x6 + 1))] [] σ5 out)))))))) : Ev_ (P_X12_does KC) 33 [some (.ref 219), some (.int x1), some (.int x2), some (.int x3), some (.int x4), some (.int x5), some (.int x6)] [] σ out := by
  refine ev_n 2 (fun _ => rfl) ?_
  obtain ⟨v2, σ1, hf, h⟩ := h
  refine ev_go rfl (w_callV rfl rfl rfl (Nat.le_of_ble_eq_true rfl) hf) ?_
  refine ev_if (c := v2 ≤ x6) rfl (fun _ => rfl) (fun hc => ?_) (fun hc => ?_)
  · replace h := h.1 hc
    exact ev_ret rfl (fun _ => rfl) h
  · replace h := h.2 hc
    refine ev_n 2 (fun _ => rfl) ?_
    obtain ⟨v4, σ3, hf, h⟩ := h
    refine ev_go rfl (w_callS ⟨Nat.le_of_ble_eq_true rfl, Nat.le_of_ble_eq_true rfl⟩ hf) ?_
    refine ev_if (c := v4 = 0) rfl (fun _ => rfl) (fun hc => ?_) (fun hc => ?_)
    · replace h := h.1 hc
      refine ev_n 3 (fun _ => rfl) ?_
      exact h
    · replace h := h.2 hc
      refine ev_n 1 (fun _ => rfl) ?_
      refine ev_go rfl (w_gF rfl rfl) ?_
      refine ev_n 2 (fun _ => rfl) ?_
      obtain ⟨h0, h⟩ := h
      refine ev_go rfl (w_iald rfl h0) ?_
      refine ev_n 2 (fun _ => rfl) ?_
      obtain ⟨h0, h⟩ := h
      refine ev_go rfl (w_iast rfl h0) ?_
      refine ev_n 5 (fun _ => rfl) ?_
      obtain ⟨σ5, hf, h⟩ := h
      refine ev_go rfl (w_callV rfl rfl rfl (Nat.le_of_ble_eq_true rfl) hf) ?_
      refine ev_n 2 (fun _ => rfl) ?_
      exact h
theorem m_X12_does : ∀ pc o, (P_X12_does KC).lookup pc = some o → Mon_ o := all_mon (a_X12_does (l := launch0) (E := EC0) EC0_ok)
theorem z_X12_does {x1 : Int32} {x2 : Int32} {x3 : Int32} {x4 : Int32} {σ : St_} {out : Out_} (h : Ev_ (P_X12_does KC) 0 [some (.ref 219), some (.int x1), some (.int x2), some (.int x3), some (.int x4), none, none] [] σ out) : f_X12_does KC [.ref 219, .int x1, .int x2, .int x3, .int x4] σ = some out := fn_eq m_X12_does rfl h
set_option maxRecDepth 20000 in
theorem e_X12_night_0  {σ : St_} {out : Out_}  (h : (∃ (σ1 : St_), f_X12_lay KC [.ref 219] σ = some (none, σ1) ∧ (∃ (σ2 : St_), f_X12_dawn KC [.ref 219] σ1 = some (none, σ2) ∧ Ev_ (P_X12_night KC) 20 [some (.ref 219), some (.int (0 : Int32)), none] [] (sI_ (sI_ σ2 219 29 ((-1) : Int32)) 219 30 (0 : Int32)) out))) : Ev_ (P_X12_night KC) 0 [some (.ref 219), none, none] [] σ out := by
  refine ev_n 1 (fun _ => rfl) ?_
  obtain ⟨σ1, hf, h⟩ := h
  refine ev_go rfl (w_callV rfl rfl rfl (Nat.le_of_ble_eq_true rfl) hf) ?_
  refine ev_n 1 (fun _ => rfl) ?_
  obtain ⟨σ2, hf, h⟩ := h
  refine ev_go rfl (w_callV rfl rfl rfl (Nat.le_of_ble_eq_true rfl) hf) ?_
  refine ev_n 2 (fun _ => rfl) ?_
  refine ev_go rfl (w_pI rfl) ?_
  refine ev_n 2 (fun _ => rfl) ?_
  refine ev_go rfl (w_pI rfl) ?_
  refine ev_n 2 (fun _ => rfl) ?_
  exact h
set_option maxRecDepth 20000 in
theorem e_X12_night_20 {x1 : Int32} {σ : St_} {out : Out_}  (h : (vpin_ (390 : Int32) 1050 = true) ∧ (((σ.1 221 (Int32.toNatClampNeg (390 : Int32))) ≤ x1 → out = (none, σ)) ∧ (¬ ((σ.1 221 (Int32.toNatClampNeg (390 : Int32))) ≤ x1) → (vpin_ ((400 : Int32) + ((4 : Int32) * x1)) 1050 = true) ∧ (vpin_ (((400 : Int32) + ((4 : Int32) * x1)) + (1 : Int32)) 1050 = true) ∧ (vpin_ (((400 : Int32) + ((4 : Int32) * x1)) + (2 : Int32)) 1050 = true) ∧ (vpin_ (((400 : Int32) + ((4 : Int32) * x1)) + (3 : Int32)) 1050 = true) ∧ (∃ (v2 : Int32) (σ1 : St_), f_X12_wrong KC [.ref 219, .int (σ.1 221 (Int32.toNatClampNeg ((400 : Int32) + ((4 : Int32) * x1)))), .int (σ.1 221 (Int32.toNatClampNeg (((400 : Int32) + ((4 : Int32) * x1)) + (1 : Int32)))), .int (σ.1 221 (Int32.toNatClampNeg (((400 : Int32) + ((4 : Int32) * x1)) + (2 : Int32)))), .int (σ.1 221 (Int32.toNatClampNeg (((400 : Int32) + ((4 : Int32) * x1)) + (3 : Int32))))] σ = some (some (.int v2), σ1) ∧ ((((sI_ σ1 219 30 v2).1 219 30) = 0 → (vpin_ ((400 : Int32) + ((4 : Int32) * x1)) 1050 = true) ∧ (vpin_ (((400 : Int32) + ((4 : Int32) * x1)) + (1 : Int32)) 1050 = true) ∧ (vpin_ (((400 : Int32) + ((4 : Int32) * x1)) + (2 : Int32)) 1050 = true) ∧ (vpin_ (((400 : Int32) + ((4 : Int32) * x1)) + (3 : Int32)) 1050 = true) ∧ (∃ (σ3 : St_), f_X12_does KC [.ref 219, .int ((sI_ σ1 219 30 v2).1 221 (Int32.toNatClampNeg ((400 : Int32) + ((4 : Int32) * x1)))), .int ((sI_ σ1 219 30 v2).1 221 (Int32.toNatClampNeg (((400 : Int32) + ((4 : Int32) * x1)) + (1 : Int32)))), .int ((sI_ σ1 219 30 v2).1 221 (Int32.toNatClampNeg (((400 : Int32) + ((4 : Int32) * x1)) + (2 : Int32)))), .int ((sI_ σ1 219 30 v2).1 221 (Int32.toNatClampNeg (((400 : Int32) + ((4 : Int32) * x1)) + (3 : Int32))))] (sI_ σ1 219 30 v2) = some (none, σ3) ∧ Ev_ (P_X12_night KC) 20 [some (.ref 219), some (.int (x1 + 1)), none] [] σ3 out)) ∧ (¬ (((sI_ σ1 219 30 v2).1 219 30) = 0) → out = (none, (sI_ (sI_ σ1 219 30 v2) 219 29 x1)))))))) : Ev_ (P_X12_night KC) 20 [some (.ref 219), some (.int x1), none] [] σ out := by
  refine ev_n 2 (fun _ => rfl) ?_
  refine ev_go rfl (w_gF rfl rfl) ?_
  refine ev_n 1 (fun _ => rfl) ?_
  obtain ⟨h0, h⟩ := h
  refine ev_go rfl (w_iald rfl h0) ?_
  refine ev_if (c := (σ.1 221 (Int32.toNatClampNeg (390 : Int32))) ≤ x1) rfl (fun _ => rfl) (fun hc => ?_) (fun hc => ?_)
  · replace h := h.1 hc
    exact ev_ret rfl (fun _ => rfl) h
  · replace h := h.2 hc
    refine ev_n 8 (fun _ => rfl) ?_
    refine ev_n 1 (fun _ => rfl) ?_
    refine ev_go rfl (w_gF rfl rfl) ?_
    refine ev_n 1 (fun _ => rfl) ?_
    obtain ⟨h0, h⟩ := h
    refine ev_go rfl (w_iald rfl h0) ?_
    refine ev_n 1 (fun _ => rfl) ?_
    refine ev_go rfl (w_gF rfl rfl) ?_
    refine ev_n 3 (fun _ => rfl) ?_
    obtain ⟨h0, h⟩ := h
    refine ev_go rfl (w_iald rfl h0) ?_
    refine ev_n 1 (fun _ => rfl) ?_
    refine ev_go rfl (w_gF rfl rfl) ?_
    refine ev_n 3 (fun _ => rfl) ?_
    obtain ⟨h0, h⟩ := h
    refine ev_go rfl (w_iald rfl h0) ?_
    refine ev_n 1 (fun _ => rfl) ?_
    refine ev_go rfl (w_gF rfl rfl) ?_
    refine ev_n 3 (fun _ => rfl) ?_
    obtain ⟨h0, h⟩ := h
    refine ev_go rfl (w_iald rfl h0) ?_
    obtain ⟨v2, σ1, hf, h⟩ := h
    refine ev_go rfl (w_callV rfl rfl rfl (Nat.le_of_ble_eq_true rfl) hf) ?_
    refine ev_go rfl (w_pI rfl) ?_
    refine ev_n 1 (fun _ => rfl) ?_
    refine ev_go rfl (w_gI rfl) ?_
    refine ev_if (c := ((sI_ σ1 219 30 v2).1 219 30) = 0) rfl (fun _ => rfl) (fun hc => ?_) (fun hc => ?_)
    · replace h := h.1 hc
      refine ev_n 2 (fun _ => rfl) ?_
      refine ev_go rfl (w_gF rfl rfl) ?_
      refine ev_n 1 (fun _ => rfl) ?_
      obtain ⟨h0, h⟩ := h
      refine ev_go rfl (w_iald rfl h0) ?_
      refine ev_n 1 (fun _ => rfl) ?_
      refine ev_go rfl (w_gF rfl rfl) ?_
      refine ev_n 3 (fun _ => rfl) ?_
      obtain ⟨h0, h⟩ := h
      refine ev_go rfl (w_iald rfl h0) ?_
      refine ev_n 1 (fun _ => rfl) ?_
      refine ev_go rfl (w_gF rfl rfl) ?_
      refine ev_n 3 (fun _ => rfl) ?_
      obtain ⟨h0, h⟩ := h
      refine ev_go rfl (w_iald rfl h0) ?_
      refine ev_n 1 (fun _ => rfl) ?_
      refine ev_go rfl (w_gF rfl rfl) ?_
      refine ev_n 3 (fun _ => rfl) ?_
      obtain ⟨h0, h⟩ := h
      refine ev_go rfl (w_iald rfl h0) ?_
      obtain ⟨σ3, hf, h⟩ := h
      refine ev_go rfl (w_callV rfl rfl rfl (Nat.le_of_ble_eq_true rfl) hf) ?_
      refine ev_n 2 (fun _ => rfl) ?_
      exact h
    · replace h := h.2 hc
      refine ev_n 2 (fun _ => rfl) ?_
      refine ev_go rfl (w_pI rfl) ?_
      exact ev_ret rfl (fun _ => rfl) h
theorem m_X12_night : ∀ pc o, (P_X12_night KC).lookup pc = some o → Mon_ o := all_mon (a_X12_night (l := launch0) (E := EC0) EC0_ok)
theorem z_X12_night  {σ : St_} {out : Out_} (h : Ev_ (P_X12_night KC) 0 [some (.ref 219), none, none] [] σ out) : f_X12_night KC [.ref 219] σ = some out := fn_eq m_X12_night rfl h
set_option maxRecDepth 20000 in
theorem e_X12_inAll_0 {x1 : Int32} {σ : St_} {out : Out_}  (h : Ev_ (P_X12_inAll KC) 4 [some (.ref 219), some (.int x1), some (.int (0 : Int32)), some (.int (0 : Int32))] [] σ out) : Ev_ (P_X12_inAll KC) 0 [some (.ref 219), some (.int x1), none, none] [] σ out := by
  refine ev_n 4 (fun _ => rfl) ?_
  exact h
set_option maxRecDepth 20000 in
theorem e_X12_inAll_4 {x1 : Int32} {x2 : Int32} {x3 : Int32} {σ : St_} {out : Out_}  (h : (∃ (v2 : Int32) (σ1 : St_), f_X12_chaps KC [.ref 219] σ = some (some (.int v2), σ1) ∧ ((v2 ≤ x3 → out = (some (.int x2), σ1)) ∧ (¬ (v2 ≤ x3) → (∃ (v4 : Int32) (σ3 : St_), f_X12_chapOf KC [.ref 219, .int x3, .int (1 : Int32)] σ1 = some (some (.int v4), σ3) ∧ (vpin_ (((16 : Int32) * x1) + x3) 144 = true) ∧ Ev_ (P_X12_inAll KC) 4 [some (.ref 219), some (.int x1), some (.int (x2 + (Int64.toInt32 (((Int32.toInt64 v4) * (Int32.toInt64 (σ3.1 229 (Int32.toNatClampNeg (((16 : Int32) * x1) + x3))))) / (1000000 : Int64))))), some (.int (x3 + 1))] [] σ3 out))))) : Ev_ (P_X12_inAll KC) 4 [some (.ref 219), some (.int x1), some (.int x2), some (.int x3)] [] σ out := by
  refine ev_n 2 (fun _ => rfl) ?_
  obtain ⟨v2, σ1, hf, h⟩ := h
  refine ev_go rfl (w_callV rfl rfl rfl (Nat.le_of_ble_eq_true rfl) hf) ?_
  refine ev_if (c := v2 ≤ x3) rfl (fun _ => rfl) (fun hc => ?_) (fun hc => ?_)
  · replace h := h.1 hc
    refine ev_n 1 (fun _ => rfl) ?_
    exact ev_ret rfl (fun _ => rfl) h
  · replace h := h.2 hc
    refine ev_n 4 (fun _ => rfl) ?_
    obtain ⟨v4, σ3, hf, h⟩ := h
    refine ev_go rfl (w_callV rfl rfl rfl (Nat.le_of_ble_eq_true rfl) hf) ?_
    refine ev_n 2 (fun _ => rfl) ?_
    refine ev_go rfl (w_gF rfl rfl) ?_
    refine ev_n 5 (fun _ => rfl) ?_
    obtain ⟨h0, h⟩ := h
    refine ev_go rfl (w_iald rfl h0) ?_
    refine ev_n 3 (fun _ => rfl) ?_
    refine ev_go rfl (w_ldiv (by decide)) ?_
    refine ev_n 5 (fun _ => rfl) ?_
    exact h
theorem m_X12_inAll : ∀ pc o, (P_X12_inAll KC).lookup pc = some o → Mon_ o := all_mon (a_X12_inAll (l := launch0) (E := EC0) EC0_ok)
theorem z_X12_inAll {x1 : Int32} {σ : St_} {out : Out_} (h : Ev_ (P_X12_inAll KC) 0 [some (.ref 219), some (.int x1), none, none] [] σ out) : f_X12_inAll KC [.ref 219, .int x1] σ = some out := fn_eq m_X12_inAll rfl h
set_option maxRecDepth 20000 in
theorem e_X12_sum_0 {x1 : Int32} {σ : St_} {out : Out_}  (h : Ev_ (P_X12_sum KC) 4 [some (.ref 219), some (.int x1), some (.int (0 : Int32)), some (.int (0 : Int32))] [] σ out) : Ev_ (P_X12_sum KC) 0 [some (.ref 219), some (.int x1), none, none] [] σ out := by
  refine ev_n 4 (fun _ => rfl) ?_
  exact h
set_option maxRecDepth 20000 in
theorem e_X12_sum_4 {x1 : Int32} {x2 : Int32} {x3 : Int32} {σ : St_} {out : Out_}  (h : ((x1 ≤ x3 → out = (some (.int x2), σ)) ∧ (¬ (x1 ≤ x3) → (∃ (v2 : Int32) (σ1 : St_), f_X12_inAll KC [.ref 219, .int x3] σ = some (some (.int v2), σ1) ∧ Ev_ (P_X12_sum KC) 4 [some (.ref 219), some (.int x1), some (.int (x2 + v2)), some (.int (x3 + 1))] [] σ1 out)))) : Ev_ (P_X12_sum KC) 4 [some (.ref 219), some (.int x1), some (.int x2), some (.int x3)] [] σ out := by
  refine ev_n 2 (fun _ => rfl) ?_
  refine ev_if (c := x1 ≤ x3) rfl (fun _ => rfl) (fun hc => ?_) (fun hc => ?_)
  · replace h := h.1 hc
    refine ev_n 1 (fun _ => rfl) ?_
    exact ev_ret rfl (fun _ => rfl) h
  · replace h := h.2 hc
    refine ev_n 3 (fun _ => rfl) ?_
    obtain ⟨v2, σ1, hf, h⟩ := h
    refine ev_go rfl (w_callV rfl rfl rfl (Nat.le_of_ble_eq_true rfl) hf) ?_
    refine ev_n 4 (fun _ => rfl) ?_
    exact h
theorem m_X12_sum : ∀ pc o, (P_X12_sum KC).lookup pc = some o → Mon_ o := all_mon (a_X12_sum (l := launch0) (E := EC0) EC0_ok)
theorem z_X12_sum {x1 : Int32} {σ : St_} {out : Out_} (h : Ev_ (P_X12_sum KC) 0 [some (.ref 219), some (.int x1), none, none] [] σ out) : f_X12_sum KC [.ref 219, .int x1] σ = some out := fn_eq m_X12_sum rfl h
set_option maxRecDepth 20000 in
theorem e_X12_run_0  {σ : St_} {out : Out_}  (h : (∃ (σ1 : St_), f_X12_night KC [.ref 219] (sI_ σ 219 0 (0 : Int32)) = some (none, σ1) ∧ out = (some (.int ((sI_ σ1 219 31 (σ1.1 219 30)).1 219 29)), (sI_ σ1 219 31 (σ1.1 219 30))))) : Ev_ (P_X12_run KC) 0 [some (.ref 219)] [] σ out := by
  refine ev_n 2 (fun _ => rfl) ?_
  refine ev_go rfl (w_pI rfl) ?_
  refine ev_n 1 (fun _ => rfl) ?_
  obtain ⟨σ1, hf, h⟩ := h
  refine ev_go rfl (w_callV rfl rfl rfl (Nat.le_of_ble_eq_true rfl) hf) ?_
  refine ev_n 2 (fun _ => rfl) ?_
  refine ev_go rfl (w_gI rfl) ?_
  refine ev_go rfl (w_pI rfl) ?_
  refine ev_n 1 (fun _ => rfl) ?_
  refine ev_go rfl (w_gI rfl) ?_
  exact ev_ret rfl (fun _ => rfl) h
theorem m_X12_run : ∀ pc o, (P_X12_run KC).lookup pc = some o → Mon_ o := all_mon (a_X12_run (l := launch0) (E := EC0) EC0_ok)
theorem z_X12_run  {σ : St_} {out : Out_} (h : Ev_ (P_X12_run KC) 0 [some (.ref 219)] [] σ out) : f_X12_run KC [.ref 219] σ = some out := fn_eq m_X12_run rfl h
set_option maxRecDepth 20000 in
theorem e_X12_why_0  {σ : St_} {out : Out_}  (h : out = (some (.int ((sI_ σ 219 0 (0 : Int32)).1 219 31)), (sI_ σ 219 0 (0 : Int32)))) : Ev_ (P_X12_why KC) 0 [some (.ref 219)] [] σ out := by
  refine ev_n 2 (fun _ => rfl) ?_
  refine ev_go rfl (w_pI rfl) ?_
  refine ev_n 1 (fun _ => rfl) ?_
  refine ev_go rfl (w_gI rfl) ?_
  exact ev_ret rfl (fun _ => rfl) h
theorem m_X12_why : ∀ pc o, (P_X12_why KC).lookup pc = some o → Mon_ o := all_mon (a_X12_why (l := launch0) (E := EC0) EC0_ok)
theorem z_X12_why  {σ : St_} {out : Out_} (h : Ev_ (P_X12_why KC) 0 [some (.ref 219)] [] σ out) : f_X12_why KC [.ref 219] σ = some out := fn_eq m_X12_why rfl h
set_option maxRecDepth 20000 in
theorem e_X12_known_0 {x1 : Int32} {x2 : Int32} {σ : St_} {out : Out_}  (h : (∃ (σ1 : St_), f_X12_night KC [.ref 219] (sI_ σ 219 0 (0 : Int32)) = some (none, σ1) ∧ (∃ (v3 : Int32) (σ2 : St_), f_X12_isReader KC [.ref 219, .int x1] σ1 = some (some (.int v3), σ2) ∧ ((v3 = 0 → out = (some (.int ((-1) : Int32)), σ2)) ∧ (¬ (v3 = 0) → (∃ (v5 : Int32) (σ4 : St_), f_X12_isChap KC [.ref 219, .int x2] σ2 = some (some (.int v5), σ4) ∧ ((v5 = 0 → out = (some (.int ((-1) : Int32)), σ4)) ∧ (¬ (v5 = 0) → (vpin_ (((16 : Int32) * x1) + x2) 144 = true) ∧ out = (some (.int (σ4.1 229 (Int32.toNatClampNeg (((16 : Int32) * x1) + x2)))), σ4))))))))) : Ev_ (P_X12_known KC) 0 [some (.ref 219), some (.int x1), some (.int x2)] [] σ out := by
  refine ev_n 2 (fun _ => rfl) ?_
  refine ev_go rfl (w_pI rfl) ?_
  refine ev_n 1 (fun _ => rfl) ?_
  obtain ⟨σ1, hf, h⟩ := h
  refine ev_go rfl (w_callV rfl rfl rfl (Nat.le_of_ble_eq_true rfl) hf) ?_
  refine ev_n 2 (fun _ => rfl) ?_
  obtain ⟨v3, σ2, hf, h⟩ := h
  refine ev_go rfl (w_callV rfl rfl rfl (Nat.le_of_ble_eq_true rfl) hf) ?_
  refine ev_if (c := v3 = 0) rfl (fun _ => rfl) (fun hc => ?_) (fun hc => ?_)
  · replace h := h.1 hc
    refine ev_n 1 (fun _ => rfl) ?_
    exact ev_ret rfl (fun _ => rfl) h
  · replace h := h.2 hc
    refine ev_n 2 (fun _ => rfl) ?_
    obtain ⟨v5, σ4, hf, h⟩ := h
    refine ev_go rfl (w_callV rfl rfl rfl (Nat.le_of_ble_eq_true rfl) hf) ?_
    refine ev_if (c := v5 = 0) rfl (fun _ => rfl) (fun hc => ?_) (fun hc => ?_)
    · replace h := h.1 hc
      refine ev_n 1 (fun _ => rfl) ?_
      exact ev_ret rfl (fun _ => rfl) h
    · replace h := h.2 hc
      refine ev_n 1 (fun _ => rfl) ?_
      refine ev_go rfl (w_gF rfl rfl) ?_
      refine ev_n 5 (fun _ => rfl) ?_
      obtain ⟨h0, h⟩ := h
      refine ev_go rfl (w_iald rfl h0) ?_
      refine ev_n 1 (fun _ => rfl) ?_
      exact ev_ret rfl (fun _ => rfl) h
theorem m_X12_known : ∀ pc o, (P_X12_known KC).lookup pc = some o → Mon_ o := all_mon (a_X12_known (l := launch0) (E := EC0) EC0_ok)
theorem z_X12_known {x1 : Int32} {x2 : Int32} {σ : St_} {out : Out_} (h : Ev_ (P_X12_known KC) 0 [some (.ref 219), some (.int x1), some (.int x2)] [] σ out) : f_X12_known KC [.ref 219, .int x1, .int x2] σ = some out := fn_eq m_X12_known rfl h
set_option maxRecDepth 20000 in
theorem e_X12_after_0 {x1 : Int32} {x2 : Int32} {σ : St_} {out : Out_}  (h : (∃ (σ1 : St_), f_X12_night KC [.ref 219] (sI_ σ 219 0 (0 : Int32)) = some (none, σ1) ∧ (∃ (v3 : Int32) (σ2 : St_), f_X12_isReader KC [.ref 219, .int x1] σ1 = some (some (.int v3), σ2) ∧ ((v3 = 0 → out = (some (.int ((-1) : Int32)), σ2)) ∧ (¬ (v3 = 0) → (∃ (v5 : Int32) (σ4 : St_), f_X12_isIn KC [.int x2, .int (0 : Int32), .int (3 : Int32)] σ2 = some (some (.int v5), σ4) ∧ ((v5 = 0 → out = (some (.int ((-1) : Int32)), σ4)) ∧ (¬ (v5 = 0) → ((x2 = 0 → (vpin_ x1 9 = true) ∧ out = (some (.int (σ4.1 230 (Int32.toNatClampNeg x1))), σ4)) ∧ (¬ (x2 = 0) → ((x2 = (1 : Int32) → (∃ (v7 : Int32) (σ6 : St_), f_X12_inAll KC [.ref 219, .int x1] σ4 = some (some (.int v7), σ6) ∧ out = (some (.int v7), σ6))) ∧ (¬ (x2 = (1 : Int32)) → ((x2 = (2 : Int32) → (vpin_ x1 9 = true) ∧ out = (some (.int (σ4.1 231 (Int32.toNatClampNeg x1))), σ4)) ∧ (¬ (x2 = (2 : Int32)) → (vpin_ x1 9 = true) ∧ out = (some (.int (σ4.1 232 (Int32.toNatClampNeg x1))), σ4))))))))))))))) : Ev_ (P_X12_after KC) 0 [some (.ref 219), some (.int x1), some (.int x2)] [] σ out := by
  refine ev_n 2 (fun _ => rfl) ?_
  refine ev_go rfl (w_pI rfl) ?_
  refine ev_n 1 (fun _ => rfl) ?_
  obtain ⟨σ1, hf, h⟩ := h
  refine ev_go rfl (w_callV rfl rfl rfl (Nat.le_of_ble_eq_true rfl) hf) ?_
  refine ev_n 2 (fun _ => rfl) ?_
  obtain ⟨v3, σ2, hf, h⟩ := h
  refine ev_go rfl (w_callV rfl rfl rfl (Nat.le_of_ble_eq_true rfl) hf) ?_
  refine ev_if (c := v3 = 0) rfl (fun _ => rfl) (fun hc => ?_) (fun hc => ?_)
  · replace h := h.1 hc
    refine ev_n 1 (fun _ => rfl) ?_
    exact ev_ret rfl (fun _ => rfl) h
  · replace h := h.2 hc
    refine ev_n 3 (fun _ => rfl) ?_
    obtain ⟨v5, σ4, hf, h⟩ := h
    refine ev_go rfl (w_callS ⟨Nat.le_of_ble_eq_true rfl, Nat.le_of_ble_eq_true rfl⟩ hf) ?_
    refine ev_if (c := v5 = 0) rfl (fun _ => rfl) (fun hc => ?_) (fun hc => ?_)
    · replace h := h.1 hc
      refine ev_n 1 (fun _ => rfl) ?_
      exact ev_ret rfl (fun _ => rfl) h
    · replace h := h.2 hc
      refine ev_n 1 (fun _ => rfl) ?_
      refine ev_if (c := x2 = 0) rfl (fun _ => rfl) (fun hc => ?_) (fun hc => ?_)
      · replace h := h.1 hc
        refine ev_n 1 (fun _ => rfl) ?_
        refine ev_go rfl (w_gF rfl rfl) ?_
        refine ev_n 1 (fun _ => rfl) ?_
        obtain ⟨h0, h⟩ := h
        refine ev_go rfl (w_iald rfl h0) ?_
        refine ev_n 1 (fun _ => rfl) ?_
        exact ev_ret rfl (fun _ => rfl) h
      · replace h := h.2 hc
        refine ev_n 2 (fun _ => rfl) ?_
        refine ev_if (c := x2 = (1 : Int32)) rfl (fun _ => rfl) (fun hc => ?_) (fun hc => ?_)
        · replace h := h.1 hc
          refine ev_n 2 (fun _ => rfl) ?_
          obtain ⟨v7, σ6, hf, h⟩ := h
          refine ev_go rfl (w_callV rfl rfl rfl (Nat.le_of_ble_eq_true rfl) hf) ?_
          refine ev_n 1 (fun _ => rfl) ?_
          exact ev_ret rfl (fun _ => rfl) h
        · replace h := h.2 hc
          refine ev_n 2 (fun _ => rfl) ?_
          refine ev_if (c := x2 = (2 : Int32)) rfl (fun _ => rfl) (fun hc => ?_) (fun hc => ?_)
          · replace h := h.1 hc
            refine ev_n 1 (fun _ => rfl) ?_
            refine ev_go rfl (w_gF rfl rfl) ?_
            refine ev_n 1 (fun _ => rfl) ?_
            obtain ⟨h0, h⟩ := h
            refine ev_go rfl (w_iald rfl h0) ?_
            refine ev_n 1 (fun _ => rfl) ?_
            exact ev_ret rfl (fun _ => rfl) h
          · replace h := h.2 hc
            refine ev_n 1 (fun _ => rfl) ?_
            refine ev_go rfl (w_gF rfl rfl) ?_
            refine ev_n 1 (fun _ => rfl) ?_
            obtain ⟨h0, h⟩ := h
            refine ev_go rfl (w_iald rfl h0) ?_
            exact ev_ret rfl (fun _ => rfl) h
theorem m_X12_after : ∀ pc o, (P_X12_after KC).lookup pc = some o → Mon_ o := all_mon (a_X12_after (l := launch0) (E := EC0) EC0_ok)
theorem z_X12_after {x1 : Int32} {x2 : Int32} {σ : St_} {out : Out_} (h : Ev_ (P_X12_after KC) 0 [some (.ref 219), some (.int x1), some (.int x2)] [] σ out) : f_X12_after KC [.ref 219, .int x1, .int x2] σ = some out := fn_eq m_X12_after rfl h
set_option maxRecDepth 20000 in
theorem e_X12_lacking_0  {σ : St_} {out : Out_}  (h : Ev_ (P_X12_lacking KC) 4 [some (.ref 219), some (.int (0 : Int32)), some (.int (0 : Int32)), none, none] [] σ out) : Ev_ (P_X12_lacking KC) 0 [some (.ref 219), none, none, none, none] [] σ out := by
  refine ev_n 4 (fun _ => rfl) ?_
  exact h
set_option maxRecDepth 20000 in
theorem e_X12_lacking_4 {x1 : Int32} {x2 : Int32} {σ : St_} {out : Out_}  (h : (∃ (v2 : Int32) (σ1 : St_), f_X12_chaps KC [.ref 219] σ = some (some (.int v2), σ1) ∧ ((v2 ≤ x2 → out = (some (.int x1), σ1)) ∧ (¬ (v2 ≤ x2) → Ev_ (P_X12_lacking KC) 17 [some (.ref 219), some (.int x1), some (.int x2), some (.int (0 : Int32)), some (.int (0 : Int32))] [] σ1 out)))) : Ev_ (P_X12_lacking KC) 4 [some (.ref 219), some (.int x1), some (.int x2), none, none] [] σ out := by
  refine ev_n 2 (fun _ => rfl) ?_
  obtain ⟨v2, σ1, hf, h⟩ := h
  refine ev_go rfl (w_callV rfl rfl rfl (Nat.le_of_ble_eq_true rfl) hf) ?_
  refine ev_if (c := v2 ≤ x2) rfl (fun _ => rfl) (fun hc => ?_) (fun hc => ?_)
  · replace h := h.1 hc
    refine ev_n 1 (fun _ => rfl) ?_
    exact ev_ret rfl (fun _ => rfl) h
  · replace h := h.2 hc
    refine ev_n 4 (fun _ => rfl) ?_
    exact h
set_option maxRecDepth 20000 in
theorem e_X12_lacking_17 {x1 : Int32} {x2 : Int32} {x3 : Int32} {x4 : Int32} {σ : St_} {out : Out_}  (h : (∃ (v2 : Int32) (σ1 : St_), f_X12_readers KC [.ref 219] σ = some (some (.int v2), σ1) ∧ ((v2 ≤ x4 → ((x3 = 0 → Ev_ (P_X12_lacking KC) 4 [some (.ref 219), some (.int (x1 ||| ((1 : Int32) <<< (x2 &&& 31)))), some (.int (x2 + 1)), none, none] [] σ1 out) ∧ (¬ (x3 = 0) → Ev_ (P_X12_lacking KC) 4 [some (.ref 219), some (.int x1), some (.int (x2 + 1)), none, none] [] σ1 out))) ∧ (¬ (v2 ≤ x4) → ((x3 = 0 → (vpin_ (((16 : Int32) * x4) + x2) 144 = true) ∧ ((((2 : Int32) * (σ1.1 229 (Int32.toNatClampNeg (((16 : Int32) * x4) + x2)))) < (1000000 : Int32) → Ev_ (P_X12_lacking KC) 17 [some (.ref 219), some (.int x1), some (.int x2), some (.int (0 : Int32)), some (.int (x4 + 1))] [] σ1 out) ∧ (¬ (((2 : Int32) * (σ1.1 229 (Int32.toNatClampNeg (((16 : Int32) * x4) + x2)))) < (1000000 : Int32)) → Ev_ (P_X12_lacking KC) 17 [some (.ref 219), some (.int x1), some (.int x2), some (.int (1 : Int32)), some (.int (x4 + 1))] [] σ1 out))) ∧ (¬ (x3 = 0) → Ev_ (P_X12_lacking KC) 17 [some (.ref 219), some (.int x1), some (.int x2), some (.int (1 : Int32)), some (.int (x4 + 1))] [] σ1 out)))))) : Ev_ (P_X12_lacking KC) 17 [some (.ref 219), some (.int x1), some (.int x2), some (.int x3), some (.int x4)] [] σ out := by
  refine ev_n 2 (fun _ => rfl) ?_
  obtain ⟨v2, σ1, hf, h⟩ := h
  refine ev_go rfl (w_callV rfl rfl rfl (Nat.le_of_ble_eq_true rfl) hf) ?_
  refine ev_if (c := v2 ≤ x4) rfl (fun _ => rfl) (fun hc => ?_) (fun hc => ?_)
  · replace h := h.1 hc
    refine ev_n 1 (fun _ => rfl) ?_
    refine ev_if (c := x3 = 0) rfl (fun _ => rfl) (fun hc => ?_) (fun hc => ?_)
    · replace h := h.1 hc
      refine ev_n 8 (fun _ => rfl) ?_
      exact h
    · replace h := h.2 hc
      refine ev_n 2 (fun _ => rfl) ?_
      exact h
  · replace h := h.2 hc
    refine ev_n 1 (fun _ => rfl) ?_
    refine ev_if (c := x3 = 0) rfl (fun _ => rfl) (fun hc => ?_) (fun hc => ?_)
    · replace h := h.1 hc
      refine ev_n 2 (fun _ => rfl) ?_
      refine ev_go rfl (w_gF rfl rfl) ?_
      refine ev_n 5 (fun _ => rfl) ?_
      obtain ⟨h0, h⟩ := h
      refine ev_go rfl (w_iald rfl h0) ?_
      refine ev_n 2 (fun _ => rfl) ?_
      refine ev_if (c := ((2 : Int32) * (σ1.1 229 (Int32.toNatClampNeg (((16 : Int32) * x4) + x2)))) < (1000000 : Int32)) rfl (fun _ => rfl) (fun hc => ?_) (fun hc => ?_)
      · replace h := h.1 hc
        refine ev_n 4 (fun _ => rfl) ?_
        exact h
      · replace h := h.2 hc
        refine ev_n 5 (fun _ => rfl) ?_
        exact h
    · replace h := h.2 hc
      refine ev_n 5 (fun _ => rfl) ?_
      exact h
theorem m_X12_lacking : ∀ pc o, (P_X12_lacking KC).lookup pc = some o → Mon_ o := all_mon (a_X12_lacking (l := launch0) (E := EC0) EC0_ok)
theorem z_X12_lacking  {σ : St_} {out : Out_} (h : Ev_ (P_X12_lacking KC) 0 [some (.ref 219), none, none, none, none] [] σ out) : f_X12_lacking KC [.ref 219] σ = some out := fn_eq m_X12_lacking rfl h
set_option maxRecDepth 20000 in
theorem e_X12_all_0 {x1 : Int32} {σ : St_} {out : Out_}  (h : (∃ (σ1 : St_), f_X12_night KC [.ref 219] (sI_ σ 219 0 (0 : Int32)) = some (none, σ1) ∧ ((x1 = 0 → (∃ (v3 : Int32) (σ2 : St_), f_X12_readers KC [.ref 219] σ1 = some (some (.int v3), σ2) ∧ (∃ (v5 : Int32) (σ4 : St_), f_X12_sum KC [.ref 219, .int v3] σ2 = some (some (.int v5), σ4) ∧ out = (some (.int v5), σ4)))) ∧ (¬ (x1 = 0) → ((x1 = (3 : Int32) → (∃ (v7 : Int32) (σ6 : St_), f_X12_lacking KC [.ref 219] σ1 = some (some (.int v7), σ6) ∧ out = (some (.int v7), σ6))) ∧ (¬ (x1 = (3 : Int32)) → ((x1 = (1 : Int32) → (∃ (v9 : Int32) (σ8 : St_), f_X12_readers KC [.ref 219] σ1 = some (some (.int v9), σ8) ∧ ((v9 = 0 → Ev_ (P_X12_all KC) 52 [some (.ref 219), some (.int x1), some (.int ((-1) : Int32)), some (.int (1 : Int32)), none] [] σ8 out) ∧ (¬ (v9 = 0) → Ev_ (P_X12_all KC) 52 [some (.ref 219), some (.int x1), some (.int (0 : Int32)), some (.int (1 : Int32)), none] [] σ8 out)))) ∧ (¬ (x1 = (1 : Int32)) → ((x1 = (2 : Int32) → Ev_ (P_X12_all KC) 94 [some (.ref 219), some (.int x1), some (.int (0 : Int32)), some (.int (0 : Int32)), none] [] σ1 out) ∧ (¬ (x1 = (2 : Int32)) → out = (some (.int ((-1) : Int32)), σ1))))))))))) : Ev_ (P_X12_all KC) 0 [some (.ref 219), some (.int x1), none, none, none] [] σ out := by
  refine ev_n 2 (fun _ => rfl) ?_
  refine ev_go rfl (w_pI rfl) ?_
  refine ev_n 1 (fun _ => rfl) ?_
  obtain ⟨σ1, hf, h⟩ := h
  refine ev_go rfl (w_callV rfl rfl rfl (Nat.le_of_ble_eq_true rfl) hf) ?_
  refine ev_n 1 (fun _ => rfl) ?_
  refine ev_if (c := x1 = 0) rfl (fun _ => rfl) (fun hc => ?_) (fun hc => ?_)
  · replace h := h.1 hc
    refine ev_n 2 (fun _ => rfl) ?_
    obtain ⟨v3, σ2, hf, h⟩ := h
    refine ev_go rfl (w_callV rfl rfl rfl (Nat.le_of_ble_eq_true rfl) hf) ?_
    obtain ⟨v5, σ4, hf, h⟩ := h
    refine ev_go rfl (w_callV rfl rfl rfl (Nat.le_of_ble_eq_true rfl) hf) ?_
    exact ev_ret rfl (fun _ => rfl) h
  · replace h := h.2 hc
    refine ev_n 2 (fun _ => rfl) ?_
    refine ev_if (c := x1 = (3 : Int32)) rfl (fun _ => rfl) (fun hc => ?_) (fun hc => ?_)
    · replace h := h.1 hc
      refine ev_n 1 (fun _ => rfl) ?_
      obtain ⟨v7, σ6, hf, h⟩ := h
      refine ev_go rfl (w_callV rfl rfl rfl (Nat.le_of_ble_eq_true rfl) hf) ?_
      exact ev_ret rfl (fun _ => rfl) h
    · replace h := h.2 hc
      refine ev_n 2 (fun _ => rfl) ?_
      refine ev_if (c := x1 = (1 : Int32)) rfl (fun _ => rfl) (fun hc => ?_) (fun hc => ?_)
      · replace h := h.1 hc
        refine ev_n 1 (fun _ => rfl) ?_
        obtain ⟨v9, σ8, hf, h⟩ := h
        refine ev_go rfl (w_callV rfl rfl rfl (Nat.le_of_ble_eq_true rfl) hf) ?_
        refine ev_if (c := v9 = 0) rfl (fun _ => rfl) (fun hc => ?_) (fun hc => ?_)
        · replace h := h.1 hc
          refine ev_n 5 (fun _ => rfl) ?_
          exact h
        · replace h := h.2 hc
          refine ev_n 4 (fun _ => rfl) ?_
          exact h
      · replace h := h.2 hc
        refine ev_n 2 (fun _ => rfl) ?_
        refine ev_if (c := x1 = (2 : Int32)) rfl (fun _ => rfl) (fun hc => ?_) (fun hc => ?_)
        · replace h := h.1 hc
          refine ev_n 4 (fun _ => rfl) ?_
          exact h
        · replace h := h.2 hc
          refine ev_n 1 (fun _ => rfl) ?_
          exact ev_ret rfl (fun _ => rfl) h
set_option maxRecDepth 20000 in
theorem e_X12_all_52 {x1 : Int32} {x2 : Int32} {x3 : Int32} {σ : St_} {out : Out_}  (h : (∃ (v2 : Int32) (σ1 : St_), f_X12_readers KC [.ref 219] σ = some (some (.int v2), σ1) ∧ ((v2 ≤ x3 → out = (some (.int x2), σ1)) ∧ (¬ (v2 ≤ x3) → (∃ (v4 : Int32) (σ3 : St_), f_X12_inAll KC [.ref 219, .int x3] σ1 = some (some (.int v4), σ3) ∧ (∃ (v6 : Int32) (σ5 : St_), f_X12_inAll KC [.ref 219, .int x2] σ3 = some (some (.int v6), σ5) ∧ ((v4 ≤ v6 → Ev_ (P_X12_all KC) 52 [some (.ref 219), some (.int x1), some (.int x2), some (.int (x3 + 1)), none] [] σ5 out) ∧ (¬ (v4 ≤ v6) → Ev_ (P_X12_all KC) 52 [some (.ref 219), some (.int x1), some (.int x3), some (.int (x3 + 1)), none] [] σ5 out)))))))) : Ev_ (P_X12_all KC) 52 [some (.ref 219), some (.int x1), some (.int x2), some (.int x3), none] [] σ out := by
  refine ev_n 2 (fun _ => rfl) ?_
  obtain ⟨v2, σ1, hf, h⟩ := h
  refine ev_go rfl (w_callV rfl rfl rfl (Nat.le_of_ble_eq_true rfl) hf) ?_
  refine ev_if (c := v2 ≤ x3) rfl (fun _ => rfl) (fun hc => ?_) (fun hc => ?_)
  · replace h := h.1 hc
    refine ev_n 1 (fun _ => rfl) ?_
    exact ev_ret rfl (fun _ => rfl) h
  · replace h := h.2 hc
    refine ev_n 2 (fun _ => rfl) ?_
    obtain ⟨v4, σ3, hf, h⟩ := h
    refine ev_go rfl (w_callV rfl rfl rfl (Nat.le_of_ble_eq_true rfl) hf) ?_
    refine ev_n 2 (fun _ => rfl) ?_
    obtain ⟨v6, σ5, hf, h⟩ := h
    refine ev_go rfl (w_callV rfl rfl rfl (Nat.le_of_ble_eq_true rfl) hf) ?_
    refine ev_if (c := v4 ≤ v6) rfl (fun _ => rfl) (fun hc => ?_) (fun hc => ?_)
    · replace h := h.1 hc
      refine ev_n 2 (fun _ => rfl) ?_
      exact h
    · replace h := h.2 hc
      refine ev_n 4 (fun _ => rfl) ?_
      exact h
set_option maxRecDepth 20000 in
theorem e_X12_all_94 {x1 : Int32} {x2 : Int32} {x3 : Int32} {σ : St_} {out : Out_}  (h : (∃ (v2 : Int32) (σ1 : St_), f_X12_readers KC [.ref 219] σ = some (some (.int v2), σ1) ∧ ((v2 ≤ x3 → out = (some (.int x2), σ1)) ∧ (¬ (v2 ≤ x3) → Ev_ (P_X12_all KC) 105 [some (.ref 219), some (.int x1), some (.int x2), some (.int x3), some (.int (0 : Int32))] [] σ1 out)))) : Ev_ (P_X12_all KC) 94 [some (.ref 219), some (.int x1), some (.int x2), some (.int x3), none] [] σ out := by
  refine ev_n 2 (fun _ => rfl) ?_
  obtain ⟨v2, σ1, hf, h⟩ := h
  refine ev_go rfl (w_callV rfl rfl rfl (Nat.le_of_ble_eq_true rfl) hf) ?_
  refine ev_if (c := v2 ≤ x3) rfl (fun _ => rfl) (fun hc => ?_) (fun hc => ?_)
  · replace h := h.1 hc
    refine ev_n 1 (fun _ => rfl) ?_
    exact ev_ret rfl (fun _ => rfl) h
  · replace h := h.2 hc
    refine ev_n 2 (fun _ => rfl) ?_
    exact h
set_option maxRecDepth 20000 in
theorem e_X12_all_105 {x1 : Int32} {x2 : Int32} {x3 : Int32} {x4 : Int32} {σ : St_} {out : Out_}  (h : (∃ (v2 : Int32) (σ1 : St_), f_X12_chaps KC [.ref 219] σ = some (some (.int v2), σ1) ∧ ((v2 ≤ x4 → Ev_ (P_X12_all KC) 94 [some (.ref 219), some (.int x1), some (.int x2), some (.int (x3 + 1)), none] [] σ1 out) ∧ (¬ (v2 ≤ x4) → (∃ (v4 : Int32) (σ3 : St_), f_X12_chapOf KC [.ref 219, .int x4, .int (2 : Int32)] σ1 = some (some (.int v4), σ3) ∧ ((v4 = (1 : Int32) → (vpin_ x3 9 = true) ∧ (∃ (v6 : Int32) (σ5 : St_), f_X12_has KC [.int (σ3.1 231 (Int32.toNatClampNeg x3)), .int x4] σ3 = some (some (.int v6), σ5) ∧ ((v6 = 0 → Ev_ (P_X12_all KC) 105 [some (.ref 219), some (.int x1), some (.int (x2 + 1)), some (.int x3), some (.int (x4 + 1))] [] σ5 out) ∧ (¬ (v6 = 0) → Ev_ (P_X12_all KC) 105 [some (.ref 219), some (.int x1), some (.int x2), some (.int x3), some (.int (x4 + 1))] [] σ5 out)))) ∧ (¬ (v4 = (1 : Int32)) → Ev_ (P_X12_all KC) 105 [some (.ref 219), some (.int x1), some (.int x2), some (.int x3), some (.int (x4 + 1))] [] σ3 out))))))) : Ev_ (P_X12_all KC) 105 [some (.ref 219), some (.int x1), some (.int x2), some (.int x3), some (.int x4)] [] σ out := by
  refine ev_n 2 (fun _ => rfl) ?_
  obtain ⟨v2, σ1, hf, h⟩ := h
  refine ev_go rfl (w_callV rfl rfl rfl (Nat.le_of_ble_eq_true rfl) hf) ?_
  refine ev_if (c := v2 ≤ x4) rfl (fun _ => rfl) (fun hc => ?_) (fun hc => ?_)
  · replace h := h.1 hc
    refine ev_n 2 (fun _ => rfl) ?_
    exact h
  · replace h := h.2 hc
    refine ev_n 3 (fun _ => rfl) ?_
    obtain ⟨v4, σ3, hf, h⟩ := h
    refine ev_go rfl (w_callV rfl rfl rfl (Nat.le_of_ble_eq_true rfl) hf) ?_
    refine ev_n 1 (fun _ => rfl) ?_
    refine ev_if (c := v4 = (1 : Int32)) rfl (fun _ => rfl) (fun hc => ?_) (fun hc => ?_)
    · replace h := h.1 hc
      refine ev_n 1 (fun _ => rfl) ?_
      refine ev_go rfl (w_gF rfl rfl) ?_
      refine ev_n 1 (fun _ => rfl) ?_
      obtain ⟨h0, h⟩ := h
      refine ev_go rfl (w_iald rfl h0) ?_
      refine ev_n 1 (fun _ => rfl) ?_
      obtain ⟨v6, σ5, hf, h⟩ := h
      refine ev_go rfl (w_callS ⟨Nat.le_of_ble_eq_true rfl, Nat.le_of_ble_eq_true rfl⟩ hf) ?_
      refine ev_if (c := v6 = 0) rfl (fun _ => rfl) (fun hc => ?_) (fun hc => ?_)
      · replace h := h.1 hc
        refine ev_n 3 (fun _ => rfl) ?_
        exact h
      · replace h := h.2 hc
        refine ev_n 2 (fun _ => rfl) ?_
        exact h
    · replace h := h.2 hc
      refine ev_n 2 (fun _ => rfl) ?_
      exact h
theorem m_X12_all : ∀ pc o, (P_X12_all KC).lookup pc = some o → Mon_ o := all_mon (a_X12_all (l := launch0) (E := EC0) EC0_ok)
theorem z_X12_all {x1 : Int32} {σ : St_} {out : Out_} (h : Ev_ (P_X12_all KC) 0 [some (.ref 219), some (.int x1), none, none, none] [] σ out) : f_X12_all KC [.ref 219, .int x1] σ = some out := fn_eq m_X12_all rfl h
set_option maxRecDepth 20000 in
theorem e_X12_tries_0 {x1 : Int32} {x2 : Int32} {x3 : Int32} {x4 : Int32} {σ : St_} {out : Out_}  (h : (∃ (v2 : Int32) (σ1 : St_), f_X12_wrong KC [.ref 219, .int x1, .int x2, .int x3, .int x4] σ = some (some (.int v2), σ1) ∧ ((v2 = 0 → (∃ (v4 : Int32) (σ3 : St_), f_X12_addAct KC [.ref 219, .int x1, .int x2, .int x3, .int x4] σ1 = some (some (.int v4), σ3) ∧ ((v4 = 0 → out = (some (.int (0 : Int32)), σ3)) ∧ (¬ (v4 = 0) → (∃ (σ5 : St_), f_X12_does KC [.ref 219, .int x1, .int x2, .int x3, .int x4] σ3 = some (none, σ5) ∧ out = (some (.int (1 : Int32)), σ5)))))) ∧ (¬ (v2 = 0) → out = (some (.int (0 : Int32)), σ1))))) : Ev_ (P_X12_tries KC) 0 [some (.ref 219), some (.int x1), some (.int x2), some (.int x3), some (.int x4)] [] σ out := by
  refine ev_n 5 (fun _ => rfl) ?_
  obtain ⟨v2, σ1, hf, h⟩ := h
  refine ev_go rfl (w_callV rfl rfl rfl (Nat.le_of_ble_eq_true rfl) hf) ?_
  refine ev_if (c := v2 = 0) rfl (fun _ => rfl) (fun hc => ?_) (fun hc => ?_)
  · replace h := h.1 hc
    refine ev_n 5 (fun _ => rfl) ?_
    obtain ⟨v4, σ3, hf, h⟩ := h
    refine ev_go rfl (w_callV rfl rfl rfl (Nat.le_of_ble_eq_true rfl) hf) ?_
    refine ev_if (c := v4 = 0) rfl (fun _ => rfl) (fun hc => ?_) (fun hc => ?_)
    · replace h := h.1 hc
      refine ev_n 1 (fun _ => rfl) ?_
      exact v_zret (by decide) rfl h
    · replace h := h.2 hc
      refine ev_n 5 (fun _ => rfl) ?_
      obtain ⟨σ5, hf, h⟩ := h
      refine ev_go rfl (w_callV rfl rfl rfl (Nat.le_of_ble_eq_true rfl) hf) ?_
      refine ev_n 1 (fun _ => rfl) ?_
      exact v_zret (by decide) rfl h
  · replace h := h.2 hc
    refine ev_n 1 (fun _ => rfl) ?_
    exact v_zret (by decide) rfl h
theorem m_X12_tries : ∀ pc o, (P_X12_tries KC).lookup pc = some o → Mon_ o := all_mon (a_X12_tries (l := launch0) (E := EC0) EC0_ok)
theorem z_X12_tries {x1 : Int32} {x2 : Int32} {x3 : Int32} {x4 : Int32} {σ : St_} {out : Out_} (h : Ev_ (P_X12_tries KC) 0 [some (.ref 219), some (.int x1), some (.int x2), some (.int x3), some (.int x4)] [] σ out) : f_X12_tries KC [.ref 219, .int x1, .int x2, .int x3, .int x4] σ = some out := fn_eq m_X12_tries rfl h
set_option maxRecDepth 20000 in
theorem e_X12_makeRows_0  {σ : St_} {out : Out_}  (h : Ev_ (P_X12_makeRows KC) 4 [some (.ref 219), some (.int (0 : Int32)), some (.int (0 : Int32))] [] σ out) : Ev_ (P_X12_makeRows KC) 0 [some (.ref 219), none, none] [] σ out := by
  refine ev_n 4 (fun _ => rfl) ?_
  exact h
set_option maxRecDepth 20000 in
theorem e_X12_makeRows_4 {x1 : Int32} {x2 : Int32} {σ : St_} {out : Out_}  (h : (∃ (v2 : Int32) (σ1 : St_), f_X12_chaps KC [.ref 219] σ = some (some (.int v2), σ1) ∧ ((v2 ≤ x2 → out = (none, σ1)) ∧ (¬ (v2 ≤ x2) → Ev_ (P_X12_makeRows KC) 12 [some (.ref 219), some (.int x1), some (.int x2)] [] σ1 out)))) : Ev_ (P_X12_makeRows KC) 4 [some (.ref 219), some (.int x1), some (.int x2)] [] σ out := by
  refine ev_n 2 (fun _ => rfl) ?_
  obtain ⟨v2, σ1, hf, h⟩ := h
  refine ev_go rfl (w_callV rfl rfl rfl (Nat.le_of_ble_eq_true rfl) hf) ?_
  refine ev_if (c := v2 ≤ x2) rfl (fun _ => rfl) (fun hc => ?_) (fun hc => ?_)
  · replace h := h.1 hc
    exact ev_ret rfl (fun _ => rfl) h
  · replace h := h.2 hc
    exact h
set_option maxRecDepth 20000 in
theorem e_X12_makeRows_12 {x1 : Int32} {x2 : Int32} {σ : St_} {out : Out_}  (h : (∃ (v2 : Int32) (σ1 : St_), f_X12_readers KC [.ref 219] σ = some (some (.int v2), σ1) ∧ ((v2 ≤ x1 → (∃ (v4 : Int32) (σ3 : St_), f_X12_readers KC [.ref 219] σ1 = some (some (.int v4), σ3) ∧ ((x1 = v4 → out = (none, σ3)) ∧ (¬ (x1 = v4) → (∃ (v6 : Int32) (σ5 : St_), f_X12_tries KC [.ref 219, .int x1, .int x2, .int (0 : Int32), .int (0 : Int32)] σ3 = some (some (.int v6), σ5) ∧ Ev_ (P_X12_makeRows KC) 4 [some (.ref 219), some (.int x1), some (.int (x2 + 1))] [] σ5 out))))) ∧ (¬ (v2 ≤ x1) → (vpin_ x1 9 = true) ∧ (∃ (v8 : Int32) (σ7 : St_), f_X12_timeToRead KC [.ref 219, .int x1, .int x2] σ1 = some (some (.int v8), σ7) ∧ ((v8 ≤ (σ1.1 230 (Int32.toNatClampNeg x1)) → (∃ (v10 : Int32) (σ9 : St_), f_X12_readers KC [.ref 219] σ7 = some (some (.int v10), σ9) ∧ ((x1 = v10 → out = (none, σ9)) ∧ (¬ (x1 = v10) → (∃ (v12 : Int32) (σ11 : St_), f_X12_tries KC [.ref 219, .int x1, .int x2, .int (0 : Int32), .int (0 : Int32)] σ9 = some (some (.int v12), σ11) ∧ Ev_ (P_X12_makeRows KC) 4 [some (.ref 219), some (.int x1), some (.int (x2 + 1))] [] σ11 out))))) ∧ (¬ (v8 ≤ (σ1.1 230 (Int32.toNatClampNeg x1))) → Ev_ (P_X12_makeRows KC) 12 [some (.ref 219), some (.int (x1 + 1)), some (.int x2)] [] σ7 out))))))) : Ev_ (P_X12_makeRows KC) 12 [some (.ref 219), some (.int x1), some (.int x2)] [] σ out := by
  refine ev_n 2 (fun _ => rfl) ?_
  obtain ⟨v2, σ1, hf, h⟩ := h
  refine ev_go rfl (w_callV rfl rfl rfl (Nat.le_of_ble_eq_true rfl) hf) ?_
  refine ev_if (c := v2 ≤ x1) rfl (fun _ => rfl) (fun hc => ?_) (fun hc => ?_)
  · replace h := h.1 hc
    refine ev_n 2 (fun _ => rfl) ?_
    obtain ⟨v4, σ3, hf, h⟩ := h
    refine ev_go rfl (w_callV rfl rfl rfl (Nat.le_of_ble_eq_true rfl) hf) ?_
    refine ev_if (c := x1 = v4) rfl (fun _ => rfl) (fun hc => ?_) (fun hc => ?_)
    · replace h := h.1 hc
      exact ev_ret rfl (fun _ => rfl) h
    · replace h := h.2 hc
      refine ev_n 5 (fun _ => rfl) ?_
      obtain ⟨v6, σ5, hf, h⟩ := h
      refine ev_go rfl (w_callV rfl rfl rfl (Nat.le_of_ble_eq_true rfl) hf) ?_
      refine ev_n 3 (fun _ => rfl) ?_
      exact h
  · replace h := h.2 hc
    refine ev_n 1 (fun _ => rfl) ?_
    refine ev_go rfl (w_gF rfl rfl) ?_
    refine ev_n 1 (fun _ => rfl) ?_
    obtain ⟨h0, h⟩ := h
    refine ev_go rfl (w_iald rfl h0) ?_
    refine ev_n 3 (fun _ => rfl) ?_
    obtain ⟨v8, σ7, hf, h⟩ := h
    refine ev_go rfl (w_callV rfl rfl rfl (Nat.le_of_ble_eq_true rfl) hf) ?_
    refine ev_if (c := v8 ≤ (σ1.1 230 (Int32.toNatClampNeg x1))) rfl (fun _ => rfl) (fun hc => ?_) (fun hc => ?_)
    · replace h := h.1 hc
      refine ev_n 2 (fun _ => rfl) ?_
      obtain ⟨v10, σ9, hf, h⟩ := h
      refine ev_go rfl (w_callV rfl rfl rfl (Nat.le_of_ble_eq_true rfl) hf) ?_
      refine ev_if (c := x1 = v10) rfl (fun _ => rfl) (fun hc => ?_) (fun hc => ?_)
      · replace h := h.1 hc
        exact ev_ret rfl (fun _ => rfl) h
      · replace h := h.2 hc
        refine ev_n 5 (fun _ => rfl) ?_
        obtain ⟨v12, σ11, hf, h⟩ := h
        refine ev_go rfl (w_callV rfl rfl rfl (Nat.le_of_ble_eq_true rfl) hf) ?_
        refine ev_n 3 (fun _ => rfl) ?_
        exact h
    · replace h := h.2 hc
      refine ev_n 2 (fun _ => rfl) ?_
      exact h
theorem m_X12_makeRows : ∀ pc o, (P_X12_makeRows KC).lookup pc = some o → Mon_ o := all_mon (a_X12_makeRows (l := launch0) (E := EC0) EC0_ok)
theorem z_X12_makeRows  {σ : St_} {out : Out_} (h : Ev_ (P_X12_makeRows KC) 0 [some (.ref 219), none, none] [] σ out) : f_X12_makeRows KC [.ref 219] σ = some out := fn_eq m_X12_makeRows rfl h
set_option maxRecDepth 20000 in
theorem e_X12_idlest_0 {x1 : Int32} {σ : St_} {out : Out_}  (h : Ev_ (P_X12_idlest KC) 4 [some (.ref 219), some (.int x1), some (.int ((-1) : Int32)), some (.int (0 : Int32))] [] σ out) : Ev_ (P_X12_idlest KC) 0 [some (.ref 219), some (.int x1), none, none] [] σ out := by
  refine ev_n 4 (fun _ => rfl) ?_
  exact h
set_option maxRecDepth 20000 in
theorem e_X12_idlest_4 {x1 : Int32} {x2 : Int32} {x3 : Int32} {σ : St_} {out : Out_}  (h : (∃ (v2 : Int32) (σ1 : St_), f_X12_readers KC [.ref 219] σ = some (some (.int v2), σ1) ∧ ((v2 ≤ x3 → out = (some (.int x2), σ1)) ∧ (¬ (v2 ≤ x3) → ((x1 = ((-1) : Int32) → Ev_ (P_X12_idlest KC) 30 [some (.ref 219), some (.int x1), some (.int x2), some (.int x3)] [] σ1 out) ∧ (¬ (x1 = ((-1) : Int32)) → (vpin_ x3 9 = true) ∧ (∃ (v4 : Int32) (σ3 : St_), f_X12_has KC [.int (σ1.1 231 (Int32.toNatClampNeg x3)), .int x1] σ1 = some (some (.int v4), σ3) ∧ ((v4 = 0 → Ev_ (P_X12_idlest KC) 30 [some (.ref 219), some (.int x1), some (.int x2), some (.int x3)] [] σ3 out) ∧ (¬ (v4 = 0) → Ev_ (P_X12_idlest KC) 4 [some (.ref 219), some (.int x1), some (.int x2), some (.int (x3 + 1))] [] σ3 out))))))))) : Ev_ (P_X12_idlest KC) 4 [some (.ref 219), some (.int x1), some (.int x2), some (.int x3)] [] σ out := by
  refine ev_n 2 (fun _ => rfl) ?_
  obtain ⟨v2, σ1, hf, h⟩ := h
  refine ev_go rfl (w_callV rfl rfl rfl (Nat.le_of_ble_eq_true rfl) hf) ?_
  refine ev_if (c := v2 ≤ x3) rfl (fun _ => rfl) (fun hc => ?_) (fun hc => ?_)
  · replace h := h.1 hc
    refine ev_n 1 (fun _ => rfl) ?_
    exact ev_ret rfl (fun _ => rfl) h
  · replace h := h.2 hc
    refine ev_n 2 (fun _ => rfl) ?_
    refine ev_if (c := x1 = ((-1) : Int32)) rfl (fun _ => rfl) (fun hc => ?_) (fun hc => ?_)
    · replace h := h.1 hc
      exact h
    · replace h := h.2 hc
      refine ev_n 1 (fun _ => rfl) ?_
      refine ev_go rfl (w_gF rfl rfl) ?_
      refine ev_n 1 (fun _ => rfl) ?_
      obtain ⟨h0, h⟩ := h
      refine ev_go rfl (w_iald rfl h0) ?_
      refine ev_n 1 (fun _ => rfl) ?_
      obtain ⟨v4, σ3, hf, h⟩ := h
      refine ev_go rfl (w_callS ⟨Nat.le_of_ble_eq_true rfl, Nat.le_of_ble_eq_true rfl⟩ hf) ?_
      refine ev_if (c := v4 = 0) rfl (fun _ => rfl) (fun hc => ?_) (fun hc => ?_)
      · replace h := h.1 hc
        exact h
      · replace h := h.2 hc
        refine ev_n 2 (fun _ => rfl) ?_
        exact h
set_option maxRecDepth 20000 in
theorem e_X12_idlest_30 {x1 : Int32} {x2 : Int32} {x3 : Int32} {σ : St_} {out : Out_}  (h : ((x2 = ((-1) : Int32) → Ev_ (P_X12_idlest KC) 4 [some (.ref 219), some (.int x1), some (.int x3), some (.int (x3 + 1))] [] σ out) ∧ (¬ (x2 = ((-1) : Int32)) → (vpin_ x3 9 = true) ∧ (vpin_ x2 9 = true) ∧ (((σ.1 230 (Int32.toNatClampNeg x3)) ≤ (σ.1 230 (Int32.toNatClampNeg x2)) → Ev_ (P_X12_idlest KC) 4 [some (.ref 219), some (.int x1), some (.int x2), some (.int (x3 + 1))] [] σ out) ∧ (¬ ((σ.1 230 (Int32.toNatClampNeg x3)) ≤ (σ.1 230 (Int32.toNatClampNeg x2))) → Ev_ (P_X12_idlest KC) 4 [some (.ref 219), some (.int x1), some (.int x3), some (.int (x3 + 1))] [] σ out))))) : Ev_ (P_X12_idlest KC) 30 [some (.ref 219), some (.int x1), some (.int x2), some (.int x3)] [] σ out := by
  refine ev_n 2 (fun _ => rfl) ?_
  refine ev_if (c := x2 = ((-1) : Int32)) rfl (fun _ => rfl) (fun hc => ?_) (fun hc => ?_)
  · replace h := h.1 hc
    refine ev_n 4 (fun _ => rfl) ?_
    exact h
  · replace h := h.2 hc
    refine ev_n 1 (fun _ => rfl) ?_
    refine ev_go rfl (w_gF rfl rfl) ?_
    refine ev_n 1 (fun _ => rfl) ?_
    obtain ⟨h0, h⟩ := h
    refine ev_go rfl (w_iald rfl h0) ?_
    refine ev_n 1 (fun _ => rfl) ?_
    refine ev_go rfl (w_gF rfl rfl) ?_
    refine ev_n 1 (fun _ => rfl) ?_
    obtain ⟨h0, h⟩ := h
    refine ev_go rfl (w_iald rfl h0) ?_
    refine ev_if (c := (σ.1 230 (Int32.toNatClampNeg x3)) ≤ (σ.1 230 (Int32.toNatClampNeg x2))) rfl (fun _ => rfl) (fun hc => ?_) (fun hc => ?_)
    · replace h := h.1 hc
      refine ev_n 2 (fun _ => rfl) ?_
      exact h
    · replace h := h.2 hc
      refine ev_n 4 (fun _ => rfl) ?_
      exact h
theorem m_X12_idlest : ∀ pc o, (P_X12_idlest KC).lookup pc = some o → Mon_ o := all_mon (a_X12_idlest (l := launch0) (E := EC0) EC0_ok)
theorem z_X12_idlest {x1 : Int32} {σ : St_} {out : Out_} (h : Ev_ (P_X12_idlest KC) 0 [some (.ref 219), some (.int x1), none, none] [] σ out) : f_X12_idlest KC [.ref 219, .int x1] σ = some out := fn_eq m_X12_idlest rfl h
set_option maxRecDepth 20000 in
theorem e_X12_makeLean_0 {x1 : Int32} {σ : St_} {out : Out_}  (h : Ev_ (P_X12_makeLean KC) 2 [some (.ref 219), some (.int x1), some (.int (0 : Int32)), none, none, none, none] [] σ out) : Ev_ (P_X12_makeLean KC) 0 [some (.ref 219), some (.int x1), none, none, none, none, none] [] σ out := by
  refine ev_n 2 (fun _ => rfl) ?_
  exact h
set_option maxRecDepth 20000 in
theorem e_X12_makeLean_2 {x1 : Int32} {x2 : Int32} {σ : St_} {out : Out_}  (h : (∃ (v2 : Int32) (σ1 : St_), f_X12_chaps KC [.ref 219] σ = some (some (.int v2), σ1) ∧ ((v2 ≤ x2 → Ev_ (P_X12_makeLean KC) 25 [some (.ref 219), some (.int x1), some (.int (1 : Int32)), none, none, none, none] [] σ1 out) ∧ (¬ (v2 ≤ x2) → (vpin_ x2 16 = true) ∧ Ev_ (P_X12_makeLean KC) 2 [some (.ref 219), some (.int x1), some (.int (x2 + 1)), none, none, none, none] [] (sI_ σ1 233 (Int32.toNatClampNeg x2) x2) out)))) : Ev_ (P_X12_makeLean KC) 2 [some (.ref 219), some (.int x1), some (.int x2), none, none, none, none] [] σ out := by
  refine ev_n 2 (fun _ => rfl) ?_
  obtain ⟨v2, σ1, hf, h⟩ := h
  refine ev_go rfl (w_callV rfl rfl rfl (Nat.le_of_ble_eq_true rfl) hf) ?_
  refine ev_if (c := v2 ≤ x2) rfl (fun _ => rfl) (fun hc => ?_) (fun hc => ?_)
  · replace h := h.1 hc
    refine ev_n 2 (fun _ => rfl) ?_
    exact h
  · replace h := h.2 hc
    refine ev_n 1 (fun _ => rfl) ?_
    refine ev_go rfl (w_gF rfl rfl) ?_
    refine ev_n 2 (fun _ => rfl) ?_
    obtain ⟨h0, h⟩ := h
    refine ev_go rfl (w_iast rfl h0) ?_
    refine ev_n 2 (fun _ => rfl) ?_
    exact h
set_option maxRecDepth 20000 in
theorem e_X12_makeLean_25 {x1 : Int32} {x2 : Int32} {σ : St_} {out : Out_}  (h : ((x2 = 0 → Ev_ (P_X12_makeLean KC) 150 [some (.ref 219), some (.int x1), none, some (.int (0 : Int32)), none, none, none] [] σ out) ∧ (¬ (x2 = 0) → Ev_ (P_X12_makeLean KC) 33 [some (.ref 219), some (.int x1), some (.int (0 : Int32)), some (.int (0 : Int32)), none, none, none] [] σ out))) : Ev_ (P_X12_makeLean KC) 25 [some (.ref 219), some (.int x1), some (.int x2), none, none, none, none] [] σ out := by
  refine ev_n 1 (fun _ => rfl) ?_
  refine ev_if (c := x2 = 0) rfl (fun _ => rfl) (fun hc => ?_) (fun hc => ?_)
  · replace h := h.1 hc
    refine ev_n 2 (fun _ => rfl) ?_
    exact h
  · replace h := h.2 hc
    refine ev_n 4 (fun _ => rfl) ?_
    exact h
set_option maxRecDepth 20000 in
theorem e_X12_makeLean_150 {x1 : Int32} {x3 : Int32} {σ : St_} {out : Out_}  (h : (∃ (v2 : Int32) (σ1 : St_), f_X12_chaps KC [.ref 219] σ = some (some (.int v2), σ1) ∧ ((v2 ≤ x3 → out = (none, σ1)) ∧ (¬ (v2 ≤ x3) → (∃ (v4 : Int32) (σ3 : St_), f_X12_readers KC [.ref 219] σ1 = some (some (.int v4), σ3) ∧ ((v4 ≤ 0 → out = (none, σ3)) ∧ (¬ (v4 ≤ 0) → (vpin_ x3 16 = true) ∧ (((σ3.1 233 (Int32.toNatClampNeg x3)) = x3 → (∃ (v6 : Int32) (σ5 : St_), f_X12_idlest KC [.ref 219, .int ((-1) : Int32)] σ3 = some (some (.int v6), σ5) ∧ Ev_ (P_X12_makeLean KC) 191 [some (.ref 219), some (.int x1), none, some (.int x3), some (.int v6), some (.int (1 : Int32)), some (.int x3)] [] σ5 out)) ∧ (¬ ((σ3.1 233 (Int32.toNatClampNeg x3)) = x3) → Ev_ (P_X12_makeLean KC) 150 [some (.ref 219), some (.int x1), none, some (.int (x3 + 1)), none, none, none] [] σ3 out))))))))) : Ev_ (P_X12_makeLean KC) 150 [some (.ref 219), some (.int x1), none, some (.int x3), none, none, none] [] σ out := by
  refine ev_n 2 (fun _ => rfl) ?_
  obtain ⟨v2, σ1, hf, h⟩ := h
  refine ev_go rfl (w_callV rfl rfl rfl (Nat.le_of_ble_eq_true rfl) hf) ?_
  refine ev_if (c := v2 ≤ x3) rfl (fun _ => rfl) (fun hc => ?_) (fun hc => ?_)
  · replace h := h.1 hc
    exact ev_ret rfl (fun _ => rfl) h
  · replace h := h.2 hc
    refine ev_n 1 (fun _ => rfl) ?_
    obtain ⟨v4, σ3, hf, h⟩ := h
    refine ev_go rfl (w_callV rfl rfl rfl (Nat.le_of_ble_eq_true rfl) hf) ?_
    refine ev_if (c := v4 ≤ 0) rfl (fun _ => rfl) (fun hc => ?_) (fun hc => ?_)
    · replace h := h.1 hc
      exact ev_ret rfl (fun _ => rfl) h
    · replace h := h.2 hc
      refine ev_n 1 (fun _ => rfl) ?_
      refine ev_go rfl (w_gF rfl rfl) ?_
      refine ev_n 1 (fun _ => rfl) ?_
      obtain ⟨h0, h⟩ := h
      refine ev_go rfl (w_iald rfl h0) ?_
      refine ev_n 1 (fun _ => rfl) ?_
      refine ev_if (c := (σ3.1 233 (Int32.toNatClampNeg x3)) = x3) rfl (fun _ => rfl) (fun hc => ?_) (fun hc => ?_)
      · replace h := h.1 hc
        refine ev_n 2 (fun _ => rfl) ?_
        obtain ⟨v6, σ5, hf, h⟩ := h
        refine ev_go rfl (w_callV rfl rfl rfl (Nat.le_of_ble_eq_true rfl) hf) ?_
        refine ev_n 5 (fun _ => rfl) ?_
        exact h
      · replace h := h.2 hc
        refine ev_n 3 (fun _ => rfl) ?_
        exact h
set_option maxRecDepth 20000 in
theorem e_X12_makeLean_33 {x1 : Int32} {x2 : Int32} {x3 : Int32} {σ : St_} {out : Out_}  (h : (∃ (v2 : Int32) (σ1 : St_), f_X12_chaps KC [.ref 219] σ = some (some (.int v2), σ1) ∧ ((v2 ≤ x3 → Ev_ (P_X12_makeLean KC) 25 [some (.ref 219), some (.int x1), some (.int x2), none, none, none, none] [] σ1 out) ∧ (¬ (v2 ≤ x3) → Ev_ (P_X12_makeLean KC) 44 [some (.ref 219), some (.int x1), some (.int x2), some (.int x3), some (.int (0 : Int32)), none, none] [] σ1 out)))) : Ev_ (P_X12_makeLean KC) 33 [some (.ref 219), some (.int x1), some (.int x2), some (.int x3), none, none, none] [] σ out := by
  refine ev_n 2 (fun _ => rfl) ?_
  obtain ⟨v2, σ1, hf, h⟩ := h
  refine ev_go rfl (w_callV rfl rfl rfl (Nat.le_of_ble_eq_true rfl) hf) ?_
  refine ev_if (c := v2 ≤ x3) rfl (fun _ => rfl) (fun hc => ?_) (fun hc => ?_)
  · replace h := h.1 hc
    refine ev_n 1 (fun _ => rfl) ?_
    exact h
  · replace h := h.2 hc
    refine ev_n 2 (fun _ => rfl) ?_
    exact h
set_option maxRecDepth 20000 in
theorem e_X12_makeLean_191 {x1 : Int32} {x3 : Int32} {x4 : Int32} {x5 : Int32} {x6 : Int32} {σ : St_} {out : Out_}  (h : (∃ (v2 : Int32) (σ1 : St_), f_X12_chaps KC [.ref 219] σ = some (some (.int v2), σ1) ∧ ((v2 ≤ x6 → Ev_ (P_X12_makeLean KC) 150 [some (.ref 219), some (.int x1), none, some (.int (x3 + 1)), none, none, none] [] σ1 out) ∧ (¬ (v2 ≤ x6) → ((x5 = 0 → Ev_ (P_X12_makeLean KC) 150 [some (.ref 219), some (.int x1), none, some (.int (x3 + 1)), none, none, none] [] σ1 out) ∧ (¬ (x5 = 0) → (vpin_ x6 16 = true) ∧ (((σ1.1 233 (Int32.toNatClampNeg x6)) = x3 → (∃ (v4 : Int32) (σ3 : St_), f_X12_tries KC [.ref 219, .int x4, .int x6, .int (0 : Int32), .int (0 : Int32)] σ1 = some (some (.int v4), σ3) ∧ Ev_ (P_X12_makeLean KC) 191 [some (.ref 219), some (.int x1), none, some (.int x3), some (.int x4), some (.int v4), some (.int (x6 + 1))] [] σ3 out)) ∧ (¬ ((σ1.1 233 (Int32.toNatClampNeg x6)) = x3) → Ev_ (P_X12_makeLean KC) 191 [some (.ref 219), some (.int x1), none, some (.int x3), some (.int x4), some (.int x5), some (.int (x6 + 1))] [] σ1 out)))))))) : Ev_ (P_X12_makeLean KC) 191 [some (.ref 219), some (.int x1), none, some (.int x3), some (.int x4), some (.int x5), some (.int x6)] [] σ out := by
  refine ev_n 2 (fun _ => rfl) ?_
  obtain ⟨v2, σ1, hf, h⟩ := h
  refine ev_go rfl (w_callV rfl rfl rfl (Nat.le_of_ble_eq_true rfl) hf) ?_
  refine ev_if (c := v2 ≤ x6) rfl (fun _ => rfl) (fun hc => ?_) (fun hc => ?_)
  · replace h := h.1 hc
    refine ev_n 2 (fun _ => rfl) ?_
    exact h
  · replace h := h.2 hc
    refine ev_n 1 (fun _ => rfl) ?_
    refine ev_if (c := x5 = 0) rfl (fun _ => rfl) (fun hc => ?_) (fun hc => ?_)
    · replace h := h.1 hc
      refine ev_n 2 (fun _ => rfl) ?_
      exact h
    · replace h := h.2 hc
      refine ev_n 1 (fun _ => rfl) ?_
      refine ev_go rfl (w_gF rfl rfl) ?_
      refine ev_n 1 (fun _ => rfl) ?_
      obtain ⟨h0, h⟩ := h
      refine ev_go rfl (w_iald rfl h0) ?_
      refine ev_n 1 (fun _ => rfl) ?_
      refine ev_if (c := (σ1.1 233 (Int32.toNatClampNeg x6)) = x3) rfl (fun _ => rfl) (fun hc => ?_) (fun hc => ?_)
      · replace h := h.1 hc
        refine ev_n 5 (fun _ => rfl) ?_
        obtain ⟨v4, σ3, hf, h⟩ := h
        refine ev_go rfl (w_callV rfl rfl rfl (Nat.le_of_ble_eq_true rfl) hf) ?_
        refine ev_n 3 (fun _ => rfl) ?_
        exact h
      · replace h := h.2 hc
        refine ev_n 2 (fun _ => rfl) ?_
        exact h
set_option maxRecDepth 20000 in
theorem e_X12_makeLean_44 {x1 : Int32} {x2 : Int32} {x3 : Int32} {x4 : Int32} {σ : St_} {out : Out_}  (h : ((x3 ≤ x4 → Ev_ (P_X12_makeLean KC) 33 [some (.ref 219), some (.int x1), some (.int x2), some (.int (x3 + 1)), none, none, none] [] σ out) ∧ (¬ (x3 ≤ x4) → (∃ (v2 : Int32) (σ1 : St_), f_X12_leanOf KC [.ref 219, .int x3, .int x4] σ = some (some (.int v2), σ1) ∧ ((v2 < x1 → Ev_ (P_X12_makeLean KC) 44 [some (.ref 219), some (.int x1), some (.int x2), some (.int x3), some (.int (x4 + 1)), none, none] [] σ1 out) ∧ (¬ (v2 < x1) → (vpin_ x3 16 = true) ∧ (vpin_ x4 16 = true) ∧ (((σ1.1 233 (Int32.toNatClampNeg x3)) = (σ1.1 233 (Int32.toNatClampNeg x4)) → Ev_ (P_X12_makeLean KC) 44 [some (.ref 219), some (.int x1), some (.int x2), some (.int x3), some (.int (x4 + 1)), none, none] [] σ1 out) ∧ (¬ ((σ1.1 233 (Int32.toNatClampNeg x3)) = (σ1.1 233 (Int32.toNatClampNeg x4))) → (vpin_ x3 16 = true) ∧ (vpin_ x4 16 = true) ∧ (((σ1.1 233 (Int32.toNatClampNeg x4)) ≤ (σ1.1 233 (Int32.toNatClampNeg x3)) → (vpin_ x4 16 = true) ∧ Ev_ (P_X12_makeLean KC) 112 [some (.ref 219), some (.int x1), none, some (.int x3), some (.int x4), none, none] [.int (σ1.1 233 (Int32.toNatClampNeg x4))] σ1 out) ∧ (¬ ((σ1.1 233 (Int32.toNatClampNeg x4)) ≤ (σ1.1 233 (Int32.toNatClampNeg x3))) → (vpin_ x3 16 = true) ∧ Ev_ (P_X12_makeLean KC) 112 [some (.ref 219), some (.int x1), none, some (.int x3), some (.int x4), none, none] [.int (σ1.1 233 (Int32.toNatClampNeg x3))] σ1 out)))))))))) : Ev_ (P_X12_makeLean KC) 44 [some (.ref 219), some (.int x1), some (.int x2), some (.int x3), some (.int x4), none, none] [] σ out := by
  refine ev_n 2 (fun _ => rfl) ?_
  refine ev_if (c := x3 ≤ x4) rfl (fun _ => rfl) (fun hc => ?_) (fun hc => ?_)
  · replace h := h.1 hc
    refine ev_n 2 (fun _ => rfl) ?_
    exact h
  · replace h := h.2 hc
    refine ev_n 3 (fun _ => rfl) ?_
    obtain ⟨v2, σ1, hf, h⟩ := h
    refine ev_go rfl (w_callV rfl rfl rfl (Nat.le_of_ble_eq_true rfl) hf) ?_
    refine ev_n 1 (fun _ => rfl) ?_
    refine ev_if (c := v2 < x1) rfl (fun _ => rfl) (fun hc => ?_) (fun hc => ?_)
    · replace h := h.1 hc
      refine ev_n 2 (fun _ => rfl) ?_
      exact h
    · replace h := h.2 hc
      refine ev_n 1 (fun _ => rfl) ?_
      refine ev_go rfl (w_gF rfl rfl) ?_
      refine ev_n 1 (fun _ => rfl) ?_
      obtain ⟨h0, h⟩ := h
      refine ev_go rfl (w_iald rfl h0) ?_
      refine ev_n 1 (fun _ => rfl) ?_
      refine ev_go rfl (w_gF rfl rfl) ?_
      refine ev_n 1 (fun _ => rfl) ?_
      obtain ⟨h0, h⟩ := h
      refine ev_go rfl (w_iald rfl h0) ?_
      refine ev_if (c := (σ1.1 233 (Int32.toNatClampNeg x3)) = (σ1.1 233 (Int32.toNatClampNeg x4))) rfl (fun _ => rfl) (fun hc => ?_) (fun hc => ?_)
      · replace h := h.1 hc
        refine ev_n 3 (fun _ => rfl) ?_
        exact h
      · replace h := h.2 hc
        refine ev_n 1 (fun _ => rfl) ?_
        refine ev_go rfl (w_gF rfl rfl) ?_
        refine ev_n 1 (fun _ => rfl) ?_
        obtain ⟨h0, h⟩ := h
        refine ev_go rfl (w_iald rfl h0) ?_
        refine ev_n 1 (fun _ => rfl) ?_
        refine ev_go rfl (w_gF rfl rfl) ?_
        refine ev_n 1 (fun _ => rfl) ?_
        obtain ⟨h0, h⟩ := h
        refine ev_go rfl (w_iald rfl h0) ?_
        refine ev_if (c := (σ1.1 233 (Int32.toNatClampNeg x4)) ≤ (σ1.1 233 (Int32.toNatClampNeg x3))) rfl (fun _ => rfl) (fun hc => ?_) (fun hc => ?_)
        · replace h := h.1 hc
          refine ev_n 1 (fun _ => rfl) ?_
          refine ev_go rfl (w_gF rfl rfl) ?_
          refine ev_n 1 (fun _ => rfl) ?_
          obtain ⟨h0, h⟩ := h
          refine ev_goA rfl (w_iald rfl h0) rfl ?_
          exact h
        · replace h := h.2 hc
          refine ev_n 1 (fun _ => rfl) ?_
          refine ev_go rfl (w_gF rfl rfl) ?_
          refine ev_n 1 (fun _ => rfl) ?_
          obtain ⟨h0, h⟩ := h
          refine ev_go rfl (w_iald rfl h0) ?_
          refine ev_n 1 (fun _ => rfl) ?_
          exact h
set_option maxRecDepth 20000 in
theorem e_X12_makeLean_112 {x1 : Int32} {x3 : Int32} {x4 : Int32} {y0 : Int32} {σ : St_} {out : Out_}  (h : (vpin_ x3 16 = true) ∧ (vpin_ x4 16 = true) ∧ Ev_ (P_X12_makeLean KC) 44 [some (.ref 219), some (.int x1), some (.int (1 : Int32)), some (.int x3), some (.int (x4 + 1)), none, none] [] (sI_ (sI_ σ 233 (Int32.toNatClampNeg x3) y0) 233 (Int32.toNatClampNeg x4) y0) out) : Ev_ (P_X12_makeLean KC) 112 [some (.ref 219), some (.int x1), none, some (.int x3), some (.int x4), none, none] [.int y0] σ out := by
  refine ev_n 2 (fun _ => rfl) ?_
  refine ev_go rfl (w_gF rfl rfl) ?_
  refine ev_n 2 (fun _ => rfl) ?_
  obtain ⟨h0, h⟩ := h
  refine ev_go rfl (w_iast rfl h0) ?_
  refine ev_n 1 (fun _ => rfl) ?_
  refine ev_go rfl (w_gF rfl rfl) ?_
  refine ev_n 2 (fun _ => rfl) ?_
  obtain ⟨h0, h⟩ := h
  refine ev_go rfl (w_iast rfl h0) ?_
  refine ev_n 4 (fun _ => rfl) ?_
  exact h
theorem m_X12_makeLean : ∀ pc o, (P_X12_makeLean KC).lookup pc = some o → Mon_ o := all_mon (a_X12_makeLean (l := launch0) (E := EC0) EC0_ok)
theorem z_X12_makeLean {x1 : Int32} {σ : St_} {out : Out_} (h : Ev_ (P_X12_makeLean KC) 0 [some (.ref 219), some (.int x1), none, none, none, none, none] [] σ out) : f_X12_makeLean KC [.ref 219, .int x1] σ = some out := fn_eq m_X12_makeLean rfl h
