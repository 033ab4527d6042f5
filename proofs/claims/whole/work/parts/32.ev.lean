set_option maxRecDepth 20000 in
theorem e_X4_join_0 {x1 : Int32} {x2 : Int32} {σ : St_} {out : Out_}  (h : Ev_ (P_X4_join KC) 9 [some (.ref 85), some (.int x1), some (.int x2), some (.int (if x2 < x1 then x2 else x1)), some (.int (0 : Int32))] [] σ out) : Ev_ (P_X4_join KC) 0 [some (.ref 85), some (.int x1), some (.int x2), none, none] [] σ out := by
  refine ev_n 2 (fun _ => rfl) ?_
  refine ev_go rfl (w_min (Nat.le_of_ble_eq_true rfl)) ?_
  refine ev_n 3 (fun _ => rfl) ?_
  exact h
set_option maxRecDepth 20000 in
theorem e_X4_join_9 {x1 : Int32} {x2 : Int32} {x3 : Int32} {x4 : Int32} {σ : St_} {out : Out_}  (h : (∃ b1, σ.2.2 85 2 = some b1 ∧ isB b1 ∧ (((σ.1 b1 11) ≤ x4 → out = (none, σ)) ∧ (¬ ((σ.1 b1 11) ≤ x4) → (vpin_ x4 16 = true) ∧ (((σ.1 91 (Int32.toNatClampNeg x4)) = x1 → (vpin_ x4 16 = true) ∧ Ev_ (P_X4_join KC) 9 [some (.ref 85), some (.int x1), some (.int x2), some (.int x3), some (.int (x4 + 1))] [] (sI_ σ 91 (Int32.toNatClampNeg x4) x3) out) ∧ (¬ ((σ.1 91 (Int32.toNatClampNeg x4)) = x1) → (vpin_ x4 16 = true) ∧ (((σ.1 91 (Int32.toNatClampNeg x4)) = x2 → (vpin_ x4 16 = true) ∧ Ev_ (P_X4_join KC) 9 [some (.ref 85), some (.int x1), some (.int x2), some (.int x3), some (.int (x4 + 1))] [] (sI_ σ 91 (Int32.toNatClampNeg x4) x3) out) ∧ (¬ ((σ.1 91 (Int32.toNatClampNeg x4)) = x2) → Ev_ (P_X4_join KC) 9 [some (.ref 85), some (.int x1), some (.int x2), some (.int x3), some (.int (x4 + 1))] [] σ out)))))))) : Ev_ (P_X4_join KC) 9 [some (.ref 85), some (.int x1), some (.int x2), some (.int x3), some (.int x4)] [] σ out := by
  refine ev_n 2 (fun _ => rfl) ?_
  obtain ⟨b1, eb1, hb1, h⟩ := h
  refine ev_go rfl (w_gR rfl eb1) ?_
  refine ev_go rfl (w_gI (kb_0 hb1)) ?_
  refine ev_if (c := (σ.1 b1 11) ≤ x4) rfl (fun _ => rfl) (fun hc => ?_) (fun hc => ?_)
  · replace h := h.1 hc
    exact ev_ret rfl (fun _ => rfl) h
  · replace h := h.2 hc
    refine ev_n 1 (fun _ => rfl) ?_
    refine ev_go rfl (w_gF rfl rfl) ?_
    refine ev_n 1 (fun _ => rfl) ?_
    obtain ⟨h0, h⟩ := h
    refine ev_go rfl (w_iald rfl h0) ?_
    refine ev_n 1 (fun _ => rfl) ?_
    refine ev_if (c := (σ.1 91 (Int32.toNatClampNeg x4)) = x1) rfl (fun _ => rfl) (fun hc => ?_) (fun hc => ?_)
    · replace h := h.1 hc
      refine ev_n 1 (fun _ => rfl) ?_
      refine ev_go rfl (w_gF rfl rfl) ?_
      refine ev_n 2 (fun _ => rfl) ?_
      obtain ⟨h0, h⟩ := h
      refine ev_go rfl (w_iast rfl h0) ?_
      refine ev_n 2 (fun _ => rfl) ?_
      exact h
    · replace h := h.2 hc
      refine ev_n 1 (fun _ => rfl) ?_
      refine ev_go rfl (w_gF rfl rfl) ?_
      refine ev_n 1 (fun _ => rfl) ?_
      obtain ⟨h0, h⟩ := h
      refine ev_go rfl (w_iald rfl h0) ?_
      refine ev_n 1 (fun _ => rfl) ?_
      refine ev_if (c := (σ.1 91 (Int32.toNatClampNeg x4)) = x2) rfl (fun _ => rfl) (fun hc => ?_) (fun hc => ?_)
      · replace h := h.1 hc
        refine ev_n 1 (fun _ => rfl) ?_
        refine ev_go rfl (w_gF rfl rfl) ?_
        refine ev_n 2 (fun _ => rfl) ?_
        obtain ⟨h0, h⟩ := h
        refine ev_go rfl (w_iast rfl h0) ?_
        refine ev_n 2 (fun _ => rfl) ?_
        exact h
      · replace h := h.2 hc
        refine ev_n 2 (fun _ => rfl) ?_
        exact h
theorem m_X4_join : ∀ pc o, (P_X4_join KC).lookup pc = some o → Mon_ o := all_mon (a_X4_join (l := launch0) (E := EC0) EC0_ok)
theorem z_X4_join {x1 : Int32} {x2 : Int32} {σ : St_} {out : Out_} (h : Ev_ (P_X4_join KC) 0 [some (.ref 85), some (.int x1), some (.int x2), none, none] [] σ out) : f_X4_join KC [.ref 85, .int x1, .int x2] σ = some out := fn_eq m_X4_join rfl h
set_option maxRecDepth 20000 in
theorem e_X4_findParts_0 {x1 : Int32} {σ : St_} {out : Out_}  (h : Ev_ (P_X4_findParts KC) 2 [some (.ref 85), some (.int x1), some (.int (0 : Int32)), none] [] σ out) : Ev_ (P_X4_findParts KC) 0 [some (.ref 85), some (.int x1), none, none] [] σ out := by
  refine ev_n 2 (fun _ => rfl) ?_
  exact h
set_option maxRecDepth 20000 in
theorem e_X4_findParts_2 {x1 : Int32} {x2 : Int32} {σ : St_} {out : Out_}  (h : (∃ b1, σ.2.2 85 2 = some b1 ∧ isB b1 ∧ (((σ.1 b1 11) ≤ x2 → out = (none, σ)) ∧ (¬ ((σ.1 b1 11) ≤ x2) → (vpin_ x2 16 = true) ∧ Ev_ (P_X4_findParts KC) 22 [some (.ref 85), some (.int x1), some (.int x2), some (.int (0 : Int32))] [] (sI_ σ 91 (Int32.toNatClampNeg x2) x2) out)))) : Ev_ (P_X4_findParts KC) 2 [some (.ref 85), some (.int x1), some (.int x2), none] [] σ out := by
  refine ev_n 2 (fun _ => rfl) ?_
  obtain ⟨b1, eb1, hb1, h⟩ := h
  refine ev_go rfl (w_gR rfl eb1) ?_
  refine ev_go rfl (w_gI (kb_0 hb1)) ?_
  refine ev_if (c := (σ.1 b1 11) ≤ x2) rfl (fun _ => rfl) (fun hc => ?_) (fun hc => ?_)
  · replace h := h.1 hc
    exact ev_ret rfl (fun _ => rfl) h
  · replace h := h.2 hc
    refine ev_n 1 (fun _ => rfl) ?_
    refine ev_go rfl (w_gF rfl rfl) ?_
    refine ev_n 2 (fun _ => rfl) ?_
    obtain ⟨h0, h⟩ := h
    refine ev_go rfl (w_iast rfl h0) ?_
    refine ev_n 2 (fun _ => rfl) ?_
    exact h
set_option maxRecDepth 20000 in
theorem e_X4_findParts_22 {x1 : Int32} {x2 : Int32} {x3 : Int32} {σ : St_} {out : Out_}  (h : ((x2 ≤ x3 → Ev_ (P_X4_findParts KC) 2 [some (.ref 85), some (.int x1), some (.int (x2 + 1)), none] [] σ out) ∧ (¬ (x2 ≤ x3) → (∃ b1, σ.2.2 85 2 = some b1 ∧ isB b1 ∧ (vpin_ x2 16 = true) ∧ (vpin_ x3 16 = true) ∧ (((σ.1 (b1 + 6 + Int32.toNatClampNeg x2) (Int32.toNatClampNeg x3)) < x1 → Ev_ (P_X4_findParts KC) 22 [some (.ref 85), some (.int x1), some (.int x2), some (.int (x3 + 1))] [] σ out) ∧ (¬ ((σ.1 (b1 + 6 + Int32.toNatClampNeg x2) (Int32.toNatClampNeg x3)) < x1) → (vpin_ x2 16 = true) ∧ (vpin_ x3 16 = true) ∧ (∃ (σ3 : St_), f_X4_join KC [.ref 85, .int (σ.1 91 (Int32.toNatClampNeg x2)), .int (σ.1 91 (Int32.toNatClampNeg x3))] σ = some (none, σ3) ∧ Ev_ (P_X4_findParts KC) 22 [some (.ref 85), some (.int x1), some (.int x2), some (.int (x3 + 1))] [] σ3 out))))))) : Ev_ (P_X4_findParts KC) 22 [some (.ref 85), some (.int x1), some (.int x2), some (.int x3)] [] σ out := by
  refine ev_n 2 (fun _ => rfl) ?_
  refine ev_if (c := x2 ≤ x3) rfl (fun _ => rfl) (fun hc => ?_) (fun hc => ?_)
  · replace h := h.1 hc
    refine ev_n 2 (fun _ => rfl) ?_
    exact h
  · replace h := h.2 hc
    refine ev_n 1 (fun _ => rfl) ?_
    obtain ⟨b1, eb1, hb1, h⟩ := h
    refine ev_go rfl (w_gR rfl eb1) ?_
    refine ev_go rfl (w_gF (kb_0 hb1) (kb_r4 hb1)) ?_
    refine ev_n 1 (fun _ => rfl) ?_
    obtain ⟨hv2, h⟩ := h
    refine ev_go rfl (w_aald (kb_k4 hb1) (by decide) hv2 (kb_row hb1 _ (vpin_lt hv2))) ?_
    refine ev_n 1 (fun _ => rfl) ?_
    obtain ⟨h0, h⟩ := h
    refine ev_go rfl (w_iald (kb_rk hb1 _ (vpin_lt hv2)) h0) ?_
    refine ev_n 1 (fun _ => rfl) ?_
    refine ev_if (c := (σ.1 (b1 + 6 + Int32.toNatClampNeg x2) (Int32.toNatClampNeg x3)) < x1) rfl (fun _ => rfl) (fun hc => ?_) (fun hc => ?_)
    · replace h := h.1 hc
      refine ev_n 2 (fun _ => rfl) ?_
      exact h
    · replace h := h.2 hc
      refine ev_n 2 (fun _ => rfl) ?_
      refine ev_go rfl (w_gF rfl rfl) ?_
      refine ev_n 1 (fun _ => rfl) ?_
      obtain ⟨h0, h⟩ := h
      refine ev_go rfl (w_iald rfl h0) ?_
      refine ev_n 1 (fun _ => rfl) ?_
      refine ev_go rfl (w_gF rfl rfl) ?_
      refine ev_n 1 (fun _ => rfl) ?_
      obtain ⟨h0, h⟩ := h
      refine ev_go rfl (w_iald rfl h0) ?_
      obtain ⟨σ3, hf, h⟩ := h
      refine ev_go rfl (w_callV rfl rfl rfl (Nat.le_of_ble_eq_true rfl) hf) ?_
      refine ev_n 2 (fun _ => rfl) ?_
      exact h
theorem m_X4_findParts : ∀ pc o, (P_X4_findParts KC).lookup pc = some o → Mon_ o := all_mon (a_X4_findParts (l := launch0) (E := EC0) EC0_ok)
theorem z_X4_findParts {x1 : Int32} {σ : St_} {out : Out_} (h : Ev_ (P_X4_findParts KC) 0 [some (.ref 85), some (.int x1), none, none] [] σ out) : f_X4_findParts KC [.ref 85, .int x1] σ = some out := fn_eq m_X4_findParts rfl h
set_option maxRecDepth 20000 in
theorem e_X4_mostLeft_0 {x1 : Int32} {σ : St_} {out : Out_}  (h : Ev_ (P_X4_mostLeft KC) 4 [some (.ref 85), some (.int x1), some (.int ((-1) : Int32)), some (.int (0 : Int32))] [] σ out) : Ev_ (P_X4_mostLeft KC) 0 [some (.ref 85), some (.int x1), none, none] [] σ out := by
  refine ev_n 4 (fun _ => rfl) ?_
  exact h
set_option maxRecDepth 20000 in
theorem e_X4_mostLeft_4 {x1 : Int32} {x2 : Int32} {x3 : Int32} {σ : St_} {out : Out_}  (h : (∃ b1, σ.2.2 85 2 = some b1 ∧ isB b1 ∧ (((σ.1 b1 12) ≤ x3 → out = (some (.int x2), σ)) ∧ (¬ ((σ.1 b1 12) ≤ x3) → ((((x1 >>> (x3 &&& 31)) &&& (1 : Int32)) = 0 → ((x2 = ((-1) : Int32) → Ev_ (P_X4_mostLeft KC) 4 [some (.ref 85), some (.int x1), some (.int x3), some (.int (x3 + 1))] [] σ out) ∧ (¬ (x2 = ((-1) : Int32)) → (vpin_ x3 9 = true) ∧ (vpin_ x2 9 = true) ∧ (((σ.1 87 (Int32.toNatClampNeg x3)) ≤ (σ.1 87 (Int32.toNatClampNeg x2)) → Ev_ (P_X4_mostLeft KC) 4 [some (.ref 85), some (.int x1), some (.int x2), some (.int (x3 + 1))] [] σ out) ∧ (¬ ((σ.1 87 (Int32.toNatClampNeg x3)) ≤ (σ.1 87 (Int32.toNatClampNeg x2))) → Ev_ (P_X4_mostLeft KC) 4 [some (.ref 85), some (.int x1), some (.int x3), some (.int (x3 + 1))] [] σ out))))) ∧ (¬ (((x1 >>> (x3 &&& 31)) &&& (1 : Int32)) = 0) → Ev_ (P_X4_mostLeft KC) 4 [some (.ref 85), some (.int x1), some (.int x2), some (.int (x3 + 1))] [] σ out)))))) : Ev_ (P_X4_mostLeft KC) 4 [some (.ref 85), some (.int x1), some (.int x2), some (.int x3)] [] σ out := by
  refine ev_n 2 (fun _ => rfl) ?_
  obtain ⟨b1, eb1, hb1, h⟩ := h
  refine ev_go rfl (w_gR rfl eb1) ?_
  refine ev_go rfl (w_gI (kb_0 hb1)) ?_
  refine ev_if (c := (σ.1 b1 12) ≤ x3) rfl (fun _ => rfl) (fun hc => ?_) (fun hc => ?_)
  · replace h := h.1 hc
    refine ev_n 1 (fun _ => rfl) ?_
    exact ev_ret rfl (fun _ => rfl) h
  · replace h := h.2 hc
    refine ev_n 5 (fun _ => rfl) ?_
    refine ev_if (c := ((x1 >>> (x3 &&& 31)) &&& (1 : Int32)) = 0) rfl (fun _ => rfl) (fun hc => ?_) (fun hc => ?_)
    · replace h := h.1 hc
      refine ev_n 2 (fun _ => rfl) ?_
      refine ev_if (c := x2 = ((-1) : Int32)) rfl (fun _ => rfl) (fun hc => ?_) (fun hc => ?_)
      · replace h := h.1 hc
        refine ev_n 4 (fun _ => rfl) ?_
        exact h
      · replace h := h.2 hc
        refine ev_n 1 (fun _ => rfl) ?_
        refine ev_go rfl (w_gF rfl rfl) ?_
        refine ev_go rfl (w_gF rfl rfl) ?_
        refine ev_n 1 (fun _ => rfl) ?_
        obtain ⟨h0, h⟩ := h
        refine ev_go rfl (w_iald rfl h0) ?_
        refine ev_n 1 (fun _ => rfl) ?_
        refine ev_go rfl (w_gF rfl rfl) ?_
        refine ev_go rfl (w_gF rfl rfl) ?_
        refine ev_n 1 (fun _ => rfl) ?_
        obtain ⟨h0, h⟩ := h
        refine ev_go rfl (w_iald rfl h0) ?_
        refine ev_if (c := (σ.1 87 (Int32.toNatClampNeg x3)) ≤ (σ.1 87 (Int32.toNatClampNeg x2))) rfl (fun _ => rfl) (fun hc => ?_) (fun hc => ?_)
        · replace h := h.1 hc
          refine ev_n 2 (fun _ => rfl) ?_
          exact h
        · replace h := h.2 hc
          refine ev_n 4 (fun _ => rfl) ?_
          exact h
    · replace h := h.2 hc
      refine ev_n 2 (fun _ => rfl) ?_
      exact h
theorem m_X4_mostLeft : ∀ pc o, (P_X4_mostLeft KC).lookup pc = some o → Mon_ o := all_mon (a_X4_mostLeft (l := launch0) (E := EC0) EC0_ok)
theorem z_X4_mostLeft {x1 : Int32} {σ : St_} {out : Out_} (h : Ev_ (P_X4_mostLeft KC) 0 [some (.ref 85), some (.int x1), none, none] [] σ out) : f_X4_mostLeft KC [.ref 85, .int x1] σ = some out := fn_eq m_X4_mostLeft rfl h
set_option maxRecDepth 20000 in
theorem e_X4_readPart_0 {x1 : Int32} {x2 : Int32} {σ : St_} {out : Out_}  (h : Ev_ (P_X4_readPart KC) 2 [some (.ref 85), some (.int x1), some (.int x2), some (.int x2)] [] σ out) : Ev_ (P_X4_readPart KC) 0 [some (.ref 85), some (.int x1), some (.int x2), none] [] σ out := by
  refine ev_n 2 (fun _ => rfl) ?_
  exact h
set_option maxRecDepth 20000 in
theorem e_X4_readPart_2 {x1 : Int32} {x2 : Int32} {x3 : Int32} {σ : St_} {out : Out_}  (h : (∃ b1, σ.2.2 85 2 = some b1 ∧ isB b1 ∧ (((σ.1 b1 11) ≤ x3 → out = (none, σ)) ∧ (¬ ((σ.1 b1 11) ≤ x3) → (vpin_ x3 16 = true) ∧ (((σ.1 91 (Int32.toNatClampNeg x3)) = x2 → (∃ (v3 : Int32) (σ2 : St_), f_X4_tryAct KC [.ref 85, .int x1, .int x3, .int (0 : Int32), .int (0 : Int32)] σ = some (some (.int v3), σ2) ∧ ((v3 = 0 → out = (none, σ2)) ∧ (¬ (v3 = 0) → Ev_ (P_X4_readPart KC) 2 [some (.ref 85), some (.int x1), some (.int x2), some (.int (x3 + 1))] [] σ2 out)))) ∧ (¬ ((σ.1 91 (Int32.toNatClampNeg x3)) = x2) → Ev_ (P_X4_readPart KC) 2 [some (.ref 85), some (.int x1), some (.int x2), some (.int (x3 + 1))] [] σ out)))))) : Ev_ (P_X4_readPart KC) 2 [some (.ref 85), some (.int x1), some (.int x2), some (.int x3)] [] σ out := by
  refine ev_n 2 (fun _ => rfl) ?_
  obtain ⟨b1, eb1, hb1, h⟩ := h
  refine ev_go rfl (w_gR rfl eb1) ?_
  refine ev_go rfl (w_gI (kb_0 hb1)) ?_
  refine ev_if (c := (σ.1 b1 11) ≤ x3) rfl (fun _ => rfl) (fun hc => ?_) (fun hc => ?_)
  · replace h := h.1 hc
    exact ev_ret rfl (fun _ => rfl) h
  · replace h := h.2 hc
    refine ev_n 1 (fun _ => rfl) ?_
    refine ev_go rfl (w_gF rfl rfl) ?_
    refine ev_n 1 (fun _ => rfl) ?_
    obtain ⟨h0, h⟩ := h
    refine ev_go rfl (w_iald rfl h0) ?_
    refine ev_n 1 (fun _ => rfl) ?_
    refine ev_if (c := (σ.1 91 (Int32.toNatClampNeg x3)) = x2) rfl (fun _ => rfl) (fun hc => ?_) (fun hc => ?_)
    · replace h := h.1 hc
      refine ev_n 5 (fun _ => rfl) ?_
      obtain ⟨v3, σ2, hf, h⟩ := h
      refine ev_go rfl (w_callV rfl rfl rfl (Nat.le_of_ble_eq_true rfl) hf) ?_
      refine ev_if (c := v3 = 0) rfl (fun _ => rfl) (fun hc => ?_) (fun hc => ?_)
      · replace h := h.1 hc
        exact ev_ret rfl (fun _ => rfl) h
      · replace h := h.2 hc
        refine ev_n 2 (fun _ => rfl) ?_
        exact h
    · replace h := h.2 hc
      refine ev_n 2 (fun _ => rfl) ?_
      exact h
theorem m_X4_readPart : ∀ pc o, (P_X4_readPart KC).lookup pc = some o → Mon_ o := all_mon (a_X4_readPart (l := launch0) (E := EC0) EC0_ok)
theorem z_X4_readPart {x1 : Int32} {x2 : Int32} {σ : St_} {out : Out_} (h : Ev_ (P_X4_readPart KC) 0 [some (.ref 85), some (.int x1), some (.int x2), none] [] σ out) : f_X4_readPart KC [.ref 85, .int x1, .int x2] σ = some out := fn_eq m_X4_readPart rfl h
set_option maxRecDepth 20000 in
theorem e_X4_addParts_0 {x1 : Int32} {σ : St_} {out : Out_}  (h : (∃ (σ1 : St_), f_X4_findParts KC [.ref 85, .int x1] σ = some (none, σ1) ∧ Ev_ (P_X4_addParts KC) 7 [some (.ref 85), some (.int x1), some (.int (0 : Int32)), none] [] σ1 out)) : Ev_ (P_X4_addParts KC) 0 [some (.ref 85), some (.int x1), none, none] [] σ out := by
  refine ev_n 2 (fun _ => rfl) ?_
  obtain ⟨σ1, hf, h⟩ := h
  refine ev_go rfl (w_callV rfl rfl rfl (Nat.le_of_ble_eq_true rfl) hf) ?_
  refine ev_n 2 (fun _ => rfl) ?_
  exact h
set_option maxRecDepth 20000 in
theorem e_X4_addParts_7 {x1 : Int32} {x2 : Int32} {σ : St_} {out : Out_}  (h : (∃ b1, σ.2.2 85 2 = some b1 ∧ isB b1 ∧ (((σ.1 b1 11) ≤ x2 → out = (none, σ)) ∧ (¬ ((σ.1 b1 11) ≤ x2) → (∃ (v3 : Int32) (σ2 : St_), f_X4_mostLeft KC [.ref 85, .int (0 : Int32)] σ = some (some (.int v3), σ2) ∧ (vpin_ x2 16 = true) ∧ (((σ2.1 91 (Int32.toNatClampNeg x2)) = x2 → ((v3 = ((-1) : Int32) → Ev_ (P_X4_addParts KC) 7 [some (.ref 85), some (.int x1), some (.int (x2 + 1)), none] [] σ2 out) ∧ (¬ (v3 = ((-1) : Int32)) → (∃ (σ4 : St_), f_X4_readPart KC [.ref 85, .int v3, .int x2] σ2 = some (none, σ4) ∧ Ev_ (P_X4_addParts KC) 7 [some (.ref 85), some (.int x1), some (.int (x2 + 1)), none] [] σ4 out)))) ∧ (¬ ((σ2.1 91 (Int32.toNatClampNeg x2)) = x2) → Ev_ (P_X4_addParts KC) 7 [some (.ref 85), some (.int x1), some (.int (x2 + 1)), none] [] σ2 out))))))) : Ev_ (P_X4_addParts KC) 7 [some (.ref 85), some (.int x1), some (.int x2), none] [] σ out := by
  refine ev_n 2 (fun _ => rfl) ?_
  obtain ⟨b1, eb1, hb1, h⟩ := h
  refine ev_go rfl (w_gR rfl eb1) ?_
  refine ev_go rfl (w_gI (kb_0 hb1)) ?_
  refine ev_if (c := (σ.1 b1 11) ≤ x2) rfl (fun _ => rfl) (fun hc => ?_) (fun hc => ?_)
  · replace h := h.1 hc
    exact ev_ret rfl (fun _ => rfl) h
  · replace h := h.2 hc
    refine ev_n 2 (fun _ => rfl) ?_
    obtain ⟨v3, σ2, hf, h⟩ := h
    refine ev_go rfl (w_callV rfl rfl rfl (Nat.le_of_ble_eq_true rfl) hf) ?_
    refine ev_n 2 (fun _ => rfl) ?_
    refine ev_go rfl (w_gF rfl rfl) ?_
    refine ev_n 1 (fun _ => rfl) ?_
    obtain ⟨h0, h⟩ := h
    refine ev_go rfl (w_iald rfl h0) ?_
    refine ev_n 1 (fun _ => rfl) ?_
    refine ev_if (c := (σ2.1 91 (Int32.toNatClampNeg x2)) = x2) rfl (fun _ => rfl) (fun hc => ?_) (fun hc => ?_)
    · replace h := h.1 hc
      refine ev_n 2 (fun _ => rfl) ?_
      refine ev_if (c := v3 = ((-1) : Int32)) rfl (fun _ => rfl) (fun hc => ?_) (fun hc => ?_)
      · replace h := h.1 hc
        refine ev_n 2 (fun _ => rfl) ?_
        exact h
      · replace h := h.2 hc
        refine ev_n 3 (fun _ => rfl) ?_
        obtain ⟨σ4, hf, h⟩ := h
        refine ev_go rfl (w_callV rfl rfl rfl (Nat.le_of_ble_eq_true rfl) hf) ?_
        refine ev_n 2 (fun _ => rfl) ?_
        exact h
    · replace h := h.2 hc
      refine ev_n 2 (fun _ => rfl) ?_
      exact h
theorem m_X4_addParts : ∀ pc o, (P_X4_addParts KC).lookup pc = some o → Mon_ o := all_mon (a_X4_addParts (l := launch0) (E := EC0) EC0_ok)
theorem z_X4_addParts {x1 : Int32} {σ : St_} {out : Out_} (h : Ev_ (P_X4_addParts KC) 0 [some (.ref 85), some (.int x1), none, none] [] σ out) : f_X4_addParts KC [.ref 85, .int x1] σ = some out := fn_eq m_X4_addParts rfl h
set_option maxRecDepth 20000 in
theorem e_X4_addRounds_0 {x1 : Int32} {σ : St_} {out : Out_}  (h : Ev_ (P_X4_addRounds KC) 2 [some (.ref 85), some (.int x1), some (.int (0 : Int32)), none, none] [] σ out) : Ev_ (P_X4_addRounds KC) 0 [some (.ref 85), some (.int x1), none, none, none] [] σ out := by
  refine ev_n 2 (fun _ => rfl) ?_
  exact h
set_option maxRecDepth 20000 in
theorem e_X4_addRounds_2 {x1 : Int32} {x2 : Int32} {σ : St_} {out : Out_}  (h : (∃ b1, σ.2.2 85 2 = some b1 ∧ isB b1 ∧ (((σ.1 b1 12) ≤ x2 → out = (none, σ)) ∧ (¬ ((σ.1 b1 12) ≤ x2) → Ev_ (P_X4_addRounds KC) 15 [some (.ref 85), some (.int x1), some (.int x2), some (.int (0 : Int32)), none] [] σ out)))) : Ev_ (P_X4_addRounds KC) 2 [some (.ref 85), some (.int x1), some (.int x2), none, none] [] σ out := by
  refine ev_n 2 (fun _ => rfl) ?_
  obtain ⟨b1, eb1, hb1, h⟩ := h
  refine ev_go rfl (w_gR rfl eb1) ?_
  refine ev_go rfl (w_gI (kb_0 hb1)) ?_
  refine ev_if (c := (σ.1 b1 12) ≤ x2) rfl (fun _ => rfl) (fun hc => ?_) (fun hc => ?_)
  · replace h := h.1 hc
    exact ev_ret rfl (fun _ => rfl) h
  · replace h := h.2 hc
    refine ev_n 2 (fun _ => rfl) ?_
    exact h
set_option maxRecDepth 20000 in
theorem e_X4_addRounds_15 {x1 : Int32} {x2 : Int32} {x3 : Int32} {σ : St_} {out : Out_}  (h : (∃ b1, σ.2.2 85 2 = some b1 ∧ isB b1 ∧ (((σ.1 b1 11) ≤ x3 → Ev_ (P_X4_addRounds KC) 2 [some (.ref 85), some (.int x1), some (.int (x2 + 1)), none, none] [] σ out) ∧ (¬ ((σ.1 b1 11) ≤ x3) → (vpin_ x2 9 = true) ∧ (((((σ.1 88 (Int32.toNatClampNeg x2)) >>> (x3 &&& 31)) &&& (1 : Int32)) = 0 → Ev_ (P_X4_addRounds KC) 15 [some (.ref 85), some (.int x1), some (.int x2), some (.int (x3 + 1)), none] [] σ out) ∧ (¬ ((((σ.1 88 (Int32.toNatClampNeg x2)) >>> (x3 &&& 31)) &&& (1 : Int32)) = 0) → (∃ (v3 : Int32) (σ2 : St_), f_X0_tellTime KC [.ref b1, .int x3, .int x1] σ = some (some (.int v3), σ2) ∧ (∃ (v5 : Int32) (σ4 : St_), f_X5_withTime KC [.ref 86, .int v3] σ2 = some (some (.int v5), σ4) ∧ (((v5 &&& (((1 : Int32) <<< (x2 &&& 31)) ^^^ ((-1) : Int32))) = 0 → Ev_ (P_X4_addRounds KC) 15 [some (.ref 85), some (.int x1), some (.int x2), some (.int (x3 + 1)), none] [] σ4 out) ∧ (¬ ((v5 &&& (((1 : Int32) <<< (x2 &&& 31)) ^^^ ((-1) : Int32))) = 0) → (∃ (v7 : Int32) (σ6 : St_), f_X4_tryAct KC [.ref 85, .int x2, .int x3, .int x1, .int (v5 &&& (((1 : Int32) <<< (x2 &&& 31)) ^^^ ((-1) : Int32)))] σ4 = some (some (.int v7), σ6) ∧ Ev_ (P_X4_addRounds KC) 15 [some (.ref 85), some (.int x1), some (.int x2), some (.int (x3 + 1)), none] [] σ6 out))))))))))) : Ev_ (P_X4_addRounds KC) 15 [some (.ref 85), some (.int x1), some (.int x2), some (.int x3), none] [] σ out := by
  refine ev_n 2 (fun _ => rfl) ?_
  obtain ⟨b1, eb1, hb1, h⟩ := h
  refine ev_go rfl (w_gR rfl eb1) ?_
  refine ev_go rfl (w_gI (kb_0 hb1)) ?_
  refine ev_if (c := (σ.1 b1 11) ≤ x3) rfl (fun _ => rfl) (fun hc => ?_) (fun hc => ?_)
  · replace h := h.1 hc
    refine ev_n 2 (fun _ => rfl) ?_
    exact h
  · replace h := h.2 hc
    refine ev_n 1 (fun _ => rfl) ?_
    refine ev_go rfl (w_gF rfl rfl) ?_
    refine ev_go rfl (w_gF rfl rfl) ?_
    refine ev_n 1 (fun _ => rfl) ?_
    obtain ⟨h0, h⟩ := h
    refine ev_go rfl (w_iald rfl h0) ?_
    refine ev_n 4 (fun _ => rfl) ?_
    refine ev_if (c := (((σ.1 88 (Int32.toNatClampNeg x2)) >>> (x3 &&& 31)) &&& (1 : Int32)) = 0) rfl (fun _ => rfl) (fun hc => ?_) (fun hc => ?_)
    · replace h := h.1 hc
      refine ev_n 2 (fun _ => rfl) ?_
      exact h
    · replace h := h.2 hc
      refine ev_n 1 (fun _ => rfl) ?_
      refine ev_go rfl (w_gF rfl rfl) ?_
      refine ev_n 1 (fun _ => rfl) ?_
      refine ev_go rfl (w_gR (z := b1) rfl eb1) ?_
      refine ev_n 2 (fun _ => rfl) ?_
      obtain ⟨v3, σ2, hf, h⟩ := h
      refine ev_go rfl (w_callV rfl rfl (kb_0 hb1) (Nat.le_of_ble_eq_true rfl) hf) ?_
      obtain ⟨v5, σ4, hf, h⟩ := h
      refine ev_go rfl (w_callV rfl rfl rfl (Nat.le_of_ble_eq_true rfl) hf) ?_
      refine ev_n 8 (fun _ => rfl) ?_
      refine ev_if (c := (v5 &&& (((1 : Int32) <<< (x2 &&& 31)) ^^^ ((-1) : Int32))) = 0) rfl (fun _ => rfl) (fun hc => ?_) (fun hc => ?_)
      · replace h := h.1 hc
        refine ev_n 2 (fun _ => rfl) ?_
        exact h
      · replace h := h.2 hc
        refine ev_n 5 (fun _ => rfl) ?_
        obtain ⟨v7, σ6, hf, h⟩ := h
        refine ev_go rfl (w_callV rfl rfl rfl (Nat.le_of_ble_eq_true rfl) hf) ?_
        refine ev_n 3 (fun _ => rfl) ?_
        exact h
theorem m_X4_addRounds : ∀ pc o, (P_X4_addRounds KC).lookup pc = some o → Mon_ o := all_mon (a_X4_addRounds (l := launch0) (E := EC0) EC0_ok)
theorem z_X4_addRounds {x1 : Int32} {σ : St_} {out : Out_} (h : Ev_ (P_X4_addRounds KC) 0 [some (.ref 85), some (.int x1), none, none, none] [] σ out) : f_X4_addRounds KC [.ref 85, .int x1] σ = some out := fn_eq m_X4_addRounds rfl h
set_option maxRecDepth 20000 in
theorem e_X4_addRows_0  {σ : St_} {out : Out_}  (h : Ev_ (P_X4_addRows KC) 4 [some (.ref 85), some (.int (0 : Int32)), some (.int (0 : Int32))] [] σ out) : Ev_ (P_X4_addRows KC) 0 [some (.ref 85), none, none] [] σ out := by
  refine ev_n 4 (fun _ => rfl) ?_
  exact h
set_option maxRecDepth 20000 in
theorem e_X4_addRows_4 {x1 : Int32} {x2 : Int32} {σ : St_} {out : Out_}  (h : (∃ b1, σ.2.2 85 2 = some b1 ∧ isB b1 ∧ (((σ.1 b1 12) ≤ x2 → out = (none, σ)) ∧ (¬ ((σ.1 b1 12) ≤ x2) → Ev_ (P_X4_addRows KC) 15 [some (.ref 85), some (.int x1), some (.int x2)] [] σ out)))) : Ev_ (P_X4_addRows KC) 4 [some (.ref 85), some (.int x1), some (.int x2)] [] σ out := by
  refine ev_n 2 (fun _ => rfl) ?_
  obtain ⟨b1, eb1, hb1, h⟩ := h
  refine ev_go rfl (w_gR rfl eb1) ?_
  refine ev_go rfl (w_gI (kb_0 hb1)) ?_
  refine ev_if (c := (σ.1 b1 12) ≤ x2) rfl (fun _ => rfl) (fun hc => ?_) (fun hc => ?_)
  · replace h := h.1 hc
    exact ev_ret rfl (fun _ => rfl) h
  · replace h := h.2 hc
    exact h
set_option maxRecDepth 20000 in
theorem e_X4_addRows_15 {x1 : Int32} {x2 : Int32} {σ : St_} {out : Out_}  (h : (∃ b1, σ.2.2 85 2 = some b1 ∧ isB b1 ∧ (((σ.1 b1 11) ≤ x1 → Ev_ (P_X4_addRows KC) 4 [some (.ref 85), some (.int x1), some (.int (x2 + 1))] [] σ out) ∧ (¬ ((σ.1 b1 11) ≤ x1) → (∃ (v3 : Int32) (σ2 : St_), f_X4_tryAct KC [.ref 85, .int x2, .int x1, .int (0 : Int32), .int (0 : Int32)] σ = some (some (.int v3), σ2) ∧ ((v3 = 0 → Ev_ (P_X4_addRows KC) 4 [some (.ref 85), some (.int x1), some (.int (x2 + 1))] [] σ2 out) ∧ (¬ (v3 = 0) → Ev_ (P_X4_addRows KC) 15 [some (.ref 85), some (.int (x1 + 1)), some (.int x2)] [] σ2 out))))))) : Ev_ (P_X4_addRows KC) 15 [some (.ref 85), some (.int x1), some (.int x2)] [] σ out := by
  refine ev_n 2 (fun _ => rfl) ?_
  obtain ⟨b1, eb1, hb1, h⟩ := h
  refine ev_go rfl (w_gR rfl eb1) ?_
  refine ev_go rfl (w_gI (kb_0 hb1)) ?_
  refine ev_if (c := (σ.1 b1 11) ≤ x1) rfl (fun _ => rfl) (fun hc => ?_) (fun hc => ?_)
  · replace h := h.1 hc
    refine ev_n 2 (fun _ => rfl) ?_
    exact h
  · replace h := h.2 hc
    refine ev_n 5 (fun _ => rfl) ?_
    obtain ⟨v3, σ2, hf, h⟩ := h
    refine ev_go rfl (w_callV rfl rfl rfl (Nat.le_of_ble_eq_true rfl) hf) ?_
    refine ev_if (c := v3 = 0) rfl (fun _ => rfl) (fun hc => ?_) (fun hc => ?_)
    · replace h := h.1 hc
      refine ev_n 2 (fun _ => rfl) ?_
      exact h
    · replace h := h.2 hc
      refine ev_n 2 (fun _ => rfl) ?_
      exact h
theorem m_X4_addRows : ∀ pc o, (P_X4_addRows KC).lookup pc = some o → Mon_ o := all_mon (a_X4_addRows (l := launch0) (E := EC0) EC0_ok)
theorem z_X4_addRows  {σ : St_} {out : Out_} (h : Ev_ (P_X4_addRows KC) 0 [some (.ref 85), none, none] [] σ out) : f_X4_addRows KC [.ref 85] σ = some out := fn_eq m_X4_addRows rfl h
set_option maxRecDepth 20000 in
theorem e_X4_mostWorth_0 {x1 : Int32} {σ : St_} {out : Out_}  (h : Ev_ (P_X4_mostWorth KC) 4 [some (.ref 85), some (.int x1), some (.int ((-1) : Int32)), some (.int (0 : Int32))] [] σ out) : Ev_ (P_X4_mostWorth KC) 0 [some (.ref 85), some (.int x1), none, none] [] σ out := by
  refine ev_n 4 (fun _ => rfl) ?_
  exact h
set_option maxRecDepth 20000 in
theorem e_X4_mostWorth_4 {x1 : Int32} {x2 : Int32} {x3 : Int32} {σ : St_} {out : Out_}  (h : (∃ b1, σ.2.2 85 2 = some b1 ∧ isB b1 ∧ (((σ.1 b1 11) ≤ x3 → ((x2 = ((-1) : Int32) → out = (some (.int (0 : Int32)), σ)) ∧ (¬ (x2 = ((-1) : Int32)) → out = (some (.int x2), σ)))) ∧ (¬ ((σ.1 b1 11) ≤ x3) → ((((x1 >>> (x3 &&& 31)) &&& (1 : Int32)) = 0 → ((x2 = ((-1) : Int32) → Ev_ (P_X4_mostWorth KC) 4 [some (.ref 85), some (.int x1), some (.int x3), some (.int (x3 + 1))] [] σ out) ∧ (¬ (x2 = ((-1) : Int32)) → (vpin_ x3 16 = true) ∧ (vpin_ x2 16 = true) ∧ (((σ.1 (b1 + 3) (Int32.toNatClampNeg x3)) ≤ (σ.1 (b1 + 3) (Int32.toNatClampNeg x2)) → Ev_ (P_X4_mostWorth KC) 4 [some (.ref 85), some (.int x1), some (.int x2), some (.int (x3 + 1))] [] σ out) ∧ (¬ ((σ.1 (b1 + 3) (Int32.toNatClampNeg x3)) ≤ (σ.1 (b1 + 3) (Int32.toNatClampNeg x2))) → Ev_ (P_X4_mostWorth KC) 4 [some (.ref 85), some (.int x1), some (.int x3), some (.int (x3 + 1))] [] σ out))))) ∧ (¬ (((x1 >>> (x3 &&& 31)) &&& (1 : Int32)) = 0) → Ev_ (P_X4_mostWorth KC) 4 [some (.ref 85), some (.int x1), some (.int x2), some (.int (x3 + 1))] [] σ out)))))) : Ev_ (P_X4_mostWorth KC) 4 [some (.ref 85), some (.int x1), some (.int x2), some (.int x3)] [] σ out := by
  refine ev_n 2 (fun _ => rfl) ?_
  obtain ⟨b1, eb1, hb1, h⟩ := h
  refine ev_go rfl (w_gR rfl eb1) ?_
  refine ev_go rfl (w_gI (kb_0 hb1)) ?_
  refine ev_if (c := (σ.1 b1 11) ≤ x3) rfl (fun _ => rfl) (fun hc => ?_) (fun hc => ?_)
  · replace h := h.1 hc
    refine ev_n 2 (fun _ => rfl) ?_
    refine ev_if (c := x2 = ((-1) : Int32)) rfl (fun _ => rfl) (fun hc => ?_) (fun hc => ?_)
    · replace h := h.1 hc
      refine ev_n 2 (fun _ => rfl) ?_
      exact ev_ret rfl (fun _ => rfl) h
    · replace h := h.2 hc
      refine ev_n 1 (fun _ => rfl) ?_
      exact ev_ret rfl (fun _ => rfl) h
  · replace h := h.2 hc
    refine ev_n 5 (fun _ => rfl) ?_
    refine ev_if (c := ((x1 >>> (x3 &&& 31)) &&& (1 : Int32)) = 0) rfl (fun _ => rfl) (fun hc => ?_) (fun hc => ?_)
    · replace h := h.1 hc
      refine ev_n 2 (fun _ => rfl) ?_
      refine ev_if (c := x2 = ((-1) : Int32)) rfl (fun _ => rfl) (fun hc => ?_) (fun hc => ?_)
      · replace h := h.1 hc
        refine ev_n 4 (fun _ => rfl) ?_
        exact h
      · replace h := h.2 hc
        refine ev_n 1 (fun _ => rfl) ?_
        refine ev_go rfl (w_gR (z := b1) rfl eb1) ?_
        refine ev_go rfl (w_gF (kb_0 hb1) (kb_r2 hb1)) ?_
        refine ev_n 1 (fun _ => rfl) ?_
        obtain ⟨h0, h⟩ := h
        refine ev_go rfl (w_iald (kb_k2 hb1) h0) ?_
        refine ev_n 1 (fun _ => rfl) ?_
        refine ev_go rfl (w_gR (z := b1) rfl eb1) ?_
        refine ev_go rfl (w_gF (kb_0 hb1) (kb_r2 hb1)) ?_
        refine ev_n 1 (fun _ => rfl) ?_
        obtain ⟨h0, h⟩ := h
        refine ev_go rfl (w_iald (kb_k2 hb1) h0) ?_
        refine ev_if (c := (σ.1 (b1 + 3) (Int32.toNatClampNeg x3)) ≤ (σ.1 (b1 + 3) (Int32.toNatClampNeg x2))) rfl (fun _ => rfl) (fun hc => ?_) (fun hc => ?_)
        · replace h := h.1 hc
          refine ev_n 2 (fun _ => rfl) ?_
          exact h
        · replace h := h.2 hc
          refine ev_n 4 (fun _ => rfl) ?_
          exact h
    · replace h := h.2 hc
      refine ev_n 2 (fun _ => rfl) ?_
      exact h
theorem m_X4_mostWorth : ∀ pc o, (P_X4_mostWorth KC).lookup pc = some o → Mon_ o := all_mon (a_X4_mostWorth (l := launch0) (E := EC0) EC0_ok)
theorem z_X4_mostWorth {x1 : Int32} {σ : St_} {out : Out_} (h : Ev_ (P_X4_mostWorth KC) 0 [some (.ref 85), some (.int x1), none, none] [] σ out) : f_X4_mostWorth KC [.ref 85, .int x1] σ = some out := fn_eq m_X4_mostWorth rfl h
set_option maxRecDepth 20000 in
theorem e_X4_readersOf_0 {x1 : Int32} {σ : St_} {out : Out_}  (h : Ev_ (P_X4_readersOf KC) 4 [some (.ref 85), some (.int x1), some (.int (0 : Int32)), some (.int (0 : Int32))] [] σ out) : Ev_ (P_X4_readersOf KC) 0 [some (.ref 85), some (.int x1), none, none] [] σ out := by
  refine ev_n 4 (fun _ => rfl) ?_
  exact h
set_option maxRecDepth 20000 in
theorem e_X4_readersOf_4 {x1 : Int32} {x2 : Int32} {x3 : Int32} {σ : St_} {out : Out_}  (h : (∃ b1, σ.2.2 85 2 = some b1 ∧ isB b1 ∧ (((σ.1 b1 12) ≤ x3 → out = (some (.int x2), σ)) ∧ (¬ ((σ.1 b1 12) ≤ x3) → (vpin_ x3 9 = true) ∧ Ev_ (P_X4_readersOf KC) 4 [some (.ref 85), some (.int x1), some (.int (x2 ||| ((((σ.1 88 (Int32.toNatClampNeg x3)) >>> (x1 &&& 31)) &&& (1 : Int32)) <<< (x3 &&& 31)))), some (.int (x3 + 1))] [] σ out)))) : Ev_ (P_X4_readersOf KC) 4 [some (.ref 85), some (.int x1), some (.int x2), some (.int x3)] [] σ out := by
  refine ev_n 2 (fun _ => rfl) ?_
  obtain ⟨b1, eb1, hb1, h⟩ := h
  refine ev_go rfl (w_gR rfl eb1) ?_
  refine ev_go rfl (w_gI (kb_0 hb1)) ?_
  refine ev_if (c := (σ.1 b1 12) ≤ x3) rfl (fun _ => rfl) (fun hc => ?_) (fun hc => ?_)
  · replace h := h.1 hc
    refine ev_n 1 (fun _ => rfl) ?_
    exact ev_ret rfl (fun _ => rfl) h
  · replace h := h.2 hc
    refine ev_n 2 (fun _ => rfl) ?_
    refine ev_go rfl (w_gF rfl rfl) ?_
    refine ev_go rfl (w_gF rfl rfl) ?_
    refine ev_n 1 (fun _ => rfl) ?_
    obtain ⟨h0, h⟩ := h
    refine ev_go rfl (w_iald rfl h0) ?_
    refine ev_n 8 (fun _ => rfl) ?_
    refine ev_n 2 (fun _ => rfl) ?_
    exact h
theorem m_X4_readersOf : ∀ pc o, (P_X4_readersOf KC).lookup pc = some o → Mon_ o := all_mon (a_X4_readersOf (l := launch0) (E := EC0) EC0_ok)
theorem z_X4_readersOf {x1 : Int32} {σ : St_} {out : Out_} (h : Ev_ (P_X4_readersOf KC) 0 [some (.ref 85), some (.int x1), none, none] [] σ out) : f_X4_readersOf KC [.ref 85, .int x1] σ = some out := fn_eq m_X4_readersOf rfl h
set_option maxRecDepth 20000 in
theorem e_X4_addSecondReadings_0 {x1 : Int32} {σ : St_} {out : Out_}  (h : Ev_ (P_X4_addSecondReadings KC) 4 [some (.ref 85), some (.int x1), some (.int (0 : Int32)), some (.int (0 : Int32)), none, none] [] σ out) : Ev_ (P_X4_addSecondReadings KC) 0 [some (.ref 85), some (.int x1), none, none, none, none] [] σ out := by
  refine ev_n 4 (fun _ => rfl) ?_
  exact h
set_option maxRecDepth 20000 in
theorem e_X4_addSecondReadings_4 {x1 : Int32} {x2 : Int32} {x3 : Int32} {σ : St_} {out : Out_}  (h : ((x1 ≤ x3 → out = (none, σ)) ∧ (¬ (x1 ≤ x3) → (∃ b1, σ.2.2 85 2 = some b1 ∧ isB b1 ∧ (((σ.1 b1 11) ≤ x3 → out = (none, σ)) ∧ (¬ ((σ.1 b1 11) ≤ x3) → (∃ (v3 : Int32) (σ2 : St_), f_X4_mostWorth KC [.ref 85, .int x2] σ = some (some (.int v3), σ2) ∧ (∃ (v5 : Int32) (σ4 : St_), f_X4_readersOf KC [.ref 85, .int v3] σ2 = some (some (.int v5), σ4) ∧ (∃ (v7 : Int32) (σ6 : St_), f_X4_mostLeft KC [.ref 85, .int v5] σ4 = some (some (.int v7), σ6) ∧ ((v7 = ((-1) : Int32) → Ev_ (P_X4_addSecondReadings KC) 4 [some (.ref 85), some (.int x1), some (.int (x2 ||| ((1 : Int32) <<< (v3 &&& 31)))), some (.int (x3 + 1)), none, none] [] σ6 out) ∧ (¬ (v7 = ((-1) : Int32)) → (∃ (v9 : Int32) (σ8 : St_), f_X4_tryAct KC [.ref 85, .int v7, .int v3, .int (0 : Int32), .int (0 : Int32)] σ6 = some (some (.int v9), σ8) ∧ Ev_ (P_X4_addSecondReadings KC) 4 [some (.ref 85), some (.int x1), some (.int (x2 ||| ((1 : Int32) <<< (v3 &&& 31)))), some (.int (x3 + 1)), none, none] [] σ8 out)))))))))))) : Ev_ (P_X4_addSecondReadings KC) 4 [some (.ref 85), some (.int x1), some (.int x2), some (.int x3), none, none] [] σ out := by
  refine ev_n 2 (fun _ => rfl) ?_
  refine ev_if (c := x1 ≤ x3) rfl (fun _ => rfl) (fun hc => ?_) (fun hc => ?_)
  · replace h := h.1 hc
    exact ev_ret rfl (fun _ => rfl) h
  · replace h := h.2 hc
    refine ev_n 2 (fun _ => rfl) ?_
    obtain ⟨b1, eb1, hb1, h⟩ := h
    refine ev_go rfl (w_gR rfl eb1) ?_
    refine ev_go rfl (w_gI (kb_0 hb1)) ?_
    refine ev_if (c := (σ.1 b1 11) ≤ x3) rfl (fun _ => rfl) (fun hc => ?_) (fun hc => ?_)
    · replace h := h.1 hc
      exact ev_ret rfl (fun _ => rfl) h
    · replace h := h.2 hc
      refine ev_n 2 (fun _ => rfl) ?_
      obtain ⟨v3, σ2, hf, h⟩ := h
      refine ev_go rfl (w_callV rfl rfl rfl (Nat.le_of_ble_eq_true rfl) hf) ?_
      refine ev_n 8 (fun _ => rfl) ?_
      refine ev_n 2 (fun _ => rfl) ?_
      obtain ⟨v5, σ4, hf, h⟩ := h
      refine ev_go rfl (w_callV rfl rfl rfl (Nat.le_of_ble_eq_true rfl) hf) ?_
      obtain ⟨v7, σ6, hf, h⟩ := h
      refine ev_go rfl (w_callV rfl rfl rfl (Nat.le_of_ble_eq_true rfl) hf) ?_
      refine ev_n 3 (fun _ => rfl) ?_
      refine ev_if (c := v7 = ((-1) : Int32)) rfl (fun _ => rfl) (fun hc => ?_) (fun hc => ?_)
      · replace h := h.1 hc
        refine ev_n 2 (fun _ => rfl) ?_
        exact h
      · replace h := h.2 hc
        refine ev_n 5 (fun _ => rfl) ?_
        obtain ⟨v9, σ8, hf, h⟩ := h
        refine ev_go rfl (w_callV rfl rfl rfl (Nat.le_of_ble_eq_true rfl) hf) ?_
        refine ev_n 3 (fun _ => rfl) ?_
        exact h
theorem m_X4_addSecondReadings : ∀ pc o, (P_X4_addSecondReadings KC).lookup pc = some o → Mon_ o := all_mon (a_X4_addSecondReadings (l := launch0) (E := EC0) EC0_ok)
theorem z_X4_addSecondReadings {x1 : Int32} {σ : St_} {out : Out_} (h : Ev_ (P_X4_addSecondReadings KC) 0 [some (.ref 85), some (.int x1), none, none, none, none] [] σ out) : f_X4_addSecondReadings KC [.ref 85, .int x1] σ = some out := fn_eq m_X4_addSecondReadings rfl h
set_option maxRecDepth 20000 in
theorem e_X4_fill_0 {x1 : Int32} {x2 : Int32} {σ : St_} {out : Out_}  (h : ((x1 = (1 : Int32) → (∃ (σ1 : St_), f_X4_addParts KC [.ref 85, .int x2] σ = some (none, σ1) ∧ out = (none, σ1))) ∧ (¬ (x1 = (1 : Int32)) → (∃ (σ2 : St_), f_X4_addRows KC [.ref 85] σ = some (none, σ2) ∧ ((((x1).toInt < 2 ∨ 4 < (x1).toInt) → out = (none, σ2)) ∧ (x1 = 2 → (∃ (σ3 : St_), f_X4_addSecondReadings KC [.ref 85, .int x2] σ2 = some (none, σ3) ∧ out = (none, σ3))) ∧ (x1 = 3 → (∃ (σ4 : St_), f_X4_addChains KC [.ref 85, .int x2] σ2 = some (none, σ4) ∧ out = (none, σ4))) ∧ (x1 = 4 → (∃ (σ5 : St_), f_X4_addRounds KC [.ref 85, .int x2] σ2 = some (none, σ5) ∧ out = (none, σ5)))))))) : Ev_ (P_X4_fill KC) 0 [some (.ref 85), some (.int x1), some (.int x2)] [] σ out := by
  refine ev_n 2 (fun _ => rfl) ?_
  refine ev_if (c := x1 = (1 : Int32)) rfl (fun _ => rfl) (fun hc => ?_) (fun hc => ?_)
  · replace h := h.1 hc
    refine ev_n 2 (fun _ => rfl) ?_
    obtain ⟨σ1, hf, h⟩ := h
    refine ev_go rfl (w_callV rfl rfl rfl (Nat.le_of_ble_eq_true rfl) hf) ?_
    exact ev_ret rfl (fun _ => rfl) h
  · replace h := h.2 hc
    refine ev_n 1 (fun _ => rfl) ?_
    obtain ⟨σ2, hf, h⟩ := h
    refine ev_go rfl (w_callV rfl rfl rfl (Nat.le_of_ble_eq_true rfl) hf) ?_
    refine ev_n 1 (fun _ => rfl) ?_
    refine ev_tsw rfl (fun hc => ?_) (fun t hc ht => ?_) (by decide)
    · replace h := h.1 hc
      exact ev_ret rfl (fun _ => rfl) h
    · have hi := tsw_in (n := 3) hc (by decide)
      rcases (show ((x1).toInt - 2).toNat = 0 ∨ ((x1).toInt - 2).toNat = 1 ∨ ((x1).toInt - 2).toNat = 2 by omega) with e | e | e
      · rw [e] at ht
        cases ht
        replace h := h.2.1 (tsw_eq hc e (by decide))
        refine ev_n 2 (fun _ => rfl) ?_
        obtain ⟨σ3, hf, h⟩ := h
        refine ev_go rfl (w_callV rfl rfl rfl (Nat.le_of_ble_eq_true rfl) hf) ?_
        refine ev_n 1 (fun _ => rfl) ?_
        exact ev_ret rfl (fun _ => rfl) h
      · rw [e] at ht
        cases ht
        replace h := h.2.2.1 (tsw_eq hc e (by decide))
        refine ev_n 2 (fun _ => rfl) ?_
        obtain ⟨σ4, hf, h⟩ := h
        refine ev_go rfl (w_callV rfl rfl rfl (Nat.le_of_ble_eq_true rfl) hf) ?_
        refine ev_n 1 (fun _ => rfl) ?_
        exact ev_ret rfl (fun _ => rfl) h
      · rw [e] at ht
        cases ht
        replace h := h.2.2.2 (tsw_eq hc e (by decide))
        refine ev_n 2 (fun _ => rfl) ?_
        obtain ⟨σ5, hf, h⟩ := h
        refine ev_go rfl (w_callV rfl rfl rfl (Nat.le_of_ble_eq_true rfl) hf) ?_
        refine ev_n 1 (fun _ => rfl) ?_
        exact ev_ret rfl (fun _ => rfl) h
theorem m_X4_fill : ∀ pc o, (P_X4_fill KC).lookup pc = some o → Mon_ o := all_mon (a_X4_fill (l := launch0) (E := EC0) EC0_ok)
theorem z_X4_fill {x1 : Int32} {x2 : Int32} {σ : St_} {out : Out_} (h : Ev_ (P_X4_fill KC) 0 [some (.ref 85), some (.int x1), some (.int x2)] [] σ out) : f_X4_fill KC [.ref 85, .int x1, .int x2] σ = some out := fn_eq m_X4_fill rfl h
set_option maxRecDepth 20000 in
theorem e_X4_draw_0 {x1 : Int32} {σ : St_} {out : Out_}  (h : (((1 : Int32) ≤ x1 → (¬ x1 = 0) ∧ out = (some (.int ((Int32.toUInt32 ((sI_ σ 85 4 (((σ.1 85 4) * (1103515245 : Int32)) + (12345 : Int32))).1 85 4) >>> (Int32.toUInt32 (8 : Int32) &&& Int32.toUInt32 31)).toInt32 - (Int32.toUInt32 ((sI_ σ 85 4 (((σ.1 85 4) * (1103515245 : Int32)) + (12345 : Int32))).1 85 4) >>> (Int32.toUInt32 (8 : Int32) &&& Int32.toUInt32 31)).toInt32 / x1 * x1)), (sI_ σ 85 4 (((σ.1 85 4) * (1103515245 : Int32)) + (12345 : Int32))))) ∧ (¬ ((1 : Int32) ≤ x1) → out = (some (.int (0 : Int32)), (sI_ σ 85 4 (((σ.1 85 4) * (1103515245 : Int32)) + (12345 : Int32))))))) : Ev_ (P_X4_draw KC) 0 [some (.ref 85), some (.int x1)] [] σ out := by
  refine ev_n 2 (fun _ => rfl) ?_
  refine ev_go rfl (w_gI rfl) ?_
  refine ev_n 4 (fun _ => rfl) ?_
  refine ev_go rfl (w_pI rfl) ?_
  refine ev_n 2 (fun _ => rfl) ?_
  refine ev_if (c := (1 : Int32) ≤ x1) rfl (fun _ => rfl) (fun hc => ?_) (fun hc => ?_)
  · replace h := h.1 hc
    refine ev_n 1 (fun _ => rfl) ?_
    refine ev_go rfl (w_gI rfl) ?_
    refine ev_n 3 (fun _ => rfl) ?_
    obtain ⟨h0, h⟩ := h
    refine ev_go rfl (w_rem h0) ?_
    exact ev_ret rfl (fun _ => rfl) h
  · replace h := h.2 hc
    refine ev_n 2 (fun _ => rfl) ?_
    exact ev_ret rfl (fun _ => rfl) h
theorem m_X4_draw : ∀ pc o, (P_X4_draw KC).lookup pc = some o → Mon_ o := all_mon (a_X4_draw (l := launch0) (E := EC0) EC0_ok)
theorem z_X4_draw {x1 : Int32} {σ : St_} {out : Out_} (h : Ev_ (P_X4_draw KC) 0 [some (.ref 85), some (.int x1)] [] σ out) : f_X4_draw KC [.ref 85, .int x1] σ = some out := fn_eq m_X4_draw rfl h
set_option maxRecDepth 20000 in
theorem e_X4_drawActs_0 {x1 : Int32} {x2 : Int32} {σ : St_} {out : Out_}  (h : Ev_ (P_X4_drawActs KC) 7 [some (.ref 85), some (.int x1), some (.int x2), some (.int (0 : Int32)), none, none] [] (sI_ σ 85 4 x2) out) : Ev_ (P_X4_drawActs KC) 0 [some (.ref 85), some (.int x1), some (.int x2), none, none, none] [] σ out := by
  refine ev_n 2 (fun _ => rfl) ?_
  refine ev_go rfl (w_pI rfl) ?_
  refine ev_n 2 (fun _ => rfl) ?_
  exact h
set_option maxRecDepth 20000 in
theorem e_X4_drawActs_7 {x1 : Int32} {x2 : Int32} {x3 : Int32} {σ : St_} {out : Out_}  (h : ((x1 ≤ x3 → out = (none, σ)) ∧ (¬ (x1 ≤ x3) → (((60 : Int32) ≤ x3 → out = (none, σ)) ∧ (¬ ((60 : Int32) ≤ x3) → (∃ b1, σ.2.2 85 2 = some b1 ∧ isB b1 ∧ (∃ (v3 : Int32) (σ2 : St_), f_X4_draw KC [.ref 85, .int (σ.1 b1 12)] σ = some (some (.int v3), σ2) ∧ (∃ b4, σ2.2.2 85 2 = some b4 ∧ isB b4 ∧ (∃ (v6 : Int32) (σ5 : St_), f_X4_draw KC [.ref 85, .int (σ2.1 b4 11)] σ2 = some (some (.int v6), σ5) ∧ (∃ (v8 : Int32) (σ7 : St_), f_X4_draw KC [.ref 85, .int (4 : Int32)] σ5 = some (some (.int v8), σ7) ∧ ((v8 = 0 → (∃ p9, σ7.2.2 85 3 = some p9 ∧ isP p9 ∧ (∃ (v11 : Int32) (σ10 : St_), f_X4_draw KC [.ref 85, .int (4 : Int32)] σ7 = some (some (.int v11), σ10) ∧ (∃ b12, σ10.2.2 85 2 = some b12 ∧ isB b12 ∧ (∃ (σ13 : St_), f_X6_add KC [.ref p9, .int v3, .int v6, .int ((1 : Int32) + v11), .int ((((1 : Int32) <<< ((σ10.1 b12 12) &&& 31)) - (1 : Int32)) &&& (((1 : Int32) <<< (v3 &&& 31)) ^^^ ((-1) : Int32)))] σ10 = some (none, σ13) ∧ Ev_ (P_X4_drawActs KC) 7 [some (.ref 85), some (.int x1), some (.int x2), some (.int (x3 + 1)), none, none] [] σ13 out))))) ∧ (¬ (v8 = 0) → (∃ p14, σ7.2.2 85 3 = some p14 ∧ isP p14 ∧ (∃ (σ15 : St_), f_X6_add KC [.ref p14, .int v3, .int v6, .int (0 : Int32), .int (0 : Int32)] σ7 = some (none, σ15) ∧ Ev_ (P_X4_drawActs KC) 7 [some (.ref 85), some (.int x1), some (.int x2), some (.int (x3 + 1)), none, none] [] σ15 out)))))))))))))) : Ev_ (P_X4_drawActs KC) 7 [some (.ref 85), some (.int x1), some (.int x2), some (.int x3), none, none] [] σ out := by
  refine ev_n 2 (fun _ => rfl) ?_
  refine ev_if (c := x1 ≤ x3) rfl (fun _ => rfl) (fun hc => ?_) (fun hc => ?_)
  · replace h := h.1 hc
    exact ev_ret rfl (fun _ => rfl) h
  · replace h := h.2 hc
    refine ev_n 2 (fun _ => rfl) ?_
    refine ev_if (c := (60 : Int32) ≤ x3) rfl (fun _ => rfl) (fun hc => ?_) (fun hc => ?_)
    · replace h := h.1 hc
      exact ev_ret rfl (fun _ => rfl) h
    · replace h := h.2 hc
      refine ev_n 2 (fun _ => rfl) ?_
      obtain ⟨b1, eb1, hb1, h⟩ := h
      refine ev_go rfl (w_gR rfl eb1) ?_
      refine ev_go rfl (w_gI (kb_0 hb1)) ?_
      obtain ⟨v3, σ2, hf, h⟩ := h
      refine ev_go rfl (w_callV rfl rfl rfl (Nat.le_of_ble_eq_true rfl) hf) ?_
      refine ev_n 3 (fun _ => rfl) ?_
      obtain ⟨b4, eb4, hb4, h⟩ := h
      refine ev_go rfl (w_gR rfl eb4) ?_
      refine ev_go rfl (w_gI (kb_0 hb4)) ?_
      obtain ⟨v6, σ5, hf, h⟩ := h
      refine ev_go rfl (w_callV rfl rfl rfl (Nat.le_of_ble_eq_true rfl) hf) ?_
      refine ev_n 3 (fun _ => rfl) ?_
      obtain ⟨v8, σ7, hf, h⟩ := h
      refine ev_go rfl (w_callV rfl rfl rfl (Nat.le_of_ble_eq_true rfl) hf) ?_
      refine ev_if (c := v8 = 0) rfl (fun _ => rfl) (fun hc => ?_) (fun hc => ?_)
      · replace h := h.1 hc
        refine ev_n 1 (fun _ => rfl) ?_
        obtain ⟨p9, ep9, hp9, h⟩ := h
        refine ev_go rfl (w_gR rfl ep9) ?_
        refine ev_n 5 (fun _ => rfl) ?_
        obtain ⟨v11, σ10, hf, h⟩ := h
        refine ev_go rfl (w_callV rfl rfl rfl (Nat.le_of_ble_eq_true rfl) hf) ?_
        refine ev_n 3 (fun _ => rfl) ?_
        obtain ⟨b12, eb12, hb12, h⟩ := h
        refine ev_go rfl (w_gR rfl eb12) ?_
        refine ev_go rfl (w_gI (kb_0 hb12)) ?_
        refine ev_n 8 (fun _ => rfl) ?_
        refine ev_n 1 (fun _ => rfl) ?_
        obtain ⟨σ13, hf, h⟩ := h
        refine ev_go rfl (w_callV rfl rfl (kp_0 hp9) (Nat.le_of_ble_eq_true rfl) hf) ?_
        refine ev_n 3 (fun _ => rfl) ?_
        exact h
      · replace h := h.2 hc
        refine ev_n 1 (fun _ => rfl) ?_
        obtain ⟨p14, ep14, hp14, h⟩ := h
        refine ev_go rfl (w_gR rfl ep14) ?_
        refine ev_n 4 (fun _ => rfl) ?_
        obtain ⟨σ15, hf, h⟩ := h
        refine ev_go rfl (w_callV rfl rfl (kp_0 hp14) (Nat.le_of_ble_eq_true rfl) hf) ?_
        refine ev_n 2 (fun _ => rfl) ?_
        exact h
theorem m_X4_drawActs : ∀ pc o, (P_X4_drawActs KC).lookup pc = some o → Mon_ o := all_mon (a_X4_drawActs (l := launch0) (E := EC0) EC0_ok)
theorem z_X4_drawActs {x1 : Int32} {x2 : Int32} {σ : St_} {out : Out_} (h : Ev_ (P_X4_drawActs KC) 0 [some (.ref 85), some (.int x1), some (.int x2), none, none, none] [] σ out) : f_X4_drawActs KC [.ref 85, .int x1, .int x2] σ = some out := fn_eq m_X4_drawActs rfl h
set_option maxRecDepth 20000 in
theorem e_X5_follow_0 {m : Nat} {p : Nat} {σ : St_} {out : Out_} (hm : isM m) (hp : isP p) (h : Ev_ (P_X5_follow KC) 2 [some (.ref m), some (.ref p), some (.int (0 : Int32))] [] σ out) : Ev_ (P_X5_follow KC) 0 [some (.ref m), some (.ref p), none] [] σ out := by
  refine ev_n 2 (fun _ => rfl) ?_
  exact h
set_option maxRecDepth 20000 in
theorem e_X5_follow_2 {m : Nat} {p : Nat} {x2 : Int32} {σ : St_} {out : Out_} (hm : isM m) (hp : isP p) (h : (((σ.1 p 4) ≤ x2 → out = (none, σ)) ∧ (¬ ((σ.1 p 4) ≤ x2) → (((100 : Int32) ≤ x2 → out = (none, σ)) ∧ (¬ ((100 : Int32) ≤ x2) → (vpin_ x2 100 = true) ∧ (vpin_ x2 100 = true) ∧ (vpin_ x2 100 = true) ∧ (vpin_ x2 100 = true) ∧ (∃ (v2 : Int32) (σ1 : St_), f_X5_wrongOf KC [.ref m, .int (σ.1 (p + 1) (Int32.toNatClampNeg x2)), .int (σ.1 (p + 2) (Int32.toNatClampNeg x2)), .int (σ.1 (p + 3) (Int32.toNatClampNeg x2)), .int (σ.1 (p + 4) (Int32.toNatClampNeg x2))] σ = some (some (.int v2), σ1) ∧ ((((sI_ σ1 m 5 v2).1 m 5) = 0 → (vpin_ x2 100 = true) ∧ (vpin_ x2 100 = true) ∧ (vpin_ x2 100 = true) ∧ (vpin_ x2 100 = true) ∧ (∃ (σ3 : St_), f_X5_perform KC [.ref m, .int ((sI_ σ1 m 5 v2).1 (p + 1) (Int32.toNatClampNeg x2)), .int ((sI_ σ1 m 5 v2).1 (p + 2) (Int32.toNatClampNeg x2)), .int ((sI_ σ1 m 5 v2).1 (p + 3) (Int32.toNatClampNeg x2)), .int ((sI_ σ1 m 5 v2).1 (p + 4) (Int32.toNatClampNeg x2))] (sI_ σ1 m 5 v2) = some (none, σ3) ∧ Ev_ (P_X5_follow KC) 2 [some (.ref m), some (.ref p), some (.int (x2 + 1))] [] σ3 out)) ∧ (¬ (((sI_ σ1 m 5 v2).1 m 5) = 0) → out = (none, (sI_ (sI_ σ1 m 5 v2) m 4 x2)))))))))) : Ev_ (P_X5_follow KC) 2 [some (.ref m), some (.ref p), some (.int x2)] [] σ out := by
  refine ev_n 2 (fun _ => rfl) ?_
  refine ev_go rfl (w_gI (kp_0 hp)) ?_
  refine ev_if (c := (σ.1 p 4) ≤ x2) rfl (fun _ => rfl) (fun hc => ?_) (fun hc => ?_)
  · replace h := h.1 hc
    exact ev_ret rfl (fun _ => rfl) h
  · replace h := h.2 hc
    refine ev_n 2 (fun _ => rfl) ?_
    refine ev_if (c := (100 : Int32) ≤ x2) rfl (fun _ => rfl) (fun hc => ?_) (fun hc => ?_)
    · replace h := h.1 hc
      exact ev_ret rfl (fun _ => rfl) h
    · replace h := h.2 hc
      refine ev_n 3 (fun _ => rfl) ?_
      refine ev_go rfl (w_gF (kp_0 hp) (kp_r0 hp)) ?_
      refine ev_n 1 (fun _ => rfl) ?_
      obtain ⟨h0, h⟩ := h
      refine ev_go rfl (w_iald (kp_k0 hp) h0) ?_
      refine ev_n 1 (fun _ => rfl) ?_
      refine ev_go rfl (w_gF (kp_0 hp) (kp_r1 hp)) ?_
      refine ev_n 1 (fun _ => rfl) ?_
      obtain ⟨h0, h⟩ := h
      refine ev_go rfl (w_iald (kp_k1 hp) h0) ?_
      refine ev_n 1 (fun _ => rfl) ?_
      refine ev_go rfl (w_gF (kp_0 hp) (kp_r2 hp)) ?_
      refine ev_n 1 (fun _ => rfl) ?_
      obtain ⟨h0, h⟩ := h
      refine ev_go rfl (w_iald (kp_k2 hp) h0) ?_
      refine ev_n 1 (fun _ => rfl) ?_
      refine ev_go rfl (w_gF (kp_0 hp) (kp_r3 hp)) ?_
      refine ev_n 1 (fun _ => rfl) ?_
      obtain ⟨h0, h⟩ := h
      refine ev_go rfl (w_iald (kp_k3 hp) h0) ?_
      obtain ⟨v2, σ1, hf, h⟩ := h
      refine ev_go rfl (w_callV rfl rfl (km_0 hm) (Nat.le_of_ble_eq_true rfl) hf) ?_
      refine ev_go rfl (w_pI (km_0 hm)) ?_
      refine ev_n 1 (fun _ => rfl) ?_
      refine ev_go rfl (w_gI (km_0 hm)) ?_
      refine ev_if (c := ((sI_ σ1 m 5 v2).1 m 5) = 0) rfl (fun _ => rfl) (fun hc => ?_) (fun hc => ?_)
      · replace h := h.1 hc
        refine ev_n 2 (fun _ => rfl) ?_
        refine ev_go rfl (w_gF (kp_0 hp) (kp_r0 hp)) ?_
        refine ev_n 1 (fun _ => rfl) ?_
        obtain ⟨h0, h⟩ := h
        refine ev_go rfl (w_iald (kp_k0 hp) h0) ?_
        refine ev_n 1 (fun _ => rfl) ?_
        refine ev_go rfl (w_gF (kp_0 hp) (kp_r1 hp)) ?_
        refine ev_n 1 (fun _ => rfl) ?_
        obtain ⟨h0, h⟩ := h
        refine ev_go rfl (w_iald (kp_k1 hp) h0) ?_
        refine ev_n 1 (fun _ => rfl) ?_
        refine ev_go rfl (w_gF (kp_0 hp) (kp_r2 hp)) ?_
        refine ev_n 1 (fun _ => rfl) ?_
        obtain ⟨h0, h⟩ := h
        refine ev_go rfl (w_iald (kp_k2 hp) h0) ?_
        refine ev_n 1 (fun _ => rfl) ?_
        refine ev_go rfl (w_gF (kp_0 hp) (kp_r3 hp)) ?_
        refine ev_n 1 (fun _ => rfl) ?_
        obtain ⟨h0, h⟩ := h
        refine ev_go rfl (w_iald (kp_k3 hp) h0) ?_
        obtain ⟨σ3, hf, h⟩ := h
        refine ev_go rfl (w_callV rfl rfl (km_0 hm) (Nat.le_of_ble_eq_true rfl) hf) ?_
        refine ev_n 2 (fun _ => rfl) ?_
        exact h
      · replace h := h.2 hc
        refine ev_n 2 (fun _ => rfl) ?_
        refine ev_go rfl (w_pI (km_0 hm)) ?_
        exact ev_ret rfl (fun _ => rfl) h
theorem m_X5_follow : ∀ pc o, (P_X5_follow KC).lookup pc = some o → Mon_ o := all_mon (a_X5_follow (l := launch0) (E := EC0) EC0_ok)
theorem z_X5_follow {m : Nat} {p : Nat} {σ : St_} {out : Out_} (h : Ev_ (P_X5_follow KC) 0 [some (.ref m), some (.ref p), none] [] σ out) : f_X5_follow KC [.ref m, .ref p] σ = some out := fn_eq m_X5_follow rfl h
set_option maxRecDepth 20000 in
theorem e_X5_sent_0 {m : Nat} {σ : St_} {out : Out_} (hm : isM m) (h : Ev_ (P_X5_sent KC) 6 [some (.ref m), some (.int ((-1) : Int32)), some (.int ((-1) : Int32)), some (.int (0 : Int32)), none] [] σ out) : Ev_ (P_X5_sent KC) 0 [some (.ref m), none, none, none, none] [] σ out := by
  refine ev_n 6 (fun _ => rfl) ?_
  exact h
set_option maxRecDepth 20000 in
theorem e_X5_sent_6 {m : Nat} {x1 : Int32} {x2 : Int32} {x3 : Int32} {σ : St_} {out : Out_} (hm : isM m) (h : (∃ b1, σ.2.2 m 9 = some b1 ∧ isB b1 ∧ (((σ.1 b1 12) ≤ x3 → out = (some (.int x1), σ)) ∧ (¬ ((σ.1 b1 12) ≤ x3) → (∃ (v3 : Int32) (σ2 : St_), f_X5_inAll KC [.ref m, .int x3] σ = some (some (.int v3), σ2) ∧ ((v3 ≤ x2 → Ev_ (P_X5_sent KC) 6 [some (.ref m), some (.int x1), some (.int x2), some (.int (x3 + 1)), none] [] σ2 out) ∧ (¬ (v3 ≤ x2) → Ev_ (P_X5_sent KC) 6 [some (.ref m), some (.int x3), some (.int v3), some (.int (x3 + 1)), none] [] σ2 out))))))) : Ev_ (P_X5_sent KC) 6 [some (.ref m), some (.int x1), some (.int x2), some (.int x3), none] [] σ out := by
  refine ev_n 2 (fun _ => rfl) ?_
  obtain ⟨b1, eb1, hb1, h⟩ := h
  refine ev_go rfl (w_gR (km_0 hm) eb1) ?_
  refine ev_go rfl (w_gI (kb_0 hb1)) ?_
  refine ev_if (c := (σ.1 b1 12) ≤ x3) rfl (fun _ => rfl) (fun hc => ?_) (fun hc => ?_)
  · replace h := h.1 hc
    refine ev_n 1 (fun _ => rfl) ?_
    exact ev_ret rfl (fun _ => rfl) h
  · replace h := h.2 hc
    refine ev_n 2 (fun _ => rfl) ?_
    obtain ⟨v3, σ2, hf, h⟩ := h
    refine ev_go rfl (w_callV rfl rfl (km_0 hm) (Nat.le_of_ble_eq_true rfl) hf) ?_
    refine ev_n 3 (fun _ => rfl) ?_
    refine ev_if (c := v3 ≤ x2) rfl (fun _ => rfl) (fun hc => ?_) (fun hc => ?_)
    · replace h := h.1 hc
      refine ev_n 2 (fun _ => rfl) ?_
      exact h
    · replace h := h.2 hc
      refine ev_n 6 (fun _ => rfl) ?_
      exact h
theorem m_X5_sent : ∀ pc o, (P_X5_sent KC).lookup pc = some o → Mon_ o := all_mon (a_X5_sent (l := launch0) (E := EC0) EC0_ok)
theorem z_X5_sent {m : Nat} {σ : St_} {out : Out_} (h : Ev_ (P_X5_sent KC) 0 [some (.ref m), none, none, none, none] [] σ out) : f_X5_sent KC [.ref m] σ = some out := fn_eq m_X5_sent rfl h
set_option maxRecDepth 20000 in
theorem e_X5_unreadMusts_0 {m : Nat} {σ : St_} {out : Out_} (hm : isM m) (h : Ev_ (P_X5_unreadMusts KC) 4 [some (.ref m), some (.int (0 : Int32)), some (.int (0 : Int32)), none] [] σ out) : Ev_ (P_X5_unreadMusts KC) 0 [some (.ref m), none, none, none] [] σ out := by
  refine ev_n 4 (fun _ => rfl) ?_
  exact h
set_option maxRecDepth 20000 in
theorem e_X5_unreadMusts_4 {m : Nat} {x1 : Int32} {x2 : Int32} {σ : St_} {out : Out_} (hm : isM m) (h : (∃ b1, σ.2.2 m 9 = some b1 ∧ isB b1 ∧ (((σ.1 b1 12) ≤ x2 → out = (some (.int x1), σ)) ∧ (¬ ((σ.1 b1 12) ≤ x2) → Ev_ (P_X5_unreadMusts KC) 17 [some (.ref m), some (.int x1), some (.int x2), some (.int (0 : Int32))] [] σ out)))) : Ev_ (P_X5_unreadMusts KC) 4 [some (.ref m), some (.int x1), some (.int x2), none] [] σ out := by
  refine ev_n 2 (fun _ => rfl) ?_
  obtain ⟨b1, eb1, hb1, h⟩ := h
  refine ev_go rfl (w_gR (km_0 hm) eb1) ?_
  refine ev_go rfl (w_gI (kb_0 hb1)) ?_
  refine ev_if (c := (σ.1 b1 12) ≤ x2) rfl (fun _ => rfl) (fun hc => ?_) (fun hc => ?_)
  · replace h := h.1 hc
    refine ev_n 1 (fun _ => rfl) ?_
    exact ev_ret rfl (fun _ => rfl) h
  · replace h := h.2 hc
    refine ev_n 2 (fun _ => rfl) ?_
    exact h
set_option maxRecDepth 20000 in
theorem e_X5_unreadMusts_17 {m : Nat} {x1 : Int32} {x2 : Int32} {x3 : Int32} {σ : St_} {out : Out_} (hm : isM m) (h : (∃ b1, σ.2.2 m 9 = some b1 ∧ isB b1 ∧ (((σ.1 b1 11) ≤ x3 → Ev_ (P_X5_unreadMusts KC) 4 [some (.ref m), some (.int x1), some (.int (x2 + 1)), none] [] σ out) ∧ (¬ ((σ.1 b1 11) ≤ x3) → (vpin_ x3 16 = true) ∧ (((σ.1 (b1 + 4) (Int32.toNatClampNeg x3)) = (1 : Int32) → (vpin_ x2 9 = true) ∧ (((((σ.1 (m + 2) (Int32.toNatClampNeg x2)) >>> (x3 &&& 31)) &&& (1 : Int32)) = 0 → Ev_ (P_X5_unreadMusts KC) 17 [some (.ref m), some (.int (x1 + 1)), some (.int x2), some (.int (x3 + 1))] [] σ out) ∧ (¬ ((((σ.1 (m + 2) (Int32.toNatClampNeg x2)) >>> (x3 &&& 31)) &&& (1 : Int32)) = 0) → Ev_ (P_X5_unreadMusts KC) 17 [some (.ref m), some (.int x1), some (.int x2), some (.int (x3 + 1))] [] σ out))) ∧ (¬ ((σ.1 (b1 + 4) (Int32.toNatClampNeg x3)) = (1 : Int32)) → Ev_ (P_X5_unreadMusts KC) 17 [some (.ref m), some (.int x1), some (.int x2), some (.int (x3 + 1))] [] σ out)))))) : Ev_ (P_X5_unreadMusts KC) 17 [some (.ref m), some (.int x1), some (.int x2), some (.int x3)] [] σ out := by
  refine ev_n 2 (fun _ => rfl) ?_
  obtain ⟨b1, eb1, hb1, h⟩ := h
  refine ev_go rfl (w_gR (km_0 hm) eb1) ?_
  refine ev_go rfl (w_gI (kb_0 hb1)) ?_
  refine ev_if (c := (σ.1 b1 11) ≤ x3) rfl (fun _ => rfl) (fun hc => ?_) (fun hc => ?_)
  · replace h := h.1 hc
    refine ev_n 2 (fun _ => rfl) ?_
    exact h
  · replace h := h.2 hc
    refine ev_n 1 (fun _ => rfl) ?_
    refine ev_go rfl (w_gR (z := b1) (km_0 hm) eb1) ?_
    refine ev_go rfl (w_gF (kb_0 hb1) (kb_r3 hb1)) ?_
    refine ev_n 1 (fun _ => rfl) ?_
    obtain ⟨h0, h⟩ := h
    refine ev_go rfl (w_iald (kb_k3 hb1) h0) ?_
    refine ev_n 1 (fun _ => rfl) ?_
    refine ev_if (c := (σ.1 (b1 + 4) (Int32.toNatClampNeg x3)) = (1 : Int32)) rfl (fun _ => rfl) (fun hc => ?_) (fun hc => ?_)
    · replace h := h.1 hc
      refine ev_n 1 (fun _ => rfl) ?_
      refine ev_go rfl (w_gF (km_0 hm) (km_r1 hm)) ?_
      refine ev_n 1 (fun _ => rfl) ?_
      obtain ⟨h0, h⟩ := h
      refine ev_go rfl (w_iald (km_k1 hm) h0) ?_
      refine ev_n 4 (fun _ => rfl) ?_
      refine ev_if (c := (((σ.1 (m + 2) (Int32.toNatClampNeg x2)) >>> (x3 &&& 31)) &&& (1 : Int32)) = 0) rfl (fun _ => rfl) (fun hc => ?_) (fun hc => ?_)
      · replace h := h.1 hc
        refine ev_n 3 (fun _ => rfl) ?_
        exact h
      · replace h := h.2 hc
        refine ev_n 2 (fun _ => rfl) ?_
        exact h
    · replace h := h.2 hc
      refine ev_n 2 (fun _ => rfl) ?_
      exact h
theorem m_X5_unreadMusts : ∀ pc o, (P_X5_unreadMusts KC).lookup pc = some o → Mon_ o := all_mon (a_X5_unreadMusts (l := launch0) (E := EC0) EC0_ok)
theorem z_X5_unreadMusts {m : Nat} {σ : St_} {out : Out_} (h : Ev_ (P_X5_unreadMusts KC) 0 [some (.ref m), none, none, none] [] σ out) : f_X5_unreadMusts KC [.ref m] σ = some out := fn_eq m_X5_unreadMusts rfl h
set_option maxRecDepth 20000 in
theorem e_X5_lacking_0 {m : Nat} {σ : St_} {out : Out_} (hm : isM m) (h : Ev_ (P_X5_lacking KC) 4 [some (.ref m), some (.int (0 : Int32)), some (.int (0 : Int32)), none, none] [] σ out) : Ev_ (P_X5_lacking KC) 0 [some (.ref m), none, none, none, none] [] σ out := by
  refine ev_n 4 (fun _ => rfl) ?_
  exact h
set_option maxRecDepth 20000 in
theorem e_X5_lacking_4 {m : Nat} {x1 : Int32} {x2 : Int32} {σ : St_} {out : Out_} (hm : isM m) (h : (∃ b1, σ.2.2 m 9 = some b1 ∧ isB b1 ∧ (((σ.1 b1 11) ≤ x2 → out = (some (.int x1), σ)) ∧ (¬ ((σ.1 b1 11) ≤ x2) → Ev_ (P_X5_lacking KC) 20 [some (.ref m), some (.int x1), some (.int x2), some (.int (0 : Int32)), some (.int (0 : Int32))] [] σ out)))) : Ev_ (P_X5_lacking KC) 4 [some (.ref m), some (.int x1), some (.int x2), none, none] [] σ out := by
  refine ev_n 2 (fun _ => rfl) ?_
  obtain ⟨b1, eb1, hb1, h⟩ := h
  refine ev_go rfl (w_gR (km_0 hm) eb1) ?_
  refine ev_go rfl (w_gI (kb_0 hb1)) ?_
  refine ev_if (c := (σ.1 b1 11) ≤ x2) rfl (fun _ => rfl) (fun hc => ?_) (fun hc => ?_)
  · replace h := h.1 hc
    refine ev_n 1 (fun _ => rfl) ?_
    exact ev_ret rfl (fun _ => rfl) h
  · replace h := h.2 hc
    refine ev_n 4 (fun _ => rfl) ?_
    exact h
set_option maxRecDepth 20000 in
theorem e_X5_lacking_20 {m : Nat} {x1 : Int32} {x2 : Int32} {x3 : Int32} {x4 : Int32} {σ : St_} {out : Out_} (hm : isM m) (h : (∃ b1, σ.2.2 m 9 = some b1 ∧ isB b1 ∧ (((σ.1 b1 12) ≤ x4 → ((x3 = 0 → Ev_ (P_X5_lacking KC) 4 [some (.ref m), some (.int (x1 ||| ((1 : Int32) <<< (x2 &&& 31)))), some (.int (x2 + 1)), none, none] [] σ out) ∧ (¬ (x3 = 0) → Ev_ (P_X5_lacking KC) 4 [some (.ref m), some (.int x1), some (.int (x2 + 1)), none, none] [] σ out))) ∧ (¬ ((σ.1 b1 12) ≤ x4) → ((x3 = 0 → (vpin_ ((x4 * (16 : Int32)) + x2) 144 = true) ∧ (((σ.1 (m + 4) (Int32.toNatClampNeg ((x4 * (16 : Int32)) + x2))) < (500000 : Int32) → Ev_ (P_X5_lacking KC) 20 [some (.ref m), some (.int x1), some (.int x2), some (.int (0 : Int32)), some (.int (x4 + 1))] [] σ out) ∧ (¬ ((σ.1 (m + 4) (Int32.toNatClampNeg ((x4 * (16 : Int32)) + x2))) < (500000 : Int32)) → Ev_ (P_X5_lacking KC) 20 [some (.ref m), some (.int x1), some (.int x2), some (.int (1 : Int32)), some (.int (x4 + 1))] [] σ out))) ∧ (¬ (x3 = 0) → ((x3 = 0 → Ev_ (P_X5_lacking KC) 4 [some (.ref m), some (.int (x1 ||| ((1 : Int32) <<< (x2 &&& 31)))), some (.int (x2 + 1)), none, none] [] σ out) ∧ (¬ (x3 = 0) → Ev_ (P_X5_lacking KC) 4 [some (.ref m), some (.int x1), some (.int (x2 + 1)), none, none] [] σ out)))))))) : Ev_ (P_X5_lacking KC) 20 [some (.ref m), some (.int x1), some (.int x2), some (.int x3), some (.int x4)] [] σ out := by
  refine ev_n 2 (fun _ => rfl) ?_
  obtain ⟨b1, eb1, hb1, h⟩ := h
  refine ev_go rfl (w_gR (km_0 hm) eb1) ?_
  refine ev_go rfl (w_gI (kb_0 hb1)) ?_
  refine ev_if (c := (σ.1 b1 12) ≤ x4) rfl (fun _ => rfl) (fun hc => ?_) (fun hc => ?_)
  · replace h := h.1 hc
    refine ev_n 1 (fun _ => rfl) ?_
    refine ev_if (c := x3 = 0) rfl (fun _ => rfl) (fun hc => ?_) (fun hc => ?_)
    · replace h := h.1 hc
      refine ev_n 8 (fun _ => rfl) ?_
      exact h
    · replace h := h.2 hc
      refine ev_n 2 (fun _ => rfl) ?_
      exact h
  · replace h := h.2 hc
    refine ev_n 1 (fun _ => rfl) ?_
    refine ev_if (c := x3 = 0) rfl (fun _ => rfl) (fun hc => ?_) (fun hc => ?_)
    · replace h := h.1 hc
      refine ev_n 1 (fun _ => rfl) ?_
      refine ev_go rfl (w_gF (km_0 hm) (km_r3 hm)) ?_
      refine ev_n 5 (fun _ => rfl) ?_
      obtain ⟨h0, h⟩ := h
      refine ev_go rfl (w_iald (km_k3 hm) h0) ?_
      refine ev_n 1 (fun _ => rfl) ?_
      refine ev_if (c := (σ.1 (m + 4) (Int32.toNatClampNeg ((x4 * (16 : Int32)) + x2))) < (500000 : Int32)) rfl (fun _ => rfl) (fun hc => ?_) (fun hc => ?_)
      · replace h := h.1 hc
        refine ev_n 4 (fun _ => rfl) ?_
        exact h
      · replace h := h.2 hc
        refine ev_n 5 (fun _ => rfl) ?_
        exact h
    · replace h := h.2 hc
      refine ev_n 1 (fun _ => rfl) ?_
      refine ev_if (c := x3 = 0) rfl (fun _ => rfl) (fun hc => ?_) (fun hc => ?_)
      · replace h := h.1 hc
        refine ev_n 8 (fun _ => rfl) ?_
        exact h
      · replace h := h.2 hc
        refine ev_n 2 (fun _ => rfl) ?_
        exact h
theorem m_X5_lacking : ∀ pc o, (P_X5_lacking KC).lookup pc = some o → Mon_ o := all_mon (a_X5_lacking (l := launch0) (E := EC0) EC0_ok)
theorem z_X5_lacking {m : Nat} {σ : St_} {out : Out_} (h : Ev_ (P_X5_lacking KC) 0 [some (.ref m), none, none, none, none] [] σ out) : f_X5_lacking KC [.ref m] σ = some out := fn_eq m_X5_lacking rfl h
set_option maxRecDepth 20000 in
theorem e_X5_offerExtra_0 {m : Nat} {x1 : Int32} {x2 : Int32} {σ : St_} {out : Out_} (hm : isM m) (h : (∃ b1, σ.2.2 m 9 = some b1 ∧ isB b1 ∧ (vpin_ x2 16 = true) ∧ (vpin_ ((x1 * (16 : Int32)) + x2) 144 = true) ∧ (∃ (v3 : Int32) (σ2 : St_), f_X0_ofMillion KC [.int (σ.1 (b1 + 3) (Int32.toNatClampNeg x2)), .int (σ.1 (m + 4) (Int32.toNatClampNeg ((x1 * (16 : Int32)) + x2)))] σ = some (some (.int v3), σ2) ∧ (∃ b4, σ2.2.2 m 9 = some b4 ∧ isB b4 ∧ (vpin_ x2 16 = true) ∧ (∃ (v6 : Int32) (σ5 : St_), f_X5_partsIfRead KC [.ref m, .int x1, .int x2] σ2 = some (some (.int v6), σ5) ∧ (∃ (v8 : Int32) (σ7 : St_), f_X0_ofMillion KC [.int (σ2.1 (b4 + 3) (Int32.toNatClampNeg x2)), .int v6] σ5 = some (some (.int v8), σ7) ∧ (((v8 - v3) ≤ (σ7.1 m 6) → out = (none, σ7)) ∧ (¬ ((v8 - v3) ≤ (σ7.1 m 6)) → out = (none, (sI_ (sI_ (sI_ σ7 m 6 (v8 - v3)) m 7 x1) m 8 x2)))))))))) : Ev_ (P_X5_offerExtra KC) 0 [some (.ref m), some (.int x1), some (.int x2), none, none] [] σ out := by
  refine ev_n 1 (fun _ => rfl) ?_
  obtain ⟨b1, eb1, hb1, h⟩ := h
  refine ev_go rfl (w_gR (km_0 hm) eb1) ?_
  refine ev_go rfl (w_gF (kb_0 hb1) (kb_r2 hb1)) ?_
  refine ev_n 1 (fun _ => rfl) ?_
  obtain ⟨h0, h⟩ := h
  refine ev_go rfl (w_iald (kb_k2 hb1) h0) ?_
  refine ev_n 1 (fun _ => rfl) ?_
  refine ev_go rfl (w_gF (km_0 hm) (km_r3 hm)) ?_
  refine ev_n 5 (fun _ => rfl) ?_
  obtain ⟨h0, h⟩ := h
  refine ev_go rfl (w_iald (km_k3 hm) h0) ?_
  obtain ⟨v3, σ2, hf, h⟩ := h
  refine ev_go rfl (w_callS ⟨Nat.le_of_ble_eq_true rfl, Nat.le_of_ble_eq_true rfl⟩ hf) ?_
  refine ev_n 2 (fun _ => rfl) ?_
  obtain ⟨b4, eb4, hb4, h⟩ := h
  refine ev_go rfl (w_gR (km_0 hm) eb4) ?_
  refine ev_go rfl (w_gF (kb_0 hb4) (kb_r2 hb4)) ?_
  refine ev_n 1 (fun _ => rfl) ?_
  obtain ⟨h0, h⟩ := h
  refine ev_go rfl (w_iald (kb_k2 hb4) h0) ?_
  refine ev_n 3 (fun _ => rfl) ?_
  obtain ⟨v6, σ5, hf, h⟩ := h
  refine ev_go rfl (w_callV rfl rfl (km_0 hm) (Nat.le_of_ble_eq_true rfl) hf) ?_
  obtain ⟨v8, σ7, hf, h⟩ := h
  refine ev_go rfl (w_callS ⟨Nat.le_of_ble_eq_true rfl, Nat.le_of_ble_eq_true rfl⟩ hf) ?_
  refine ev_n 5 (fun _ => rfl) ?_
  refine ev_go rfl (w_gI (km_0 hm)) ?_
  refine ev_if (c := (v8 - v3) ≤ (σ7.1 m 6)) rfl (fun _ => rfl) (fun hc => ?_) (fun hc => ?_)
  · replace h := h.1 hc
    exact ev_ret rfl (fun _ => rfl) h
  · replace h := h.2 hc
    refine ev_n 2 (fun _ => rfl) ?_
    refine ev_go rfl (w_pI (km_0 hm)) ?_
    refine ev_n 2 (fun _ => rfl) ?_
    refine ev_go rfl (w_pI (km_0 hm)) ?_
    refine ev_n 2 (fun _ => rfl) ?_
    refine ev_go rfl (w_pI (km_0 hm)) ?_
    exact ev_ret rfl (fun _ => rfl) h
theorem m_X5_offerExtra : ∀ pc o, (P_X5_offerExtra KC).lookup pc = some o → Mon_ o := all_mon (a_X5_offerExtra (l := launch0) (E := EC0) EC0_ok)
theorem z_X5_offerExtra {m : Nat} {x1 : Int32} {x2 : Int32} {σ : St_} {out : Out_} (h : Ev_ (P_X5_offerExtra KC) 0 [some (.ref m), some (.int x1), some (.int x2), none, none] [] σ out) : f_X5_offerExtra KC [.ref m, .int x1, .int x2] σ = some out := fn_eq m_X5_offerExtra rfl h
set_option maxRecDepth 20000 in
theorem e_X5_findExtra_0 {m : Nat} {σ : St_} {out : Out_} (hm : isM m) (h : Ev_ (P_X5_findExtra KC) 17 [some (.ref m), some (.int (0 : Int32)), none] [] (sI_ (sI_ (sI_ σ m 6 ((-1) : Int32)) m 7 ((-1) : Int32)) m 8 ((-1) : Int32)) out) : Ev_ (P_X5_findExtra KC) 0 [some (.ref m), none, none] [] σ out := by
  refine ev_n 2 (fun _ => rfl) ?_
  refine ev_go rfl (w_pI (km_0 hm)) ?_
  refine ev_n 2 (fun _ => rfl) ?_
  refine ev_go rfl (w_pI (km_0 hm)) ?_
  refine ev_n 2 (fun _ => rfl) ?_
  refine ev_go rfl (w_pI (km_0 hm)) ?_
  refine ev_n 2 (fun _ => rfl) ?_
  exact h
set_option maxRecDepth 20000 in
theorem e_X5_findExtra_17 {m : Nat} {x1 : Int32} {σ : St_} {out : Out_} (hm : isM m) (h : (∃ b1, σ.2.2 m 9 = some b1 ∧ isB b1 ∧ (((σ.1 b1 12) ≤ x1 → out = (none, σ)) ∧ (¬ ((σ.1 b1 12) ≤ x1) → Ev_ (P_X5_findExtra KC) 30 [some (.ref m), some (.int x1), some (.int (0 : Int32))] [] σ out)))) : Ev_ (P_X5_findExtra KC) 17 [some (.ref m), some (.int x1), none] [] σ out := by
  refine ev_n 2 (fun _ => rfl) ?_
  obtain ⟨b1, eb1, hb1, h⟩ := h
  refine ev_go rfl (w_gR (km_0 hm) eb1) ?_
  refine ev_go rfl (w_gI (kb_0 hb1)) ?_
  refine ev_if (c := (σ.1 b1 12) ≤ x1) rfl (fun _ => rfl) (fun hc => ?_) (fun hc => ?_)
  · replace h := h.1 hc
    exact ev_ret rfl (fun _ => rfl) h
  · replace h := h.2 hc
    refine ev_n 2 (fun _ => rfl) ?_
    exact h
set_option maxRecDepth 20000 in
theorem e_X5_findExtra_30 {m : Nat} {x1 : Int32} {x2 : Int32} {σ : St_} {out : Out_} (hm : isM m) (h : (∃ b1, σ.2.2 m 9 = some b1 ∧ isB b1 ∧ (((σ.1 b1 11) ≤ x2 → Ev_ (P_X5_findExtra KC) 17 [some (.ref m), some (.int (x1 + 1)), none] [] σ out) ∧ (¬ ((σ.1 b1 11) ≤ x2) → (vpin_ x1 9 = true) ∧ (((((σ.1 (m + 2) (Int32.toNatClampNeg x1)) >>> (x2 &&& 31)) &&& (1 : Int32)) = 0 → (vpin_ x1 9 = true) ∧ (∃ (v3 : Int32) (σ2 : St_), f_X0_readTime KC [.ref b1, .int x1, .int x2] σ = some (some (.int v3), σ2) ∧ (((σ.1 (m + 1) (Int32.toNatClampNeg x1)) < v3 → Ev_ (P_X5_findExtra KC) 30 [some (.ref m), some (.int x1), some (.int (x2 + 1))] [] σ2 out) ∧ (¬ ((σ.1 (m + 1) (Int32.toNatClampNeg x1)) < v3) → (∃ (σ4 : St_), f_X5_offerExtra KC [.ref m, .int x1, .int x2] σ2 = some (none, σ4) ∧ Ev_ (P_X5_findExtra KC) 30 [some (.ref m), some (.int x1), some (.int (x2 + 1))] [] σ4 out))))) ∧ (¬ ((((σ.1 (m + 2) (Int32.toNatClampNeg x1)) >>> (x2 &&& 31)) &&& (1 : Int32)) = 0) → Ev_ (P_X5_findExtra KC) 30 [some (.ref m), some (.int x1), some (.int (x2 + 1))] [] σ out)))))) : Ev_ (P_X5_findExtra KC) 30 [some (.ref m), some (.int x1), some (.int x2)] [] σ out := by
  refine ev_n 2 (fun _ => rfl) ?_
  obtain ⟨b1, eb1, hb1, h⟩ := h
  refine ev_go rfl (w_gR (km_0 hm) eb1) ?_
  refine ev_go rfl (w_gI (kb_0 hb1)) ?_
  refine ev_if (c := (σ.1 b1 11) ≤ x2) rfl (fun _ => rfl) (fun hc => ?_) (fun hc => ?_)
  · replace h := h.1 hc
    refine ev_n 2 (fun _ => rfl) ?_
    exact h
  · replace h := h.2 hc
    refine ev_n 1 (fun _ => rfl) ?_
    refine ev_go rfl (w_gF (km_0 hm) (km_r1 hm)) ?_
    refine ev_n 1 (fun _ => rfl) ?_
    obtain ⟨h0, h⟩ := h
    refine ev_go rfl (w_iald (km_k1 hm) h0) ?_
    refine ev_n 4 (fun _ => rfl) ?_
    refine ev_if (c := (((σ.1 (m + 2) (Int32.toNatClampNeg x1)) >>> (x2 &&& 31)) &&& (1 : Int32)) = 0) rfl (fun _ => rfl) (fun hc => ?_) (fun hc => ?_)
    · replace h := h.1 hc
      refine ev_n 1 (fun _ => rfl) ?_
      refine ev_go rfl (w_gF (km_0 hm) (km_r0 hm)) ?_
      refine ev_n 1 (fun _ => rfl) ?_
      obtain ⟨h0, h⟩ := h
      refine ev_go rfl (w_iald (km_k0 hm) h0) ?_
      refine ev_n 1 (fun _ => rfl) ?_
      refine ev_go rfl (w_gR (z := b1) (km_0 hm) eb1) ?_
      refine ev_n 2 (fun _ => rfl) ?_
      obtain ⟨v3, σ2, hf, h⟩ := h
      refine ev_go rfl (w_callV rfl rfl (kb_0 hb1) (Nat.le_of_ble_eq_true rfl) hf) ?_
      refine ev_if (c := (σ.1 (m + 1) (Int32.toNatClampNeg x1)) < v3) rfl (fun _ => rfl) (fun hc => ?_) (fun hc => ?_)
      · replace h := h.1 hc
        refine ev_n 2 (fun _ => rfl) ?_
        exact h
      · replace h := h.2 hc
        refine ev_n 3 (fun _ => rfl) ?_
        obtain ⟨σ4, hf, h⟩ := h
        refine ev_go rfl (w_callV rfl rfl (km_0 hm) (Nat.le_of_ble_eq_true rfl) hf) ?_
        refine ev_n 2 (fun _ => rfl) ?_
        exact h
    · replace h := h.2 hc
      refine ev_n 2 (fun _ => rfl) ?_
      exact h
theorem m_X5_findExtra : ∀ pc o, (P_X5_findExtra KC).lookup pc = some o → Mon_ o := all_mon (a_X5_findExtra (l := launch0) (E := EC0) EC0_ok)
theorem z_X5_findExtra {m : Nat} {σ : St_} {out : Out_} (h : Ev_ (P_X5_findExtra KC) 0 [some (.ref m), none, none] [] σ out) : f_X5_findExtra KC [.ref m] σ = some out := fn_eq m_X5_findExtra rfl h
set_option maxRecDepth 20000 in
theorem e_X6_copyFrom_0 {p : Nat} {p1 : Nat} {σ : St_} {out : Out_} (hp : isP p) (hp1 : isP p1) (h : (∃ (σ1 : St_), f_X0_copyRow KC [.ref (p1 + 1), .ref (p + 1), .int (σ.1 p1 4)] σ = some (none, σ1) ∧ (∃ (σ2 : St_), f_X0_copyRow KC [.ref (p1 + 2), .ref (p + 2), .int (σ1.1 p1 4)] σ1 = some (none, σ2) ∧ (∃ (σ3 : St_), f_X0_copyRow KC [.ref (p1 + 3), .ref (p + 3), .int (σ2.1 p1 4)] σ2 = some (none, σ3) ∧ (∃ (σ4 : St_), f_X0_copyRow KC [.ref (p1 + 4), .ref (p + 4), .int (σ3.1 p1 4)] σ3 = some (none, σ4) ∧ out = (none, (sI_ σ4 p 4 (σ4.1 p1 4)))))))) : Ev_ (P_X6_copyFrom KC) 0 [some (.ref p), some (.ref p1)] [] σ out := by
  refine ev_n 1 (fun _ => rfl) ?_
  refine ev_go rfl (w_gF (kp_0 hp1) (kp_r0 hp1)) ?_
  refine ev_n 1 (fun _ => rfl) ?_
  refine ev_go rfl (w_gF (kp_0 hp) (kp_r0 hp)) ?_
  refine ev_n 1 (fun _ => rfl) ?_
  refine ev_go rfl (w_gI (kp_0 hp1)) ?_
  obtain ⟨σ1, hf, h⟩ := h
  refine ev_go rfl (w_callS ⟨Nat.le_of_ble_eq_true rfl, Nat.le_of_ble_eq_true rfl⟩ hf) ?_
  refine ev_n 1 (fun _ => rfl) ?_
  refine ev_go rfl (w_gF (kp_0 hp1) (kp_r1 hp1)) ?_
  refine ev_n 1 (fun _ => rfl) ?_
  refine ev_go rfl (w_gF (kp_0 hp) (kp_r1 hp)) ?_
  refine ev_n 1 (fun _ => rfl) ?_
  refine ev_go rfl (w_gI (kp_0 hp1)) ?_
  obtain ⟨σ2, hf, h⟩ := h
  refine ev_go rfl (w_callS ⟨Nat.le_of_ble_eq_true rfl, Nat.le_of_ble_eq_true rfl⟩ hf) ?_
  refine ev_n 1 (fun _ => rfl) ?_
  refine ev_go rfl (w_gF (kp_0 hp1) (kp_r2 hp1)) ?_
  refine ev_n 1 (fun _ => rfl) ?_
  refine ev_go rfl (w_gF (kp_0 hp) (kp_r2 hp)) ?_
  refine ev_n 1 (fun _ => rfl) ?_
  refine ev_go rfl (w_gI (kp_0 hp1)) ?_
  obtain ⟨σ3, hf, h⟩ := h
  refine ev_go rfl (w_callS ⟨Nat.le_of_ble_eq_true rfl, Nat.le_of_ble_eq_true rfl⟩ hf) ?_
  refine ev_n 1 (fun _ => rfl) ?_
  refine ev_go rfl (w_gF (kp_0 hp1) (kp_r3 hp1)) ?_
  refine ev_n 1 (fun _ => rfl) ?_
  refine ev_go rfl (w_gF (kp_0 hp) (kp_r3 hp)) ?_
  refine ev_n 1 (fun _ => rfl) ?_
  refine ev_go rfl (w_gI (kp_0 hp1)) ?_
  obtain ⟨σ4, hf, h⟩ := h
  refine ev_go rfl (w_callS ⟨Nat.le_of_ble_eq_true rfl, Nat.le_of_ble_eq_true rfl⟩ hf) ?_
  refine ev_n 2 (fun _ => rfl) ?_
  refine ev_go rfl (w_gI (kp_0 hp1)) ?_
  refine ev_go rfl (w_pI (kp_0 hp)) ?_
  exact ev_ret rfl (fun _ => rfl) h
theorem m_X6_copyFrom : ∀ pc o, (P_X6_copyFrom KC).lookup pc = some o → Mon_ o := all_mon (a_X6_copyFrom (l := launch0) (E := EC0) EC0_ok)
theorem z_X6_copyFrom {p : Nat} {p1 : Nat} {σ : St_} {out : Out_} (h : Ev_ (P_X6_copyFrom KC) 0 [some (.ref p), some (.ref p1)] [] σ out) : f_X6_copyFrom KC [.ref p, .ref p1] σ = some out := fn_eq m_X6_copyFrom rfl h
set_option maxRecDepth 20000 in
theorem e_X6_readReading_0 {p : Nat} {b : Nat} {x3 : Int32} {σ : St_} {out : Out_} (hp : isP p) (hb : isB b) (h : (∃ (v2 : Int32) (σ1 : St_), f_X8_take KC [.ref 1, .int (11 : Int32)] σ = some (some (.int v2), σ1) ∧ ((v2 = 0 → out = (some (.int (0 : Int32)), σ1)) ∧ (¬ (v2 = 0) → (∃ (v4 : Int32) (σ3 : St_), f_X8_takeChap KC [.ref 1, .ref b] σ1 = some (some (.int v4), σ3) ∧ ((v4 = 0 → out = (some (.int (0 : Int32)), σ3)) ∧ (¬ (v4 = 0) → (∃ (σ5 : St_), f_X6_add KC [.ref p, .int x3, .int (σ3.1 1 8), .int (0 : Int32), .int (0 : Int32)] σ3 = some (none, σ5) ∧ out = (some (.int (1 : Int32)), σ5))))))))) : Ev_ (P_X6_readReading KC) 0 [some (.ref p), some (.ref 1), some (.ref b), some (.int x3)] [] σ out := by
  refine ev_n 2 (fun _ => rfl) ?_
  obtain ⟨v2, σ1, hf, h⟩ := h
  refine ev_go rfl (w_callV rfl rfl rfl (Nat.le_of_ble_eq_true rfl) hf) ?_
  refine ev_if (c := v2 = 0) rfl (fun _ => rfl) (fun hc => ?_) (fun hc => ?_)
  · replace h := h.1 hc
    refine ev_n 1 (fun _ => rfl) ?_
    exact v_zret (by decide) rfl h
  · replace h := h.2 hc
    refine ev_n 2 (fun _ => rfl) ?_
    obtain ⟨v4, σ3, hf, h⟩ := h
    refine ev_go rfl (w_callV rfl rfl rfl (Nat.le_of_ble_eq_true rfl) hf) ?_
    refine ev_if (c := v4 = 0) rfl (fun _ => rfl) (fun hc => ?_) (fun hc => ?_)
    · replace h := h.1 hc
      refine ev_n 1 (fun _ => rfl) ?_
      exact v_zret (by decide) rfl h
    · replace h := h.2 hc
      refine ev_n 3 (fun _ => rfl) ?_
      refine ev_go rfl (w_gI rfl) ?_
      refine ev_n 2 (fun _ => rfl) ?_
      obtain ⟨σ5, hf, h⟩ := h
      refine ev_go rfl (w_callV rfl rfl (kp_0 hp) (Nat.le_of_ble_eq_true rfl) hf) ?_
      refine ev_n 1 (fun _ => rfl) ?_
      exact v_zret (by decide) rfl h
theorem m_X6_readReading : ∀ pc o, (P_X6_readReading KC).lookup pc = some o → Mon_ o := all_mon (a_X6_readReading (l := launch0) (E := EC0) EC0_ok)
theorem z_X6_readReading {p : Nat} {b : Nat} {x3 : Int32} {σ : St_} {out : Out_} (h : Ev_ (P_X6_readReading KC) 0 [some (.ref p), some (.ref 1), some (.ref b), some (.int x3)] [] σ out) : f_X6_readReading KC [.ref p, .ref 1, .ref b, .int x3] σ = some out := fn_eq m_X6_readReading rfl h
set_option maxRecDepth 20000 in
theorem e_X6_readListeners_0 {b : Nat} {x2 : Int32} {σ : St_} {out : Out_} (hb : isB b) (h : (((σ.1 1 6) = (14 : Int32) → (((σ.1 b 12) ≤ (1 : Int32) → (((σ.1 1 6) = (2 : Int32) → Ev_ (P_X6_readListeners KC) 60 [some (.ref 1), some (.ref b), some (.int x2), some (.int (0 : Int32)), some (.int (0 : Int32)), none] [] σ out) ∧ (¬ ((σ.1 1 6) = (2 : Int32)) → (∃ (v2 : Int32) (σ1 : St_), f_X8_fail KC [.ref 1, .int (1 : Int32)] σ = some (some (.int v2), σ1) ∧ (v2 = 0 ∨ v2 = 1) ∧ out = (some (.int v2), σ1))))) ∧ (¬ ((σ.1 b 12) ≤ (1 : Int32)) → (∃ (σ3 : St_), f_X8_next KC [.ref 1] σ = some (none, σ3) ∧ out = (some (.int (1 : Int32)), (sI_ σ3 1 8 ((((1 : Int32) <<< ((σ3.1 b 12) &&& 31)) - (1 : Int32)) &&& (((1 : Int32) <<< (x2 &&& 31)) ^^^ ((-1) : Int32))))))))) ∧ (¬ ((σ.1 1 6) = (14 : Int32)) → (((σ.1 1 6) = (2 : Int32) → Ev_ (P_X6_readListeners KC) 60 [some (.ref 1), some (.ref b), some (.int x2), some (.int (0 : Int32)), some (.int (0 : Int32)), none] [] σ out) ∧ (¬ ((σ.1 1 6) = (2 : Int32)) → (∃ (v5 : Int32) (σ4 : St_), f_X8_fail KC [.ref 1, .int (1 : Int32)] σ = some (some (.int v5), σ4) ∧ (v5 = 0 ∨ v5 = 1) ∧ out = (some (.int v5), σ4))))))) : Ev_ (P_X6_readListeners KC) 0 [some (.ref 1), some (.ref b), some (.int x2), none, none, none] [] σ out := by
  refine ev_n 1 (fun _ => rfl) ?_
  refine ev_go rfl (w_gI rfl) ?_
  refine ev_n 1 (fun _ => rfl) ?_
  refine ev_if (c := (σ.1 1 6) = (14 : Int32)) rfl (fun _ => rfl) (fun hc => ?_) (fun hc => ?_)
  · replace h := h.1 hc
    refine ev_n 1 (fun _ => rfl) ?_
    refine ev_go rfl (w_gI (kb_0 hb)) ?_
    refine ev_n 1 (fun _ => rfl) ?_
    refine ev_if (c := (σ.1 b 12) ≤ (1 : Int32)) rfl (fun _ => rfl) (fun hc => ?_) (fun hc => ?_)
    · replace h := h.1 hc
      refine ev_n 1 (fun _ => rfl) ?_
      refine ev_go rfl (w_gI rfl) ?_
      refine ev_n 1 (fun _ => rfl) ?_
      refine ev_if (c := (σ.1 1 6) = (2 : Int32)) rfl (fun _ => rfl) (fun hc => ?_) (fun hc => ?_)
      · replace h := h.1 hc
        refine ev_n 4 (fun _ => rfl) ?_
        exact h
      · replace h := h.2 hc
        refine ev_n 2 (fun _ => rfl) ?_
        obtain ⟨v2, σ1, hf, h⟩ := h
        refine ev_go rfl (w_callV rfl rfl rfl (Nat.le_of_ble_eq_true rfl) hf) ?_
        exact v_zret h.1 rfl h.2
    · replace h := h.2 hc
      refine ev_n 1 (fun _ => rfl) ?_
      obtain ⟨σ3, hf, h⟩ := h
      refine ev_go rfl (w_callV rfl rfl rfl (Nat.le_of_ble_eq_true rfl) hf) ?_
      refine ev_n 3 (fun _ => rfl) ?_
      refine ev_go rfl (w_gI (kb_0 hb)) ?_
      refine ev_n 8 (fun _ => rfl) ?_
      refine ev_n 1 (fun _ => rfl) ?_
      refine ev_go rfl (w_pI rfl) ?_
      refine ev_n 1 (fun _ => rfl) ?_
      exact v_zret (by decide) rfl h
  · replace h := h.2 hc
    refine ev_n 1 (fun _ => rfl) ?_
    refine ev_go rfl (w_gI rfl) ?_
    refine ev_n 1 (fun _ => rfl) ?_
    refine ev_if (c := (σ.1 1 6) = (2 : Int32)) rfl (fun _ => rfl) (fun hc => ?_) (fun hc => ?_)
    · replace h := h.1 hc
      refine ev_n 4 (fun _ => rfl) ?_
      exact h
    · replace h := h.2 hc
      refine ev_n 2 (fun _ => rfl) ?_
      obtain ⟨v5, σ4, hf, h⟩ := h
      refine ev_go rfl (w_callV rfl rfl rfl (Nat.le_of_ble_eq_true rfl) hf) ?_
      exact v_zret h.1 rfl h.2
set_option maxRecDepth 20000 in
theorem e_X6_readListeners_60 {b : Nat} {x2 : Int32} {x3 : Int32} {x4 : Int32} {σ : St_} {out : Out_} (hb : isB b) (h : (((9 : Int32) ≤ x4 → out = (some (.int (1 : Int32)), (sI_ σ 1 8 x3))) ∧ (¬ ((9 : Int32) ≤ x4) → (((σ.1 1 6) = (2 : Int32) → (∃ (v2 : Int32) (σ1 : St_), f_X0_readerNamed KC [.ref b, .int (σ.1 1 7)] σ = some (some (.int v2), σ1) ∧ ((v2 = ((-1) : Int32) → (∃ (v4 : Int32) (σ3 : St_), f_X8_fail KC [.ref 1, .int (3 : Int32)] σ1 = some (some (.int v4), σ3) ∧ (v4 = 0 ∨ v4 = 1) ∧ out = (some (.int v4), σ3))) ∧ (¬ (v2 = ((-1) : Int32)) → ((v2 = x2 → (∃ (v6 : Int32) (σ5 : St_), f_X8_fail KC [.ref 1, .int (3 : Int32)] σ1 = some (some (.int v6), σ5) ∧ (v6 = 0 ∨ v6 = 1) ∧ out = (some (.int v6), σ5))) ∧ (¬ (v2 = x2) → ((((x3 >>> (v2 &&& 31)) &&& (1 : Int32)) = 0 → (∃ (σ7 : St_), f_X8_next KC [.ref 1] σ1 = some (none, σ7) ∧ Ev_ (P_X6_readListeners KC) 60 [some (.ref 1), some (.ref b), some (.int x2), some (.int (x3 ||| ((1 : Int32) <<< (v2 &&& 31)))), some (.int (x4 + 1)), none] [] σ7 out)) ∧ (¬ (((x3 >>> (v2 &&& 31)) &&& (1 : Int32)) = 0) → (∃ (v9 : Int32) (σ8 : St_), f_X8_fail KC [.ref 1, .int (3 : Int32)] σ1 = some (some (.int v9), σ8) ∧ (v9 = 0 ∨ v9 = 1) ∧ out = (some (.int v9), σ8)))))))))) ∧ (¬ ((σ.1 1 6) = (2 : Int32)) → out = (some (.int (1 : Int32)), (sI_ σ 1 8 x3))))))) : Ev_ (P_X6_readListeners KC) 60 [some (.ref 1), some (.ref b), some (.int x2), some (.int x3), some (.int x4), none] [] σ out := by
  refine ev_n 2 (fun _ => rfl) ?_
  refine ev_if (c := (9 : Int32) ≤ x4) rfl (fun _ => rfl) (fun hc => ?_) (fun hc => ?_)
  · replace h := h.1 hc
    refine ev_n 2 (fun _ => rfl) ?_
    refine ev_go rfl (w_pI rfl) ?_
    refine ev_n 1 (fun _ => rfl) ?_
    exact v_zret (by decide) rfl h
  · replace h := h.2 hc
    refine ev_n 1 (fun _ => rfl) ?_
    refine ev_go rfl (w_gI rfl) ?_
    refine ev_n 1 (fun _ => rfl) ?_
    refine ev_if (c := (σ.1 1 6) = (2 : Int32)) rfl (fun _ => rfl) (fun hc => ?_) (fun hc => ?_)
    · replace h := h.1 hc
      refine ev_n 2 (fun _ => rfl) ?_
      refine ev_go rfl (w_gI rfl) ?_
      obtain ⟨v2, σ1, hf, h⟩ := h
      refine ev_go rfl (w_callV rfl rfl (kb_0 hb) (Nat.le_of_ble_eq_true rfl) hf) ?_
      refine ev_n 3 (fun _ => rfl) ?_
      refine ev_if (c := v2 = ((-1) : Int32)) rfl (fun _ => rfl) (fun hc => ?_) (fun hc => ?_)
      · replace h := h.1 hc
        refine ev_n 2 (fun _ => rfl) ?_
        obtain ⟨v4, σ3, hf, h⟩ := h
        refine ev_go rfl (w_callV rfl rfl rfl (Nat.le_of_ble_eq_true rfl) hf) ?_
        exact v_zret h.1 rfl h.2
      · replace h := h.2 hc
        refine ev_n 2 (fun _ => rfl) ?_
        refine ev_if (c := v2 = x2) rfl (fun _ => rfl) (fun hc => ?_) (fun hc => ?_)
        · replace h := h.1 hc
          refine ev_n 2 (fun _ => rfl) ?_
          obtain ⟨v6, σ5, hf, h⟩ := h
          refine ev_go rfl (w_callV rfl rfl rfl (Nat.le_of_ble_eq_true rfl) hf) ?_
          exact v_zret h.1 rfl h.2
        · replace h := h.2 hc
          refine ev_n 5 (fun _ => rfl) ?_
          refine ev_if (c := ((x3 >>> (v2 &&& 31)) &&& (1 : Int32)) = 0) rfl (fun _ => rfl) (fun hc => ?_) (fun hc => ?_)
          · replace h := h.1 hc
            refine ev_n 7 (fun _ => rfl) ?_
            obtain ⟨σ7, hf, h⟩ := h
            refine ev_go rfl (w_callV rfl rfl rfl (Nat.le_of_ble_eq_true rfl) hf) ?_
            refine ev_n 2 (fun _ => rfl) ?_
            exact h
          · replace h := h.2 hc
            refine ev_n 2 (fun _ => rfl) ?_
            obtain ⟨v9, σ8, hf, h⟩ := h
            refine ev_go rfl (w_callV rfl rfl rfl (Nat.le_of_ble_eq_true rfl) hf) ?_
            exact v_zret h.1 rfl h.2
    · replace h := h.2 hc
      refine ev_n 2 (fun _ => rfl) ?_
      refine ev_go rfl (w_pI rfl) ?_
      refine ev_n 1 (fun _ => rfl) ?_
      exact v_zret (by decide) rfl h
theorem m_X6_readListeners : ∀ pc o, (P_X6_readListeners KC).lookup pc = some o → Mon_ o := all_mon (a_X6_readListeners (l := launch0) (E := EC0) EC0_ok)
theorem z_X6_readListeners {b : Nat} {x2 : Int32} {σ : St_} {out : Out_} (h : Ev_ (P_X6_readListeners KC) 0 [some (.ref 1), some (.ref b), some (.int x2), none, none, none] [] σ out) : f_X6_readListeners KC [.ref 1, .ref b, .int x2] σ = some out := fn_eq m_X6_readListeners rfl h
set_option maxRecDepth 20000 in
theorem e_X6_readTelling_0 {p : Nat} {b : Nat} {x3 : Int32} {σ : St_} {out : Out_} (hp : isP p) (hb : isB b) (h : (∃ (v2 : Int32) (σ1 : St_), f_X8_take KC [.ref 1, .int (12 : Int32)] σ = some (some (.int v2), σ1) ∧ ((v2 = 0 → out = (some (.int (0 : Int32)), σ1)) ∧ (¬ (v2 = 0) → (∃ (v4 : Int32) (σ3 : St_), f_X8_takeChap KC [.ref 1, .ref b] σ1 = some (some (.int v4), σ3) ∧ ((v4 = 0 → out = (some (.int (0 : Int32)), σ3)) ∧ (¬ (v4 = 0) → (∃ (v6 : Int32) (σ5 : St_), f_X8_takeNumber KC [.ref 1, .int (1 : Int32), .int (4 : Int32)] σ3 = some (some (.int v6), σ5) ∧ ((v6 = 0 → out = (some (.int (0 : Int32)), σ5)) ∧ (¬ (v6 = 0) → (∃ (v8 : Int32) (σ7 : St_), f_X8_take KC [.ref 1, .int (13 : Int32)] σ5 = some (some (.int v8), σ7) ∧ ((v8 = 0 → out = (some (.int (0 : Int32)), σ7)) ∧ (¬ (v8 = 0) → (∃ (v10 : Int32) (σ9 : St_), f_X6_readListeners KC [.ref 1, .ref b, .int x3] σ7 = some (some (.int v10), σ9) ∧ ((v10 = 0 → out = (some (.int (0 : Int32)), σ9)) ∧ (¬ (v10 = 0) → (∃ (σ11 : St_), f_X6_add KC [.ref p, .int x3, .int (σ3.1 1 8), .int (σ5.1 1 8), .int (σ9.1 1 8)] σ9 = some (none, σ11) ∧ out = (some (.int (1 : Int32)), σ11)))))))))))))))))) : Ev_ (P_X6_readTelling KC) 0 [some (.ref p), some (.ref 1), some (.ref b), some (.int x3), none, none] [] σ out := by
  refine ev_n 2 (fun _ => rfl) ?_
  obtain ⟨v2, σ1, hf, h⟩ := h
  refine ev_go rfl (w_callV rfl rfl rfl (Nat.le_of_ble_eq_true rfl) hf) ?_
  refine ev_if (c := v2 = 0) rfl (fun _ => rfl) (fun hc => ?_) (fun hc => ?_)
  · replace h := h.1 hc
    refine ev_n 1 (fun _ => rfl) ?_
    exact v_zret (by decide) rfl h
  · replace h := h.2 hc
    refine ev_n 2 (fun _ => rfl) ?_
    obtain ⟨v4, σ3, hf, h⟩ := h
    refine ev_go rfl (w_callV rfl rfl rfl (Nat.le_of_ble_eq_true rfl) hf) ?_
    refine ev_if (c := v4 = 0) rfl (fun _ => rfl) (fun hc => ?_) (fun hc => ?_)
    · replace h := h.1 hc
      refine ev_n 1 (fun _ => rfl) ?_
      exact v_zret (by decide) rfl h
    · replace h := h.2 hc
      refine ev_n 1 (fun _ => rfl) ?_
      refine ev_go rfl (w_gI rfl) ?_
      refine ev_n 4 (fun _ => rfl) ?_
      obtain ⟨v6, σ5, hf, h⟩ := h
      refine ev_go rfl (w_callV rfl rfl rfl (Nat.le_of_ble_eq_true rfl) hf) ?_
      refine ev_if (c := v6 = 0) rfl (fun _ => rfl) (fun hc => ?_) (fun hc => ?_)
      · replace h := h.1 hc
        refine ev_n 1 (fun _ => rfl) ?_
        exact v_zret (by decide) rfl h
      · replace h := h.2 hc
        refine ev_n 1 (fun _ => rfl) ?_
        refine ev_go rfl (w_gI rfl) ?_
        refine ev_n 3 (fun _ => rfl) ?_
        obtain ⟨v8, σ7, hf, h⟩ := h
        refine ev_go rfl (w_callV rfl rfl rfl (Nat.le_of_ble_eq_true rfl) hf) ?_
        refine ev_if (c := v8 = 0) rfl (fun _ => rfl) (fun hc => ?_) (fun hc => ?_)
        · replace h := h.1 hc
          refine ev_n 1 (fun _ => rfl) ?_
          exact v_zret (by decide) rfl h
        · replace h := h.2 hc
          refine ev_n 3 (fun _ => rfl) ?_
          obtain ⟨v10, σ9, hf, h⟩ := h
          refine ev_go rfl (w_callS ⟨Nat.le_of_ble_eq_true rfl, Nat.le_of_ble_eq_true rfl⟩ hf) ?_
          refine ev_if (c := v10 = 0) rfl (fun _ => rfl) (fun hc => ?_) (fun hc => ?_)
          · replace h := h.1 hc
            refine ev_n 1 (fun _ => rfl) ?_
            exact v_zret (by decide) rfl h
          · replace h := h.2 hc
            refine ev_n 5 (fun _ => rfl) ?_
            refine ev_go rfl (w_gI rfl) ?_
            obtain ⟨σ11, hf, h⟩ := h
            refine ev_go rfl (w_callV rfl rfl (kp_0 hp) (Nat.le_of_ble_eq_true rfl) hf) ?_
            refine ev_n 1 (fun _ => rfl) ?_
            exact v_zret (by decide) rfl h
theorem m_X6_readTelling : ∀ pc o, (P_X6_readTelling KC).lookup pc = some o → Mon_ o := all_mon (a_X6_readTelling (l := launch0) (E := EC0) EC0_ok)
theorem z_X6_readTelling {p : Nat} {b : Nat} {x3 : Int32} {σ : St_} {out : Out_} (h : Ev_ (P_X6_readTelling KC) 0 [some (.ref p), some (.ref 1), some (.ref b), some (.int x3), none, none] [] σ out) : f_X6_readTelling KC [.ref p, .ref 1, .ref b, .int x3] σ = some out := fn_eq m_X6_readTelling rfl h
set_option maxRecDepth 20000 in
theorem e_X6_readAct_0 {p : Nat} {b : Nat} {σ : St_} {out : Out_} (hp : isP p) (hb : isB b) (h : (((σ.1 1 6) = (2 : Int32) → (∃ (v2 : Int32) (σ1 : St_), f_X0_readerNamed KC [.ref b, .int (σ.1 1 7)] σ = some (some (.int v2), σ1) ∧ ((v2 = ((-1) : Int32) → (∃ (v4 : Int32) (σ3 : St_), f_X8_fail KC [.ref 1, .int (3 : Int32)] σ1 = some (some (.int v4), σ3) ∧ (v4 = 0 ∨ v4 = 1) ∧ out = (some (.int v4), σ3))) ∧ (¬ (v2 = ((-1) : Int32)) → (((σ1.1 p 4) < (60 : Int32) → (∃ (σ5 : St_), f_X8_next KC [.ref 1] σ1 = some (none, σ5) ∧ (((σ5.1 1 6) = (11 : Int32) → (∃ (v7 : Int32) (σ6 : St_), f_X6_readReading KC [.ref p, .ref 1, .ref b, .int v2] σ5 = some (some (.int v7), σ6) ∧ (v7 = 0 ∨ v7 = 1) ∧ out = (some (.int v7), σ6))) ∧ (¬ ((σ5.1 1 6) = (11 : Int32)) → (∃ (v9 : Int32) (σ8 : St_), f_X6_readTelling KC [.ref p, .ref 1, .ref b, .int v2] σ5 = some (some (.int v9), σ8) ∧ (v9 = 0 ∨ v9 = 1) ∧ out = (some (.int v9), σ8)))))) ∧ (¬ ((σ1.1 p 4) < (60 : Int32)) → (∃ (v11 : Int32) (σ10 : St_), f_X8_fail KC [.ref 1, .int (4 : Int32)] σ1 = some (some (.int v11), σ10) ∧ (v11 = 0 ∨ v11 = 1) ∧ out = (some (.int v11), σ10)))))))) ∧ (¬ ((σ.1 1 6) = (2 : Int32)) → (∃ (v13 : Int32) (σ12 : St_), f_X8_fail KC [.ref 1, .int (1 : Int32)] σ = some (some (.int v13), σ12) ∧ (v13 = 0 ∨ v13 = 1) ∧ out = (some (.int v13), σ12))))) : Ev_ (P_X6_readAct KC) 0 [some (.ref p), some (.ref 1), some (.ref b), none] [] σ out := by
  refine ev_n 1 (fun _ => rfl) ?_
  refine ev_go rfl (w_gI rfl) ?_
  refine ev_n 1 (fun _ => rfl) ?_
  refine ev_if (c := (σ.1 1 6) = (2 : Int32)) rfl (fun _ => rfl) (fun hc => ?_) (fun hc => ?_)
  · replace h := h.1 hc
    refine ev_n 2 (fun _ => rfl) ?_
    refine ev_go rfl (w_gI rfl) ?_
    obtain ⟨v2, σ1, hf, h⟩ := h
    refine ev_go rfl (w_callV rfl rfl (kb_0 hb) (Nat.le_of_ble_eq_true rfl) hf) ?_
    refine ev_n 3 (fun _ => rfl) ?_
    refine ev_if (c := v2 = ((-1) : Int32)) rfl (fun _ => rfl) (fun hc => ?_) (fun hc => ?_)
    · replace h := h.1 hc
      refine ev_n 2 (fun _ => rfl) ?_
      obtain ⟨v4, σ3, hf, h⟩ := h
      refine ev_go rfl (w_callV rfl rfl rfl (Nat.le_of_ble_eq_true rfl) hf) ?_
      exact v_zret h.1 rfl h.2
    · replace h := h.2 hc
      refine ev_n 1 (fun _ => rfl) ?_
      refine ev_go rfl (w_gI (kp_0 hp)) ?_
      refine ev_n 1 (fun _ => rfl) ?_
      refine ev_if (c := (σ1.1 p 4) < (60 : Int32)) rfl (fun _ => rfl) (fun hc => ?_) (fun hc => ?_)
      · replace h := h.1 hc
        refine ev_n 1 (fun _ => rfl) ?_
        obtain ⟨σ5, hf, h⟩ := h
        refine ev_go rfl (w_callV rfl rfl rfl (Nat.le_of_ble_eq_true rfl) hf) ?_
        refine ev_n 1 (fun _ => rfl) ?_
        refine ev_go rfl (w_gI rfl) ?_
        refine ev_n 1 (fun _ => rfl) ?_
        refine ev_if (c := (σ5.1 1 6) = (11 : Int32)) rfl (fun _ => rfl) (fun hc => ?_) (fun hc => ?_)
        · replace h := h.1 hc
          refine ev_n 4 (fun _ => rfl) ?_
          obtain ⟨v7, σ6, hf, h⟩ := h
          refine ev_go rfl (w_callV rfl rfl (kp_0 hp) (Nat.le_of_ble_eq_true rfl) hf) ?_
          exact v_zret h.1 rfl h.2
        · replace h := h.2 hc
          refine ev_n 4 (fun _ => rfl) ?_
          obtain ⟨v9, σ8, hf, h⟩ := h
          refine ev_go rfl (w_callV rfl rfl (kp_0 hp) (Nat.le_of_ble_eq_true rfl) hf) ?_
          exact v_zret h.1 rfl h.2
      · replace h := h.2 hc
        refine ev_n 2 (fun _ => rfl) ?_
        obtain ⟨v11, σ10, hf, h⟩ := h
        refine ev_go rfl (w_callV rfl rfl rfl (Nat.le_of_ble_eq_true rfl) hf) ?_
        exact v_zret h.1 rfl h.2
  · replace h := h.2 hc
    refine ev_n 2 (fun _ => rfl) ?_
    obtain ⟨v13, σ12, hf, h⟩ := h
    refine ev_go rfl (w_callV rfl rfl rfl (Nat.le_of_ble_eq_true rfl) hf) ?_
    exact v_zret h.1 rfl h.2
theorem m_X6_readAct : ∀ pc o, (P_X6_readAct KC).lookup pc = some o → Mon_ o := all_mon (a_X6_readAct (l := launch0) (E := EC0) EC0_ok)
theorem z_X6_readAct {p : Nat} {b : Nat} {σ : St_} {out : Out_} (h : Ev_ (P_X6_readAct KC) 0 [some (.ref p), some (.ref 1), some (.ref b), none] [] σ out) : f_X6_readAct KC [.ref p, .ref 1, .ref b] σ = some out := fn_eq m_X6_readAct rfl h
set_option maxRecDepth 20000 in
theorem e_X6_readFrom_0 {p : Nat} {b : Nat} {σ : St_} {out : Out_} (hp : isP p) (hb : isB b) (h : (∃ (σ1 : St_), f_X6_clear KC [.ref p] σ = some (none, σ1) ∧ Ev_ (P_X6_readFrom KC) 6 [some (.ref p), some (.ref 1), some (.ref b), some (.int (0 : Int32))] [] σ1 out)) : Ev_ (P_X6_readFrom KC) 0 [some (.ref p), some (.ref 1), some (.ref b), none] [] σ out := by
  refine ev_n 1 (fun _ => rfl) ?_
  obtain ⟨σ1, hf, h⟩ := h
  refine ev_go rfl (w_callV rfl rfl (kp_0 hp) (Nat.le_of_ble_eq_true rfl) hf) ?_
  refine ev_n 2 (fun _ => rfl) ?_
  exact h
set_option maxRecDepth 20000 in
theorem e_X6_readFrom_6 {p : Nat} {b : Nat} {x3 : Int32} {σ : St_} {out : Out_} (hp : isP p) (hb : isB b) (h : (((60 : Int32) < x3 → out = (some (.int (1 : Int32)), σ)) ∧ (¬ ((60 : Int32) < x3) → (((σ.1 1 6) = 0 → out = (some (.int (1 : Int32)), σ)) ∧ (¬ ((σ.1 1 6) = 0) → (∃ (v2 : Int32) (σ1 : St_), f_X6_readAct KC [.ref p, .ref 1, .ref b] σ = some (some (.int v2), σ1) ∧ ((v2 = 0 → out = (some (.int (0 : Int32)), σ1)) ∧ (¬ (v2 = 0) → (∃ (v4 : Int32) (σ3 : St_), f_X8_take KC [.ref 1, .int (59 : Int32)] σ1 = some (some (.int v4), σ3) ∧ ((v4 = 0 → out = (some (.int (0 : Int32)), σ3)) ∧ (¬ (v4 = 0) → Ev_ (P_X6_readFrom KC) 6 [some (.ref p), some (.ref 1), some (.ref b), some (.int (x3 + 1))] [] σ3 out))))))))))) : Ev_ (P_X6_readFrom KC) 6 [some (.ref p), some (.ref 1), some (.ref b), some (.int x3)] [] σ out := by
  refine ev_n 2 (fun _ => rfl) ?_
  refine ev_if (c := (60 : Int32) < x3) rfl (fun _ => rfl) (fun hc => ?_) (fun hc => ?_)
  · replace h := h.1 hc
    refine ev_n 1 (fun _ => rfl) ?_
    exact v_zret (by decide) rfl h
  · replace h := h.2 hc
    refine ev_n 1 (fun _ => rfl) ?_
    refine ev_go rfl (w_gI rfl) ?_
    refine ev_if (c := (σ.1 1 6) = 0) rfl (fun _ => rfl) (fun hc => ?_) (fun hc => ?_)
    · replace h := h.1 hc
      refine ev_n 1 (fun _ => rfl) ?_
      exact v_zret (by decide) rfl h
    · replace h := h.2 hc
      refine ev_n 3 (fun _ => rfl) ?_
      obtain ⟨v2, σ1, hf, h⟩ := h
      refine ev_go rfl (w_callV rfl rfl (kp_0 hp) (Nat.le_of_ble_eq_true rfl) hf) ?_
      refine ev_if (c := v2 = 0) rfl (fun _ => rfl) (fun hc => ?_) (fun hc => ?_)
      · replace h := h.1 hc
        refine ev_n 1 (fun _ => rfl) ?_
        exact v_zret (by decide) rfl h
      · replace h := h.2 hc
        refine ev_n 2 (fun _ => rfl) ?_
        obtain ⟨v4, σ3, hf, h⟩ := h
        refine ev_go rfl (w_callV rfl rfl rfl (Nat.le_of_ble_eq_true rfl) hf) ?_
        refine ev_if (c := v4 = 0) rfl (fun _ => rfl) (fun hc => ?_) (fun hc => ?_)
        · replace h := h.1 hc
          refine ev_n 1 (fun _ => rfl) ?_
          exact v_zret (by decide) rfl h
        · replace h := h.2 hc
          refine ev_n 2 (fun _ => rfl) ?_
          exact h
theorem m_X6_readFrom : ∀ pc o, (P_X6_readFrom KC).lookup pc = some o → Mon_ o := all_mon (a_X6_readFrom (l := launch0) (E := EC0) EC0_ok)
theorem z_X6_readFrom {p : Nat} {b : Nat} {σ : St_} {out : Out_} (h : Ev_ (P_X6_readFrom KC) 0 [some (.ref p), some (.ref 1), some (.ref b), none] [] σ out) : f_X6_readFrom KC [.ref p, .ref 1, .ref b] σ = some out := fn_eq m_X6_readFrom rfl h
set_option maxRecDepth 20000 in
theorem e_X7_tryFrom_0 {x1 : Int32} {x2 : Int32} {x3 : Int32} {x4 : Int32} {r_X7_tryFrom : Fn_} {σ : St_} {out : Out_}  (h : ((x1 < (σ.1 129 5) → Ev_ (P_X7_tryFrom KC r_X7_tryFrom) 42 [some (.ref 129), some (.int x1), some (.int x2), some (.int x3), some (.int x4), some (.int (1 : Int32)), none] [] σ out) ∧ (¬ (x1 < (σ.1 129 5)) → ((x4 ≤ (σ.1 129 6) → out = (none, σ)) ∧ (¬ (x4 ≤ (σ.1 129 6)) → (∃ (σ1 : St_), f_X0_copyRow KC [.ref 132, .ref 130, .int ((sI_ σ 129 6 x4).1 129 5)] (sI_ σ 129 6 x4) = some (none, σ1) ∧ out = (none, σ1))))))) : Ev_ (P_X7_tryFrom KC r_X7_tryFrom) 0 [some (.ref 129), some (.int x1), some (.int x2), some (.int x3), some (.int x4), none, none] [] σ out := by
  refine ev_n 2 (fun _ => rfl) ?_
  refine ev_go rfl (w_gI rfl) ?_
  refine ev_if (c := x1 < (σ.1 129 5)) rfl (fun _ => rfl) (fun hc => ?_) (fun hc => ?_)
  · replace h := h.1 hc
    refine ev_n 2 (fun _ => rfl) ?_
    exact h
  · replace h := h.2 hc
    refine ev_n 2 (fun _ => rfl) ?_
    refine ev_go rfl (w_gI rfl) ?_
    refine ev_if (c := x4 ≤ (σ.1 129 6)) rfl (fun _ => rfl) (fun hc => ?_) (fun hc => ?_)
    · replace h := h.1 hc
      exact ev_ret rfl (fun _ => rfl) h
    · replace h := h.2 hc
      refine ev_n 2 (fun _ => rfl) ?_
      refine ev_go rfl (w_pI rfl) ?_
      refine ev_n 1 (fun _ => rfl) ?_
      refine ev_go rfl (w_gF rfl rfl) ?_
      refine ev_n 1 (fun _ => rfl) ?_
      refine ev_go rfl (w_gF rfl rfl) ?_
      refine ev_n 1 (fun _ => rfl) ?_
      refine ev_go rfl (w_gI rfl) ?_
      obtain ⟨σ1, hf, h⟩ := h
      refine ev_go rfl (w_callS ⟨Nat.le_of_ble_eq_true rfl, Nat.le_of_ble_eq_true rfl⟩ hf) ?_
      exact ev_ret rfl (fun _ => rfl) h
set_option maxRecDepth 20000 in
theorem e_X7_tryFrom_42 {x1 : Int32} {x2 : Int32} {x3 : Int32} {x4 : Int32} {r_X7_tryFrom : Fn_} {x5 : Int32} {σ : St_} {out : Out_}  (h : (((σ.1 129 5) ≤ x5 → out = (none, σ)) ∧ (¬ ((σ.1 129 5) ≤ x5) → ((((x2 >>> (x5 &&& 31)) &&& (1 : Int32)) = 0 → (∃ b1, σ.2.2 129 4 = some b1 ∧ isB b1 ∧ (vpin_ (x1 - (1 : Int32)) 7 = true) ∧ (vpin_ x5 7 = true) ∧ (∃ (v3 : Int32) (σ2 : St_), f_X0_partsTold KC [.ref b1, .int x3, .int (σ.1 132 (Int32.toNatClampNeg (x1 - (1 : Int32)))), .int (4 : Int32), .int (σ.1 131 (Int32.toNatClampNeg x5))] σ = some (some (.int v3), σ2) ∧ ((x1 ≤ (1 : Int32) → Ev_ (P_X7_tryFrom KC r_X7_tryFrom) 102 [some (.ref 129), some (.int x1), some (.int x2), some (.int x3), some (.int x4), some (.int x5), some (.int v3)] [] σ2 out) ∧ (¬ (x1 ≤ (1 : Int32)) → (∃ b4, σ2.2.2 129 4 = some b4 ∧ isB b4 ∧ (∃ (v6 : Int32) (σ5 : St_), f_X0_retold KC [.ref b4, .int v3] σ2 = some (some (.int v6), σ5) ∧ Ev_ (P_X7_tryFrom KC r_X7_tryFrom) 102 [some (.ref 129), some (.int x1), some (.int x2), some (.int x3), some (.int x4), some (.int x5), some (.int v6)] [] σ5 out))))))) ∧ (¬ (((x2 >>> (x5 &&& 31)) &&& (1 : Int32)) = 0) → Ev_ (P_X7_tryFrom KC r_X7_tryFrom) 42 [some (.ref 129), some (.int x1), some (.int x2), some (.int x3), some (.int x4), some (.int (x5 + 1)), none] [] σ out))))) : Ev_ (P_X7_tryFrom KC r_X7_tryFrom) 42 [some (.ref 129), some (.int x1), some (.int x2), some (.int x3), some (.int x4), some (.int x5), none] [] σ out := by
  refine ev_n 2 (fun _ => rfl) ?_
  refine ev_go rfl (w_gI rfl) ?_
  refine ev_if (c := (σ.1 129 5) ≤ x5) rfl (fun _ => rfl) (fun hc => ?_) (fun hc => ?_)
  · replace h := h.1 hc
    exact ev_ret rfl (fun _ => rfl) h
  · replace h := h.2 hc
    refine ev_n 5 (fun _ => rfl) ?_
    refine ev_if (c := ((x2 >>> (x5 &&& 31)) &&& (1 : Int32)) = 0) rfl (fun _ => rfl) (fun hc => ?_) (fun hc => ?_)
    · replace h := h.1 hc
      refine ev_n 1 (fun _ => rfl) ?_
      obtain ⟨b1, eb1, hb1, h⟩ := h
      refine ev_go rfl (w_gR rfl eb1) ?_
      refine ev_n 2 (fun _ => rfl) ?_
      refine ev_go rfl (w_gF rfl rfl) ?_
      refine ev_n 3 (fun _ => rfl) ?_
      obtain ⟨h0, h⟩ := h
      refine ev_go rfl (w_iald rfl h0) ?_
      refine ev_n 2 (fun _ => rfl) ?_
      refine ev_go rfl (w_gF rfl rfl) ?_
      refine ev_n 1 (fun _ => rfl) ?_
      obtain ⟨h0, h⟩ := h
      refine ev_go rfl (w_iald rfl h0) ?_
      obtain ⟨v3, σ2, hf, h⟩ := h
      refine ev_go rfl (w_callV rfl rfl (kb_0 hb1) (Nat.le_of_ble_eq_true rfl) hf) ?_
      refine ev_n 3 (fun _ => rfl) ?_
      refine ev_if (c := x1 ≤ (1 : Int32)) rfl (fun _ => rfl) (fun hc => ?_) (fun hc => ?_)
      · replace h := h.1 hc
        exact h
      · replace h := h.2 hc
        refine ev_n 1 (fun _ => rfl) ?_
        obtain ⟨b4, eb4, hb4, h⟩ := h
        refine ev_go rfl (w_gR rfl eb4) ?_
        refine ev_n 1 (fun _ => rfl) ?_
        obtain ⟨v6, σ5, hf, h⟩ := h
        refine ev_go rfl (w_callV rfl rfl (kb_0 hb4) (Nat.le_of_ble_eq_true rfl) hf) ?_
        refine ev_n 1 (fun _ => rfl) ?_
        exact h
    · replace h := h.2 hc
      refine ev_n 2 (fun _ => rfl) ?_
      exact h
set_option maxRecDepth 20000 in
theorem e_X7_tryFrom_102 {x1 : Int32} {x2 : Int32} {x3 : Int32} {x4 : Int32} {r_X7_tryFrom : Fn_} {x5 : Int32} {x6 : Int32} {σ : St_} {out : Out_}  (h : (vpin_ x5 7 = true) ∧ (vpin_ x1 7 = true) ∧ (∃ (σ1 : St_), r_X7_tryFrom [.ref 129, .int (x1 + (1 : Int32)), .int (x2 ||| ((1 : Int32) <<< (x5 &&& 31))), .int x6, .int (x4 + x6)] (sI_ σ 132 (Int32.toNatClampNeg x1) (σ.1 131 (Int32.toNatClampNeg x5))) = some (none, σ1) ∧ Ev_ (P_X7_tryFrom KC r_X7_tryFrom) 42 [some (.ref 129), some (.int x1), some (.int x2), some (.int x3), some (.int x4), some (.int (x5 + 1)), none] [] σ1 out)) : Ev_ (P_X7_tryFrom KC r_X7_tryFrom) 102 [some (.ref 129), some (.int x1), some (.int x2), some (.int x3), some (.int x4), some (.int x5), some (.int x6)] [] σ out := by
  refine ev_n 1 (fun _ => rfl) ?_
  refine ev_go rfl (w_gF rfl rfl) ?_
  refine ev_n 2 (fun _ => rfl) ?_
  refine ev_go rfl (w_gF rfl rfl) ?_
  refine ev_n 1 (fun _ => rfl) ?_
  obtain ⟨h0, h⟩ := h
  refine ev_go rfl (w_iald rfl h0) ?_
  obtain ⟨h0, h⟩ := h
  refine ev_go rfl (w_iast rfl h0) ?_
  refine ev_n 8 (fun _ => rfl) ?_
  refine ev_n 5 (fun _ => rfl) ?_
  obtain ⟨σ1, hf, h⟩ := h
  refine ev_go rfl (w_callV rfl rfl rfl (Nat.le_of_ble_eq_true rfl) hf) ?_
  refine ev_n 2 (fun _ => rfl) ?_
  exact h
theorem m_X7_tryFrom (d : Nat) : ∀ pc o, (P_X7_tryFrom KC (f_X7_tryFrom KC d)).lookup pc = some o → Mon_ o := all_mon (a_X7_tryFrom (l := launch0) (E := EC0) EC0_ok (t_X7_tryFrom EC0_ok d))
theorem z_X7_tryFrom {x1 : Int32} {x2 : Int32} {x3 : Int32} {x4 : Int32} {σ : St_} {out : Out_} {d : Nat} (h : Ev_ (P_X7_tryFrom KC (f_X7_tryFrom KC d)) 0 [some (.ref 129), some (.int x1), some (.int x2), some (.int x3), some (.int x4), none, none] [] σ out) : f_X7_tryFrom KC (d + 1) [.ref 129, .int x1, .int x2, .int x3, .int x4] σ = some out := show fn_ (P_X7_tryFrom KC (f_X7_tryFrom KC d)) 7 [.ref 129, .int x1, .int x2, .int x3, .int x4] σ = some out from fn_eq (m_X7_tryFrom d) rfl h
set_option maxRecDepth 20000 in
theorem e_X7_search_0 {b : Nat} {x3 : Int32} {σ : St_} {out : Out_} (hb : isB b) (h : Ev_ (P_X7_search KC) 23 [some (.ref 129), some (.ref b), some (.ref 1), some (.int x3), some (.int (0 : Int32))] [] (sI_ (sI_ (sI_ (sR_ σ 129 4 (some b)) 129 5 x3) 129 1 x3) 129 6 ((-1) : Int32)) out) : Ev_ (P_X7_search KC) 0 [some (.ref 129), some (.ref b), some (.ref 1), some (.int x3), none] [] σ out := by
  refine ev_n 2 (fun _ => rfl) ?_
  refine ev_go rfl (w_pR rfl) ?_
  refine ev_n 2 (fun _ => rfl) ?_
  refine ev_go rfl (w_pI rfl) ?_
  refine ev_n 2 (fun _ => rfl) ?_
  refine ev_go rfl (w_pI rfl) ?_
  refine ev_n 2 (fun _ => rfl) ?_
  refine ev_go rfl (w_pI rfl) ?_
  refine ev_n 2 (fun _ => rfl) ?_
  exact h
set_option maxRecDepth 20000 in
theorem e_X7_search_23 {b : Nat} {x3 : Int32} {x4 : Int32} {σ : St_} {out : Out_} (hb : isB b) (h : (((σ.1 129 5) ≤ x4 → (vpin_ (0 : Int32) 7 = true) ∧ (vpin_ (0 : Int32) 7 = true) ∧ (∃ (σ1 : St_), f_X7_tryFrom KC 80 [.ref 129, .int (1 : Int32), .int (1 : Int32), .int (1000000 : Int32), .int (1000000 : Int32)] (sI_ σ 132 (Int32.toNatClampNeg (0 : Int32)) (σ.1 131 (Int32.toNatClampNeg (0 : Int32)))) = some (none, σ1) ∧ out = (some (.int (σ1.1 129 6)), σ1))) ∧ (¬ ((σ.1 129 5) ≤ x4) → (∃ (v3 : Int32) (σ2 : St_), f_X8_byteAt KC [.ref 1, .int x4] σ = some (some (.int v3), σ2) ∧ (vpin_ x4 7 = true) ∧ Ev_ (P_X7_search KC) 23 [some (.ref 129), some (.ref b), some (.ref 1), some (.int x3), some (.int (x4 + 1))] [] (sI_ σ2 131 (Int32.toNatClampNeg x4) v3) out)))) : Ev_ (P_X7_search KC) 23 [some (.ref 129), some (.ref b), some (.ref 1), some (.int x3), some (.int x4)] [] σ out := by
  refine ev_n 2 (fun _ => rfl) ?_
  refine ev_go rfl (w_gI rfl) ?_
  refine ev_if (c := (σ.1 129 5) ≤ x4) rfl (fun _ => rfl) (fun hc => ?_) (fun hc => ?_)
  · replace h := h.1 hc
    refine ev_n 1 (fun _ => rfl) ?_
    refine ev_go rfl (w_gF rfl rfl) ?_
    refine ev_n 2 (fun _ => rfl) ?_
    refine ev_go rfl (w_gF rfl rfl) ?_
    refine ev_n 1 (fun _ => rfl) ?_
    obtain ⟨h0, h⟩ := h
    refine ev_go rfl (w_iald rfl h0) ?_
    obtain ⟨h0, h⟩ := h
    refine ev_go rfl (w_iast rfl h0) ?_
    refine ev_n 5 (fun _ => rfl) ?_
    obtain ⟨σ1, hf, h⟩ := h
    refine ev_go rfl (w_callV rfl rfl rfl (Nat.le_of_ble_eq_true rfl) hf) ?_
    refine ev_n 1 (fun _ => rfl) ?_
    refine ev_go rfl (w_gI rfl) ?_
    exact ev_ret rfl (fun _ => rfl) h
  · replace h := h.2 hc
    refine ev_n 1 (fun _ => rfl) ?_
    refine ev_go rfl (w_gF rfl rfl) ?_
    refine ev_n 3 (fun _ => rfl) ?_
    obtain ⟨v3, σ2, hf, h⟩ := h
    refine ev_go rfl (w_callV rfl rfl rfl (Nat.le_of_ble_eq_true rfl) hf) ?_
    obtain ⟨h0, h⟩ := h
    refine ev_go rfl (w_iast rfl h0) ?_
    refine ev_n 2 (fun _ => rfl) ?_
    exact h
theorem m_X7_search : ∀ pc o, (P_X7_search KC).lookup pc = some o → Mon_ o := all_mon (a_X7_search (l := launch0) (E := EC0) EC0_ok)
theorem z_X7_search {b : Nat} {x3 : Int32} {σ : St_} {out : Out_} (h : Ev_ (P_X7_search KC) 0 [some (.ref 129), some (.ref b), some (.ref 1), some (.int x3), none] [] σ out) : f_X7_search KC [.ref 129, .ref b, .ref 1, .int x3] σ = some out := fn_eq m_X7_search rfl h
set_option maxRecDepth 20000 in
theorem e_X8_hasRoom_0 {x1 : Int32} {σ : St_} {out : Out_}  (h : (((1040 : Int32) < ((σ.1 1 2) + x1) → out = (some (.int (0 : Int32)), σ)) ∧ (¬ ((1040 : Int32) < ((σ.1 1 2) + x1)) → out = (some (.int (1 : Int32)), σ)))) : Ev_ (P_X8_hasRoom KC) 0 [some (.ref 1), some (.int x1)] [] σ out := by
  refine ev_n 1 (fun _ => rfl) ?_
  refine ev_go rfl (w_gI rfl) ?_
  refine ev_n 3 (fun _ => rfl) ?_
  refine ev_if (c := (1040 : Int32) < ((σ.1 1 2) + x1)) rfl (fun _ => rfl) (fun hc => ?_) (fun hc => ?_)
  · replace h := h.1 hc
    refine ev_n 1 (fun _ => rfl) ?_
    exact v_zret (by decide) rfl h
  · replace h := h.2 hc
    refine ev_n 2 (fun _ => rfl) ?_
    exact v_zret (by decide) rfl h
theorem m_X8_hasRoom : ∀ pc o, (P_X8_hasRoom KC).lookup pc = some o → Mon_ o := all_mon (a_X8_hasRoom (l := launch0) (E := EC0) EC0_ok)
theorem z_X8_hasRoom {x1 : Int32} {σ : St_} {out : Out_} (h : Ev_ (P_X8_hasRoom KC) 0 [some (.ref 1), some (.int x1)] [] σ out) : f_X8_hasRoom KC [.ref 1, .int x1] σ = some out := fn_eq m_X8_hasRoom rfl h
set_option maxRecDepth 20000 in
theorem e_X8_append_0 {x1 : Int32} {σ : St_} {out : Out_}  (h : Ev_ (P_X8_append KC) 3 [some (.ref 1), some (.int x1), some (.int (24 : Int32))] [] σ out) : Ev_ (P_X8_append KC) 0 [some (.ref 1), some (.int x1), none] [] σ out := by
  refine ev_n 2 (fun _ => rfl) ?_
  exact h
set_option maxRecDepth 20000 in
theorem e_X8_append_3 {x1 : Int32} {x2 : Int32} {σ : St_} {out : Out_}  (h : ((x2 < 0 → out = (none, σ)) ∧ (¬ (x2 < 0) → (((1040 : Int32) ≤ (σ.1 1 2) → out = (none, σ)) ∧ (¬ ((1040 : Int32) ≤ (σ.1 1 2)) → (vpin_ (σ.1 1 2) 1040 = true) ∧ Ev_ (P_X8_append KC) 3 [some (.ref 1), some (.int x1), some (.int (x2 + (-8)))] [] (sI_ (sI_ σ 2 (Int32.toNatClampNeg (σ.1 1 2)) (vp_nar .byte (Int32.toInt8 (Int32.toUInt32 x1 >>> (Int32.toUInt32 x2 &&& Int32.toUInt32 31)).toInt32).toInt32)) 1 2 (((sI_ σ 2 (Int32.toNatClampNeg (σ.1 1 2)) (vp_nar .byte (Int32.toInt8 (Int32.toUInt32 x1 >>> (Int32.toUInt32 x2 &&& Int32.toUInt32 31)).toInt32).toInt32)).1 1 2) + (1 : Int32))) out))))) : Ev_ (P_X8_append KC) 3 [some (.ref 1), some (.int x1), some (.int x2)] [] σ out := by
  refine ev_n 1 (fun _ => rfl) ?_
  refine ev_if (c := x2 < 0) rfl (fun _ => rfl) (fun hc => ?_) (fun hc => ?_)
  · replace h := h.1 hc
    exact ev_ret rfl (fun _ => rfl) h
  · replace h := h.2 hc
    refine ev_n 1 (fun _ => rfl) ?_
    refine ev_go rfl (w_gI rfl) ?_
    refine ev_n 1 (fun _ => rfl) ?_
    refine ev_if (c := (1040 : Int32) ≤ (σ.1 1 2)) rfl (fun _ => rfl) (fun hc => ?_) (fun hc => ?_)
    · replace h := h.1 hc
      exact ev_ret rfl (fun _ => rfl) h
    · replace h := h.2 hc
      refine ev_n 1 (fun _ => rfl) ?_
      refine ev_go rfl (w_gF rfl rfl) ?_
      refine ev_n 1 (fun _ => rfl) ?_
      refine ev_go rfl (w_gI rfl) ?_
      refine ev_n 4 (fun _ => rfl) ?_
      obtain ⟨h0, h⟩ := h
      refine ev_go rfl (w_bast rfl h0) ?_
      refine ev_n 2 (fun _ => rfl) ?_
      refine ev_go rfl (w_gI rfl) ?_
      refine ev_n 2 (fun _ => rfl) ?_
      refine ev_go rfl (w_pI rfl) ?_
      refine ev_n 2 (fun _ => rfl) ?_
      exact h
theorem m_X8_append : ∀ pc o, (P_X8_append KC).lookup pc = some o → Mon_ o := all_mon (a_X8_append (l := launch0) (E := EC0) EC0_ok)
theorem z_X8_append {x1 : Int32} {σ : St_} {out : Out_} (h : Ev_ (P_X8_append KC) 0 [some (.ref 1), some (.int x1), none] [] σ out) : f_X8_append KC [.ref 1, .int x1] σ = some out := fn_eq m_X8_append rfl h
set_option maxRecDepth 20000 in
theorem e_X8_areUnlike_0 {x1 : Int32} {x2 : Int32} {x3 : Int32} {σ : St_} {out : Out_}  (h : ((x1 < (2 : Int32) → out = (some (.int (0 : Int32)), σ)) ∧ (¬ (x1 < (2 : Int32)) → ((x1 ≤ x2 → Ev_ (P_X8_areUnlike KC) 18 [some (.ref 1), some (.int x1), some (.int x2), some (.int x3), some (.int (0 : Int32)), some (.int (0 : Int32)), none] [] σ out) ∧ (¬ (x1 ≤ x2) → out = (some (.int (0 : Int32)), σ)))))) : Ev_ (P_X8_areUnlike KC) 0 [some (.ref 1), some (.int x1), some (.int x2), some (.int x3), none, none, none] [] σ out := by
  refine ev_n 2 (fun _ => rfl) ?_
  refine ev_if (c := x1 < (2 : Int32)) rfl (fun _ => rfl) (fun hc => ?_) (fun hc => ?_)
  · replace h := h.1 hc
    refine ev_n 1 (fun _ => rfl) ?_
    exact v_zret (by decide) rfl h
  · replace h := h.2 hc
    refine ev_n 2 (fun _ => rfl) ?_
    refine ev_if (c := x1 ≤ x2) rfl (fun _ => rfl) (fun hc => ?_) (fun hc => ?_)
    · replace h := h.1 hc
      refine ev_n 4 (fun _ => rfl) ?_
      exact h
    · replace h := h.2 hc
      refine ev_n 1 (fun _ => rfl) ?_
      exact v_zret (by decide) rfl h
set_option maxRecDepth 20000 in
theorem e_X8_areUnlike_18 {x1 : Int32} {x2 : Int32} {x3 : Int32} {x4 : Int32} {x5 : Int32} {σ : St_} {out : Out_}  (h : ((x1 ≤ x5 → out = (some (.int (1 : Int32)), σ)) ∧ (¬ (x1 ≤ x5) → (∃ (v2 : Int32) (σ1 : St_), f_X8_byteAt KC [.ref 1, .int x5] σ = some (some (.int v2), σ1) ∧ ((x3 ≤ v2 → out = (some (.int (0 : Int32)), σ1)) ∧ (¬ (x3 ≤ v2) → ((((x4 >>> (v2 &&& 31)) &&& (1 : Int32)) = 0 → Ev_ (P_X8_areUnlike KC) 18 [some (.ref 1), some (.int x1), some (.int x2), some (.int x3), some (.int (x4 ||| ((1 : Int32) <<< (v2 &&& 31)))), some (.int (x5 + 1)), none] [] σ1 out) ∧ (¬ (((x4 >>> (v2 &&& 31)) &&& (1 : Int32)) = 0) → out = (some (.int (0 : Int32)), σ1))))))))) : Ev_ (P_X8_areUnlike KC) 18 [some (.ref 1), some (.int x1), some (.int x2), some (.int x3), some (.int x4), some (.int x5), none] [] σ out := by
  refine ev_n 2 (fun _ => rfl) ?_
  refine ev_if (c := x1 ≤ x5) rfl (fun _ => rfl) (fun hc => ?_) (fun hc => ?_)
  · replace h := h.1 hc
    refine ev_n 1 (fun _ => rfl) ?_
    exact v_zret (by decide) rfl h
  · replace h := h.2 hc
    refine ev_n 2 (fun _ => rfl) ?_
    obtain ⟨v2, σ1, hf, h⟩ := h
    refine ev_go rfl (w_callV rfl rfl rfl (Nat.le_of_ble_eq_true rfl) hf) ?_
    refine ev_n 3 (fun _ => rfl) ?_
    refine ev_if (c := x3 ≤ v2) rfl (fun _ => rfl) (fun hc => ?_) (fun hc => ?_)
    · replace h := h.1 hc
      refine ev_n 1 (fun _ => rfl) ?_
      exact v_zret (by decide) rfl h
    · replace h := h.2 hc
      refine ev_n 5 (fun _ => rfl) ?_
      refine ev_if (c := ((x4 >>> (v2 &&& 31)) &&& (1 : Int32)) = 0) rfl (fun _ => rfl) (fun hc => ?_) (fun hc => ?_)
      · replace h := h.1 hc
        refine ev_n 8 (fun _ => rfl) ?_
        exact h
      · replace h := h.2 hc
        refine ev_n 1 (fun _ => rfl) ?_
        exact v_zret (by decide) rfl h
theorem m_X8_areUnlike : ∀ pc o, (P_X8_areUnlike KC).lookup pc = some o → Mon_ o := all_mon (a_X8_areUnlike (l := launch0) (E := EC0) EC0_ok)
theorem z_X8_areUnlike {x1 : Int32} {x2 : Int32} {x3 : Int32} {σ : St_} {out : Out_} (h : Ev_ (P_X8_areUnlike KC) 0 [some (.ref 1), some (.int x1), some (.int x2), some (.int x3), none, none, none] [] σ out) : f_X8_areUnlike KC [.ref 1, .int x1, .int x2, .int x3] σ = some out := fn_eq m_X8_areUnlike rfl h
set_option maxRecDepth 20000 in
theorem e_X8_start_0 {x1 : Int32} {σ : St_} {out : Out_}  (h : (∃ (σ1 : St_), f_X8_next KC [.ref 1] (sI_ (sI_ (sI_ (sI_ σ 1 3 x1) 1 4 (0 : Int32)) 1 9 (0 : Int32)) 1 10 (0 : Int32)) = some (none, σ1) ∧ out = (none, σ1))) : Ev_ (P_X8_start KC) 0 [some (.ref 1), some (.int x1)] [] σ out := by
  refine ev_n 2 (fun _ => rfl) ?_
  refine ev_go rfl (w_pI rfl) ?_
  refine ev_n 2 (fun _ => rfl) ?_
  refine ev_go rfl (w_pI rfl) ?_
  refine ev_n 2 (fun _ => rfl) ?_
  refine ev_go rfl (w_pI rfl) ?_
  refine ev_n 2 (fun _ => rfl) ?_
  refine ev_go rfl (w_pI rfl) ?_
  refine ev_n 1 (fun _ => rfl) ?_
  obtain ⟨σ1, hf, h⟩ := h
  refine ev_go rfl (w_callV rfl rfl rfl (Nat.le_of_ble_eq_true rfl) hf) ?_
  exact ev_ret rfl (fun _ => rfl) h
theorem m_X8_start : ∀ pc o, (P_X8_start KC).lookup pc = some o → Mon_ o := all_mon (a_X8_start (l := launch0) (E := EC0) EC0_ok)
theorem z_X8_start {x1 : Int32} {σ : St_} {out : Out_} (h : Ev_ (P_X8_start KC) 0 [some (.ref 1), some (.int x1)] [] σ out) : f_X8_start KC [.ref 1, .int x1] σ = some out := fn_eq m_X8_start rfl h
set_option maxRecDepth 20000 in
theorem e_X8_isComparison_0 {x0 : Int32} {σ : St_} {out : Out_}  (h : ((x0 = (60 : Int32) → out = (some (.int (1 : Int32)), σ)) ∧ (¬ (x0 = (60 : Int32)) → ((x0 = (61 : Int32) → out = (some (.int (1 : Int32)), σ)) ∧ (¬ (x0 = (61 : Int32)) → ((x0 = (62 : Int32) → out = (some (.int (1 : Int32)), σ)) ∧ (¬ (x0 = (62 : Int32)) → out = (some (.int (0 : Int32)), σ)))))))) : Ev_ (P_X8_isComparison KC) 0 [some (.int x0)] [] σ out := by
  refine ev_n 2 (fun _ => rfl) ?_
  refine ev_if (c := x0 = (60 : Int32)) rfl (fun _ => rfl) (fun hc => ?_) (fun hc => ?_)
  · replace h := h.1 hc
    refine ev_n 2 (fun _ => rfl) ?_
    exact v_zret (by decide) rfl h
  · replace h := h.2 hc
    refine ev_n 2 (fun _ => rfl) ?_
    refine ev_if (c := x0 = (61 : Int32)) rfl (fun _ => rfl) (fun hc => ?_) (fun hc => ?_)
    · replace h := h.1 hc
      refine ev_n 2 (fun _ => rfl) ?_
      exact v_zret (by decide) rfl h
    · replace h := h.2 hc
      refine ev_n 2 (fun _ => rfl) ?_
      refine ev_if (c := x0 = (62 : Int32)) rfl (fun _ => rfl) (fun hc => ?_) (fun hc => ?_)
      · replace h := h.1 hc
        refine ev_n 2 (fun _ => rfl) ?_
        exact v_zret (by decide) rfl h
      · replace h := h.2 hc
        refine ev_n 1 (fun _ => rfl) ?_
        exact v_zret (by decide) rfl h
theorem m_X8_isComparison : ∀ pc o, (P_X8_isComparison KC).lookup pc = some o → Mon_ o := all_mon (a_X8_isComparison (l := launch0) (E := EC0) EC0_ok)
theorem z_X8_isComparison {x0 : Int32} {σ : St_} {out : Out_} (h : Ev_ (P_X8_isComparison KC) 0 [some (.int x0)] [] σ out) : f_X8_isComparison KC [.int x0] σ = some out := fn_eq m_X8_isComparison rfl h
set_option maxRecDepth 20000 in
theorem e_X8_faultAnswer_0  {σ : St_} {out : Out_}  (h : out = (some (.int (((-1) : Int32) - (σ.1 1 10))), σ)) : Ev_ (P_X8_faultAnswer KC) 0 [some (.ref 1)] [] σ out := by
  refine ev_n 2 (fun _ => rfl) ?_
  refine ev_go rfl (w_gI rfl) ?_
  refine ev_n 1 (fun _ => rfl) ?_
  exact ev_ret rfl (fun _ => rfl) h
theorem m_X8_faultAnswer : ∀ pc o, (P_X8_faultAnswer KC).lookup pc = some o → Mon_ o := all_mon (a_X8_faultAnswer (l := launch0) (E := EC0) EC0_ok)
theorem z_X8_faultAnswer  {σ : St_} {out : Out_} (h : Ev_ (P_X8_faultAnswer KC) 0 [some (.ref 1)] [] σ out) : f_X8_faultAnswer KC [.ref 1] σ = some out := fn_eq m_X8_faultAnswer rfl h
set_option maxRecDepth 20000 in
theorem e_X9_clear_0 {s : Nat} {σ : St_} {out : Out_} (hs : isS s) (h : out = (none, (sI_ (sI_ σ s 4 (0 : Int32)) s 5 (0 : Int32)))) : Ev_ (P_X9_clear KC) 0 [some (.ref s)] [] σ out := by
  refine ev_n 2 (fun _ => rfl) ?_
  refine ev_go rfl (w_pI (ks_0 hs)) ?_
  refine ev_n 2 (fun _ => rfl) ?_
  refine ev_go rfl (w_pI (ks_0 hs)) ?_
  exact ev_ret rfl (fun _ => rfl) h
theorem m_X9_clear : ∀ pc o, (P_X9_clear KC).lookup pc = some o → Mon_ o := all_mon (a_X9_clear (l := launch0) (E := EC0) EC0_ok)
theorem z_X9_clear {s : Nat} {σ : St_} {out : Out_} (h : Ev_ (P_X9_clear KC) 0 [some (.ref s)] [] σ out) : f_X9_clear KC [.ref s] σ = some out := fn_eq m_X9_clear rfl h
set_option maxRecDepth 20000 in
theorem e_X9_copyFrom_0 {s : Nat} {s1 : Nat} {σ : St_} {out : Out_} (hs : isS s) (hs1 : isS s1) (h : (∃ (σ1 : St_), f_X0_copyRow KC [.ref (s1 + 1), .ref (s + 1), .int (σ.1 s1 4)] σ = some (none, σ1) ∧ (∃ (σ2 : St_), f_X0_copyRow KC [.ref (s1 + 2), .ref (s + 2), .int (σ1.1 s1 4)] σ1 = some (none, σ2) ∧ (∃ (σ3 : St_), f_X0_copyRow KC [.ref (s1 + 3), .ref (s + 3), .int (σ2.1 s1 4)] σ2 = some (none, σ3) ∧ (∃ (σ4 : St_), f_X0_copyRow KC [.ref (s1 + 4), .ref (s + 4), .int (σ3.1 s1 4)] σ3 = some (none, σ4) ∧ out = (none, (sI_ (sI_ σ4 s 4 (σ4.1 s1 4)) s 5 ((sI_ σ4 s 4 (σ4.1 s1 4)).1 s1 5)))))))) : Ev_ (P_X9_copyFrom KC) 0 [some (.ref s), some (.ref s1)] [] σ out := by
  refine ev_n 1 (fun _ => rfl) ?_
  refine ev_go rfl (w_gF (ks_0 hs1) (ks_r0 hs1)) ?_
  refine ev_n 1 (fun _ => rfl) ?_
  refine ev_go rfl (w_gF (ks_0 hs) (ks_r0 hs)) ?_
  refine ev_n 1 (fun _ => rfl) ?_
  refine ev_go rfl (w_gI (ks_0 hs1)) ?_
  obtain ⟨σ1, hf, h⟩ := h
  refine ev_go rfl (w_callS ⟨Nat.le_of_ble_eq_true rfl, Nat.le_of_ble_eq_true rfl⟩ hf) ?_
  refine ev_n 1 (fun _ => rfl) ?_
  refine ev_go rfl (w_gF (ks_0 hs1) (ks_r1 hs1)) ?_
  refine ev_n 1 (fun _ => rfl) ?_
  refine ev_go rfl (w_gF (ks_0 hs) (ks_r1 hs)) ?_
  refine ev_n 1 (fun _ => rfl) ?_
  refine ev_go rfl (w_gI (ks_0 hs1)) ?_
  obtain ⟨σ2, hf, h⟩ := h
  refine ev_go rfl (w_callS ⟨Nat.le_of_ble_eq_true rfl, Nat.le_of_ble_eq_true rfl⟩ hf) ?_
  refine ev_n 1 (fun _ => rfl) ?_
  refine ev_go rfl (w_gF (ks_0 hs1) (ks_r2 hs1)) ?_
  refine ev_n 1 (fun _ => rfl) ?_
  refine ev_go rfl (w_gF (ks_0 hs) (ks_r2 hs)) ?_
  refine ev_n 1 (fun _ => rfl) ?_
  refine ev_go rfl (w_gI (ks_0 hs1)) ?_
  obtain ⟨σ3, hf, h⟩ := h
  refine ev_go rfl (w_callS ⟨Nat.le_of_ble_eq_true rfl, Nat.le_of_ble_eq_true rfl⟩ hf) ?_
  refine ev_n 1 (fun _ => rfl) ?_
  refine ev_go rfl (w_gF (ks_0 hs1) (ks_r3 hs1)) ?_
  refine ev_n 1 (fun _ => rfl) ?_
  refine ev_go rfl (w_gF (ks_0 hs) (ks_r3 hs)) ?_
  refine ev_n 1 (fun _ => rfl) ?_
  refine ev_go rfl (w_gI (ks_0 hs1)) ?_
  obtain ⟨σ4, hf, h⟩ := h
  refine ev_go rfl (w_callS ⟨Nat.le_of_ble_eq_true rfl, Nat.le_of_ble_eq_true rfl⟩ hf) ?_
  refine ev_n 2 (fun _ => rfl) ?_
  refine ev_go rfl (w_gI (ks_0 hs1)) ?_
  refine ev_go rfl (w_pI (ks_0 hs)) ?_
  refine ev_n 2 (fun _ => rfl) ?_
  refine ev_go rfl (w_gI (ks_0 hs1)) ?_
  refine ev_go rfl (w_pI (ks_0 hs)) ?_
  exact ev_ret rfl (fun _ => rfl) h
theorem m_X9_copyFrom : ∀ pc o, (P_X9_copyFrom KC).lookup pc = some o → Mon_ o := all_mon (a_X9_copyFrom (l := launch0) (E := EC0) EC0_ok)
theorem z_X9_copyFrom {s : Nat} {s1 : Nat} {σ : St_} {out : Out_} (h : Ev_ (P_X9_copyFrom KC) 0 [some (.ref s), some (.ref s1)] [] σ out) : f_X9_copyFrom KC [.ref s, .ref s1] σ = some out := fn_eq m_X9_copyFrom rfl h
set_option maxRecDepth 20000 in
theorem e_X9_add_0 {s : Nat} {x1 : Int32} {x2 : Int32} {x3 : Int32} {x4 : Int32} {σ : St_} {out : Out_} (hs : isS s) (h : (((40 : Int32) ≤ (σ.1 s 4) → out = (none, σ)) ∧ (¬ ((40 : Int32) ≤ (σ.1 s 4)) → (vpin_ (σ.1 s 4) 40 = true) ∧ (vpin_ ((sI_ σ (s + 1) (Int32.toNatClampNeg (σ.1 s 4)) x1).1 s 4) 40 = true) ∧ (vpin_ ((sI_ (sI_ σ (s + 1) (Int32.toNatClampNeg (σ.1 s 4)) x1) (s + 2) (Int32.toNatClampNeg ((sI_ σ (s + 1) (Int32.toNatClampNeg (σ.1 s 4)) x1).1 s 4)) x2).1 s 4) 40 = true) ∧ (vpin_ ((sI_ (sI_ (sI_ σ (s + 1) (Int32.toNatClampNeg (σ.1 s 4)) x1) (s + 2) (Int32.toNatClampNeg ((sI_ σ (s + 1) (Int32.toNatClampNeg (σ.1 s 4)) x1).1 s 4)) x2) (s + 3) (Int32.toNatClampNeg ((sI_ (sI_ σ (s + 1) (Int32.toNatClampNeg (σ.1 s 4)) x1) (s + 2) (Int32.toNatClampNeg ((sI_ σ (s + 1) (Int32.toNatClampNeg (σ.1 s 4)) x1).1 s 4)) x2).1 s 4)) x3).1 s 4) 40 = true) ∧ out = (none, (sI_ (sI_ (sI_ (sI_ (sI_ σ (s + 1) (Int32.toNatClampNeg (σ.1 s 4)) x1) (s + 2) (Int32.toNatClampNeg ((sI_ σ (s + 1) (Int32.toNatClampNeg (σ.1 s 4)) x1).1 s 4)) x2) (s + 3) (Int32.toNatClampNeg ((sI_ (sI_ σ (s + 1) (Int32.toNatClampNeg (σ.1 s 4)) x1) (s + 2) (Int32.toNatClampNeg ((sI_ σ (s + 1) (Int32.toNatClampNeg (σ.1 s 4)) x1).1 s 4)) x2).1 s 4)) x3) (s + 4) (Int32.toNatClampNeg ((sI_ (sI_ (sI_ σ (s + 1) (Int32.toNatClampNeg (σ.1 s 4)) x1) (s + 2) (Int32.toNatClampNeg ((sI_ σ (s + 1) (Int32.toNatClampNeg (σ.1 s 4)) x1).1 s 4)) x2) (s + 3) (Int32.toNatClampNeg ((sI_ (sI_ σ (s + 1) (Int32.toNatClampNeg (σ.1 s 4)) x1) (s + 2) (Int32.toNatClampNeg ((sI_ σ (s + 1) (Int32.toNatClampNeg (σ.1 s 4)) x1).1 s 4)) x2).1 s 4)) x3).1 s 4)) x4) s 4 (((sI_ (sI_ (sI_ (sI_ σ (s + 1) (Int32.toNatClampNeg (σ.1 s 4)) x1) (s + 2) (Int32.toNatClampNeg ((sI_ σ (s + 1) (Int32.toNatClampNeg (σ.1 s 4)) x1).1 s 4)) x2) (s + 3) (Int32.toNatClampNeg ((sI_ (sI_ σ (s + 1) (Int32.toNatClampNeg (σ.1 s 4)) x1) (s + 2) (Int32.toNatClampNeg ((sI_ σ (s + 1) (Int32.toNatClampNeg (σ.1 s 4)) x1).1 s 4)) x2).1 s 4)) x3) (s + 4) (Int32.toNatClampNeg ((sI_ (sI_ (sI_ σ (s + 1) (Int32.toNatClampNeg (σ.1 s 4)) x1) (s + 2) (Int32.toNatClampNeg ((sI_ σ (s + 1) (Int32.toNatClampNeg (σ.1 s 4)) x1).1 s 4)) x2) (s + 3) (Int32.toNatClampNeg ((sI_ (sI_ σ (s + 1) (Int32.toNatClampNeg (σ.1 s 4)) x1) (s + 2) (Int32.toNatClampNeg ((sI_ σ (s + 1) (Int32.toNatClampNeg (σ.1 s 4)) x1).1 s 4)) x2).1 s 4)) x3).1 s 4)) x4).1 s 4) + (1 : Int32))))))) : Ev_ (P_X9_add KC) 0 [some (.ref s), some (.int x1), some (.int x2), some (.int x3), some (.int x4)] [] σ out := by
  refine ev_n 1 (fun _ => rfl) ?_
  refine ev_go rfl (w_gI (ks_0 hs)) ?_
  refine ev_n 1 (fun _ => rfl) ?_
  refine ev_if (c := (40 : Int32) ≤ (σ.1 s 4)) rfl (fun _ => rfl) (fun hc => ?_) (fun hc => ?_)
  · replace h := h.1 hc
    exact ev_ret rfl (fun _ => rfl) h
  · replace h := h.2 hc
    refine ev_n 1 (fun _ => rfl) ?_
    refine ev_go rfl (w_gF (ks_0 hs) (ks_r0 hs)) ?_
    refine ev_n 1 (fun _ => rfl) ?_
    refine ev_go rfl (w_gI (ks_0 hs)) ?_
    refine ev_n 1 (fun _ => rfl) ?_
    obtain ⟨h0, h⟩ := h
    refine ev_go rfl (w_iast (ks_k0 hs) h0) ?_
    refine ev_n 1 (fun _ => rfl) ?_
    refine ev_go rfl (w_gF (ks_0 hs) (ks_r1 hs)) ?_
    refine ev_n 1 (fun _ => rfl) ?_
    refine ev_go rfl (w_gI (ks_0 hs)) ?_
    refine ev_n 1 (fun _ => rfl) ?_
    obtain ⟨h0, h⟩ := h
    refine ev_go rfl (w_iast (ks_k1 hs) h0) ?_
    refine ev_n 1 (fun _ => rfl) ?_
    refine ev_go rfl (w_gF (ks_0 hs) (ks_r2 hs)) ?_
    refine ev_n 1 (fun _ => rfl) ?_
    refine ev_go rfl (w_gI (ks_0 hs)) ?_
    refine ev_n 1 (fun _ => rfl) ?_
    obtain ⟨h0, h⟩ := h
    refine ev_go rfl (w_iast (ks_k2 hs) h0) ?_
    refine ev_n 1 (fun _ => rfl) ?_
    refine ev_go rfl (w_gF (ks_0 hs) (ks_r3 hs)) ?_
    refine ev_n 1 (fun _ => rfl) ?_
    refine ev_go rfl (w_gI (ks_0 hs)) ?_
    refine ev_n 1 (fun _ => rfl) ?_
    obtain ⟨h0, h⟩ := h
    refine ev_go rfl (w_iast (ks_k3 hs) h0) ?_
    refine ev_n 2 (fun _ => rfl) ?_
    refine ev_go rfl (w_gI (ks_0 hs)) ?_
    refine ev_n 2 (fun _ => rfl) ?_
    refine ev_go rfl (w_pI (ks_0 hs)) ?_
    exact ev_ret rfl (fun _ => rfl) h
theorem m_X9_add : ∀ pc o, (P_X9_add KC).lookup pc = some o → Mon_ o := all_mon (a_X9_add (l := launch0) (E := EC0) EC0_ok)
theorem z_X9_add {s : Nat} {x1 : Int32} {x2 : Int32} {x3 : Int32} {x4 : Int32} {σ : St_} {out : Out_} (h : Ev_ (P_X9_add KC) 0 [some (.ref s), some (.int x1), some (.int x2), some (.int x3), some (.int x4)] [] σ out) : f_X9_add KC [.ref s, .int x1, .int x2, .int x3, .int x4] σ = some out := fn_eq m_X9_add rfl h
set_option maxRecDepth 20000 in
theorem e_X9_readAsking_0 {s : Nat} {b : Nat} {x3 : Int32} {σ : St_} {out : Out_} (hs : isS s) (hb : isB b) (h : (((20 : Int32) < x3 → Ev_ (P_X9_readAsking KC) 25 [some (.ref s), some (.ref 1), some (.ref b), some (.int x3), some (.int (0 : Int32)), none] [] σ out) ∧ (¬ ((20 : Int32) < x3) → (∃ (v2 : Int32) (σ1 : St_), f_X8_takeChap KC [.ref 1, .ref b] σ = some (some (.int v2), σ1) ∧ ((v2 = 0 → out = (some (.int (0 : Int32)), σ1)) ∧ (¬ (v2 = 0) → Ev_ (P_X9_readAsking KC) 25 [some (.ref s), some (.ref 1), some (.ref b), some (.int x3), some (.int (σ1.1 1 8)), none] [] σ1 out)))))) : Ev_ (P_X9_readAsking KC) 0 [some (.ref s), some (.ref 1), some (.ref b), some (.int x3), none, none] [] σ out := by
  refine ev_n 4 (fun _ => rfl) ?_
  refine ev_if (c := (20 : Int32) < x3) rfl (fun _ => rfl) (fun hc => ?_) (fun hc => ?_)
  · replace h := h.1 hc
    exact h
  · replace h := h.2 hc
    refine ev_n 2 (fun _ => rfl) ?_
    obtain ⟨v2, σ1, hf, h⟩ := h
    refine ev_go rfl (w_callV rfl rfl rfl (Nat.le_of_ble_eq_true rfl) hf) ?_
    refine ev_if (c := v2 = 0) rfl (fun _ => rfl) (fun hc => ?_) (fun hc => ?_)
    · replace h := h.1 hc
      refine ev_n 1 (fun _ => rfl) ?_
      exact v_zret (by decide) rfl h
    · replace h := h.2 hc
      refine ev_n 1 (fun _ => rfl) ?_
      refine ev_go rfl (w_gI rfl) ?_
      refine ev_n 1 (fun _ => rfl) ?_
      exact h
set_option maxRecDepth 20000 in
theorem e_X9_readAsking_25 {s : Nat} {b : Nat} {x3 : Int32} {x4 : Int32} {σ : St_} {out : Out_} (hs : isS s) (hb : isB b) (h : (((20 : Int32) ≤ x3 → (∃ (v2 : Int32) (σ1 : St_), f_X8_isComparison KC [.int (σ.1 1 6)] σ = some (some (.int v2), σ1) ∧ ((v2 = 0 → (∃ (v4 : Int32) (σ3 : St_), f_X8_fail KC [.ref 1, .int (1 : Int32)] σ1 = some (some (.int v4), σ3) ∧ (v4 = 0 ∨ v4 = 1) ∧ out = (some (.int v4), σ3))) ∧ (¬ (v2 = 0) → (∃ (σ5 : St_), f_X8_next KC [.ref 1] σ1 = some (none, σ5) ∧ (∃ (v7 : Int32) (σ6 : St_), f_X8_takeNumber KC [.ref 1, .int (0 : Int32), .int (999 : Int32)] σ5 = some (some (.int v7), σ6) ∧ ((v7 = 0 → out = (some (.int (0 : Int32)), σ6)) ∧ (¬ (v7 = 0) → (∃ (σ8 : St_), f_X9_add KC [.ref s, .int x3, .int x4, .int (σ.1 1 6), .int (σ6.1 1 8)] σ6 = some (none, σ8) ∧ out = (some (.int (1 : Int32)), σ8)))))))))) ∧ (¬ ((20 : Int32) ≤ x3) → (∃ (σ9 : St_), f_X9_add KC [.ref s, .int x3, .int x4, .int (0 : Int32), .int (0 : Int32)] σ = some (none, σ9) ∧ out = (some (.int (1 : Int32)), σ9))))) : Ev_ (P_X9_readAsking KC) 25 [some (.ref s), some (.ref 1), some (.ref b), some (.int x3), some (.int x4), none] [] σ out := by
  refine ev_n 2 (fun _ => rfl) ?_
  refine ev_if (c := (20 : Int32) ≤ x3) rfl (fun _ => rfl) (fun hc => ?_) (fun hc => ?_)
  · replace h := h.1 hc
    refine ev_n 1 (fun _ => rfl) ?_
    refine ev_go rfl (w_gI rfl) ?_
    refine ev_n 2 (fun _ => rfl) ?_
    obtain ⟨v2, σ1, hf, h⟩ := h
    refine ev_go rfl (w_callS ⟨Nat.le_of_ble_eq_true rfl, Nat.le_of_ble_eq_true rfl⟩ hf) ?_
    refine ev_if (c := v2 = 0) rfl (fun _ => rfl) (fun hc => ?_) (fun hc => ?_)
    · replace h := h.1 hc
      refine ev_n 2 (fun _ => rfl) ?_
      obtain ⟨v4, σ3, hf, h⟩ := h
      refine ev_go rfl (w_callV rfl rfl rfl (Nat.le_of_ble_eq_true rfl) hf) ?_
      exact v_zret h.1 rfl h.2
    · replace h := h.2 hc
      refine ev_n 1 (fun _ => rfl) ?_
      obtain ⟨σ5, hf, h⟩ := h
      refine ev_go rfl (w_callV rfl rfl rfl (Nat.le_of_ble_eq_true rfl) hf) ?_
      refine ev_n 3 (fun _ => rfl) ?_
      obtain ⟨v7, σ6, hf, h⟩ := h
      refine ev_go rfl (w_callV rfl rfl rfl (Nat.le_of_ble_eq_true rfl) hf) ?_
      refine ev_if (c := v7 = 0) rfl (fun _ => rfl) (fun hc => ?_) (fun hc => ?_)
      · replace h := h.1 hc
        refine ev_n 1 (fun _ => rfl) ?_
        exact v_zret (by decide) rfl h
      · replace h := h.2 hc
        refine ev_n 5 (fun _ => rfl) ?_
        refine ev_go rfl (w_gI rfl) ?_
        obtain ⟨σ8, hf, h⟩ := h
        refine ev_go rfl (w_callV rfl rfl (ks_0 hs) (Nat.le_of_ble_eq_true rfl) hf) ?_
        refine ev_n 1 (fun _ => rfl) ?_
        exact v_zret (by decide) rfl h
  · replace h := h.2 hc
    refine ev_n 5 (fun _ => rfl) ?_
    obtain ⟨σ9, hf, h⟩ := h
    refine ev_go rfl (w_callV rfl rfl (ks_0 hs) (Nat.le_of_ble_eq_true rfl) hf) ?_
    refine ev_n 1 (fun _ => rfl) ?_
    exact v_zret (by decide) rfl h
theorem m_X9_readAsking : ∀ pc o, (P_X9_readAsking KC).lookup pc = some o → Mon_ o := all_mon (a_X9_readAsking (l := launch0) (E := EC0) EC0_ok)
theorem z_X9_readAsking {s : Nat} {b : Nat} {x3 : Int32} {σ : St_} {out : Out_} (h : Ev_ (P_X9_readAsking KC) 0 [some (.ref s), some (.ref 1), some (.ref b), some (.int x3), none, none] [] σ out) : f_X9_readAsking KC [.ref s, .ref 1, .ref b, .int x3] σ = some out := fn_eq m_X9_readAsking rfl h
set_option maxRecDepth 20000 in
theorem e_X9_readCond_0 {s : Nat} {b : Nat} {x3 : Int32} {r_X9_readCond : Fn_} {r_X9_readOne : Fn_} {σ : St_} {out : Out_} (hs : isS s) (hb : isB b) (h : Ev_ (P_X9_readCond KC r_X9_readCond r_X9_readOne) 9 [some (.ref s), some (.ref 1), some (.ref b), some (.int x3), some (.int (0 : Int32)), some (.int (0 : Int32)), some (.int (0 : Int32))] [] σ out) : Ev_ (P_X9_readCond KC r_X9_readCond r_X9_readOne) 0 [some (.ref s), some (.ref 1), some (.ref b), some (.int x3), none, none, none] [] σ out := by
  refine ev_n 6 (fun _ => rfl) ?_
  exact h
set_option maxRecDepth 20000 in
theorem e_X9_readCond_9 {s : Nat} {b : Nat} {x3 : Int32} {r_X9_readCond : Fn_} {r_X9_readOne : Fn_} {x4 : Int32} {x5 : Int32} {x6 : Int32} {σ : St_} {out : Out_} (hs : isS s) (hb : isB b) (h : (((20 : Int32) < x6 → out = (some (.int (0 : Int32)), σ)) ∧ (¬ ((20 : Int32) < x6) → (∃ (v2 : Int32) (σ1 : St_), r_X9_readOne [.ref s, .ref 1, .ref b, .int x3] σ = some (some (.int v2), σ1) ∧ ((v2 = 0 → out = (some (.int (0 : Int32)), σ1)) ∧ (¬ (v2 = 0) → ((x4 = 0 → Ev_ (P_X9_readCond KC r_X9_readCond r_X9_readOne) 42 [some (.ref s), some (.ref 1), some (.ref b), some (.int x3), none, some (.int x5), some (.int x6)] [] σ1 out) ∧ (¬ (x4 = 0) → (∃ (σ3 : St_), f_X9_add KC [.ref s, .int (16 : Int32), .int (0 : Int32), .int (0 : Int32), .int (0 : Int32)] σ1 = some (none, σ3) ∧ Ev_ (P_X9_readCond KC r_X9_readCond r_X9_readOne) 42 [some (.ref s), some (.ref 1), some (.ref b), some (.int x3), none, some (.int x5), some (.int x6)] [] σ3 out))))))))) : Ev_ (P_X9_readCond KC r_X9_readCond r_X9_readOne) 9 [some (.ref s), some (.ref 1), some (.ref b), some (.int x3), some (.int x4), some (.int x5), some (.int x6)] [] σ out := by
  refine ev_n 2 (fun _ => rfl) ?_
  refine ev_if (c := (20 : Int32) < x6) rfl (fun _ => rfl) (fun hc => ?_) (fun hc => ?_)
  · replace h := h.1 hc
    refine ev_n 1 (fun _ => rfl) ?_
    exact v_zret (by decide) rfl h
  · replace h := h.2 hc
    refine ev_n 4 (fun _ => rfl) ?_
    obtain ⟨v2, σ1, hf, h⟩ := h
    refine ev_go rfl (w_callV rfl rfl (ks_0 hs) (Nat.le_of_ble_eq_true rfl) hf) ?_
    refine ev_if (c := v2 = 0) rfl (fun _ => rfl) (fun hc => ?_) (fun hc => ?_)
    · replace h := h.1 hc
      refine ev_n 1 (fun _ => rfl) ?_
      exact v_zret (by decide) rfl h
    · replace h := h.2 hc
      refine ev_n 1 (fun _ => rfl) ?_
      refine ev_if (c := x4 = 0) rfl (fun _ => rfl) (fun hc => ?_) (fun hc => ?_)
      · replace h := h.1 hc
        exact h
      · replace h := h.2 hc
        refine ev_n 5 (fun _ => rfl) ?_
        obtain ⟨σ3, hf, h⟩ := h
        refine ev_goA rfl (w_callV rfl rfl (ks_0 hs) (Nat.le_of_ble_eq_true rfl) hf) rfl ?_
        exact h
set_option maxRecDepth 20000 in
theorem e_X9_readCond_42 {s : Nat} {b : Nat} {x3 : Int32} {r_X9_readCond : Fn_} {r_X9_readOne : Fn_} {x5 : Int32} {x6 : Int32} {σ : St_} {out : Out_} (hs : isS s) (hb : isB b) (h : (((σ.1 1 6) = (16 : Int32) → Ev_ (P_X9_readCond KC r_X9_readCond r_X9_readOne) 77 [some (.ref s), some (.ref 1), some (.ref b), some (.int x3), some (.int (1 : Int32)), some (.int x5), some (.int x6)] [] σ out) ∧ (¬ ((σ.1 1 6) = (16 : Int32)) → ((x5 = 0 → Ev_ (P_X9_readCond KC r_X9_readCond r_X9_readOne) 77 [some (.ref s), some (.ref 1), some (.ref b), some (.int x3), some (.int (0 : Int32)), some (.int x5), some (.int x6)] [] σ out) ∧ (¬ (x5 = 0) → (∃ (σ1 : St_), f_X9_add KC [.ref s, .int (15 : Int32), .int (0 : Int32), .int (0 : Int32), .int (0 : Int32)] σ = some (none, σ1) ∧ Ev_ (P_X9_readCond KC r_X9_readCond r_X9_readOne) 77 [some (.ref s), some (.ref 1), some (.ref b), some (.int x3), some (.int (0 : Int32)), some (.int x5), some (.int x6)] [] σ1 out)))))) : Ev_ (P_X9_readCond KC r_X9_readCond r_X9_readOne) 42 [some (.ref s), some (.ref 1), some (.ref b), some (.int x3), none, some (.int x5), some (.int x6)] [] σ out := by
  refine ev_n 1 (fun _ => rfl) ?_
  refine ev_go rfl (w_gI rfl) ?_
  refine ev_n 1 (fun _ => rfl) ?_
  refine ev_if (c := (σ.1 1 6) = (16 : Int32)) rfl (fun _ => rfl) (fun hc => ?_) (fun hc => ?_)
  · replace h := h.1 hc
    refine ev_n 5 (fun _ => rfl) ?_
    exact h
  · replace h := h.2 hc
    refine ev_n 5 (fun _ => rfl) ?_
    refine ev_if (c := x5 = 0) rfl (fun _ => rfl) (fun hc => ?_) (fun hc => ?_)
    · replace h := h.1 hc
      exact h
    · replace h := h.2 hc
      refine ev_n 5 (fun _ => rfl) ?_
      obtain ⟨σ1, hf, h⟩ := h
      refine ev_go rfl (w_callV rfl rfl (ks_0 hs) (Nat.le_of_ble_eq_true rfl) hf) ?_
      exact h
set_option maxRecDepth 20000 in
theorem e_X9_readCond_77 {s : Nat} {b : Nat} {x3 : Int32} {r_X9_readCond : Fn_} {r_X9_readOne : Fn_} {x4 : Int32} {x5 : Int32} {x6 : Int32} {σ : St_} {out : Out_} (hs : isS s) (hb : isB b) (h : ((x4 = 0 → (((σ.1 1 6) = (15 : Int32) → ((x5 = 0 → ((x4 = 0 → (∃ (σ1 : St_), f_X8_next KC [.ref 1] σ = some (none, σ1) ∧ Ev_ (P_X9_readCond KC r_X9_readCond r_X9_readOne) 9 [some (.ref s), some (.ref 1), some (.ref b), some (.int x3), some (.int x4), some (.int (1 : Int32)), some (.int (x6 + 1))] [] σ1 out)) ∧ (¬ (x4 = 0) → (∃ (σ2 : St_), f_X8_next KC [.ref 1] σ = some (none, σ2) ∧ Ev_ (P_X9_readCond KC r_X9_readCond r_X9_readOne) 9 [some (.ref s), some (.ref 1), some (.ref b), some (.int x3), some (.int x4), some (.int (0 : Int32)), some (.int (x6 + 1))] [] σ2 out)))) ∧ (¬ (x5 = 0) → (∃ (σ3 : St_), f_X8_next KC [.ref 1] σ = some (none, σ3) ∧ Ev_ (P_X9_readCond KC r_X9_readCond r_X9_readOne) 9 [some (.ref s), some (.ref 1), some (.ref b), some (.int x3), some (.int x4), some (.int (1 : Int32)), some (.int (x6 + 1))] [] σ3 out)))) ∧ (¬ ((σ.1 1 6) = (15 : Int32)) → out = (some (.int (1 : Int32)), σ)))) ∧ (¬ (x4 = 0) → ((x5 = 0 → ((x4 = 0 → (∃ (σ4 : St_), f_X8_next KC [.ref 1] σ = some (none, σ4) ∧ Ev_ (P_X9_readCond KC r_X9_readCond r_X9_readOne) 9 [some (.ref s), some (.ref 1), some (.ref b), some (.int x3), some (.int x4), some (.int (1 : Int32)), some (.int (x6 + 1))] [] σ4 out)) ∧ (¬ (x4 = 0) → (∃ (σ5 : St_), f_X8_next KC [.ref 1] σ = some (none, σ5) ∧ Ev_ (P_X9_readCond KC r_X9_readCond r_X9_readOne) 9 [some (.ref s), some (.ref 1), some (.ref b), some (.int x3), some (.int x4), some (.int (0 : Int32)), some (.int (x6 + 1))] [] σ5 out)))) ∧ (¬ (x5 = 0) → (∃ (σ6 : St_), f_X8_next KC [.ref 1] σ = some (none, σ6) ∧ Ev_ (P_X9_readCond KC r_X9_readCond r_X9_readOne) 9 [some (.ref s), some (.ref 1), some (.ref b), some (.int x3), some (.int x4), some (.int (1 : Int32)), some (.int (x6 + 1))] [] σ6 out)))))) : Ev_ (P_X9_readCond KC r_X9_readCond r_X9_readOne) 77 [some (.ref s), some (.ref 1), some (.ref b), some (.int x3), some (.int x4), some (.int x5), some (.int x6)] [] σ out := by
  refine ev_n 1 (fun _ => rfl) ?_
  refine ev_if (c := x4 = 0) rfl (fun _ => rfl) (fun hc => ?_) (fun hc => ?_)
  · replace h := h.1 hc
    refine ev_n 1 (fun _ => rfl) ?_
    refine ev_go rfl (w_gI rfl) ?_
    refine ev_n 1 (fun _ => rfl) ?_
    refine ev_if (c := (σ.1 1 6) = (15 : Int32)) rfl (fun _ => rfl) (fun hc => ?_) (fun hc => ?_)
    · replace h := h.1 hc
      refine ev_n 1 (fun _ => rfl) ?_
      refine ev_if (c := x5 = 0) rfl (fun _ => rfl) (fun hc => ?_) (fun hc => ?_)
      · replace h := h.1 hc
        refine ev_n 1 (fun _ => rfl) ?_
        refine ev_if (c := x4 = 0) rfl (fun _ => rfl) (fun hc => ?_) (fun hc => ?_)
        · replace h := h.1 hc
          refine ev_n 4 (fun _ => rfl) ?_
          obtain ⟨σ1, hf, h⟩ := h
          refine ev_go rfl (w_callV rfl rfl rfl (Nat.le_of_ble_eq_true rfl) hf) ?_
          refine ev_n 2 (fun _ => rfl) ?_
          exact h
        · replace h := h.2 hc
          refine ev_n 3 (fun _ => rfl) ?_
          obtain ⟨σ2, hf, h⟩ := h
          refine ev_go rfl (w_callV rfl rfl rfl (Nat.le_of_ble_eq_true rfl) hf) ?_
          refine ev_n 2 (fun _ => rfl) ?_
          exact h
      · replace h := h.2 hc
        refine ev_n 4 (fun _ => rfl) ?_
        obtain ⟨σ3, hf, h⟩ := h
        refine ev_go rfl (w_callV rfl rfl rfl (Nat.le_of_ble_eq_true rfl) hf) ?_
        refine ev_n 2 (fun _ => rfl) ?_
        exact h
    · replace h := h.2 hc
      refine ev_n 1 (fun _ => rfl) ?_
      exact v_zret (by decide) rfl h
  · replace h := h.2 hc
    refine ev_n 1 (fun _ => rfl) ?_
    refine ev_if (c := x5 = 0) rfl (fun _ => rfl) (fun hc => ?_) (fun hc => ?_)
    · replace h := h.1 hc
      refine ev_n 1 (fun _ => rfl) ?_
      refine ev_if (c := x4 = 0) rfl (fun _ => rfl) (fun hc => ?_) (fun hc => ?_)
      · replace h := h.1 hc
        refine ev_n 4 (fun _ => rfl) ?_
        obtain ⟨σ4, hf, h⟩ := h
        refine ev_go rfl (w_callV rfl rfl rfl (Nat.le_of_ble_eq_true rfl) hf) ?_
        refine ev_n 2 (fun _ => rfl) ?_
        exact h
      · replace h := h.2 hc
        refine ev_n 3 (fun _ => rfl) ?_
        obtain ⟨σ5, hf, h⟩ := h
        refine ev_go rfl (w_callV rfl rfl rfl (Nat.le_of_ble_eq_true rfl) hf) ?_
        refine ev_n 2 (fun _ => rfl) ?_
        exact h
    · replace h := h.2 hc
      refine ev_n 4 (fun _ => rfl) ?_
      obtain ⟨σ6, hf, h⟩ := h
      refine ev_go rfl (w_callV rfl rfl rfl (Nat.le_of_ble_eq_true rfl) hf) ?_
      refine ev_n 2 (fun _ => rfl) ?_
      exact h
theorem m_X9_readCond (d : Nat) : ∀ pc o, (P_X9_readCond KC (f_X9_readCond KC d) (f_X9_readOne KC d)).lookup pc = some o → Mon_ o := all_mon (a_X9_readCond (l := launch0) (E := EC0) EC0_ok (t_X9_readCond EC0_ok d) (t_X9_readOne EC0_ok d))
theorem z_X9_readCond {s : Nat} {b : Nat} {x3 : Int32} {σ : St_} {out : Out_} {d : Nat} (h : Ev_ (P_X9_readCond KC (f_X9_readCond KC d) (f_X9_readOne KC d)) 0 [some (.ref s), some (.ref 1), some (.ref b), some (.int x3), none, none, none] [] σ out) : f_X9_readCond KC (d + 1) [.ref s, .ref 1, .ref b, .int x3] σ = some out := show fn_ (P_X9_readCond KC (f_X9_readCond KC d) (f_X9_readOne KC d)) 7 [.ref s, .ref 1, .ref b, .int x3] σ = some out from fn_eq (m_X9_readCond d) rfl h
set_option maxRecDepth 20000 in
theorem e_X9_readOne_0 {s : Nat} {b : Nat} {x3 : Int32} {r_X9_readCond : Fn_} {r_X9_readOne : Fn_} {σ : St_} {out : Out_} (hs : isS s) (hb : isB b) (h : (((σ.1 1 6) = (40 : Int32) → Ev_ (P_X9_readOne KC r_X9_readCond r_X9_readOne) 33 [some (.ref s), some (.ref 1), some (.ref b), some (.int x3), some (.int (σ.1 1 6))] [] σ out) ∧ (¬ ((σ.1 1 6) = (40 : Int32)) → (((σ.1 1 6) < (17 : Int32) → (∃ (v2 : Int32) (σ1 : St_), f_X8_fail KC [.ref 1, .int (1 : Int32)] σ = some (some (.int v2), σ1) ∧ (v2 = 0 ∨ v2 = 1) ∧ out = (some (.int v2), σ1))) ∧ (¬ ((σ.1 1 6) < (17 : Int32)) → (((σ.1 1 6) ≤ (23 : Int32) → Ev_ (P_X9_readOne KC r_X9_readCond r_X9_readOne) 33 [some (.ref s), some (.ref 1), some (.ref b), some (.int x3), some (.int (σ.1 1 6))] [] σ out) ∧ (¬ ((σ.1 1 6) ≤ (23 : Int32)) → (∃ (v4 : Int32) (σ3 : St_), f_X8_fail KC [.ref 1, .int (1 : Int32)] σ = some (some (.int v4), σ3) ∧ (v4 = 0 ∨ v4 = 1) ∧ out = (some (.int v4), σ3))))))))) : Ev_ (P_X9_readOne KC r_X9_readCond r_X9_readOne) 0 [some (.ref s), some (.ref 1), some (.ref b), some (.int x3), none] [] σ out := by
  refine ev_n 1 (fun _ => rfl) ?_
  refine ev_go rfl (w_gI rfl) ?_
  refine ev_n 3 (fun _ => rfl) ?_
  refine ev_if (c := (σ.1 1 6) = (40 : Int32)) rfl (fun _ => rfl) (fun hc => ?_) (fun hc => ?_)
  · replace h := h.1 hc
    exact h
  · replace h := h.2 hc
    refine ev_n 2 (fun _ => rfl) ?_
    refine ev_if (c := (σ.1 1 6) < (17 : Int32)) rfl (fun _ => rfl) (fun hc => ?_) (fun hc => ?_)
    · replace h := h.1 hc
      refine ev_n 2 (fun _ => rfl) ?_
      obtain ⟨v2, σ1, hf, h⟩ := h
      refine ev_go rfl (w_callV rfl rfl rfl (Nat.le_of_ble_eq_true rfl) hf) ?_
      exact v_zret h.1 rfl h.2
    · replace h := h.2 hc
      refine ev_n 2 (fun _ => rfl) ?_
      refine ev_if (c := (σ.1 1 6) ≤ (23 : Int32)) rfl (fun _ => rfl) (fun hc => ?_) (fun hc => ?_)
      · replace h := h.1 hc
        exact h
      · replace h := h.2 hc
        refine ev_n 2 (fun _ => rfl) ?_
        obtain ⟨v4, σ3, hf, h⟩ := h
        refine ev_go rfl (w_callV rfl rfl rfl (Nat.le_of_ble_eq_true rfl) hf) ?_
        exact v_zret h.1 rfl h.2
set_option maxRecDepth 20000 in
theorem e_X9_readOne_33 {s : Nat} {b : Nat} {x3 : Int32} {r_X9_readCond : Fn_} {r_X9_readOne : Fn_} {x4 : Int32} {σ : St_} {out : Out_} (hs : isS s) (hb : isB b) (h : (((20 : Int32) ≤ (σ.1 s 5) → (∃ (v2 : Int32) (σ1 : St_), f_X8_fail KC [.ref 1, .int (4 : Int32)] σ = some (some (.int v2), σ1) ∧ (v2 = 0 ∨ v2 = 1) ∧ out = (some (.int v2), σ1))) ∧ (¬ ((20 : Int32) ≤ (σ.1 s 5)) → ((x3 ≤ (8 : Int32) → (∃ (σ3 : St_), f_X8_next KC [.ref 1] (sI_ σ s 5 ((σ.1 s 5) + (1 : Int32))) = some (none, σ3) ∧ ((x4 = (40 : Int32) → (∃ (v5 : Int32) (σ4 : St_), r_X9_readCond [.ref s, .ref 1, .ref b, .int (x3 + (1 : Int32))] σ3 = some (some (.int v5), σ4) ∧ ((v5 = 0 → out = (some (.int (0 : Int32)), σ4)) ∧ (¬ (v5 = 0) → (∃ (v7 : Int32) (σ6 : St_), f_X8_take KC [.ref 1, .int (41 : Int32)] σ4 = some (some (.int v7), σ6) ∧ ((v7 = 0 → out = (some (.int (0 : Int32)), σ6)) ∧ (¬ (v7 = 0) → out = (some (.int (1 : Int32)), σ6)))))))) ∧ (¬ (x4 = (40 : Int32)) → ((x4 = (17 : Int32) → (∃ (v9 : Int32) (σ8 : St_), r_X9_readOne [.ref s, .ref 1, .ref b, .int (x3 + (1 : Int32))] σ3 = some (some (.int v9), σ8) ∧ ((v9 = 0 → out = (some (.int (0 : Int32)), σ8)) ∧ (¬ (v9 = 0) → (∃ (σ10 : St_), f_X9_add KC [.ref s, .int (17 : Int32), .int (0 : Int32), .int (0 : Int32), .int (0 : Int32)] σ8 = some (none, σ10) ∧ out = (some (.int (1 : Int32)), σ10)))))) ∧ (¬ (x4 = (17 : Int32)) → (∃ (v12 : Int32) (σ11 : St_), f_X9_readAsking KC [.ref s, .ref 1, .ref b, .int x4] σ3 = some (some (.int v12), σ11) ∧ (v12 = 0 ∨ v12 = 1) ∧ out = (some (.int v12), σ11)))))))) ∧ (¬ (x3 ≤ (8 : Int32)) → (∃ (v14 : Int32) (σ13 : St_), f_X8_fail KC [.ref 1, .int (4 : Int32)] σ = some (some (.int v14), σ13) ∧ (v14 = 0 ∨ v14 = 1) ∧ out = (some (.int v14), σ13))))))) : Ev_ (P_X9_readOne KC r_X9_readCond r_X9_readOne) 33 [some (.ref s), some (.ref 1), some (.ref b), some (.int x3), some (.int x4)] [] σ out := by
  refine ev_n 1 (fun _ => rfl) ?_
  refine ev_go rfl (w_gI (ks_0 hs)) ?_
  refine ev_n 1 (fun _ => rfl) ?_
  refine ev_if (c := (20 : Int32) ≤ (σ.1 s 5)) rfl (fun _ => rfl) (fun hc => ?_) (fun hc => ?_)
  · replace h := h.1 hc
    refine ev_n 2 (fun _ => rfl) ?_
    obtain ⟨v2, σ1, hf, h⟩ := h
    refine ev_go rfl (w_callV rfl rfl rfl (Nat.le_of_ble_eq_true rfl) hf) ?_
    exact v_zret h.1 rfl h.2
  · replace h := h.2 hc
    refine ev_n 2 (fun _ => rfl) ?_
    refine ev_if (c := x3 ≤ (8 : Int32)) rfl (fun _ => rfl) (fun hc => ?_) (fun hc => ?_)
    · replace h := h.1 hc
      refine ev_n 2 (fun _ => rfl) ?_
      refine ev_go rfl (w_gI (ks_0 hs)) ?_
      refine ev_n 2 (fun _ => rfl) ?_
      refine ev_go rfl (w_pI (ks_0 hs)) ?_
      refine ev_n 1 (fun _ => rfl) ?_
      obtain ⟨σ3, hf, h⟩ := h
      refine ev_go rfl (w_callV rfl rfl rfl (Nat.le_of_ble_eq_true rfl) hf) ?_
      refine ev_n 2 (fun _ => rfl) ?_
      refine ev_if (c := x4 = (40 : Int32)) rfl (fun _ => rfl) (fun hc => ?_) (fun hc => ?_)
      · replace h := h.1 hc
        refine ev_n 6 (fun _ => rfl) ?_
        obtain ⟨v5, σ4, hf, h⟩ := h
        refine ev_go rfl (w_callV rfl rfl (ks_0 hs) (Nat.le_of_ble_eq_true rfl) hf) ?_
        refine ev_if (c := v5 = 0) rfl (fun _ => rfl) (fun hc => ?_) (fun hc => ?_)
        · replace h := h.1 hc
          refine ev_n 1 (fun _ => rfl) ?_
          exact v_zret (by decide) rfl h
        · replace h := h.2 hc
          refine ev_n 2 (fun _ => rfl) ?_
          obtain ⟨v7, σ6, hf, h⟩ := h
          refine ev_go rfl (w_callV rfl rfl rfl (Nat.le_of_ble_eq_true rfl) hf) ?_
          refine ev_if (c := v7 = 0) rfl (fun _ => rfl) (fun hc => ?_) (fun hc => ?_)
          · replace h := h.1 hc
            refine ev_n 1 (fun _ => rfl) ?_
            exact v_zret (by decide) rfl h
          · replace h := h.2 hc
            refine ev_n 2 (fun _ => rfl) ?_
            exact v_zret (by decide) rfl h
      · replace h := h.2 hc
        refine ev_n 2 (fun _ => rfl) ?_
        refine ev_if (c := x4 = (17 : Int32)) rfl (fun _ => rfl) (fun hc => ?_) (fun hc => ?_)
        · replace h := h.1 hc
          refine ev_n 6 (fun _ => rfl) ?_
          obtain ⟨v9, σ8, hf, h⟩ := h
          refine ev_go rfl (w_callV rfl rfl (ks_0 hs) (Nat.le_of_ble_eq_true rfl) hf) ?_
          refine ev_if (c := v9 = 0) rfl (fun _ => rfl) (fun hc => ?_) (fun hc => ?_)
          · replace h := h.1 hc
            refine ev_n 1 (fun _ => rfl) ?_
            exact v_zret (by decide) rfl h
          · replace h := h.2 hc
            refine ev_n 5 (fun _ => rfl) ?_
            obtain ⟨σ10, hf, h⟩ := h
            refine ev_go rfl (w_callV rfl rfl (ks_0 hs) (Nat.le_of_ble_eq_true rfl) hf) ?_
            refine ev_n 1 (fun _ => rfl) ?_
            exact v_zret (by decide) rfl h
        · replace h := h.2 hc
          refine ev_n 4 (fun _ => rfl) ?_
          obtain ⟨v12, σ11, hf, h⟩ := h
          refine ev_go rfl (w_callV rfl rfl (ks_0 hs) (Nat.le_of_ble_eq_true rfl) hf) ?_
          exact v_zret h.1 rfl h.2
    · replace h := h.2 hc
      refine ev_n 2 (fun _ => rfl) ?_
      obtain ⟨v14, σ13, hf, h⟩ := h
      refine ev_go rfl (w_callV rfl rfl rfl (Nat.le_of_ble_eq_true rfl) hf) ?_
      exact v_zret h.1 rfl h.2
theorem m_X9_readOne (d : Nat) : ∀ pc o, (P_X9_readOne KC (f_X9_readCond KC d) (f_X9_readOne KC d)).lookup pc = some o → Mon_ o := all_mon (a_X9_readOne (l := launch0) (E := EC0) EC0_ok (t_X9_readCond EC0_ok d) (t_X9_readOne EC0_ok d))
theorem z_X9_readOne {s : Nat} {b : Nat} {x3 : Int32} {σ : St_} {out : Out_} {d : Nat} (h : Ev_ (P_X9_readOne KC (f_X9_readCond KC d) (f_X9_readOne KC d)) 0 [some (.ref s), some (.ref 1), some (.ref b), some (.int x3), none] [] σ out) : f_X9_readOne KC (d + 1) [.ref s, .ref 1, .ref b, .int x3] σ = some out := show fn_ (P_X9_readOne KC (f_X9_readCond KC d) (f_X9_readOne KC d)) 5 [.ref s, .ref 1, .ref b, .int x3] σ = some out from fn_eq (m_X9_readOne d) rfl h
