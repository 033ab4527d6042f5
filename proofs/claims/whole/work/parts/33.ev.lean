set_option maxRecDepth 20000 in
theorem e_X9_readFrom_0 {s : Nat} {b : Nat} {σ : St_} {out : Out_} (hs : isS s) (hb : isB b) (h : (∃ (σ1 : St_), f_X9_clear KC [.ref s] σ = some (none, σ1) ∧ (∃ (v3 : Int32) (σ2 : St_), f_X9_readCond KC 80 [.ref s, .ref 1, .ref b, .int (1 : Int32)] σ1 = some (some (.int v3), σ2) ∧ ((v3 = 0 → out = (some (.int (0 : Int32)), σ2)) ∧ (¬ (v3 = 0) → (((σ2.1 1 6) = 0 → out = (some (.int (1 : Int32)), σ2)) ∧ (¬ ((σ2.1 1 6) = 0) → (∃ (v5 : Int32) (σ4 : St_), f_X8_fail KC [.ref 1, .int (1 : Int32)] σ2 = some (some (.int v5), σ4) ∧ ((v5 = 0 → out = (some (.int (0 : Int32)), σ4)) ∧ (¬ (v5 = 0) → out = (some (.int (1 : Int32)), σ4))))))))))) : Ev_ (P_X9_readFrom KC) 0 [some (.ref s), some (.ref 1), some (.ref b)] [] σ out := by
  refine ev_n 1 (fun _ => rfl) ?_
  obtain ⟨σ1, hf, h⟩ := h
  refine ev_go rfl (w_callV rfl rfl (ks_0 hs) (Nat.le_of_ble_eq_true rfl) hf) ?_
  refine ev_n 4 (fun _ => rfl) ?_
  obtain ⟨v3, σ2, hf, h⟩ := h
  refine ev_go rfl (w_callV rfl rfl (ks_0 hs) (Nat.le_of_ble_eq_true rfl) hf) ?_
  refine ev_if (c := v3 = 0) rfl (fun _ => rfl) (fun hc => ?_) (fun hc => ?_)
  · replace h := h.1 hc
    refine ev_n 1 (fun _ => rfl) ?_
    exact v_zret (by decide) rfl h
  · replace h := h.2 hc
    refine ev_n 1 (fun _ => rfl) ?_
    refine ev_go rfl (w_gI rfl) ?_
    refine ev_if (c := (σ2.1 1 6) = 0) rfl (fun _ => rfl) (fun hc => ?_) (fun hc => ?_)
    · replace h := h.1 hc
      refine ev_n 2 (fun _ => rfl) ?_
      exact v_zret (by decide) rfl h
    · replace h := h.2 hc
      refine ev_n 2 (fun _ => rfl) ?_
      obtain ⟨v5, σ4, hf, h⟩ := h
      refine ev_go rfl (w_callV rfl rfl rfl (Nat.le_of_ble_eq_true rfl) hf) ?_
      refine ev_if (c := v5 = 0) rfl (fun _ => rfl) (fun hc => ?_) (fun hc => ?_)
      · replace h := h.1 hc
        refine ev_n 1 (fun _ => rfl) ?_
        exact v_zret (by decide) rfl h
      · replace h := h.2 hc
        refine ev_n 2 (fun _ => rfl) ?_
        exact v_zret (by decide) rfl h
theorem m_X9_readFrom : ∀ pc o, (P_X9_readFrom KC).lookup pc = some o → Mon_ o := all_mon (a_X9_readFrom (l := launch0) (E := EC0) EC0_ok)
theorem z_X9_readFrom {s : Nat} {b : Nat} {σ : St_} {out : Out_} (h : Ev_ (P_X9_readFrom KC) 0 [some (.ref s), some (.ref 1), some (.ref b)] [] σ out) : f_X9_readFrom KC [.ref s, .ref 1, .ref b] σ = some out := fn_eq m_X9_readFrom rfl h
set_option maxRecDepth 20000 in
theorem e_X9_compares_0 {s : Nat} {x1 : Int32} {x2 : Int32} {σ : St_} {out : Out_} (hs : isS s) (h : (vpin_ x2 40 = true) ∧ (((σ.1 (s + 3) (Int32.toNatClampNeg x2)) = 60 → (vpin_ x2 40 = true) ∧ (((σ.1 (s + 4) (Int32.toNatClampNeg x2)) ≤ x1 → out = (some (.int (0 : Int32)), σ)) ∧ (¬ ((σ.1 (s + 4) (Int32.toNatClampNeg x2)) ≤ x1) → out = (some (.int (1 : Int32)), σ)))) ∧ (¬ (σ.1 (s + 3) (Int32.toNatClampNeg x2)) = 60 → (σ.1 (s + 3) (Int32.toNatClampNeg x2)) = 62 → (vpin_ x2 40 = true) ∧ ((x1 ≤ (σ.1 (s + 4) (Int32.toNatClampNeg x2)) → out = (some (.int (0 : Int32)), σ)) ∧ (¬ (x1 ≤ (σ.1 (s + 4) (Int32.toNatClampNeg x2))) → out = (some (.int (1 : Int32)), σ)))) ∧ (¬ (σ.1 (s + 3) (Int32.toNatClampNeg x2)) = 60 → ¬ (σ.1 (s + 3) (Int32.toNatClampNeg x2)) = 62 → (vpin_ x2 40 = true) ∧ ((x1 = (σ.1 (s + 4) (Int32.toNatClampNeg x2)) → out = (some (.int (1 : Int32)), σ)) ∧ (¬ (x1 = (σ.1 (s + 4) (Int32.toNatClampNeg x2))) → out = (some (.int (0 : Int32)), σ)))))) : Ev_ (P_X9_compares KC) 0 [some (.ref s), some (.int x1), some (.int x2)] [] σ out := by
  refine ev_n 1 (fun _ => rfl) ?_
  refine ev_go rfl (w_gF (ks_0 hs) (ks_r2 hs)) ?_
  refine ev_n 1 (fun _ => rfl) ?_
  obtain ⟨h0, h⟩ := h
  refine ev_go rfl (w_iald (ks_k2 hs) h0) ?_
  refine ev_lsw (y1 := 60) (y2 := 62) (t1 := 32) (t2 := 48) (t3 := 64) rfl (by decide) (by decide) (by decide) (by decide) (fun hc => ?_) (fun hc hd => ?_) (fun hc hd => ?_)
  · replace h := h.1 hc
    refine ev_n 2 (fun _ => rfl) ?_
    refine ev_go rfl (w_gF (ks_0 hs) (ks_r3 hs)) ?_
    refine ev_n 1 (fun _ => rfl) ?_
    obtain ⟨h0, h⟩ := h
    refine ev_go rfl (w_iald (ks_k3 hs) h0) ?_
    refine ev_if (c := (σ.1 (s + 4) (Int32.toNatClampNeg x2)) ≤ x1) rfl (fun _ => rfl) (fun hc => ?_) (fun hc => ?_)
    · replace h := h.1 hc
      refine ev_n 1 (fun _ => rfl) ?_
      exact v_zret (by decide) rfl h
    · replace h := h.2 hc
      refine ev_n 2 (fun _ => rfl) ?_
      exact v_zret (by decide) rfl h
  · replace h := h.2.1 hc hd
    refine ev_n 2 (fun _ => rfl) ?_
    refine ev_go rfl (w_gF (ks_0 hs) (ks_r3 hs)) ?_
    refine ev_n 1 (fun _ => rfl) ?_
    obtain ⟨h0, h⟩ := h
    refine ev_go rfl (w_iald (ks_k3 hs) h0) ?_
    refine ev_if (c := x1 ≤ (σ.1 (s + 4) (Int32.toNatClampNeg x2))) rfl (fun _ => rfl) (fun hc => ?_) (fun hc => ?_)
    · replace h := h.1 hc
      refine ev_n 1 (fun _ => rfl) ?_
      exact v_zret (by decide) rfl h
    · replace h := h.2 hc
      refine ev_n 2 (fun _ => rfl) ?_
      exact v_zret (by decide) rfl h
  · replace h := h.2.2 hc hd
    refine ev_n 2 (fun _ => rfl) ?_
    refine ev_go rfl (w_gF (ks_0 hs) (ks_r3 hs)) ?_
    refine ev_n 1 (fun _ => rfl) ?_
    obtain ⟨h0, h⟩ := h
    refine ev_go rfl (w_iald (ks_k3 hs) h0) ?_
    refine ev_if (c := x1 = (σ.1 (s + 4) (Int32.toNatClampNeg x2))) rfl (fun _ => rfl) (fun hc => ?_) (fun hc => ?_)
    · replace h := h.1 hc
      refine ev_n 2 (fun _ => rfl) ?_
      exact v_zret (by decide) rfl h
    · replace h := h.2 hc
      refine ev_n 1 (fun _ => rfl) ?_
      exact v_zret (by decide) rfl h
theorem m_X9_compares : ∀ pc o, (P_X9_compares KC).lookup pc = some o → Mon_ o := all_mon (a_X9_compares (l := launch0) (E := EC0) EC0_ok)
theorem z_X9_compares {s : Nat} {x1 : Int32} {x2 : Int32} {σ : St_} {out : Out_} (h : Ev_ (P_X9_compares KC) 0 [some (.ref s), some (.int x1), some (.int x2)] [] σ out) : f_X9_compares KC [.ref s, .int x1, .int x2] σ = some out := fn_eq m_X9_compares rfl h
set_option maxRecDepth 20000 in
theorem e_X9_isSo_0 {s : Nat} {m : Nat} {x2 : Int32} {x3 : Int32} {σ : St_} {out : Out_} (hs : isS s) (hm : isM m) (h : (vpin_ x3 40 = true) ∧ (((((σ.1 (s + 1) (Int32.toNatClampNeg x3))).toInt < 18 ∨ 22 < ((σ.1 (s + 1) (Int32.toNatClampNeg x3))).toInt) → (vpin_ x2 9 = true) ∧ (∃ (v2 : Int32) (σ1 : St_), f_J6_bitCount_0f7a4 KC [.int (σ.1 (m + 2) (Int32.toNatClampNeg x2))] σ = some (some (.int v2), σ1) ∧ (∃ (v4 : Int32) (σ3 : St_), f_X9_compares KC [.ref s, .int v2, .int x3] σ1 = some (some (.int v4), σ3) ∧ (v4 = 0 ∨ v4 = 1) ∧ out = (some (.int v4), σ3)))) ∧ ((σ.1 (s + 1) (Int32.toNatClampNeg x3)) = 18 → (vpin_ x2 9 = true) ∧ (vpin_ x3 40 = true) ∧ (((((σ.1 (m + 2) (Int32.toNatClampNeg x2)) >>> ((σ.1 (s + 2) (Int32.toNatClampNeg x3)) &&& 31)) &&& (1 : Int32)) = 0 → out = (some (.int (0 : Int32)), σ)) ∧ (¬ ((((σ.1 (m + 2) (Int32.toNatClampNeg x2)) >>> ((σ.1 (s + 2) (Int32.toNatClampNeg x3)) &&& 31)) &&& (1 : Int32)) = 0) → out = (some (.int (1 : Int32)), σ)))) ∧ ((σ.1 (s + 1) (Int32.toNatClampNeg x3)) = 19 → (vpin_ x2 9 = true) ∧ (vpin_ x3 40 = true) ∧ (((((σ.1 (m + 3) (Int32.toNatClampNeg x2)) >>> ((σ.1 (s + 2) (Int32.toNatClampNeg x3)) &&& 31)) &&& (1 : Int32)) = 0 → out = (some (.int (0 : Int32)), σ)) ∧ (¬ ((((σ.1 (m + 3) (Int32.toNatClampNeg x2)) >>> ((σ.1 (s + 2) (Int32.toNatClampNeg x3)) &&& 31)) &&& (1 : Int32)) = 0) → out = (some (.int (1 : Int32)), σ)))) ∧ ((σ.1 (s + 1) (Int32.toNatClampNeg x3)) = 20 → (vpin_ x3 40 = true) ∧ (vpin_ ((x2 * (16 : Int32)) + (σ.1 (s + 2) (Int32.toNatClampNeg x3))) 144 = true) ∧ (∃ (v6 : Int32) (σ5 : St_), f_X9_compares KC [.ref s, .int ((σ.1 (m + 4) (Int32.toNatClampNeg ((x2 * (16 : Int32)) + (σ.1 (s + 2) (Int32.toNatClampNeg x3))))) / (10000 : Int32)), .int x3] σ = some (some (.int v6), σ5) ∧ (v6 = 0 ∨ v6 = 1) ∧ out = (some (.int v6), σ5))) ∧ ((σ.1 (s + 1) (Int32.toNatClampNeg x3)) = 21 → (∃ (v8 : Int32) (σ7 : St_), f_X5_inAll KC [.ref m, .int x2] σ = some (some (.int v8), σ7) ∧ (∃ (v10 : Int32) (σ9 : St_), f_X9_compares KC [.ref s, .int v8, .int x3] σ7 = some (some (.int v10), σ9) ∧ (v10 = 0 ∨ v10 = 1) ∧ out = (some (.int v10), σ9)))) ∧ ((σ.1 (s + 1) (Int32.toNatClampNeg x3)) = 22 → (vpin_ x2 9 = true) ∧ (∃ (v12 : Int32) (σ11 : St_), f_X9_compares KC [.ref s, .int (σ.1 (m + 1) (Int32.toNatClampNeg x2)), .int x3] σ = some (some (.int v12), σ11) ∧ (v12 = 0 ∨ v12 = 1) ∧ out = (some (.int v12), σ11))))) : Ev_ (P_X9_isSo KC) 0 [some (.ref s), some (.ref m), some (.int x2), some (.int x3)] [] σ out := by
  refine ev_n 1 (fun _ => rfl) ?_
  refine ev_go rfl (w_gF (ks_0 hs) (ks_r0 hs)) ?_
  refine ev_n 1 (fun _ => rfl) ?_
  obtain ⟨h0, h⟩ := h
  refine ev_go rfl (w_iald (ks_k0 hs) h0) ?_
  refine ev_tsw rfl (fun hc => ?_) (fun t hc ht => ?_) (by decide)
  · replace h := h.1 hc
    refine ev_n 2 (fun _ => rfl) ?_
    refine ev_go rfl (w_gF (km_0 hm) (km_r1 hm)) ?_
    refine ev_n 1 (fun _ => rfl) ?_
    obtain ⟨h0, h⟩ := h
    refine ev_go rfl (w_iald (km_k1 hm) h0) ?_
    obtain ⟨v2, σ1, hf, h⟩ := h
    refine ev_go rfl (w_callS ⟨Nat.le_of_ble_eq_true rfl, Nat.le_of_ble_eq_true rfl⟩ hf) ?_
    refine ev_n 1 (fun _ => rfl) ?_
    obtain ⟨v4, σ3, hf, h⟩ := h
    refine ev_go rfl (w_callV rfl rfl (ks_0 hs) (Nat.le_of_ble_eq_true rfl) hf) ?_
    exact v_zret h.1 rfl h.2
  · have hi := tsw_in (n := 5) hc (by decide)
    rcases (show (((σ.1 (s + 1) (Int32.toNatClampNeg x3))).toInt - 18).toNat = 0 ∨ (((σ.1 (s + 1) (Int32.toNatClampNeg x3))).toInt - 18).toNat = 1 ∨ (((σ.1 (s + 1) (Int32.toNatClampNeg x3))).toInt - 18).toNat = 2 ∨ (((σ.1 (s + 1) (Int32.toNatClampNeg x3))).toInt - 18).toNat = 3 ∨ (((σ.1 (s + 1) (Int32.toNatClampNeg x3))).toInt - 18).toNat = 4 by omega) with e | e | e | e | e
    · rw [e] at ht
      cases ht
      replace h := h.2.1 (tsw_eq hc e (by decide))
      refine ev_n 1 (fun _ => rfl) ?_
      refine ev_go rfl (w_gF (km_0 hm) (km_r1 hm)) ?_
      refine ev_n 1 (fun _ => rfl) ?_
      obtain ⟨h0, h⟩ := h
      refine ev_go rfl (w_iald (km_k1 hm) h0) ?_
      refine ev_n 1 (fun _ => rfl) ?_
      refine ev_go rfl (w_gF (ks_0 hs) (ks_r1 hs)) ?_
      refine ev_n 1 (fun _ => rfl) ?_
      obtain ⟨h0, h⟩ := h
      refine ev_go rfl (w_iald (ks_k1 hs) h0) ?_
      refine ev_n 3 (fun _ => rfl) ?_
      refine ev_if (c := (((σ.1 (m + 2) (Int32.toNatClampNeg x2)) >>> ((σ.1 (s + 2) (Int32.toNatClampNeg x3)) &&& 31)) &&& (1 : Int32)) = 0) rfl (fun _ => rfl) (fun hc => ?_) (fun hc => ?_)
      · replace h := h.1 hc
        refine ev_n 1 (fun _ => rfl) ?_
        exact v_zret (by decide) rfl h
      · replace h := h.2 hc
        refine ev_n 2 (fun _ => rfl) ?_
        exact v_zret (by decide) rfl h
    · rw [e] at ht
      cases ht
      replace h := h.2.2.1 (tsw_eq hc e (by decide))
      refine ev_n 1 (fun _ => rfl) ?_
      refine ev_go rfl (w_gF (km_0 hm) (km_r2 hm)) ?_
      refine ev_n 1 (fun _ => rfl) ?_
      obtain ⟨h0, h⟩ := h
      refine ev_go rfl (w_iald (km_k2 hm) h0) ?_
      refine ev_n 1 (fun _ => rfl) ?_
      refine ev_go rfl (w_gF (ks_0 hs) (ks_r1 hs)) ?_
      refine ev_n 1 (fun _ => rfl) ?_
      obtain ⟨h0, h⟩ := h
      refine ev_go rfl (w_iald (ks_k1 hs) h0) ?_
      refine ev_n 3 (fun _ => rfl) ?_
      refine ev_if (c := (((σ.1 (m + 3) (Int32.toNatClampNeg x2)) >>> ((σ.1 (s + 2) (Int32.toNatClampNeg x3)) &&& 31)) &&& (1 : Int32)) = 0) rfl (fun _ => rfl) (fun hc => ?_) (fun hc => ?_)
      · replace h := h.1 hc
        refine ev_n 1 (fun _ => rfl) ?_
        exact v_zret (by decide) rfl h
      · replace h := h.2 hc
        refine ev_n 2 (fun _ => rfl) ?_
        exact v_zret (by decide) rfl h
    · rw [e] at ht
      cases ht
      replace h := h.2.2.2.1 (tsw_eq hc e (by decide))
      refine ev_n 2 (fun _ => rfl) ?_
      refine ev_go rfl (w_gF (km_0 hm) (km_r3 hm)) ?_
      refine ev_n 4 (fun _ => rfl) ?_
      refine ev_go rfl (w_gF (ks_0 hs) (ks_r1 hs)) ?_
      refine ev_n 1 (fun _ => rfl) ?_
      obtain ⟨h0, h⟩ := h
      refine ev_go rfl (w_iald (ks_k1 hs) h0) ?_
      refine ev_n 1 (fun _ => rfl) ?_
      obtain ⟨h0, h⟩ := h
      refine ev_go rfl (w_iald (km_k3 hm) h0) ?_
      refine ev_n 1 (fun _ => rfl) ?_
      refine ev_go rfl (w_div (by decide)) ?_
      refine ev_n 1 (fun _ => rfl) ?_
      obtain ⟨v6, σ5, hf, h⟩ := h
      refine ev_go rfl (w_callV rfl rfl (ks_0 hs) (Nat.le_of_ble_eq_true rfl) hf) ?_
      exact v_zret h.1 rfl h.2
    · rw [e] at ht
      cases ht
      replace h := h.2.2.2.2.1 (tsw_eq hc e (by decide))
      refine ev_n 3 (fun _ => rfl) ?_
      obtain ⟨v8, σ7, hf, h⟩ := h
      refine ev_go rfl (w_callV rfl rfl (km_0 hm) (Nat.le_of_ble_eq_true rfl) hf) ?_
      refine ev_n 1 (fun _ => rfl) ?_
      obtain ⟨v10, σ9, hf, h⟩ := h
      refine ev_go rfl (w_callV rfl rfl (ks_0 hs) (Nat.le_of_ble_eq_true rfl) hf) ?_
      exact v_zret h.1 rfl h.2
    · rw [e] at ht
      cases ht
      replace h := h.2.2.2.2.2 (tsw_eq hc e (by decide))
      refine ev_n 2 (fun _ => rfl) ?_
      refine ev_go rfl (w_gF (km_0 hm) (km_r0 hm)) ?_
      refine ev_n 1 (fun _ => rfl) ?_
      obtain ⟨h0, h⟩ := h
      refine ev_go rfl (w_iald (km_k0 hm) h0) ?_
      refine ev_n 1 (fun _ => rfl) ?_
      obtain ⟨v12, σ11, hf, h⟩ := h
      refine ev_go rfl (w_callV rfl rfl (ks_0 hs) (Nat.le_of_ble_eq_true rfl) hf) ?_
      exact v_zret h.1 rfl h.2
theorem m_X9_isSo : ∀ pc o, (P_X9_isSo KC).lookup pc = some o → Mon_ o := all_mon (a_X9_isSo (l := launch0) (E := EC0) EC0_ok)
theorem z_X9_isSo {s : Nat} {m : Nat} {x2 : Int32} {x3 : Int32} {σ : St_} {out : Out_} (h : Ev_ (P_X9_isSo KC) 0 [some (.ref s), some (.ref m), some (.int x2), some (.int x3)] [] σ out) : f_X9_isSo KC [.ref s, .ref m, .int x2, .int x3] σ = some out := fn_eq m_X9_isSo rfl h
set_option maxRecDepth 20000 in
theorem e_X9_holds_0 {s : Nat} {m : Nat} {x2 : Int32} {σ : St_} {out : Out_} (hs : isS s) (hm : isM m) (h : Ev_ (P_X9_holds KC) 5 [some (.ref s), some (.ref m), some (.int x2), some (.int (0 : Int32)), some (.int (0 : Int32)), none] [] σ out) : Ev_ (P_X9_holds KC) 0 [some (.ref s), some (.ref m), some (.int x2), none, none, none] [] σ out := by
  refine ev_n 4 (fun _ => rfl) ?_
  exact h
set_option maxRecDepth 20000 in
theorem e_X9_holds_5 {s : Nat} {m : Nat} {x2 : Int32} {x3 : Int32} {x4 : Int32} {σ : St_} {out : Out_} (hs : isS s) (hm : isM m) (h : (((σ.1 s 4) ≤ x4 → (((x3 &&& (1 : Int32)) = 0 → out = (some (.int (0 : Int32)), σ)) ∧ (¬ ((x3 &&& (1 : Int32)) = 0) → out = (some (.int (1 : Int32)), σ)))) ∧ (¬ ((σ.1 s 4) ≤ x4) → (vpin_ x4 40 = true) ∧ (((((σ.1 (s + 1) (Int32.toNatClampNeg x4))).toInt < 15 ∨ 17 < ((σ.1 (s + 1) (Int32.toNatClampNeg x4))).toInt) → (∃ (v2 : Int32) (σ1 : St_), f_X9_isSo KC [.ref s, .ref m, .int x2, .int x4] σ = some (some (.int v2), σ1) ∧ ((v2 = 0 → Ev_ (P_X9_holds KC) 5 [some (.ref s), some (.ref m), some (.int x2), some (.int ((x3 <<< ((1 : Int32) &&& 31)) ||| (0 : Int32))), some (.int (x4 + 1)), none] [] σ1 out) ∧ (¬ (v2 = 0) → Ev_ (P_X9_holds KC) 5 [some (.ref s), some (.ref m), some (.int x2), some (.int ((x3 <<< ((1 : Int32) &&& 31)) ||| (1 : Int32))), some (.int (x4 + 1)), none] [] σ1 out)))) ∧ ((σ.1 (s + 1) (Int32.toNatClampNeg x4)) = 15 → Ev_ (P_X9_holds KC) 5 [some (.ref s), some (.ref m), some (.int x2), some (.int ((x3 >>> ((1 : Int32) &&& 31)) ||| (x3 &&& (1 : Int32)))), some (.int (x4 + 1)), none] [] σ out) ∧ ((σ.1 (s + 1) (Int32.toNatClampNeg x4)) = 16 → Ev_ (P_X9_holds KC) 5 [some (.ref s), some (.ref m), some (.int x2), some (.int ((x3 >>> ((1 : Int32) &&& 31)) &&& ((x3 &&& (1 : Int32)) ||| ((-2) : Int32)))), some (.int (x4 + 1)), none] [] σ out) ∧ ((σ.1 (s + 1) (Int32.toNatClampNeg x4)) = 17 → Ev_ (P_X9_holds KC) 5 [some (.ref s), some (.ref m), some (.int x2), some (.int (x3 ^^^ (1 : Int32))), some (.int (x4 + 1)), none] [] σ out))))) : Ev_ (P_X9_holds KC) 5 [some (.ref s), some (.ref m), some (.int x2), some (.int x3), some (.int x4), none] [] σ out := by
  refine ev_n 2 (fun _ => rfl) ?_
  refine ev_go rfl (w_gI (ks_0 hs)) ?_
  refine ev_if (c := (σ.1 s 4) ≤ x4) rfl (fun _ => rfl) (fun hc => ?_) (fun hc => ?_)
  · replace h := h.1 hc
    refine ev_n 3 (fun _ => rfl) ?_
    refine ev_if (c := (x3 &&& (1 : Int32)) = 0) rfl (fun _ => rfl) (fun hc => ?_) (fun hc => ?_)
    · replace h := h.1 hc
      refine ev_n 1 (fun _ => rfl) ?_
      exact v_zret (by decide) rfl h
    · replace h := h.2 hc
      refine ev_n 2 (fun _ => rfl) ?_
      exact v_zret (by decide) rfl h
  · replace h := h.2 hc
    refine ev_n 5 (fun _ => rfl) ?_
    refine ev_go rfl (w_gF (ks_0 hs) (ks_r0 hs)) ?_
    refine ev_n 1 (fun _ => rfl) ?_
    obtain ⟨h0, h⟩ := h
    refine ev_go rfl (w_iald (ks_k0 hs) h0) ?_
    refine ev_tsw rfl (fun hc => ?_) (fun t hc ht => ?_) (by decide)
    · replace h := h.1 hc
      refine ev_n 7 (fun _ => rfl) ?_
      obtain ⟨v2, σ1, hf, h⟩ := h
      refine ev_go rfl (w_callV rfl rfl (ks_0 hs) (Nat.le_of_ble_eq_true rfl) hf) ?_
      refine ev_if (c := v2 = 0) rfl (fun _ => rfl) (fun hc => ?_) (fun hc => ?_)
      · replace h := h.1 hc
        refine ev_n 5 (fun _ => rfl) ?_
        exact h
      · replace h := h.2 hc
        refine ev_n 6 (fun _ => rfl) ?_
        exact h
    · have hi := tsw_in (n := 3) hc (by decide)
      rcases (show (((σ.1 (s + 1) (Int32.toNatClampNeg x4))).toInt - 15).toNat = 0 ∨ (((σ.1 (s + 1) (Int32.toNatClampNeg x4))).toInt - 15).toNat = 1 ∨ (((σ.1 (s + 1) (Int32.toNatClampNeg x4))).toInt - 15).toNat = 2 by omega) with e | e | e
      · rw [e] at ht
        cases ht
        replace h := h.2.1 (tsw_eq hc e (by decide))
        refine ev_n 8 (fun _ => rfl) ?_
        refine ev_n 1 (fun _ => rfl) ?_
        exact h
      · rw [e] at ht
        cases ht
        replace h := h.2.2.1 (tsw_eq hc e (by decide))
        refine ev_n 8 (fun _ => rfl) ?_
        refine ev_n 3 (fun _ => rfl) ?_
        exact h
      · rw [e] at ht
        cases ht
        replace h := h.2.2.2 (tsw_eq hc e (by decide))
        refine ev_n 7 (fun _ => rfl) ?_
        exact h
theorem m_X9_holds : ∀ pc o, (P_X9_holds KC).lookup pc = some o → Mon_ o := all_mon (a_X9_holds (l := launch0) (E := EC0) EC0_ok)
theorem z_X9_holds {s : Nat} {m : Nat} {x2 : Int32} {σ : St_} {out : Out_} (h : Ev_ (P_X9_holds KC) 0 [some (.ref s), some (.ref m), some (.int x2), none, none, none] [] σ out) : f_X9_holds KC [.ref s, .ref m, .int x2] σ = some out := fn_eq m_X9_holds rfl h
set_option maxRecDepth 20000 in
theorem e_X10_mostOfRest_0 {x1 : Int32} {σ : St_} {out : Out_}  (h : Ev_ (P_X10_mostOfRest KC) 4 [some (.ref 99), some (.int x1), some (.int (0 : Int32)), some (.int x1)] [] σ out) : Ev_ (P_X10_mostOfRest KC) 0 [some (.ref 99), some (.int x1), none, none] [] σ out := by
  refine ev_n 4 (fun _ => rfl) ?_
  exact h
set_option maxRecDepth 20000 in
theorem e_X10_mostOfRest_4 {x1 : Int32} {x2 : Int32} {x3 : Int32} {σ : St_} {out : Out_}  (h : (((σ.1 99 7) ≤ x3 → out = (some (.int (x2 * (σ.1 99 8))), σ)) ∧ (¬ ((σ.1 99 7) ≤ x3) → (∃ b1, σ.2.2 99 6 = some b1 ∧ isB b1 ∧ (vpin_ x3 16 = true) ∧ Ev_ (P_X10_mostOfRest KC) 4 [some (.ref 99), some (.int x1), some (.int (x2 + (σ.1 (b1 + 3) (Int32.toNatClampNeg x3)))), some (.int (x3 + 1))] [] σ out)))) : Ev_ (P_X10_mostOfRest KC) 4 [some (.ref 99), some (.int x1), some (.int x2), some (.int x3)] [] σ out := by
  refine ev_n 2 (fun _ => rfl) ?_
  refine ev_go rfl (w_gI rfl) ?_
  refine ev_if (c := (σ.1 99 7) ≤ x3) rfl (fun _ => rfl) (fun hc => ?_) (fun hc => ?_)
  · replace h := h.1 hc
    refine ev_n 2 (fun _ => rfl) ?_
    refine ev_go rfl (w_gI rfl) ?_
    refine ev_n 1 (fun _ => rfl) ?_
    exact ev_ret rfl (fun _ => rfl) h
  · replace h := h.2 hc
    refine ev_n 2 (fun _ => rfl) ?_
    obtain ⟨b1, eb1, hb1, h⟩ := h
    refine ev_go rfl (w_gR rfl eb1) ?_
    refine ev_go rfl (w_gF (kb_0 hb1) (kb_r2 hb1)) ?_
    refine ev_n 1 (fun _ => rfl) ?_
    obtain ⟨h0, h⟩ := h
    refine ev_go rfl (w_iald (kb_k2 hb1) h0) ?_
    refine ev_n 4 (fun _ => rfl) ?_
    exact h
theorem m_X10_mostOfRest : ∀ pc o, (P_X10_mostOfRest KC).lookup pc = some o → Mon_ o := all_mon (a_X10_mostOfRest (l := launch0) (E := EC0) EC0_ok)
theorem z_X10_mostOfRest {x1 : Int32} {σ : St_} {out : Out_} (h : Ev_ (P_X10_mostOfRest KC) 0 [some (.ref 99), some (.int x1), none, none] [] σ out) : f_X10_mostOfRest KC [.ref 99, .int x1] σ = some out := fn_eq m_X10_mostOfRest rfl h
set_option maxRecDepth 20000 in
theorem e_X10_worthIfReadBy_0 {x1 : Int32} {x2 : Int32} {σ : St_} {out : Out_}  (h : (∃ b1, σ.2.2 99 6 = some b1 ∧ isB b1 ∧ (∃ (v3 : Int32) (σ2 : St_), f_X0_lackAt KC [.ref b1, .int x2, .ref 103, .int (x1 * (16 : Int32))] σ = some (some (.int v3), σ2) ∧ (∃ (v5 : Int32) (σ4 : St_), f_X0_partsRead KC [.ref b1, .int x1, .int v3] σ2 = some (some (.int v5), σ4) ∧ Ev_ (P_X10_worthIfReadBy KC) 31 [some (.ref 99), some (.int x1), some (.int x2), some (.int v5), some (.int (0 : Int32)), some (.int (0 : Int32)), none, none] [] σ4 out)))) : Ev_ (P_X10_worthIfReadBy KC) 0 [some (.ref 99), some (.int x1), some (.int x2), none, none, none, none, none] [] σ out := by
  refine ev_n 1 (fun _ => rfl) ?_
  obtain ⟨b1, eb1, hb1, h⟩ := h
  refine ev_go rfl (w_gR rfl eb1) ?_
  refine ev_n 2 (fun _ => rfl) ?_
  refine ev_go rfl (w_gR (z := b1) rfl eb1) ?_
  refine ev_n 2 (fun _ => rfl) ?_
  refine ev_go rfl (w_gF rfl rfl) ?_
  refine ev_n 3 (fun _ => rfl) ?_
  obtain ⟨v3, σ2, hf, h⟩ := h
  refine ev_go rfl (w_callV rfl rfl (kb_0 hb1) (Nat.le_of_ble_eq_true rfl) hf) ?_
  obtain ⟨v5, σ4, hf, h⟩ := h
  refine ev_go rfl (w_callV rfl rfl (kb_0 hb1) (Nat.le_of_ble_eq_true rfl) hf) ?_
  refine ev_n 5 (fun _ => rfl) ?_
  exact h
set_option maxRecDepth 20000 in
theorem e_X10_worthIfReadBy_31 {x1 : Int32} {x2 : Int32} {x3 : Int32} {x4 : Int32} {x5 : Int32} {σ : St_} {out : Out_}  (h : (((σ.1 99 8) ≤ x5 → out = (some (.int x4), σ)) ∧ (¬ ((σ.1 99 8) ≤ x5) → ((x5 = x1 → (vpin_ ((x5 * (16 : Int32)) + x2) 64 = true) ∧ (vpin_ ((x5 * (16 : Int32)) + x2) 64 = true) ∧ Ev_ (P_X10_worthIfReadBy KC) 131 [some (.ref 99), some (.int x1), some (.int x2), some (.int x3), some (.int x4), some (.int x5), some (.int (x5 * (16 : Int32))), none] [] (sI_ (sI_ σ 103 (Int32.toNatClampNeg ((x5 * (16 : Int32)) + x2)) x3) 104 (Int32.toNatClampNeg ((x5 * (16 : Int32)) + x2)) x3) out) ∧ (¬ (x5 = x1) → (∃ b1, σ.2.2 99 6 = some b1 ∧ isB b1 ∧ (∃ (v3 : Int32) (σ2 : St_), f_X0_lackAt KC [.ref b1, .int x2, .ref 104, .int (x5 * (16 : Int32))] σ = some (some (.int v3), σ2) ∧ (vpin_ ((x5 * (16 : Int32)) + x2) 64 = true) ∧ (∃ b4, (sI_ σ2 103 (Int32.toNatClampNeg ((x5 * (16 : Int32)) + x2)) (0 : Int32)).2.2 99 6 = some b4 ∧ isB b4 ∧ (∃ (v6 : Int32) (σ5 : St_), f_X0_partsTold KC [.ref b4, .int x3, .int x1, .int (4 : Int32), .int x5] (sI_ σ2 103 (Int32.toNatClampNeg ((x5 * (16 : Int32)) + x2)) (0 : Int32)) = some (some (.int v6), σ5) ∧ (∃ (v8 : Int32) (σ7 : St_), f_X0_ofMillion KC [.int v6, .int ((1000000 : Int32) - v3)] σ5 = some (some (.int v8), σ7) ∧ (vpin_ ((x5 * (16 : Int32)) + x2) 64 = true) ∧ Ev_ (P_X10_worthIfReadBy KC) 131 [some (.ref 99), some (.int x1), some (.int x2), some (.int x3), some (.int x4), some (.int x5), some (.int (x5 * (16 : Int32))), none] [] (sI_ σ7 104 (Int32.toNatClampNeg ((x5 * (16 : Int32)) + x2)) v8) out)))))))))) : Ev_ (P_X10_worthIfReadBy KC) 31 [some (.ref 99), some (.int x1), some (.int x2), some (.int x3), some (.int x4), some (.int x5), none, none] [] σ out := by
  refine ev_n 2 (fun _ => rfl) ?_
  refine ev_go rfl (w_gI rfl) ?_
  refine ev_if (c := (σ.1 99 8) ≤ x5) rfl (fun _ => rfl) (fun hc => ?_) (fun hc => ?_)
  · replace h := h.1 hc
    refine ev_n 1 (fun _ => rfl) ?_
    exact ev_ret rfl (fun _ => rfl) h
  · replace h := h.2 hc
    refine ev_n 6 (fun _ => rfl) ?_
    refine ev_if (c := x5 = x1) rfl (fun _ => rfl) (fun hc => ?_) (fun hc => ?_)
    · replace h := h.1 hc
      refine ev_n 1 (fun _ => rfl) ?_
      refine ev_go rfl (w_gF rfl rfl) ?_
      refine ev_n 4 (fun _ => rfl) ?_
      obtain ⟨h0, h⟩ := h
      refine ev_go rfl (w_iast rfl h0) ?_
      refine ev_n 1 (fun _ => rfl) ?_
      refine ev_go rfl (w_gF rfl rfl) ?_
      refine ev_n 4 (fun _ => rfl) ?_
      obtain ⟨h0, h⟩ := h
      refine ev_go rfl (w_iast rfl h0) ?_
      refine ev_n 1 (fun _ => rfl) ?_
      exact h
    · replace h := h.2 hc
      refine ev_n 1 (fun _ => rfl) ?_
      obtain ⟨b1, eb1, hb1, h⟩ := h
      refine ev_go rfl (w_gR rfl eb1) ?_
      refine ev_n 2 (fun _ => rfl) ?_
      refine ev_go rfl (w_gF rfl rfl) ?_
      refine ev_n 1 (fun _ => rfl) ?_
      obtain ⟨v3, σ2, hf, h⟩ := h
      refine ev_go rfl (w_callV rfl rfl (kb_0 hb1) (Nat.le_of_ble_eq_true rfl) hf) ?_
      refine ev_n 2 (fun _ => rfl) ?_
      refine ev_go rfl (w_gF rfl rfl) ?_
      refine ev_n 4 (fun _ => rfl) ?_
      obtain ⟨h0, h⟩ := h
      refine ev_go rfl (w_iast rfl h0) ?_
      refine ev_n 1 (fun _ => rfl) ?_
      refine ev_go rfl (w_gF rfl rfl) ?_
      refine ev_n 4 (fun _ => rfl) ?_
      obtain ⟨b4, eb4, hb4, h⟩ := h
      refine ev_go rfl (w_gR rfl eb4) ?_
      refine ev_n 4 (fun _ => rfl) ?_
      obtain ⟨v6, σ5, hf, h⟩ := h
      refine ev_go rfl (w_callV rfl rfl (kb_0 hb4) (Nat.le_of_ble_eq_true rfl) hf) ?_
      refine ev_n 3 (fun _ => rfl) ?_
      obtain ⟨v8, σ7, hf, h⟩ := h
      refine ev_go rfl (w_callS ⟨Nat.le_of_ble_eq_true rfl, Nat.le_of_ble_eq_true rfl⟩ hf) ?_
      obtain ⟨h0, h⟩ := h
      refine ev_goA rfl (w_iast rfl h0) rfl ?_
      exact h
set_option maxRecDepth 20000 in
theorem e_X10_worthIfReadBy_131 {x1 : Int32} {x2 : Int32} {x3 : Int32} {x4 : Int32} {x5 : Int32} {x6 : Int32} {σ : St_} {out : Out_}  (h : (∃ b1, σ.2.2 99 6 = some b1 ∧ isB b1 ∧ (vpin_ x2 16 = true) ∧ (vpin_ (x6 + x2) 64 = true) ∧ (∃ (v3 : Int32) (σ2 : St_), f_X0_ofMillion KC [.int (σ.1 (b1 + 3) (Int32.toNatClampNeg x2)), .int (σ.1 104 (Int32.toNatClampNeg (x6 + x2)))] σ = some (some (.int v3), σ2) ∧ Ev_ (P_X10_worthIfReadBy KC) 31 [some (.ref 99), some (.int x1), some (.int x2), some (.int x3), some (.int (x4 + v3)), some (.int (x5 + 1)), none, none] [] σ2 out))) : Ev_ (P_X10_worthIfReadBy KC) 131 [some (.ref 99), some (.int x1), some (.int x2), some (.int x3), some (.int x4), some (.int x5), some (.int x6), none] [] σ out := by
  refine ev_n 2 (fun _ => rfl) ?_
  obtain ⟨b1, eb1, hb1, h⟩ := h
  refine ev_go rfl (w_gR rfl eb1) ?_
  refine ev_go rfl (w_gF (kb_0 hb1) (kb_r2 hb1)) ?_
  refine ev_n 1 (fun _ => rfl) ?_
  obtain ⟨h0, h⟩ := h
  refine ev_go rfl (w_iald (kb_k2 hb1) h0) ?_
  refine ev_n 1 (fun _ => rfl) ?_
  refine ev_go rfl (w_gF rfl rfl) ?_
  refine ev_n 3 (fun _ => rfl) ?_
  obtain ⟨h0, h⟩ := h
  refine ev_go rfl (w_iald rfl h0) ?_
  obtain ⟨v3, σ2, hf, h⟩ := h
  refine ev_go rfl (w_callS ⟨Nat.le_of_ble_eq_true rfl, Nat.le_of_ble_eq_true rfl⟩ hf) ?_
  refine ev_n 4 (fun _ => rfl) ?_
  exact h
theorem m_X10_worthIfReadBy : ∀ pc o, (P_X10_worthIfReadBy KC).lookup pc = some o → Mon_ o := all_mon (a_X10_worthIfReadBy (l := launch0) (E := EC0) EC0_ok)
theorem z_X10_worthIfReadBy {x1 : Int32} {x2 : Int32} {σ : St_} {out : Out_} (h : Ev_ (P_X10_worthIfReadBy KC) 0 [some (.ref 99), some (.int x1), some (.int x2), none, none, none, none, none] [] σ out) : f_X10_worthIfReadBy KC [.ref 99, .int x1, .int x2] σ = some out := fn_eq m_X10_worthIfReadBy rfl h
set_option maxRecDepth 20000 in
theorem e_X10_tryFrom_0 {x1 : Int32} {x2 : Int32} {r_X10_tryFrom : Fn_} {σ : St_} {out : Out_}  (h : ((x1 < (σ.1 99 7) → (∃ (v2 : Int32) (σ1 : St_), f_X10_mostOfRest KC [.ref 99, .int x1] σ = some (some (.int v2), σ1) ∧ (((σ1.1 99 9) < (x2 + v2) → Ev_ (P_X10_tryFrom KC r_X10_tryFrom) 54 [some (.ref 99), some (.int x1), some (.int x2), some (.int (0 : Int32)), none] [] σ1 out) ∧ (¬ ((σ1.1 99 9) < (x2 + v2)) → out = (none, σ1))))) ∧ (¬ (x1 < (σ.1 99 7)) → ((x2 ≤ (σ.1 99 9) → out = (none, σ)) ∧ (¬ (x2 ≤ (σ.1 99 9)) → (∃ (σ3 : St_), f_X0_copyRow KC [.ref 101, .ref 100, .int ((sI_ σ 99 9 x2).1 99 7)] (sI_ σ 99 9 x2) = some (none, σ3) ∧ out = (none, σ3))))))) : Ev_ (P_X10_tryFrom KC r_X10_tryFrom) 0 [some (.ref 99), some (.int x1), some (.int x2), none, none] [] σ out := by
  refine ev_n 2 (fun _ => rfl) ?_
  refine ev_go rfl (w_gI rfl) ?_
  refine ev_if (c := x1 < (σ.1 99 7)) rfl (fun _ => rfl) (fun hc => ?_) (fun hc => ?_)
  · replace h := h.1 hc
    refine ev_n 3 (fun _ => rfl) ?_
    obtain ⟨v2, σ1, hf, h⟩ := h
    refine ev_go rfl (w_callV rfl rfl rfl (Nat.le_of_ble_eq_true rfl) hf) ?_
    refine ev_n 2 (fun _ => rfl) ?_
    refine ev_go rfl (w_gI rfl) ?_
    refine ev_if (c := (σ1.1 99 9) < (x2 + v2)) rfl (fun _ => rfl) (fun hc => ?_) (fun hc => ?_)
    · replace h := h.1 hc
      refine ev_n 2 (fun _ => rfl) ?_
      exact h
    · replace h := h.2 hc
      exact ev_ret rfl (fun _ => rfl) h
  · replace h := h.2 hc
    refine ev_n 2 (fun _ => rfl) ?_
    refine ev_go rfl (w_gI rfl) ?_
    refine ev_if (c := x2 ≤ (σ.1 99 9)) rfl (fun _ => rfl) (fun hc => ?_) (fun hc => ?_)
    · replace h := h.1 hc
      exact ev_ret rfl (fun _ => rfl) h
    · replace h := h.2 hc
      refine ev_n 2 (fun _ => rfl) ?_
      refine ev_go rfl (w_pI rfl) ?_
      refine ev_n 1 (fun _ => rfl) ?_
      refine ev_go rfl (w_gF rfl rfl) ?_
      refine ev_n 1 (fun _ => rfl) ?_
      refine ev_go rfl (w_gF rfl rfl) ?_
      refine ev_n 1 (fun _ => rfl) ?_
      refine ev_go rfl (w_gI rfl) ?_
      obtain ⟨σ3, hf, h⟩ := h
      refine ev_go rfl (w_callS ⟨Nat.le_of_ble_eq_true rfl, Nat.le_of_ble_eq_true rfl⟩ hf) ?_
      exact ev_ret rfl (fun _ => rfl) h
set_option maxRecDepth 20000 in
theorem e_X10_tryFrom_54 {x1 : Int32} {x2 : Int32} {r_X10_tryFrom : Fn_} {x3 : Int32} {σ : St_} {out : Out_}  (h : (((σ.1 99 8) ≤ x3 → (vpin_ x1 6 = true) ∧ Ev_ (P_X10_tryFrom KC r_X10_tryFrom) 143 [some (.ref 99), some (.int x1), some (.int x2), some (.int (0 : Int32)), none] [] (sI_ σ 101 (Int32.toNatClampNeg x1) ((-1) : Int32)) out) ∧ (¬ ((σ.1 99 8) ≤ x3) → (∃ b1, σ.2.2 99 6 = some b1 ∧ isB b1 ∧ (∃ (v3 : Int32) (σ2 : St_), f_X0_readTime KC [.ref b1, .int x3, .int x1] σ = some (some (.int v3), σ2) ∧ (vpin_ x3 4 = true) ∧ (((σ2.1 102 (Int32.toNatClampNeg x3)) < v3 → Ev_ (P_X10_tryFrom KC r_X10_tryFrom) 54 [some (.ref 99), some (.int x1), some (.int x2), some (.int (x3 + 1)), none] [] σ2 out) ∧ (¬ ((σ2.1 102 (Int32.toNatClampNeg x3)) < v3) → (vpin_ x3 4 = true) ∧ (vpin_ x3 4 = true) ∧ (vpin_ x1 6 = true) ∧ (∃ (v5 : Int32) (σ4 : St_), f_X10_worthIfReadBy KC [.ref 99, .int x3, .int x1] (sI_ (sI_ σ2 102 (Int32.toNatClampNeg x3) ((σ2.1 102 (Int32.toNatClampNeg x3)) - v3)) 101 (Int32.toNatClampNeg x1) x3) = some (some (.int v5), σ4) ∧ (∃ (σ6 : St_), r_X10_tryFrom [.ref 99, .int (x1 + (1 : Int32)), .int (x2 + v5)] σ4 = some (none, σ6) ∧ (vpin_ x3 4 = true) ∧ (vpin_ x3 4 = true) ∧ Ev_ (P_X10_tryFrom KC r_X10_tryFrom) 54 [some (.ref 99), some (.int x1), some (.int x2), some (.int (x3 + 1)), none] [] (sI_ σ6 102 (Int32.toNatClampNeg x3) ((σ6.1 102 (Int32.toNatClampNeg x3)) + v3)) out))))))))) : Ev_ (P_X10_tryFrom KC r_X10_tryFrom) 54 [some (.ref 99), some (.int x1), some (.int x2), some (.int x3), none] [] σ out := by
  refine ev_n 2 (fun _ => rfl) ?_
  refine ev_go rfl (w_gI rfl) ?_
  refine ev_if (c := (σ.1 99 8) ≤ x3) rfl (fun _ => rfl) (fun hc => ?_) (fun hc => ?_)
  · replace h := h.1 hc
    refine ev_n 1 (fun _ => rfl) ?_
    refine ev_go rfl (w_gF rfl rfl) ?_
    refine ev_n 2 (fun _ => rfl) ?_
    obtain ⟨h0, h⟩ := h
    refine ev_go rfl (w_iast rfl h0) ?_
    refine ev_n 2 (fun _ => rfl) ?_
    exact h
  · replace h := h.2 hc
    refine ev_n 1 (fun _ => rfl) ?_
    obtain ⟨b1, eb1, hb1, h⟩ := h
    refine ev_go rfl (w_gR rfl eb1) ?_
    refine ev_n 2 (fun _ => rfl) ?_
    obtain ⟨v3, σ2, hf, h⟩ := h
    refine ev_go rfl (w_callV rfl rfl (kb_0 hb1) (Nat.le_of_ble_eq_true rfl) hf) ?_
    refine ev_n 2 (fun _ => rfl) ?_
    refine ev_go rfl (w_gF rfl rfl) ?_
    refine ev_n 1 (fun _ => rfl) ?_
    obtain ⟨h0, h⟩ := h
    refine ev_go rfl (w_iald rfl h0) ?_
    refine ev_n 1 (fun _ => rfl) ?_
    refine ev_if (c := (σ2.1 102 (Int32.toNatClampNeg x3)) < v3) rfl (fun _ => rfl) (fun hc => ?_) (fun hc => ?_)
    · replace h := h.1 hc
      refine ev_n 2 (fun _ => rfl) ?_
      exact h
    · replace h := h.2 hc
      refine ev_n 1 (fun _ => rfl) ?_
      refine ev_go rfl (w_gF rfl rfl) ?_
      refine ev_n 2 (fun _ => rfl) ?_
      obtain ⟨h0, h⟩ := h
      refine ev_go rfl (w_iald rfl h0) ?_
      refine ev_n 2 (fun _ => rfl) ?_
      obtain ⟨h0, h⟩ := h
      refine ev_go rfl (w_iast rfl h0) ?_
      refine ev_n 1 (fun _ => rfl) ?_
      refine ev_go rfl (w_gF rfl rfl) ?_
      refine ev_n 2 (fun _ => rfl) ?_
      obtain ⟨h0, h⟩ := h
      refine ev_go rfl (w_iast rfl h0) ?_
      refine ev_n 8 (fun _ => rfl) ?_
      obtain ⟨v5, σ4, hf, h⟩ := h
      refine ev_go rfl (w_callV rfl rfl rfl (Nat.le_of_ble_eq_true rfl) hf) ?_
      refine ev_n 1 (fun _ => rfl) ?_
      obtain ⟨σ6, hf, h⟩ := h
      refine ev_go rfl (w_callV rfl rfl rfl (Nat.le_of_ble_eq_true rfl) hf) ?_
      refine ev_n 1 (fun _ => rfl) ?_
      refine ev_go rfl (w_gF rfl rfl) ?_
      refine ev_n 2 (fun _ => rfl) ?_
      obtain ⟨h0, h⟩ := h
      refine ev_go rfl (w_iald rfl h0) ?_
      refine ev_n 2 (fun _ => rfl) ?_
      obtain ⟨h0, h⟩ := h
      refine ev_go rfl (w_iast rfl h0) ?_
      refine ev_n 2 (fun _ => rfl) ?_
      exact h
set_option maxRecDepth 20000 in
theorem e_X10_tryFrom_143 {x1 : Int32} {x2 : Int32} {r_X10_tryFrom : Fn_} {x3 : Int32} {σ : St_} {out : Out_}  (h : (((σ.1 99 8) ≤ x3 → (∃ (σ1 : St_), r_X10_tryFrom [.ref 99, .int (x1 + (1 : Int32)), .int x2] σ = some (none, σ1) ∧ out = (none, σ1))) ∧ (¬ ((σ.1 99 8) ≤ x3) → (vpin_ ((x3 * (16 : Int32)) + x1) 64 = true) ∧ (vpin_ ((x3 * (16 : Int32)) + x1) 64 = true) ∧ Ev_ (P_X10_tryFrom KC r_X10_tryFrom) 143 [some (.ref 99), some (.int x1), some (.int x2), some (.int (x3 + 1)), none] [] (sI_ (sI_ σ 103 (Int32.toNatClampNeg ((x3 * (16 : Int32)) + x1)) (0 : Int32)) 104 (Int32.toNatClampNeg ((x3 * (16 : Int32)) + x1)) (0 : Int32)) out))) : Ev_ (P_X10_tryFrom KC r_X10_tryFrom) 143 [some (.ref 99), some (.int x1), some (.int x2), some (.int x3), none] [] σ out := by
  refine ev_n 2 (fun _ => rfl) ?_
  refine ev_go rfl (w_gI rfl) ?_
  refine ev_if (c := (σ.1 99 8) ≤ x3) rfl (fun _ => rfl) (fun hc => ?_) (fun hc => ?_)
  · replace h := h.1 hc
    refine ev_n 5 (fun _ => rfl) ?_
    obtain ⟨σ1, hf, h⟩ := h
    refine ev_go rfl (w_callV rfl rfl rfl (Nat.le_of_ble_eq_true rfl) hf) ?_
    exact ev_ret rfl (fun _ => rfl) h
  · replace h := h.2 hc
    refine ev_n 1 (fun _ => rfl) ?_
    refine ev_go rfl (w_gF rfl rfl) ?_
    refine ev_n 6 (fun _ => rfl) ?_
    obtain ⟨h0, h⟩ := h
    refine ev_go rfl (w_iast rfl h0) ?_
    refine ev_n 1 (fun _ => rfl) ?_
    refine ev_go rfl (w_gF rfl rfl) ?_
    refine ev_n 6 (fun _ => rfl) ?_
    obtain ⟨h0, h⟩ := h
    refine ev_go rfl (w_iast rfl h0) ?_
    refine ev_n 2 (fun _ => rfl) ?_
    exact h
theorem m_X10_tryFrom (d : Nat) : ∀ pc o, (P_X10_tryFrom KC (f_X10_tryFrom KC d)).lookup pc = some o → Mon_ o := all_mon (a_X10_tryFrom (l := launch0) (E := EC0) EC0_ok (t_X10_tryFrom EC0_ok d))
theorem z_X10_tryFrom {x1 : Int32} {x2 : Int32} {σ : St_} {out : Out_} {d : Nat} (h : Ev_ (P_X10_tryFrom KC (f_X10_tryFrom KC d)) 0 [some (.ref 99), some (.int x1), some (.int x2), none, none] [] σ out) : f_X10_tryFrom KC (d + 1) [.ref 99, .int x1, .int x2] σ = some out := show fn_ (P_X10_tryFrom KC (f_X10_tryFrom KC d)) 5 [.ref 99, .int x1, .int x2] σ = some out from fn_eq (m_X10_tryFrom d) rfl h
set_option maxRecDepth 20000 in
theorem e_X10_search_0 {b : Nat} {x2 : Int32} {x3 : Int32} {σ : St_} {out : Out_} (hb : isB b) (h : Ev_ (P_X10_search KC) 31 [some (.ref 99), some (.ref b), some (.int x2), some (.int x3), some (.int (0 : Int32))] [] (sI_ (sI_ (sI_ (sI_ (sR_ σ 99 6 (some b)) 99 7 x2) 99 8 x3) 99 1 ((sI_ (sI_ (sR_ σ 99 6 (some b)) 99 7 x2) 99 8 x3).1 99 7)) 99 9 ((-1) : Int32)) out) : Ev_ (P_X10_search KC) 0 [some (.ref 99), some (.ref b), some (.int x2), some (.int x3), none] [] σ out := by
  refine ev_n 2 (fun _ => rfl) ?_
  refine ev_go rfl (w_pR rfl) ?_
  refine ev_n 2 (fun _ => rfl) ?_
  refine ev_go rfl (w_pI rfl) ?_
  refine ev_n 2 (fun _ => rfl) ?_
  refine ev_go rfl (w_pI rfl) ?_
  refine ev_n 2 (fun _ => rfl) ?_
  refine ev_go rfl (w_gI rfl) ?_
  refine ev_go rfl (w_pI rfl) ?_
  refine ev_n 2 (fun _ => rfl) ?_
  refine ev_go rfl (w_pI rfl) ?_
  refine ev_n 2 (fun _ => rfl) ?_
  exact h
set_option maxRecDepth 20000 in
theorem e_X10_search_31 {b : Nat} {x2 : Int32} {x3 : Int32} {x4 : Int32} {σ : St_} {out : Out_} (hb : isB b) (h : (((σ.1 99 8) ≤ x4 → (∃ (σ1 : St_), f_X10_tryFrom KC 80 [.ref 99, .int (0 : Int32), .int (0 : Int32)] σ = some (none, σ1) ∧ out = (some (.int (σ1.1 99 9)), σ1))) ∧ (¬ ((σ.1 99 8) ≤ x4) → (∃ b2, σ.2.2 99 6 = some b2 ∧ isB b2 ∧ (vpin_ x4 9 = true) ∧ (vpin_ x4 4 = true) ∧ Ev_ (P_X10_search KC) 31 [some (.ref 99), some (.ref b), some (.int x2), some (.int x3), some (.int (x4 + 1))] [] (sI_ σ 102 (Int32.toNatClampNeg x4) (σ.1 (b2 + 26) (Int32.toNatClampNeg x4))) out)))) : Ev_ (P_X10_search KC) 31 [some (.ref 99), some (.ref b), some (.int x2), some (.int x3), some (.int x4)] [] σ out := by
  refine ev_n 2 (fun _ => rfl) ?_
  refine ev_go rfl (w_gI rfl) ?_
  refine ev_if (c := (σ.1 99 8) ≤ x4) rfl (fun _ => rfl) (fun hc => ?_) (fun hc => ?_)
  · replace h := h.1 hc
    refine ev_n 3 (fun _ => rfl) ?_
    obtain ⟨σ1, hf, h⟩ := h
    refine ev_go rfl (w_callV rfl rfl rfl (Nat.le_of_ble_eq_true rfl) hf) ?_
    refine ev_n 1 (fun _ => rfl) ?_
    refine ev_go rfl (w_gI rfl) ?_
    exact ev_ret rfl (fun _ => rfl) h
  · replace h := h.2 hc
    refine ev_n 1 (fun _ => rfl) ?_
    refine ev_go rfl (w_gF rfl rfl) ?_
    refine ev_n 2 (fun _ => rfl) ?_
    obtain ⟨b2, eb2, hb2, h⟩ := h
    refine ev_go rfl (w_gR rfl eb2) ?_
    refine ev_go rfl (w_gF (kb_0 hb2) (kb_r9 hb2)) ?_
    refine ev_n 1 (fun _ => rfl) ?_
    obtain ⟨h0, h⟩ := h
    refine ev_go rfl (w_iald (kb_k9 hb2) h0) ?_
    obtain ⟨h0, h⟩ := h
    refine ev_go rfl (w_iast rfl h0) ?_
    refine ev_n 2 (fun _ => rfl) ?_
    exact h
theorem m_X10_search : ∀ pc o, (P_X10_search KC).lookup pc = some o → Mon_ o := all_mon (a_X10_search (l := launch0) (E := EC0) EC0_ok)
theorem z_X10_search {b : Nat} {x2 : Int32} {x3 : Int32} {σ : St_} {out : Out_} (h : Ev_ (P_X10_search KC) 0 [some (.ref 99), some (.ref b), some (.int x2), some (.int x3), none] [] σ out) : f_X10_search KC [.ref 99, .ref b, .int x2, .int x3] σ = some out := fn_eq m_X10_search rfl h
set_option maxRecDepth 20000 in
theorem e_X11_feed_0 {x1 : Int32} {x2 : Int32} {x3 : Int32} {x4 : Int32} {x5 : Int32} {σ : St_} {out : Out_}  (h : (∃ (v2 : Int32) (σ1 : St_), f_X8_hasRoom KC [.ref 1, .int (20 : Int32)] σ = some (some (.int v2), σ1) ∧ ((v2 = 0 → out = (some (.int ((-1) : Int32)), σ1)) ∧ (¬ (v2 = 0) → (∃ (σ3 : St_), f_X8_append KC [.ref 1, .int x1] σ1 = some (none, σ3) ∧ (∃ (σ4 : St_), f_X8_append KC [.ref 1, .int x2] σ3 = some (none, σ4) ∧ (∃ (σ5 : St_), f_X8_append KC [.ref 1, .int x3] σ4 = some (none, σ5) ∧ (∃ (σ6 : St_), f_X8_append KC [.ref 1, .int x4] σ5 = some (none, σ6) ∧ (∃ (σ7 : St_), f_X8_append KC [.ref 1, .int x5] σ6 = some (none, σ7) ∧ out = (some (.int (σ7.1 1 2)), σ7)))))))))) : Ev_ (P_X11_feed KC) 0 [some (.ref 0), some (.int x1), some (.int x2), some (.int x3), some (.int x4), some (.int x5)] [] σ out := by
  refine ev_n 1 (fun _ => rfl) ?_
  refine ev_go rfl (w_gF rfl rfl) ?_
  refine ev_n 1 (fun _ => rfl) ?_
  obtain ⟨v2, σ1, hf, h⟩ := h
  refine ev_go rfl (w_callV rfl rfl rfl (Nat.le_of_ble_eq_true rfl) hf) ?_
  refine ev_if (c := v2 = 0) rfl (fun _ => rfl) (fun hc => ?_) (fun hc => ?_)
  · replace h := h.1 hc
    refine ev_n 1 (fun _ => rfl) ?_
    exact ev_ret rfl (fun _ => rfl) h
  · replace h := h.2 hc
    refine ev_n 1 (fun _ => rfl) ?_
    refine ev_go rfl (w_gF rfl rfl) ?_
    refine ev_n 1 (fun _ => rfl) ?_
    obtain ⟨σ3, hf, h⟩ := h
    refine ev_go rfl (w_callV rfl rfl rfl (Nat.le_of_ble_eq_true rfl) hf) ?_
    refine ev_n 1 (fun _ => rfl) ?_
    refine ev_go rfl (w_gF rfl rfl) ?_
    refine ev_n 1 (fun _ => rfl) ?_
    obtain ⟨σ4, hf, h⟩ := h
    refine ev_go rfl (w_callV rfl rfl rfl (Nat.le_of_ble_eq_true rfl) hf) ?_
    refine ev_n 1 (fun _ => rfl) ?_
    refine ev_go rfl (w_gF rfl rfl) ?_
    refine ev_n 1 (fun _ => rfl) ?_
    obtain ⟨σ5, hf, h⟩ := h
    refine ev_go rfl (w_callV rfl rfl rfl (Nat.le_of_ble_eq_true rfl) hf) ?_
    refine ev_n 1 (fun _ => rfl) ?_
    refine ev_go rfl (w_gF rfl rfl) ?_
    refine ev_n 1 (fun _ => rfl) ?_
    obtain ⟨σ6, hf, h⟩ := h
    refine ev_go rfl (w_callV rfl rfl rfl (Nat.le_of_ble_eq_true rfl) hf) ?_
    refine ev_n 1 (fun _ => rfl) ?_
    refine ev_go rfl (w_gF rfl rfl) ?_
    refine ev_n 1 (fun _ => rfl) ?_
    obtain ⟨σ7, hf, h⟩ := h
    refine ev_go rfl (w_callV rfl rfl rfl (Nat.le_of_ble_eq_true rfl) hf) ?_
    refine ev_n 1 (fun _ => rfl) ?_
    refine ev_go rfl (w_gF rfl rfl) ?_
    refine ev_go rfl (w_gI rfl) ?_
    exact ev_ret rfl (fun _ => rfl) h
theorem m_X11_feed : ∀ pc o, (P_X11_feed KC).lookup pc = some o → Mon_ o := all_mon (a_X11_feed (l := launch0) (E := EC0) EC0_ok)
theorem z_X11_feed {x1 : Int32} {x2 : Int32} {x3 : Int32} {x4 : Int32} {x5 : Int32} {σ : St_} {out : Out_} (h : Ev_ (P_X11_feed KC) 0 [some (.ref 0), some (.int x1), some (.int x2), some (.int x3), some (.int x4), some (.int x5)] [] σ out) : f_X11_feed KC [.ref 0, .int x1, .int x2, .int x3, .int x4, .int x5] σ = some out := fn_eq m_X11_feed rfl h
set_option maxRecDepth 20000 in
theorem e_X11_end_0 {x1 : Int32} {σ : St_} {out : Out_}  (h : ((x1 < 0 → out = (some (.int (0 : Int32)), σ)) ∧ (¬ (x1 < 0) → ((x1 ≤ (σ.1 1 2) → out = (some (.int (1 : Int32)), (sI_ σ 1 2 x1))) ∧ (¬ (x1 ≤ (σ.1 1 2)) → out = (some (.int (0 : Int32)), σ)))))) : Ev_ (P_X11_end KC) 0 [some (.ref 0), some (.int x1)] [] σ out := by
  refine ev_n 1 (fun _ => rfl) ?_
  refine ev_if (c := x1 < 0) rfl (fun _ => rfl) (fun hc => ?_) (fun hc => ?_)
  · replace h := h.1 hc
    refine ev_n 1 (fun _ => rfl) ?_
    exact v_zret (by decide) rfl h
  · replace h := h.2 hc
    refine ev_n 2 (fun _ => rfl) ?_
    refine ev_go rfl (w_gF rfl rfl) ?_
    refine ev_go rfl (w_gI rfl) ?_
    refine ev_if (c := x1 ≤ (σ.1 1 2)) rfl (fun _ => rfl) (fun hc => ?_) (fun hc => ?_)
    · replace h := h.1 hc
      refine ev_n 1 (fun _ => rfl) ?_
      refine ev_go rfl (w_gF rfl rfl) ?_
      refine ev_n 1 (fun _ => rfl) ?_
      refine ev_go rfl (w_pI rfl) ?_
      refine ev_n 1 (fun _ => rfl) ?_
      exact v_zret (by decide) rfl h
    · replace h := h.2 hc
      refine ev_n 1 (fun _ => rfl) ?_
      exact v_zret (by decide) rfl h
theorem m_X11_end : ∀ pc o, (P_X11_end KC).lookup pc = some o → Mon_ o := all_mon (a_X11_end (l := launch0) (E := EC0) EC0_ok)
theorem z_X11_end {x1 : Int32} {σ : St_} {out : Out_} (h : Ev_ (P_X11_end KC) 0 [some (.ref 0), some (.int x1)] [] σ out) : f_X11_end KC [.ref 0, .int x1] σ = some out := fn_eq m_X11_end rfl h
set_option maxRecDepth 20000 in
theorem e_X11_book_0  {σ : St_} {out : Out_}  (h : (∃ (σ1 : St_), f_X8_start KC [.ref 1, .int (1000 : Int32)] σ = some (none, σ1) ∧ (∃ b2, σ1.2.2 0 13 = some b2 ∧ isB b2 ∧ (∃ (v4 : Int32) (σ3 : St_), f_X0_readFrom KC [.ref b2, .ref 1] σ1 = some (some (.int v4), σ3) ∧ ((v4 = 0 → (∃ (v6 : Int32) (σ5 : St_), f_X8_faultAnswer KC [.ref 1] (sI_ σ3 1 2 (0 : Int32)) = some (some (.int v6), σ5) ∧ out = (some (.int v6), σ5))) ∧ (¬ (v4 = 0) → (∃ b7, (sI_ σ3 1 2 (0 : Int32)).2.2 0 12 = some b7 ∧ isB b7 ∧ (∃ b8, (sI_ σ3 1 2 (0 : Int32)).2.2 0 13 = some b8 ∧ isB b8 ∧ (∃ p9, (sR_ (sR_ (sI_ σ3 1 2 (0 : Int32)) 0 12 (some b8)) 0 13 (some b7)).2.2 0 14 = some p9 ∧ isP p9 ∧ (∃ (σ10 : St_), f_X6_clear KC [.ref p9] (sR_ (sR_ (sI_ σ3 1 2 (0 : Int32)) 0 12 (some b8)) 0 13 (some b7)) = some (none, σ10) ∧ (∃ s11, σ10.2.2 0 16 = some s11 ∧ isS s11 ∧ (∃ (σ12 : St_), f_X9_clear KC [.ref s11] σ10 = some (none, σ12) ∧ (∃ b13, (sI_ σ12 0 18 (0 : Int32)).2.2 0 12 = some b13 ∧ isB b13 ∧ out = (some (.int ((sI_ σ12 0 18 (0 : Int32)).1 b13 13)), (sI_ σ12 0 18 (0 : Int32)))))))))))))))) : Ev_ (P_X11_book KC) 0 [some (.ref 0), none, none] [] σ out := by
  refine ev_n 1 (fun _ => rfl) ?_
  refine ev_go rfl (w_gF rfl rfl) ?_
  refine ev_n 1 (fun _ => rfl) ?_
  obtain ⟨σ1, hf, h⟩ := h
  refine ev_go rfl (w_callV rfl rfl rfl (Nat.le_of_ble_eq_true rfl) hf) ?_
  refine ev_n 1 (fun _ => rfl) ?_
  obtain ⟨b2, eb2, hb2, h⟩ := h
  refine ev_go rfl (w_gR rfl eb2) ?_
  refine ev_n 1 (fun _ => rfl) ?_
  refine ev_go rfl (w_gF rfl rfl) ?_
  obtain ⟨v4, σ3, hf, h⟩ := h
  refine ev_go rfl (w_callV rfl rfl (kb_0 hb2) (Nat.le_of_ble_eq_true rfl) hf) ?_
  refine ev_n 2 (fun _ => rfl) ?_
  refine ev_go rfl (w_gF rfl rfl) ?_
  refine ev_n 1 (fun _ => rfl) ?_
  refine ev_go rfl (w_pI rfl) ?_
  refine ev_n 1 (fun _ => rfl) ?_
  refine ev_if (c := v4 = 0) rfl (fun _ => rfl) (fun hc => ?_) (fun hc => ?_)
  · replace h := h.1 hc
    refine ev_n 1 (fun _ => rfl) ?_
    refine ev_go rfl (w_gF rfl rfl) ?_
    obtain ⟨v6, σ5, hf, h⟩ := h
    refine ev_go rfl (w_callV rfl rfl rfl (Nat.le_of_ble_eq_true rfl) hf) ?_
    exact ev_ret rfl (fun _ => rfl) h
  · replace h := h.2 hc
    refine ev_n 1 (fun _ => rfl) ?_
    obtain ⟨b7, eb7, hb7, h⟩ := h
    refine ev_go rfl (w_gR rfl eb7) ?_
    refine ev_n 3 (fun _ => rfl) ?_
    obtain ⟨b8, eb8, hb8, h⟩ := h
    refine ev_go rfl (w_gR rfl eb8) ?_
    refine ev_go rfl (w_pR rfl) ?_
    refine ev_n 2 (fun _ => rfl) ?_
    refine ev_go rfl (w_pR rfl) ?_
    refine ev_n 1 (fun _ => rfl) ?_
    obtain ⟨p9, ep9, hp9, h⟩ := h
    refine ev_go rfl (w_gR rfl ep9) ?_
    obtain ⟨σ10, hf, h⟩ := h
    refine ev_go rfl (w_callV rfl rfl (kp_0 hp9) (Nat.le_of_ble_eq_true rfl) hf) ?_
    refine ev_n 1 (fun _ => rfl) ?_
    obtain ⟨s11, es11, hs11, h⟩ := h
    refine ev_go rfl (w_gR rfl es11) ?_
    obtain ⟨σ12, hf, h⟩ := h
    refine ev_go rfl (w_callV rfl rfl (ks_0 hs11) (Nat.le_of_ble_eq_true rfl) hf) ?_
    refine ev_n 2 (fun _ => rfl) ?_
    refine ev_go rfl (w_pZ rfl (by decide)) ?_
    refine ev_n 1 (fun _ => rfl) ?_
    obtain ⟨b13, eb13, hb13, h⟩ := h
    refine ev_go rfl (w_gR rfl eb13) ?_
    refine ev_go rfl (w_gI (kb_0 hb13)) ?_
    exact ev_ret rfl (fun _ => rfl) h
theorem m_X11_book : ∀ pc o, (P_X11_book KC).lookup pc = some o → Mon_ o := all_mon (a_X11_book (l := launch0) (E := EC0) EC0_ok)
theorem z_X11_book  {σ : St_} {out : Out_} (h : Ev_ (P_X11_book KC) 0 [some (.ref 0), none, none] [] σ out) : f_X11_book KC [.ref 0] σ = some out := fn_eq m_X11_book rfl h
set_option maxRecDepth 20000 in
theorem e_X11_fault_0  {σ : St_} {out : Out_}  (h : out = (some (.int (σ.1 1 9)), σ)) : Ev_ (P_X11_fault KC) 0 [some (.ref 0)] [] σ out := by
  refine ev_n 1 (fun _ => rfl) ?_
  refine ev_go rfl (w_gF rfl rfl) ?_
  refine ev_go rfl (w_gI rfl) ?_
  exact ev_ret rfl (fun _ => rfl) h
theorem m_X11_fault : ∀ pc o, (P_X11_fault KC).lookup pc = some o → Mon_ o := all_mon (a_X11_fault (l := launch0) (E := EC0) EC0_ok)
theorem z_X11_fault  {σ : St_} {out : Out_} (h : Ev_ (P_X11_fault KC) 0 [some (.ref 0)] [] σ out) : f_X11_fault KC [.ref 0] σ = some out := fn_eq m_X11_fault rfl h
set_option maxRecDepth 20000 in
theorem e_X11_chap_0 {x1 : Int32} {x2 : Int32} {σ : St_} {out : Out_}  (h : (∃ b1, σ.2.2 0 12 = some b1 ∧ isB b1 ∧ (∃ (v3 : Int32) (σ2 : St_), f_X0_hasChap KC [.ref b1, .int x1] σ = some (some (.int v3), σ2) ∧ ((v3 = 0 → False) ∧ (¬ (v3 = 0) → ((x2 < 0 → False) ∧ (¬ (x2 < 0) → ((x2 ≤ (3 : Int32) → ((((x2).toInt < 0 ∨ 2 < (x2).toInt) → (∃ b4, σ2.2.2 0 12 = some b4 ∧ isB b4 ∧ (∃ (v6 : Int32) (σ5 : St_), f_X0_leansOnHowMany KC [.ref b4, .int x1] σ2 = some (some (.int v6), σ5) ∧ out = (some (.int v6), σ5)))) ∧ (x2 = 0 → (∃ b7, σ2.2.2 0 12 = some b7 ∧ isB b7 ∧ (vpin_ x1 16 = true) ∧ out = (some (.int (σ2.1 (b7 + 2) (Int32.toNatClampNeg x1))), σ2))) ∧ (x2 = 1 → (∃ b8, σ2.2.2 0 12 = some b8 ∧ isB b8 ∧ (vpin_ x1 16 = true) ∧ out = (some (.int (σ2.1 (b8 + 3) (Int32.toNatClampNeg x1))), σ2))) ∧ (x2 = 2 → (∃ b9, σ2.2.2 0 12 = some b9 ∧ isB b9 ∧ (vpin_ x1 16 = true) ∧ out = (some (.int (σ2.1 (b9 + 4) (Int32.toNatClampNeg x1))), σ2))))) ∧ (¬ (x2 ≤ (3 : Int32)) → False))))))))) : Ev_ (P_X11_chap KC) 0 [some (.ref 0), some (.int x1), some (.int x2)] [] σ out := by
  refine ev_n 1 (fun _ => rfl) ?_
  obtain ⟨b1, eb1, hb1, h⟩ := h
  refine ev_go rfl (w_gR rfl eb1) ?_
  refine ev_n 1 (fun _ => rfl) ?_
  obtain ⟨v3, σ2, hf, h⟩ := h
  refine ev_go rfl (w_callV rfl rfl (kb_0 hb1) (Nat.le_of_ble_eq_true rfl) hf) ?_
  refine ev_if (c := v3 = 0) rfl (fun _ => rfl) (fun hc => ?_) (fun hc => ?_)
  · replace h := h.1 hc
    exact h.elim
  · replace h := h.2 hc
    refine ev_n 1 (fun _ => rfl) ?_
    refine ev_if (c := x2 < 0) rfl (fun _ => rfl) (fun hc => ?_) (fun hc => ?_)
    · replace h := h.1 hc
      exact h.elim
    · replace h := h.2 hc
      refine ev_n 2 (fun _ => rfl) ?_
      refine ev_if (c := x2 ≤ (3 : Int32)) rfl (fun _ => rfl) (fun hc => ?_) (fun hc => ?_)
      · replace h := h.1 hc
        refine ev_n 1 (fun _ => rfl) ?_
        refine ev_tsw rfl (fun hc => ?_) (fun t hc ht => ?_) (by decide)
        · replace h := h.1 hc
          refine ev_n 1 (fun _ => rfl) ?_
          obtain ⟨b4, eb4, hb4, h⟩ := h
          refine ev_go rfl (w_gR rfl eb4) ?_
          refine ev_n 1 (fun _ => rfl) ?_
          obtain ⟨v6, σ5, hf, h⟩ := h
          refine ev_go rfl (w_callV rfl rfl (kb_0 hb4) (Nat.le_of_ble_eq_true rfl) hf) ?_
          exact ev_ret rfl (fun _ => rfl) h
        · have hi := tsw_in (n := 3) hc (by decide)
          rcases (show ((x2).toInt - 0).toNat = 0 ∨ ((x2).toInt - 0).toNat = 1 ∨ ((x2).toInt - 0).toNat = 2 by omega) with e | e | e
          · rw [e] at ht
            cases ht
            replace h := h.2.1 (tsw_eq hc e (by decide))
            refine ev_n 1 (fun _ => rfl) ?_
            obtain ⟨b7, eb7, hb7, h⟩ := h
            refine ev_go rfl (w_gR rfl eb7) ?_
            refine ev_go rfl (w_gF (kb_0 hb7) (kb_r1 hb7)) ?_
            refine ev_n 1 (fun _ => rfl) ?_
            obtain ⟨h0, h⟩ := h
            refine ev_go rfl (w_iald (kb_k1 hb7) h0) ?_
            exact ev_ret rfl (fun _ => rfl) h
          · rw [e] at ht
            cases ht
            replace h := h.2.2.1 (tsw_eq hc e (by decide))
            refine ev_n 1 (fun _ => rfl) ?_
            obtain ⟨b8, eb8, hb8, h⟩ := h
            refine ev_go rfl (w_gR rfl eb8) ?_
            refine ev_go rfl (w_gF (kb_0 hb8) (kb_r2 hb8)) ?_
            refine ev_n 1 (fun _ => rfl) ?_
            obtain ⟨h0, h⟩ := h
            refine ev_go rfl (w_iald (kb_k2 hb8) h0) ?_
            exact ev_ret rfl (fun _ => rfl) h
          · rw [e] at ht
            cases ht
            replace h := h.2.2.2 (tsw_eq hc e (by decide))
            refine ev_n 1 (fun _ => rfl) ?_
            obtain ⟨b9, eb9, hb9, h⟩ := h
            refine ev_go rfl (w_gR rfl eb9) ?_
            refine ev_go rfl (w_gF (kb_0 hb9) (kb_r3 hb9)) ?_
            refine ev_n 1 (fun _ => rfl) ?_
            obtain ⟨h0, h⟩ := h
            refine ev_go rfl (w_iald (kb_k3 hb9) h0) ?_
            exact ev_ret rfl (fun _ => rfl) h
      · replace h := h.2 hc
        exact h.elim
theorem m_X11_chap : ∀ pc o, (P_X11_chap KC).lookup pc = some o → Mon_ o := all_mon (a_X11_chap (l := launch0) (E := EC0) EC0_ok)
theorem z_X11_chap {x1 : Int32} {x2 : Int32} {σ : St_} {out : Out_} (h : Ev_ (P_X11_chap KC) 0 [some (.ref 0), some (.int x1), some (.int x2)] [] σ out) : f_X11_chap KC [.ref 0, .int x1, .int x2] σ = some out := fn_eq m_X11_chap rfl h
set_option maxRecDepth 20000 in
theorem e_X11_leans_0 {x1 : Int32} {x2 : Int32} {σ : St_} {out : Out_}  (h : (∃ b1, σ.2.2 0 12 = some b1 ∧ isB b1 ∧ (∃ (v3 : Int32) (σ2 : St_), f_X0_hasChap KC [.ref b1, .int x1] σ = some (some (.int v3), σ2) ∧ ((v3 = 0 → out = (some (.int ((-1) : Int32)), σ2)) ∧ (¬ (v3 = 0) → (∃ b4, σ2.2.2 0 12 = some b4 ∧ isB b4 ∧ (∃ (v6 : Int32) (σ5 : St_), f_X0_hasChap KC [.ref b4, .int x2] σ2 = some (some (.int v6), σ5) ∧ ((v6 = 0 → out = (some (.int ((-1) : Int32)), σ5)) ∧ (¬ (v6 = 0) → (∃ b7, σ5.2.2 0 12 = some b7 ∧ isB b7 ∧ (vpin_ x1 16 = true) ∧ (vpin_ x2 16 = true) ∧ out = (some (.int (σ5.1 (b7 + 6 + Int32.toNatClampNeg x1) (Int32.toNatClampNeg x2))), σ5))))))))))) : Ev_ (P_X11_leans KC) 0 [some (.ref 0), some (.int x1), some (.int x2)] [] σ out := by
  refine ev_n 1 (fun _ => rfl) ?_
  obtain ⟨b1, eb1, hb1, h⟩ := h
  refine ev_go rfl (w_gR rfl eb1) ?_
  refine ev_n 1 (fun _ => rfl) ?_
  obtain ⟨v3, σ2, hf, h⟩ := h
  refine ev_go rfl (w_callV rfl rfl (kb_0 hb1) (Nat.le_of_ble_eq_true rfl) hf) ?_
  refine ev_if (c := v3 = 0) rfl (fun _ => rfl) (fun hc => ?_) (fun hc => ?_)
  · replace h := h.1 hc
    refine ev_n 1 (fun _ => rfl) ?_
    exact ev_ret rfl (fun _ => rfl) h
  · replace h := h.2 hc
    refine ev_n 1 (fun _ => rfl) ?_
    obtain ⟨b4, eb4, hb4, h⟩ := h
    refine ev_go rfl (w_gR rfl eb4) ?_
    refine ev_n 1 (fun _ => rfl) ?_
    obtain ⟨v6, σ5, hf, h⟩ := h
    refine ev_go rfl (w_callV rfl rfl (kb_0 hb4) (Nat.le_of_ble_eq_true rfl) hf) ?_
    refine ev_if (c := v6 = 0) rfl (fun _ => rfl) (fun hc => ?_) (fun hc => ?_)
    · replace h := h.1 hc
      refine ev_n 1 (fun _ => rfl) ?_
      exact ev_ret rfl (fun _ => rfl) h
    · replace h := h.2 hc
      refine ev_n 1 (fun _ => rfl) ?_
      obtain ⟨b7, eb7, hb7, h⟩ := h
      refine ev_go rfl (w_gR rfl eb7) ?_
      refine ev_go rfl (w_gF (kb_0 hb7) (kb_r4 hb7)) ?_
      refine ev_n 1 (fun _ => rfl) ?_
      obtain ⟨hv8, h⟩ := h
      refine ev_go rfl (w_aald (kb_k4 hb7) (by decide) hv8 (kb_row hb7 _ (vpin_lt hv8))) ?_
      refine ev_n 1 (fun _ => rfl) ?_
      obtain ⟨h0, h⟩ := h
      refine ev_go rfl (w_iald (kb_rk hb7 _ (vpin_lt hv8)) h0) ?_
      exact ev_ret rfl (fun _ => rfl) h
theorem m_X11_leans : ∀ pc o, (P_X11_leans KC).lookup pc = some o → Mon_ o := all_mon (a_X11_leans (l := launch0) (E := EC0) EC0_ok)
theorem z_X11_leans {x1 : Int32} {x2 : Int32} {σ : St_} {out : Out_} (h : Ev_ (P_X11_leans KC) 0 [some (.ref 0), some (.int x1), some (.int x2)] [] σ out) : f_X11_leans KC [.ref 0, .int x1, .int x2] σ = some out := fn_eq m_X11_leans rfl h
set_option maxRecDepth 20000 in
theorem e_X11_reader_0 {x1 : Int32} {x2 : Int32} {σ : St_} {out : Out_}  (h : (∃ b1, σ.2.2 0 12 = some b1 ∧ isB b1 ∧ (∃ (v3 : Int32) (σ2 : St_), f_X0_hasReader KC [.ref b1, .int x1] σ = some (some (.int v3), σ2) ∧ ((v3 = 0 → False) ∧ (¬ (v3 = 0) → ((x2 < 0 → False) ∧ (¬ (x2 < 0) → ((x2 ≤ (4 : Int32) → ((((x2).toInt < 0 ∨ 3 < (x2).toInt) → (∃ b4, σ2.2.2 0 12 = some b4 ∧ isB b4 ∧ (vpin_ x1 9 = true) ∧ out = (some (.int (σ2.1 (b4 + 27) (Int32.toNatClampNeg x1))), σ2))) ∧ (x2 = 0 → (∃ b5, σ2.2.2 0 12 = some b5 ∧ isB b5 ∧ (vpin_ x1 9 = true) ∧ out = (some (.int (σ2.1 (b5 + 23) (Int32.toNatClampNeg x1))), σ2))) ∧ (x2 = 1 → (∃ b6, σ2.2.2 0 12 = some b6 ∧ isB b6 ∧ (vpin_ x1 9 = true) ∧ out = (some (.int (σ2.1 (b6 + 24) (Int32.toNatClampNeg x1))), σ2))) ∧ (x2 = 2 → (∃ b7, σ2.2.2 0 12 = some b7 ∧ isB b7 ∧ (vpin_ x1 9 = true) ∧ out = (some (.int (σ2.1 (b7 + 25) (Int32.toNatClampNeg x1))), σ2))) ∧ (x2 = 3 → (∃ b8, σ2.2.2 0 12 = some b8 ∧ isB b8 ∧ (vpin_ x1 9 = true) ∧ out = (some (.int (σ2.1 (b8 + 26) (Int32.toNatClampNeg x1))), σ2))))) ∧ (¬ (x2 ≤ (4 : Int32)) → False))))))))) : Ev_ (P_X11_reader KC) 0 [some (.ref 0), some (.int x1), some (.int x2)] [] σ out := by
  refine ev_n 1 (fun _ => rfl) ?_
  obtain ⟨b1, eb1, hb1, h⟩ := h
  refine ev_go rfl (w_gR rfl eb1) ?_
  refine ev_n 1 (fun _ => rfl) ?_
  obtain ⟨v3, σ2, hf, h⟩ := h
  refine ev_go rfl (w_callV rfl rfl (kb_0 hb1) (Nat.le_of_ble_eq_true rfl) hf) ?_
  refine ev_if (c := v3 = 0) rfl (fun _ => rfl) (fun hc => ?_) (fun hc => ?_)
  · replace h := h.1 hc
    exact h.elim
  · replace h := h.2 hc
    refine ev_n 1 (fun _ => rfl) ?_
    refine ev_if (c := x2 < 0) rfl (fun _ => rfl) (fun hc => ?_) (fun hc => ?_)
    · replace h := h.1 hc
      exact h.elim
    · replace h := h.2 hc
      refine ev_n 2 (fun _ => rfl) ?_
      refine ev_if (c := x2 ≤ (4 : Int32)) rfl (fun _ => rfl) (fun hc => ?_) (fun hc => ?_)
      · replace h := h.1 hc
        refine ev_n 1 (fun _ => rfl) ?_
        refine ev_tsw rfl (fun hc => ?_) (fun t hc ht => ?_) (by decide)
        · replace h := h.1 hc
          refine ev_n 1 (fun _ => rfl) ?_
          obtain ⟨b4, eb4, hb4, h⟩ := h
          refine ev_go rfl (w_gR rfl eb4) ?_
          refine ev_go rfl (w_gF (kb_0 hb4) (kb_r10 hb4)) ?_
          refine ev_n 1 (fun _ => rfl) ?_
          obtain ⟨h0, h⟩ := h
          refine ev_go rfl (w_iald (kb_k10 hb4) h0) ?_
          exact ev_ret rfl (fun _ => rfl) h
        · have hi := tsw_in (n := 4) hc (by decide)
          rcases (show ((x2).toInt - 0).toNat = 0 ∨ ((x2).toInt - 0).toNat = 1 ∨ ((x2).toInt - 0).toNat = 2 ∨ ((x2).toInt - 0).toNat = 3 by omega) with e | e | e | e
          · rw [e] at ht
            cases ht
            replace h := h.2.1 (tsw_eq hc e (by decide))
            refine ev_n 1 (fun _ => rfl) ?_
            obtain ⟨b5, eb5, hb5, h⟩ := h
            refine ev_go rfl (w_gR rfl eb5) ?_
            refine ev_go rfl (w_gF (kb_0 hb5) (kb_r6 hb5)) ?_
            refine ev_n 1 (fun _ => rfl) ?_
            obtain ⟨h0, h⟩ := h
            refine ev_go rfl (w_iald (kb_k6 hb5) h0) ?_
            exact ev_ret rfl (fun _ => rfl) h
          · rw [e] at ht
            cases ht
            replace h := h.2.2.1 (tsw_eq hc e (by decide))
            refine ev_n 1 (fun _ => rfl) ?_
            obtain ⟨b6, eb6, hb6, h⟩ := h
            refine ev_go rfl (w_gR rfl eb6) ?_
            refine ev_go rfl (w_gF (kb_0 hb6) (kb_r7 hb6)) ?_
            refine ev_n 1 (fun _ => rfl) ?_
            obtain ⟨h0, h⟩ := h
            refine ev_go rfl (w_iald (kb_k7 hb6) h0) ?_
            exact ev_ret rfl (fun _ => rfl) h
          · rw [e] at ht
            cases ht
            replace h := h.2.2.2.1 (tsw_eq hc e (by decide))
            refine ev_n 1 (fun _ => rfl) ?_
            obtain ⟨b7, eb7, hb7, h⟩ := h
            refine ev_go rfl (w_gR rfl eb7) ?_
            refine ev_go rfl (w_gF (kb_0 hb7) (kb_r8 hb7)) ?_
            refine ev_n 1 (fun _ => rfl) ?_
            obtain ⟨h0, h⟩ := h
            refine ev_go rfl (w_iald (kb_k8 hb7) h0) ?_
            exact ev_ret rfl (fun _ => rfl) h
          · rw [e] at ht
            cases ht
            replace h := h.2.2.2.2 (tsw_eq hc e (by decide))
            refine ev_n 1 (fun _ => rfl) ?_
            obtain ⟨b8, eb8, hb8, h⟩ := h
            refine ev_go rfl (w_gR rfl eb8) ?_
            refine ev_go rfl (w_gF (kb_0 hb8) (kb_r9 hb8)) ?_
            refine ev_n 1 (fun _ => rfl) ?_
            obtain ⟨h0, h⟩ := h
            refine ev_go rfl (w_iald (kb_k9 hb8) h0) ?_
            exact ev_ret rfl (fun _ => rfl) h
      · replace h := h.2 hc
        exact h.elim
theorem m_X11_reader : ∀ pc o, (P_X11_reader KC).lookup pc = some o → Mon_ o := all_mon (a_X11_reader (l := launch0) (E := EC0) EC0_ok)
theorem z_X11_reader {x1 : Int32} {x2 : Int32} {σ : St_} {out : Out_} (h : Ev_ (P_X11_reader KC) 0 [some (.ref 0), some (.int x1), some (.int x2)] [] σ out) : f_X11_reader KC [.ref 0, .int x1, .int x2] σ = some out := fn_eq m_X11_reader rfl h
set_option maxRecDepth 20000 in
theorem e_X11_plan_0  {σ : St_} {out : Out_}  (h : (∃ (σ1 : St_), f_X8_start KC [.ref 1, .int (700 : Int32)] σ = some (none, σ1) ∧ (∃ p2, σ1.2.2 0 15 = some p2 ∧ isP p2 ∧ (∃ b3, σ1.2.2 0 12 = some b3 ∧ isB b3 ∧ (∃ (v5 : Int32) (σ4 : St_), f_X6_readFrom KC [.ref p2, .ref 1, .ref b3] σ1 = some (some (.int v5), σ4) ∧ ((v5 = 0 → (∃ (v7 : Int32) (σ6 : St_), f_X8_faultAnswer KC [.ref 1] (sI_ σ4 1 2 (0 : Int32)) = some (some (.int v7), σ6) ∧ out = (some (.int v7), σ6))) ∧ (¬ (v5 = 0) → (∃ p8, (sI_ σ4 1 2 (0 : Int32)).2.2 0 14 = some p8 ∧ isP p8 ∧ (∃ p9, (sI_ σ4 1 2 (0 : Int32)).2.2 0 15 = some p9 ∧ isP p9 ∧ out = (some (.int ((sI_ (sR_ (sR_ (sI_ σ4 1 2 (0 : Int32)) 0 14 (some p9)) 0 15 (some p8)) 0 18 (0 : Int32)).1 p9 4)), (sI_ (sR_ (sR_ (sI_ σ4 1 2 (0 : Int32)) 0 14 (some p9)) 0 15 (some p8)) 0 18 (0 : Int32)))))))))))) : Ev_ (P_X11_plan KC) 0 [some (.ref 0), none, none] [] σ out := by
  refine ev_n 1 (fun _ => rfl) ?_
  refine ev_go rfl (w_gF rfl rfl) ?_
  refine ev_n 1 (fun _ => rfl) ?_
  obtain ⟨σ1, hf, h⟩ := h
  refine ev_go rfl (w_callV rfl rfl rfl (Nat.le_of_ble_eq_true rfl) hf) ?_
  refine ev_n 1 (fun _ => rfl) ?_
  obtain ⟨p2, ep2, hp2, h⟩ := h
  refine ev_go rfl (w_gR rfl ep2) ?_
  refine ev_n 1 (fun _ => rfl) ?_
  refine ev_go rfl (w_gF rfl rfl) ?_
  refine ev_n 1 (fun _ => rfl) ?_
  obtain ⟨b3, eb3, hb3, h⟩ := h
  refine ev_go rfl (w_gR rfl eb3) ?_
  obtain ⟨v5, σ4, hf, h⟩ := h
  refine ev_go rfl (w_callV rfl rfl (kp_0 hp2) (Nat.le_of_ble_eq_true rfl) hf) ?_
  refine ev_n 2 (fun _ => rfl) ?_
  refine ev_go rfl (w_gF rfl rfl) ?_
  refine ev_n 1 (fun _ => rfl) ?_
  refine ev_go rfl (w_pI rfl) ?_
  refine ev_n 1 (fun _ => rfl) ?_
  refine ev_if (c := v5 = 0) rfl (fun _ => rfl) (fun hc => ?_) (fun hc => ?_)
  · replace h := h.1 hc
    refine ev_n 1 (fun _ => rfl) ?_
    refine ev_go rfl (w_gF rfl rfl) ?_
    obtain ⟨v7, σ6, hf, h⟩ := h
    refine ev_go rfl (w_callV rfl rfl rfl (Nat.le_of_ble_eq_true rfl) hf) ?_
    exact ev_ret rfl (fun _ => rfl) h
  · replace h := h.2 hc
    refine ev_n 1 (fun _ => rfl) ?_
    obtain ⟨p8, ep8, hp8, h⟩ := h
    refine ev_go rfl (w_gR rfl ep8) ?_
    refine ev_n 3 (fun _ => rfl) ?_
    obtain ⟨p9, ep9, hp9, h⟩ := h
    refine ev_go rfl (w_gR rfl ep9) ?_
    refine ev_go rfl (w_pR rfl) ?_
    refine ev_n 2 (fun _ => rfl) ?_
    refine ev_go rfl (w_pR rfl) ?_
    refine ev_n 2 (fun _ => rfl) ?_
    refine ev_go rfl (w_pZ rfl (by decide)) ?_
    refine ev_n 1 (fun _ => rfl) ?_
    refine ev_go rfl (w_gR (z := p9) rfl (by simp [sR_, sI_, sJ_, u2_])) ?_
    refine ev_go rfl (w_gI (kp_0 hp9)) ?_
    exact ev_ret rfl (fun _ => rfl) h
theorem m_X11_plan : ∀ pc o, (P_X11_plan KC).lookup pc = some o → Mon_ o := all_mon (a_X11_plan (l := launch0) (E := EC0) EC0_ok)
theorem z_X11_plan  {σ : St_} {out : Out_} (h : Ev_ (P_X11_plan KC) 0 [some (.ref 0), none, none] [] σ out) : f_X11_plan KC [.ref 0] σ = some out := fn_eq m_X11_plan rfl h
set_option maxRecDepth 20000 in
theorem e_X11_make_0 {x1 : Int32} {x2 : Int32} {σ : St_} {out : Out_}  (h : (∃ (v2 : Int32) (σ1 : St_), f_X4_isKind KC [.int x1, .int x2] σ = some (some (.int v2), σ1) ∧ ((v2 = 0 → out = (some (.int ((-1) : Int32)), σ1)) ∧ (¬ (v2 = 0) → (∃ b3, σ1.2.2 0 12 = some b3 ∧ isB b3 ∧ (∃ p4, σ1.2.2 0 14 = some p4 ∧ isP p4 ∧ (∃ (σ5 : St_), f_X4_begin KC [.ref 85, .ref b3, .ref p4] σ1 = some (none, σ5) ∧ (∃ (σ6 : St_), f_X4_fill KC [.ref 85, .int x1, .int x2] σ5 = some (none, σ6) ∧ (∃ p7, (sI_ σ6 0 18 (0 : Int32)).2.2 0 14 = some p7 ∧ isP p7 ∧ out = (some (.int ((sI_ σ6 0 18 (0 : Int32)).1 p7 4)), (sI_ σ6 0 18 (0 : Int32)))))))))))) : Ev_ (P_X11_make KC) 0 [some (.ref 0), some (.int x1), some (.int x2)] [] σ out := by
  refine ev_n 2 (fun _ => rfl) ?_
  obtain ⟨v2, σ1, hf, h⟩ := h
  refine ev_go rfl (w_callS ⟨Nat.le_of_ble_eq_true rfl, Nat.le_of_ble_eq_true rfl⟩ hf) ?_
  refine ev_if (c := v2 = 0) rfl (fun _ => rfl) (fun hc => ?_) (fun hc => ?_)
  · replace h := h.1 hc
    refine ev_n 1 (fun _ => rfl) ?_
    exact ev_ret rfl (fun _ => rfl) h
  · replace h := h.2 hc
    refine ev_n 1 (fun _ => rfl) ?_
    refine ev_go rfl (w_gF rfl rfl) ?_
    refine ev_n 1 (fun _ => rfl) ?_
    obtain ⟨b3, eb3, hb3, h⟩ := h
    refine ev_go rfl (w_gR rfl eb3) ?_
    refine ev_n 1 (fun _ => rfl) ?_
    obtain ⟨p4, ep4, hp4, h⟩ := h
    refine ev_go rfl (w_gR rfl ep4) ?_
    obtain ⟨σ5, hf, h⟩ := h
    refine ev_go rfl (w_callV rfl rfl rfl (Nat.le_of_ble_eq_true rfl) hf) ?_
    refine ev_n 1 (fun _ => rfl) ?_
    refine ev_go rfl (w_gF rfl rfl) ?_
    refine ev_n 2 (fun _ => rfl) ?_
    obtain ⟨σ6, hf, h⟩ := h
    refine ev_go rfl (w_callV rfl rfl rfl (Nat.le_of_ble_eq_true rfl) hf) ?_
    refine ev_n 2 (fun _ => rfl) ?_
    refine ev_go rfl (w_pZ rfl (by decide)) ?_
    refine ev_n 1 (fun _ => rfl) ?_
    obtain ⟨p7, ep7, hp7, h⟩ := h
    refine ev_go rfl (w_gR rfl ep7) ?_
    refine ev_go rfl (w_gI (kp_0 hp7)) ?_
    exact ev_ret rfl (fun _ => rfl) h
theorem m_X11_make : ∀ pc o, (P_X11_make KC).lookup pc = some o → Mon_ o := all_mon (a_X11_make (l := launch0) (E := EC0) EC0_ok)
theorem z_X11_make {x1 : Int32} {x2 : Int32} {σ : St_} {out : Out_} (h : Ev_ (P_X11_make KC) 0 [some (.ref 0), some (.int x1), some (.int x2)] [] σ out) : f_X11_make KC [.ref 0, .int x1, .int x2] σ = some out := fn_eq m_X11_make rfl h
set_option maxRecDepth 20000 in
theorem e_X11_drawn_0 {x1 : Int32} {x2 : Int32} {σ : St_} {out : Out_}  (h : ((x1 < (1 : Int32) → out = (some (.int ((-1) : Int32)), σ)) ∧ (¬ (x1 < (1 : Int32)) → (((60 : Int32) < x1 → out = (some (.int ((-1) : Int32)), σ)) ∧ (¬ ((60 : Int32) < x1) → (∃ b1, σ.2.2 0 12 = some b1 ∧ isB b1 ∧ (((σ.1 b1 12) < (2 : Int32) → out = (some (.int ((-1) : Int32)), σ)) ∧ (¬ ((σ.1 b1 12) < (2 : Int32)) → (((1 : Int32) ≤ (σ.1 b1 11) → (∃ p2, σ.2.2 0 14 = some p2 ∧ isP p2 ∧ (∃ (σ3 : St_), f_X4_begin KC [.ref 85, .ref b1, .ref p2] σ = some (none, σ3) ∧ (∃ (σ4 : St_), f_X4_drawActs KC [.ref 85, .int x1, .int x2] σ3 = some (none, σ4) ∧ (∃ p5, (sI_ σ4 0 18 (0 : Int32)).2.2 0 14 = some p5 ∧ isP p5 ∧ out = (some (.int ((sI_ σ4 0 18 (0 : Int32)).1 p5 4)), (sI_ σ4 0 18 (0 : Int32)))))))) ∧ (¬ ((1 : Int32) ≤ (σ.1 b1 11)) → out = (some (.int ((-1) : Int32)), σ))))))))))) : Ev_ (P_X11_drawn KC) 0 [some (.ref 0), some (.int x1), some (.int x2)] [] σ out := by
  refine ev_n 2 (fun _ => rfl) ?_
  refine ev_if (c := x1 < (1 : Int32)) rfl (fun _ => rfl) (fun hc => ?_) (fun hc => ?_)
  · replace h := h.1 hc
    refine ev_n 1 (fun _ => rfl) ?_
    exact ev_ret rfl (fun _ => rfl) h
  · replace h := h.2 hc
    refine ev_n 2 (fun _ => rfl) ?_
    refine ev_if (c := (60 : Int32) < x1) rfl (fun _ => rfl) (fun hc => ?_) (fun hc => ?_)
    · replace h := h.1 hc
      refine ev_n 1 (fun _ => rfl) ?_
      exact ev_ret rfl (fun _ => rfl) h
    · replace h := h.2 hc
      refine ev_n 1 (fun _ => rfl) ?_
      obtain ⟨b1, eb1, hb1, h⟩ := h
      refine ev_go rfl (w_gR rfl eb1) ?_
      refine ev_go rfl (w_gI (kb_0 hb1)) ?_
      refine ev_n 1 (fun _ => rfl) ?_
      refine ev_if (c := (σ.1 b1 12) < (2 : Int32)) rfl (fun _ => rfl) (fun hc => ?_) (fun hc => ?_)
      · replace h := h.1 hc
        refine ev_n 1 (fun _ => rfl) ?_
        exact ev_ret rfl (fun _ => rfl) h
      · replace h := h.2 hc
        refine ev_n 1 (fun _ => rfl) ?_
        refine ev_go rfl (w_gR (z := b1) rfl eb1) ?_
        refine ev_go rfl (w_gI (kb_0 hb1)) ?_
        refine ev_n 1 (fun _ => rfl) ?_
        refine ev_if (c := (1 : Int32) ≤ (σ.1 b1 11)) rfl (fun _ => rfl) (fun hc => ?_) (fun hc => ?_)
        · replace h := h.1 hc
          refine ev_n 1 (fun _ => rfl) ?_
          refine ev_go rfl (w_gF rfl rfl) ?_
          refine ev_n 1 (fun _ => rfl) ?_
          refine ev_go rfl (w_gR (z := b1) rfl eb1) ?_
          refine ev_n 1 (fun _ => rfl) ?_
          obtain ⟨p2, ep2, hp2, h⟩ := h
          refine ev_go rfl (w_gR rfl ep2) ?_
          obtain ⟨σ3, hf, h⟩ := h
          refine ev_go rfl (w_callV rfl rfl rfl (Nat.le_of_ble_eq_true rfl) hf) ?_
          refine ev_n 1 (fun _ => rfl) ?_
          refine ev_go rfl (w_gF rfl rfl) ?_
          refine ev_n 2 (fun _ => rfl) ?_
          obtain ⟨σ4, hf, h⟩ := h
          refine ev_go rfl (w_callV rfl rfl rfl (Nat.le_of_ble_eq_true rfl) hf) ?_
          refine ev_n 2 (fun _ => rfl) ?_
          refine ev_go rfl (w_pZ rfl (by decide)) ?_
          refine ev_n 1 (fun _ => rfl) ?_
          obtain ⟨p5, ep5, hp5, h⟩ := h
          refine ev_go rfl (w_gR rfl ep5) ?_
          refine ev_go rfl (w_gI (kp_0 hp5)) ?_
          exact ev_ret rfl (fun _ => rfl) h
        · replace h := h.2 hc
          refine ev_n 1 (fun _ => rfl) ?_
          exact ev_ret rfl (fun _ => rfl) h
theorem m_X11_drawn : ∀ pc o, (P_X11_drawn KC).lookup pc = some o → Mon_ o := all_mon (a_X11_drawn (l := launch0) (E := EC0) EC0_ok)
theorem z_X11_drawn {x1 : Int32} {x2 : Int32} {σ : St_} {out : Out_} (h : Ev_ (P_X11_drawn KC) 0 [some (.ref 0), some (.int x1), some (.int x2)] [] σ out) : f_X11_drawn KC [.ref 0, .int x1, .int x2] σ = some out := fn_eq m_X11_drawn rfl h
set_option maxRecDepth 20000 in
theorem e_X11_act_0 {x1 : Int32} {x2 : Int32} {σ : St_} {out : Out_}  (h : ((x1 < 0 → False) ∧ (¬ (x1 < 0) → (∃ p1, σ.2.2 0 14 = some p1 ∧ isP p1 ∧ (((σ.1 p1 4) ≤ x1 → False) ∧ (¬ ((σ.1 p1 4) ≤ x1) → ((x2 < 0 → False) ∧ (¬ (x2 < 0) → ((x2 ≤ (3 : Int32) → ((((x2).toInt < 0 ∨ 2 < (x2).toInt) → (vpin_ x1 100 = true) ∧ out = (some (.int (σ.1 (p1 + 4) (Int32.toNatClampNeg x1))), σ)) ∧ (x2 = 0 → (vpin_ x1 100 = true) ∧ out = (some (.int (σ.1 (p1 + 1) (Int32.toNatClampNeg x1))), σ)) ∧ (x2 = 1 → (vpin_ x1 100 = true) ∧ out = (some (.int (σ.1 (p1 + 2) (Int32.toNatClampNeg x1))), σ)) ∧ (x2 = 2 → (vpin_ x1 100 = true) ∧ out = (some (.int (σ.1 (p1 + 3) (Int32.toNatClampNeg x1))), σ)))) ∧ (¬ (x2 ≤ (3 : Int32)) → False)))))))))) : Ev_ (P_X11_act KC) 0 [some (.ref 0), some (.int x1), some (.int x2)] [] σ out := by
  refine ev_n 1 (fun _ => rfl) ?_
  refine ev_if (c := x1 < 0) rfl (fun _ => rfl) (fun hc => ?_) (fun hc => ?_)
  · replace h := h.1 hc
    exact h.elim
  · replace h := h.2 hc
    refine ev_n 2 (fun _ => rfl) ?_
    obtain ⟨p1, ep1, hp1, h⟩ := h
    refine ev_go rfl (w_gR rfl ep1) ?_
    refine ev_go rfl (w_gI (kp_0 hp1)) ?_
    refine ev_if (c := (σ.1 p1 4) ≤ x1) rfl (fun _ => rfl) (fun hc => ?_) (fun hc => ?_)
    · replace h := h.1 hc
      exact h.elim
    · replace h := h.2 hc
      refine ev_n 1 (fun _ => rfl) ?_
      refine ev_if (c := x2 < 0) rfl (fun _ => rfl) (fun hc => ?_) (fun hc => ?_)
      · replace h := h.1 hc
        exact h.elim
      · replace h := h.2 hc
        refine ev_n 2 (fun _ => rfl) ?_
        refine ev_if (c := x2 ≤ (3 : Int32)) rfl (fun _ => rfl) (fun hc => ?_) (fun hc => ?_)
        · replace h := h.1 hc
          refine ev_n 1 (fun _ => rfl) ?_
          refine ev_tsw rfl (fun hc => ?_) (fun t hc ht => ?_) (by decide)
          · replace h := h.1 hc
            refine ev_n 1 (fun _ => rfl) ?_
            refine ev_go rfl (w_gR (z := p1) rfl ep1) ?_
            refine ev_go rfl (w_gF (kp_0 hp1) (kp_r3 hp1)) ?_
            refine ev_n 1 (fun _ => rfl) ?_
            obtain ⟨h0, h⟩ := h
            refine ev_go rfl (w_iald (kp_k3 hp1) h0) ?_
            exact ev_ret rfl (fun _ => rfl) h
          · have hi := tsw_in (n := 3) hc (by decide)
            rcases (show ((x2).toInt - 0).toNat = 0 ∨ ((x2).toInt - 0).toNat = 1 ∨ ((x2).toInt - 0).toNat = 2 by omega) with e | e | e
            · rw [e] at ht
              cases ht
              replace h := h.2.1 (tsw_eq hc e (by decide))
              refine ev_n 1 (fun _ => rfl) ?_
              refine ev_go rfl (w_gR (z := p1) rfl ep1) ?_
              refine ev_go rfl (w_gF (kp_0 hp1) (kp_r0 hp1)) ?_
              refine ev_n 1 (fun _ => rfl) ?_
              obtain ⟨h0, h⟩ := h
              refine ev_go rfl (w_iald (kp_k0 hp1) h0) ?_
              exact ev_ret rfl (fun _ => rfl) h
            · rw [e] at ht
              cases ht
              replace h := h.2.2.1 (tsw_eq hc e (by decide))
              refine ev_n 1 (fun _ => rfl) ?_
              refine ev_go rfl (w_gR (z := p1) rfl ep1) ?_
              refine ev_go rfl (w_gF (kp_0 hp1) (kp_r1 hp1)) ?_
              refine ev_n 1 (fun _ => rfl) ?_
              obtain ⟨h0, h⟩ := h
              refine ev_go rfl (w_iald (kp_k1 hp1) h0) ?_
              exact ev_ret rfl (fun _ => rfl) h
            · rw [e] at ht
              cases ht
              replace h := h.2.2.2 (tsw_eq hc e (by decide))
              refine ev_n 1 (fun _ => rfl) ?_
              refine ev_go rfl (w_gR (z := p1) rfl ep1) ?_
              refine ev_go rfl (w_gF (kp_0 hp1) (kp_r2 hp1)) ?_
              refine ev_n 1 (fun _ => rfl) ?_
              obtain ⟨h0, h⟩ := h
              refine ev_go rfl (w_iald (kp_k2 hp1) h0) ?_
              exact ev_ret rfl (fun _ => rfl) h
        · replace h := h.2 hc
          exact h.elim
theorem m_X11_act : ∀ pc o, (P_X11_act KC).lookup pc = some o → Mon_ o := all_mon (a_X11_act (l := launch0) (E := EC0) EC0_ok)
theorem z_X11_act {x1 : Int32} {x2 : Int32} {σ : St_} {out : Out_} (h : Ev_ (P_X11_act KC) 0 [some (.ref 0), some (.int x1), some (.int x2)] [] σ out) : f_X11_act KC [.ref 0, .int x1, .int x2] σ = some out := fn_eq m_X11_act rfl h
set_option maxRecDepth 20000 in
theorem e_X11_runOnce_0  {σ : St_} {out : Out_}  (h : (((σ.1 0 18) = 0 → (∃ b1, σ.2.2 0 12 = some b1 ∧ isB b1 ∧ (∃ (σ2 : St_), f_X5_begin KC [.ref 80, .ref b1] σ = some (none, σ2) ∧ (∃ p3, σ2.2.2 0 14 = some p3 ∧ isP p3 ∧ (∃ (σ4 : St_), f_X5_follow KC [.ref 80, .ref p3] σ2 = some (none, σ4) ∧ out = (none, (sI_ σ4 0 18 (1 : Int32)))))))) ∧ (¬ ((σ.1 0 18) = 0) → out = (none, σ)))) : Ev_ (P_X11_runOnce KC) 0 [some (.ref 0)] [] σ out := by
  refine ev_n 1 (fun _ => rfl) ?_
  refine ev_go rfl (w_gI rfl) ?_
  refine ev_if (c := (σ.1 0 18) = 0) rfl (fun _ => rfl) (fun hc => ?_) (fun hc => ?_)
  · replace h := h.1 hc
    refine ev_n 1 (fun _ => rfl) ?_
    refine ev_go rfl (w_gF rfl rfl) ?_
    refine ev_n 1 (fun _ => rfl) ?_
    obtain ⟨b1, eb1, hb1, h⟩ := h
    refine ev_go rfl (w_gR rfl eb1) ?_
    obtain ⟨σ2, hf, h⟩ := h
    refine ev_go rfl (w_callV rfl rfl rfl (Nat.le_of_ble_eq_true rfl) hf) ?_
    refine ev_n 1 (fun _ => rfl) ?_
    refine ev_go rfl (w_gF rfl rfl) ?_
    refine ev_n 1 (fun _ => rfl) ?_
    obtain ⟨p3, ep3, hp3, h⟩ := h
    refine ev_go rfl (w_gR rfl ep3) ?_
    obtain ⟨σ4, hf, h⟩ := h
    refine ev_go rfl (w_callV rfl rfl rfl (Nat.le_of_ble_eq_true rfl) hf) ?_
    refine ev_n 2 (fun _ => rfl) ?_
    refine ev_go rfl (w_pZ rfl (by decide)) ?_
    exact ev_ret rfl (fun _ => rfl) h
  · replace h := h.2 hc
    exact ev_ret rfl (fun _ => rfl) h
theorem m_X11_runOnce : ∀ pc o, (P_X11_runOnce KC).lookup pc = some o → Mon_ o := all_mon (a_X11_runOnce (l := launch0) (E := EC0) EC0_ok)
theorem z_X11_runOnce  {σ : St_} {out : Out_} (h : Ev_ (P_X11_runOnce KC) 0 [some (.ref 0)] [] σ out) : f_X11_runOnce KC [.ref 0] σ = some out := fn_eq m_X11_runOnce rfl h
set_option maxRecDepth 20000 in
theorem e_X11_run_0  {σ : St_} {out : Out_}  (h : (∃ (σ1 : St_), f_X11_runOnce KC [.ref 0] σ = some (none, σ1) ∧ out = (some (.int ((sI_ σ1 0 19 (σ1.1 80 5)).1 80 4)), (sI_ σ1 0 19 (σ1.1 80 5))))) : Ev_ (P_X11_run KC) 0 [some (.ref 0)] [] σ out := by
  refine ev_n 1 (fun _ => rfl) ?_
  obtain ⟨σ1, hf, h⟩ := h
  refine ev_go rfl (w_callV rfl rfl rfl (Nat.le_of_ble_eq_true rfl) hf) ?_
  refine ev_n 2 (fun _ => rfl) ?_
  refine ev_go rfl (w_gF rfl rfl) ?_
  refine ev_go rfl (w_gI rfl) ?_
  refine ev_go rfl (w_pI rfl) ?_
  refine ev_n 1 (fun _ => rfl) ?_
  refine ev_go rfl (w_gF rfl rfl) ?_
  refine ev_go rfl (w_gI rfl) ?_
  exact ev_ret rfl (fun _ => rfl) h
theorem m_X11_run : ∀ pc o, (P_X11_run KC).lookup pc = some o → Mon_ o := all_mon (a_X11_run (l := launch0) (E := EC0) EC0_ok)
theorem z_X11_run  {σ : St_} {out : Out_} (h : Ev_ (P_X11_run KC) 0 [some (.ref 0)] [] σ out) : f_X11_run KC [.ref 0] σ = some out := fn_eq m_X11_run rfl h
set_option maxRecDepth 20000 in
theorem e_X11_why_0  {σ : St_} {out : Out_}  (h : out = (some (.int (σ.1 0 19)), σ)) : Ev_ (P_X11_why KC) 0 [some (.ref 0)] [] σ out := by
  refine ev_n 1 (fun _ => rfl) ?_
  refine ev_go rfl (w_gI rfl) ?_
  exact ev_ret rfl (fun _ => rfl) h
theorem m_X11_why : ∀ pc o, (P_X11_why KC).lookup pc = some o → Mon_ o := all_mon (a_X11_why (l := launch0) (E := EC0) EC0_ok)
theorem z_X11_why  {σ : St_} {out : Out_} (h : Ev_ (P_X11_why KC) 0 [some (.ref 0)] [] σ out) : f_X11_why KC [.ref 0] σ = some out := fn_eq m_X11_why rfl h
set_option maxRecDepth 20000 in
theorem e_X11_known_0 {x1 : Int32} {x2 : Int32} {σ : St_} {out : Out_}  (h : (∃ b1, σ.2.2 0 12 = some b1 ∧ isB b1 ∧ (∃ (v3 : Int32) (σ2 : St_), f_X0_hasReader KC [.ref b1, .int x1] σ = some (some (.int v3), σ2) ∧ ((v3 = 0 → out = (some (.int ((-1) : Int32)), σ2)) ∧ (¬ (v3 = 0) → (∃ b4, σ2.2.2 0 12 = some b4 ∧ isB b4 ∧ (∃ (v6 : Int32) (σ5 : St_), f_X0_hasChap KC [.ref b4, .int x2] σ2 = some (some (.int v6), σ5) ∧ ((v6 = 0 → out = (some (.int ((-1) : Int32)), σ5)) ∧ (¬ (v6 = 0) → (∃ (σ7 : St_), f_X11_runOnce KC [.ref 0] σ5 = some (none, σ7) ∧ (vpin_ ((x1 * (16 : Int32)) + x2) 144 = true) ∧ out = (some (.int (σ7.1 84 (Int32.toNatClampNeg ((x1 * (16 : Int32)) + x2)))), σ7))))))))))) : Ev_ (P_X11_known KC) 0 [some (.ref 0), some (.int x1), some (.int x2)] [] σ out := by
  refine ev_n 1 (fun _ => rfl) ?_
  obtain ⟨b1, eb1, hb1, h⟩ := h
  refine ev_go rfl (w_gR rfl eb1) ?_
  refine ev_n 1 (fun _ => rfl) ?_
  obtain ⟨v3, σ2, hf, h⟩ := h
  refine ev_go rfl (w_callV rfl rfl (kb_0 hb1) (Nat.le_of_ble_eq_true rfl) hf) ?_
  refine ev_if (c := v3 = 0) rfl (fun _ => rfl) (fun hc => ?_) (fun hc => ?_)
  · replace h := h.1 hc
    refine ev_n 1 (fun _ => rfl) ?_
    exact ev_ret rfl (fun _ => rfl) h
  · replace h := h.2 hc
    refine ev_n 1 (fun _ => rfl) ?_
    obtain ⟨b4, eb4, hb4, h⟩ := h
    refine ev_go rfl (w_gR rfl eb4) ?_
    refine ev_n 1 (fun _ => rfl) ?_
    obtain ⟨v6, σ5, hf, h⟩ := h
    refine ev_go rfl (w_callV rfl rfl (kb_0 hb4) (Nat.le_of_ble_eq_true rfl) hf) ?_
    refine ev_if (c := v6 = 0) rfl (fun _ => rfl) (fun hc => ?_) (fun hc => ?_)
    · replace h := h.1 hc
      refine ev_n 1 (fun _ => rfl) ?_
      exact ev_ret rfl (fun _ => rfl) h
    · replace h := h.2 hc
      refine ev_n 1 (fun _ => rfl) ?_
      obtain ⟨σ7, hf, h⟩ := h
      refine ev_go rfl (w_callV rfl rfl rfl (Nat.le_of_ble_eq_true rfl) hf) ?_
      refine ev_n 1 (fun _ => rfl) ?_
      refine ev_go rfl (w_gF rfl rfl) ?_
      refine ev_go rfl (w_gF rfl rfl) ?_
      refine ev_n 5 (fun _ => rfl) ?_
      obtain ⟨h0, h⟩ := h
      refine ev_go rfl (w_iald rfl h0) ?_
      exact ev_ret rfl (fun _ => rfl) h
theorem m_X11_known : ∀ pc o, (P_X11_known KC).lookup pc = some o → Mon_ o := all_mon (a_X11_known (l := launch0) (E := EC0) EC0_ok)
theorem z_X11_known {x1 : Int32} {x2 : Int32} {σ : St_} {out : Out_} (h : Ev_ (P_X11_known KC) 0 [some (.ref 0), some (.int x1), some (.int x2)] [] σ out) : f_X11_known KC [.ref 0, .int x1, .int x2] σ = some out := fn_eq m_X11_known rfl h
set_option maxRecDepth 20000 in
theorem e_X11_after_0 {x1 : Int32} {x2 : Int32} {σ : St_} {out : Out_}  (h : (∃ b1, σ.2.2 0 12 = some b1 ∧ isB b1 ∧ (∃ (v3 : Int32) (σ2 : St_), f_X0_hasReader KC [.ref b1, .int x1] σ = some (some (.int v3), σ2) ∧ ((v3 = 0 → out = (some (.int ((-1) : Int32)), σ2)) ∧ (¬ (v3 = 0) → (∃ (σ4 : St_), f_X11_runOnce KC [.ref 0] σ2 = some (none, σ4) ∧ ((((x2).toInt < 0 ∨ 3 < (x2).toInt) → out = (some (.int ((-1) : Int32)), σ4)) ∧ (x2 = 0 → (vpin_ x1 9 = true) ∧ out = (some (.int (σ4.1 81 (Int32.toNatClampNeg x1))), σ4)) ∧ (x2 = 1 → (∃ (v6 : Int32) (σ5 : St_), f_X5_inAll KC [.ref 80, .int x1] σ4 = some (some (.int v6), σ5) ∧ out = (some (.int v6), σ5))) ∧ (x2 = 2 → (vpin_ x1 9 = true) ∧ out = (some (.int (σ4.1 82 (Int32.toNatClampNeg x1))), σ4)) ∧ (x2 = 3 → (vpin_ x1 9 = true) ∧ out = (some (.int (σ4.1 83 (Int32.toNatClampNeg x1))), σ4))))))))) : Ev_ (P_X11_after KC) 0 [some (.ref 0), some (.int x1), some (.int x2)] [] σ out := by
  refine ev_n 1 (fun _ => rfl) ?_
  obtain ⟨b1, eb1, hb1, h⟩ := h
  refine ev_go rfl (w_gR rfl eb1) ?_
  refine ev_n 1 (fun _ => rfl) ?_
  obtain ⟨v3, σ2, hf, h⟩ := h
  refine ev_go rfl (w_callV rfl rfl (kb_0 hb1) (Nat.le_of_ble_eq_true rfl) hf) ?_
  refine ev_if (c := v3 = 0) rfl (fun _ => rfl) (fun hc => ?_) (fun hc => ?_)
  · replace h := h.1 hc
    refine ev_n 1 (fun _ => rfl) ?_
    exact ev_ret rfl (fun _ => rfl) h
  · replace h := h.2 hc
    refine ev_n 1 (fun _ => rfl) ?_
    obtain ⟨σ4, hf, h⟩ := h
    refine ev_go rfl (w_callV rfl rfl rfl (Nat.le_of_ble_eq_true rfl) hf) ?_
    refine ev_n 1 (fun _ => rfl) ?_
    refine ev_tsw rfl (fun hc => ?_) (fun t hc ht => ?_) (by decide)
    · replace h := h.1 hc
      refine ev_n 1 (fun _ => rfl) ?_
      exact ev_ret rfl (fun _ => rfl) h
    · have hi := tsw_in (n := 4) hc (by decide)
      rcases (show ((x2).toInt - 0).toNat = 0 ∨ ((x2).toInt - 0).toNat = 1 ∨ ((x2).toInt - 0).toNat = 2 ∨ ((x2).toInt - 0).toNat = 3 by omega) with e | e | e | e
      · rw [e] at ht
        cases ht
        replace h := h.2.1 (tsw_eq hc e (by decide))
        refine ev_n 1 (fun _ => rfl) ?_
        refine ev_go rfl (w_gF rfl rfl) ?_
        refine ev_go rfl (w_gF rfl rfl) ?_
        refine ev_n 1 (fun _ => rfl) ?_
        obtain ⟨h0, h⟩ := h
        refine ev_go rfl (w_iald rfl h0) ?_
        exact ev_ret rfl (fun _ => rfl) h
      · rw [e] at ht
        cases ht
        replace h := h.2.2.1 (tsw_eq hc e (by decide))
        refine ev_n 1 (fun _ => rfl) ?_
        refine ev_go rfl (w_gF rfl rfl) ?_
        refine ev_n 1 (fun _ => rfl) ?_
        obtain ⟨v6, σ5, hf, h⟩ := h
        refine ev_go rfl (w_callV rfl rfl rfl (Nat.le_of_ble_eq_true rfl) hf) ?_
        exact ev_ret rfl (fun _ => rfl) h
      · rw [e] at ht
        cases ht
        replace h := h.2.2.2.1 (tsw_eq hc e (by decide))
        refine ev_n 1 (fun _ => rfl) ?_
        refine ev_go rfl (w_gF rfl rfl) ?_
        refine ev_go rfl (w_gF rfl rfl) ?_
        refine ev_n 1 (fun _ => rfl) ?_
        obtain ⟨h0, h⟩ := h
        refine ev_go rfl (w_iald rfl h0) ?_
        exact ev_ret rfl (fun _ => rfl) h
      · rw [e] at ht
        cases ht
        replace h := h.2.2.2.2 (tsw_eq hc e (by decide))
        refine ev_n 1 (fun _ => rfl) ?_
        refine ev_go rfl (w_gF rfl rfl) ?_
        refine ev_go rfl (w_gF rfl rfl) ?_
        refine ev_n 1 (fun _ => rfl) ?_
        obtain ⟨h0, h⟩ := h
        refine ev_go rfl (w_iald rfl h0) ?_
        exact ev_ret rfl (fun _ => rfl) h
theorem m_X11_after : ∀ pc o, (P_X11_after KC).lookup pc = some o → Mon_ o := all_mon (a_X11_after (l := launch0) (E := EC0) EC0_ok)
theorem z_X11_after {x1 : Int32} {x2 : Int32} {σ : St_} {out : Out_} (h : Ev_ (P_X11_after KC) 0 [some (.ref 0), some (.int x1), some (.int x2)] [] σ out) : f_X11_after KC [.ref 0, .int x1, .int x2] σ = some out := fn_eq m_X11_after rfl h
set_option maxRecDepth 20000 in
theorem e_X11_all_0 {x1 : Int32} {σ : St_} {out : Out_}  (h : (∃ (σ1 : St_), f_X11_runOnce KC [.ref 0] σ = some (none, σ1) ∧ ((((x1).toInt < 0 ∨ 3 < (x1).toInt) → out = (some (.int ((-1) : Int32)), σ1)) ∧ (x1 = 0 → (∃ (v3 : Int32) (σ2 : St_), f_X5_sum KC [.ref 80] σ1 = some (some (.int v3), σ2) ∧ out = (some (.int v3), σ2))) ∧ (x1 = 1 → (∃ (v5 : Int32) (σ4 : St_), f_X5_sent KC [.ref 80] σ1 = some (some (.int v5), σ4) ∧ out = (some (.int v5), σ4))) ∧ (x1 = 2 → (∃ (v7 : Int32) (σ6 : St_), f_X5_unreadMusts KC [.ref 80] σ1 = some (some (.int v7), σ6) ∧ out = (some (.int v7), σ6))) ∧ (x1 = 3 → (∃ (v9 : Int32) (σ8 : St_), f_X5_lacking KC [.ref 80] σ1 = some (some (.int v9), σ8) ∧ out = (some (.int v9), σ8)))))) : Ev_ (P_X11_all KC) 0 [some (.ref 0), some (.int x1)] [] σ out := by
  refine ev_n 1 (fun _ => rfl) ?_
  obtain ⟨σ1, hf, h⟩ := h
  refine ev_go rfl (w_callV rfl rfl rfl (Nat.le_of_ble_eq_true rfl) hf) ?_
  refine ev_n 1 (fun _ => rfl) ?_
  refine ev_tsw rfl (fun hc => ?_) (fun t hc ht => ?_) (by decide)
  · replace h := h.1 hc
    refine ev_n 1 (fun _ => rfl) ?_
    exact ev_ret rfl (fun _ => rfl) h
  · have hi := tsw_in (n := 4) hc (by decide)
    rcases (show ((x1).toInt - 0).toNat = 0 ∨ ((x1).toInt - 0).toNat = 1 ∨ ((x1).toInt - 0).toNat = 2 ∨ ((x1).toInt - 0).toNat = 3 by omega) with e | e | e | e
    · rw [e] at ht
      cases ht
      replace h := h.2.1 (tsw_eq hc e (by decide))
      refine ev_n 1 (fun _ => rfl) ?_
      refine ev_go rfl (w_gF rfl rfl) ?_
      obtain ⟨v3, σ2, hf, h⟩ := h
      refine ev_go rfl (w_callV rfl rfl rfl (Nat.le_of_ble_eq_true rfl) hf) ?_
      exact ev_ret rfl (fun _ => rfl) h
    · rw [e] at ht
      cases ht
      replace h := h.2.2.1 (tsw_eq hc e (by decide))
      refine ev_n 1 (fun _ => rfl) ?_
      refine ev_go rfl (w_gF rfl rfl) ?_
      obtain ⟨v5, σ4, hf, h⟩ := h
      refine ev_go rfl (w_callV rfl rfl rfl (Nat.le_of_ble_eq_true rfl) hf) ?_
      exact ev_ret rfl (fun _ => rfl) h
    · rw [e] at ht
      cases ht
      replace h := h.2.2.2.1 (tsw_eq hc e (by decide))
      refine ev_n 1 (fun _ => rfl) ?_
      refine ev_go rfl (w_gF rfl rfl) ?_
      obtain ⟨v7, σ6, hf, h⟩ := h
      refine ev_go rfl (w_callV rfl rfl rfl (Nat.le_of_ble_eq_true rfl) hf) ?_
      exact ev_ret rfl (fun _ => rfl) h
    · rw [e] at ht
      cases ht
      replace h := h.2.2.2.2 (tsw_eq hc e (by decide))
      refine ev_n 1 (fun _ => rfl) ?_
      refine ev_go rfl (w_gF rfl rfl) ?_
      obtain ⟨v9, σ8, hf, h⟩ := h
      refine ev_go rfl (w_callV rfl rfl rfl (Nat.le_of_ble_eq_true rfl) hf) ?_
      exact ev_ret rfl (fun _ => rfl) h
theorem m_X11_all : ∀ pc o, (P_X11_all KC).lookup pc = some o → Mon_ o := all_mon (a_X11_all (l := launch0) (E := EC0) EC0_ok)
theorem z_X11_all {x1 : Int32} {σ : St_} {out : Out_} (h : Ev_ (P_X11_all KC) 0 [some (.ref 0), some (.int x1)] [] σ out) : f_X11_all KC [.ref 0, .int x1] σ = some out := fn_eq m_X11_all rfl h
set_option maxRecDepth 20000 in
theorem e_X11_best_0 {x1 : Int32} {x2 : Int32} {σ : St_} {out : Out_}  (h : ((x1 < (1 : Int32) → out = (some (.int ((-1) : Int32)), σ)) ∧ (¬ (x1 < (1 : Int32)) → (((6 : Int32) < x1 → out = (some (.int ((-1) : Int32)), σ)) ∧ (¬ ((6 : Int32) < x1) → (∃ b1, σ.2.2 0 12 = some b1 ∧ isB b1 ∧ ((x1 ≤ (σ.1 b1 11) → ((x2 < (1 : Int32) → out = (some (.int ((-1) : Int32)), σ)) ∧ (¬ (x2 < (1 : Int32)) → (((4 : Int32) < x2 → out = (some (.int ((-1) : Int32)), σ)) ∧ (¬ ((4 : Int32) < x2) → ((x2 ≤ (σ.1 b1 12) → (∃ (v3 : Int32) (σ2 : St_), f_X10_search KC [.ref 99, .ref b1, .int x1, .int x2] σ = some (some (.int v3), σ2) ∧ out = (some (.int v3), σ2))) ∧ (¬ (x2 ≤ (σ.1 b1 12)) → out = (some (.int ((-1) : Int32)), σ)))))))) ∧ (¬ (x1 ≤ (σ.1 b1 11)) → out = (some (.int ((-1) : Int32)), σ))))))))) : Ev_ (P_X11_best KC) 0 [some (.ref 0), some (.int x1), some (.int x2)] [] σ out := by
  refine ev_n 2 (fun _ => rfl) ?_
  refine ev_if (c := x1 < (1 : Int32)) rfl (fun _ => rfl) (fun hc => ?_) (fun hc => ?_)
  · replace h := h.1 hc
    refine ev_n 1 (fun _ => rfl) ?_
    exact ev_ret rfl (fun _ => rfl) h
  · replace h := h.2 hc
    refine ev_n 2 (fun _ => rfl) ?_
    refine ev_if (c := (6 : Int32) < x1) rfl (fun _ => rfl) (fun hc => ?_) (fun hc => ?_)
    · replace h := h.1 hc
      refine ev_n 1 (fun _ => rfl) ?_
      exact ev_ret rfl (fun _ => rfl) h
    · replace h := h.2 hc
      refine ev_n 2 (fun _ => rfl) ?_
      obtain ⟨b1, eb1, hb1, h⟩ := h
      refine ev_go rfl (w_gR rfl eb1) ?_
      refine ev_go rfl (w_gI (kb_0 hb1)) ?_
      refine ev_if (c := x1 ≤ (σ.1 b1 11)) rfl (fun _ => rfl) (fun hc => ?_) (fun hc => ?_)
      · replace h := h.1 hc
        refine ev_n 2 (fun _ => rfl) ?_
        refine ev_if (c := x2 < (1 : Int32)) rfl (fun _ => rfl) (fun hc => ?_) (fun hc => ?_)
        · replace h := h.1 hc
          refine ev_n 1 (fun _ => rfl) ?_
          exact ev_ret rfl (fun _ => rfl) h
        · replace h := h.2 hc
          refine ev_n 2 (fun _ => rfl) ?_
          refine ev_if (c := (4 : Int32) < x2) rfl (fun _ => rfl) (fun hc => ?_) (fun hc => ?_)
          · replace h := h.1 hc
            refine ev_n 1 (fun _ => rfl) ?_
            exact ev_ret rfl (fun _ => rfl) h
          · replace h := h.2 hc
            refine ev_n 2 (fun _ => rfl) ?_
            refine ev_go rfl (w_gR (z := b1) rfl eb1) ?_
            refine ev_go rfl (w_gI (kb_0 hb1)) ?_
            refine ev_if (c := x2 ≤ (σ.1 b1 12)) rfl (fun _ => rfl) (fun hc => ?_) (fun hc => ?_)
            · replace h := h.1 hc
              refine ev_n 1 (fun _ => rfl) ?_
              refine ev_go rfl (w_gF rfl rfl) ?_
              refine ev_n 1 (fun _ => rfl) ?_
              refine ev_go rfl (w_gR (z := b1) rfl eb1) ?_
              refine ev_n 2 (fun _ => rfl) ?_
              obtain ⟨v3, σ2, hf, h⟩ := h
              refine ev_go rfl (w_callV rfl rfl rfl (Nat.le_of_ble_eq_true rfl) hf) ?_
              exact ev_ret rfl (fun _ => rfl) h
            · replace h := h.2 hc
              refine ev_n 1 (fun _ => rfl) ?_
              exact ev_ret rfl (fun _ => rfl) h
      · replace h := h.2 hc
        refine ev_n 1 (fun _ => rfl) ?_
        exact ev_ret rfl (fun _ => rfl) h
theorem m_X11_best : ∀ pc o, (P_X11_best KC).lookup pc = some o → Mon_ o := all_mon (a_X11_best (l := launch0) (E := EC0) EC0_ok)
theorem z_X11_best {x1 : Int32} {x2 : Int32} {σ : St_} {out : Out_} (h : Ev_ (P_X11_best KC) 0 [some (.ref 0), some (.int x1), some (.int x2)] [] σ out) : f_X11_best KC [.ref 0, .int x1, .int x2] σ = some out := fn_eq m_X11_best rfl h
set_option maxRecDepth 20000 in
theorem e_X11_bestOf_0 {x1 : Int32} {σ : St_} {out : Out_}  (h : ((x1 < 0 → out = (some (.int ((-1) : Int32)), σ)) ∧ (¬ (x1 < 0) → ((x1 < (σ.1 99 1) → (vpin_ x1 6 = true) ∧ out = (some (.int (σ.1 100 (Int32.toNatClampNeg x1))), σ)) ∧ (¬ (x1 < (σ.1 99 1)) → out = (some (.int ((-1) : Int32)), σ)))))) : Ev_ (P_X11_bestOf KC) 0 [some (.ref 0), some (.int x1)] [] σ out := by
  refine ev_n 1 (fun _ => rfl) ?_
  refine ev_if (c := x1 < 0) rfl (fun _ => rfl) (fun hc => ?_) (fun hc => ?_)
  · replace h := h.1 hc
    refine ev_n 2 (fun _ => rfl) ?_
    exact ev_ret rfl (fun _ => rfl) h
  · replace h := h.2 hc
    refine ev_n 2 (fun _ => rfl) ?_
    refine ev_go rfl (w_gF rfl rfl) ?_
    refine ev_go rfl (w_gI rfl) ?_
    refine ev_if (c := x1 < (σ.1 99 1)) rfl (fun _ => rfl) (fun hc => ?_) (fun hc => ?_)
    · replace h := h.1 hc
      refine ev_n 1 (fun _ => rfl) ?_
      refine ev_go rfl (w_gF rfl rfl) ?_
      refine ev_go rfl (w_gF rfl rfl) ?_
      refine ev_n 1 (fun _ => rfl) ?_
      obtain ⟨h0, h⟩ := h
      refine ev_go rfl (w_iald rfl h0) ?_
      exact ev_ret rfl (fun _ => rfl) h
    · replace h := h.2 hc
      refine ev_n 2 (fun _ => rfl) ?_
      exact ev_ret rfl (fun _ => rfl) h
theorem m_X11_bestOf : ∀ pc o, (P_X11_bestOf KC).lookup pc = some o → Mon_ o := all_mon (a_X11_bestOf (l := launch0) (E := EC0) EC0_ok)
theorem z_X11_bestOf {x1 : Int32} {σ : St_} {out : Out_} (h : Ev_ (P_X11_bestOf KC) 0 [some (.ref 0), some (.int x1)] [] σ out) : f_X11_bestOf KC [.ref 0, .int x1] σ = some out := fn_eq m_X11_bestOf rfl h
set_option maxRecDepth 20000 in
theorem e_X11_cut_0 {x1 : Int32} {x2 : Int32} {σ : St_} {out : Out_}  (h : ((x1 < (1 : Int32) → out = (some (.int ((-2) : Int32)), σ)) ∧ (¬ (x1 < (1 : Int32)) → (((9 : Int32) < x1 → out = (some (.int ((-2) : Int32)), σ)) ∧ (¬ ((9 : Int32) < x1) → ((x2 < (1 : Int32) → out = (some (.int ((-2) : Int32)), σ)) ∧ (¬ (x2 < (1 : Int32)) → ((x2 ≤ (999 : Int32) → (∃ b1, σ.2.2 0 12 = some b1 ∧ isB b1 ∧ (∃ (v3 : Int32) (σ2 : St_), f_X2_stretch KC [.ref 105, .ref b1, .int x1, .int x2] σ = some (some (.int v3), σ2) ∧ out = (some (.int v3), σ2)))) ∧ (¬ (x2 ≤ (999 : Int32)) → out = (some (.int ((-2) : Int32)), σ)))))))))) : Ev_ (P_X11_cut KC) 0 [some (.ref 0), some (.int x1), some (.int x2)] [] σ out := by
  refine ev_n 2 (fun _ => rfl) ?_
  refine ev_if (c := x1 < (1 : Int32)) rfl (fun _ => rfl) (fun hc => ?_) (fun hc => ?_)
  · replace h := h.1 hc
    refine ev_n 1 (fun _ => rfl) ?_
    exact ev_ret rfl (fun _ => rfl) h
  · replace h := h.2 hc
    refine ev_n 2 (fun _ => rfl) ?_
    refine ev_if (c := (9 : Int32) < x1) rfl (fun _ => rfl) (fun hc => ?_) (fun hc => ?_)
    · replace h := h.1 hc
      refine ev_n 1 (fun _ => rfl) ?_
      exact ev_ret rfl (fun _ => rfl) h
    · replace h := h.2 hc
      refine ev_n 2 (fun _ => rfl) ?_
      refine ev_if (c := x2 < (1 : Int32)) rfl (fun _ => rfl) (fun hc => ?_) (fun hc => ?_)
      · replace h := h.1 hc
        refine ev_n 1 (fun _ => rfl) ?_
        exact ev_ret rfl (fun _ => rfl) h
      · replace h := h.2 hc
        refine ev_n 2 (fun _ => rfl) ?_
        refine ev_if (c := x2 ≤ (999 : Int32)) rfl (fun _ => rfl) (fun hc => ?_) (fun hc => ?_)
        · replace h := h.1 hc
          refine ev_n 1 (fun _ => rfl) ?_
          refine ev_go rfl (w_gF rfl rfl) ?_
          refine ev_n 1 (fun _ => rfl) ?_
          obtain ⟨b1, eb1, hb1, h⟩ := h
          refine ev_go rfl (w_gR rfl eb1) ?_
          refine ev_n 2 (fun _ => rfl) ?_
          obtain ⟨v3, σ2, hf, h⟩ := h
          refine ev_go rfl (w_callV rfl rfl rfl (Nat.le_of_ble_eq_true rfl) hf) ?_
          exact ev_ret rfl (fun _ => rfl) h
        · replace h := h.2 hc
          refine ev_n 1 (fun _ => rfl) ?_
          exact ev_ret rfl (fun _ => rfl) h
theorem m_X11_cut : ∀ pc o, (P_X11_cut KC).lookup pc = some o → Mon_ o := all_mon (a_X11_cut (l := launch0) (E := EC0) EC0_ok)
theorem z_X11_cut {x1 : Int32} {x2 : Int32} {σ : St_} {out : Out_} (h : Ev_ (P_X11_cut KC) 0 [some (.ref 0), some (.int x1), some (.int x2)] [] σ out) : f_X11_cut KC [.ref 0, .int x1, .int x2] σ = some out := fn_eq m_X11_cut rfl h
set_option maxRecDepth 20000 in
theorem e_X11_cutAt_0 {x1 : Int32} {σ : St_} {out : Out_}  (h : ((x1 < 0 → out = (some (.int ((-1) : Int32)), σ)) ∧ (¬ (x1 < 0) → ((x1 < (σ.1 105 1) → (vpin_ x1 9 = true) ∧ out = (some (.int (σ.1 106 (Int32.toNatClampNeg x1))), σ)) ∧ (¬ (x1 < (σ.1 105 1)) → out = (some (.int ((-1) : Int32)), σ)))))) : Ev_ (P_X11_cutAt KC) 0 [some (.ref 0), some (.int x1)] [] σ out := by
  refine ev_n 1 (fun _ => rfl) ?_
  refine ev_if (c := x1 < 0) rfl (fun _ => rfl) (fun hc => ?_) (fun hc => ?_)
  · replace h := h.1 hc
    refine ev_n 2 (fun _ => rfl) ?_
    exact ev_ret rfl (fun _ => rfl) h
  · replace h := h.2 hc
    refine ev_n 2 (fun _ => rfl) ?_
    refine ev_go rfl (w_gF rfl rfl) ?_
    refine ev_go rfl (w_gI rfl) ?_
    refine ev_if (c := x1 < (σ.1 105 1)) rfl (fun _ => rfl) (fun hc => ?_) (fun hc => ?_)
    · replace h := h.1 hc
      refine ev_n 1 (fun _ => rfl) ?_
      refine ev_go rfl (w_gF rfl rfl) ?_
      refine ev_go rfl (w_gF rfl rfl) ?_
      refine ev_n 1 (fun _ => rfl) ?_
      obtain ⟨h0, h⟩ := h
      refine ev_go rfl (w_iald rfl h0) ?_
      exact ev_ret rfl (fun _ => rfl) h
    · replace h := h.2 hc
      refine ev_n 2 (fun _ => rfl) ?_
      exact ev_ret rfl (fun _ => rfl) h
theorem m_X11_cutAt : ∀ pc o, (P_X11_cutAt KC).lookup pc = some o → Mon_ o := all_mon (a_X11_cutAt (l := launch0) (E := EC0) EC0_ok)
theorem z_X11_cutAt {x1 : Int32} {σ : St_} {out : Out_} (h : Ev_ (P_X11_cutAt KC) 0 [some (.ref 0), some (.int x1)] [] σ out) : f_X11_cutAt KC [.ref 0, .int x1] σ = some out := fn_eq m_X11_cutAt rfl h
set_option maxRecDepth 20000 in
theorem e_X11_net_0 {x1 : Int32} {σ : St_} {out : Out_}  (h : ((x1 < (1 : Int32) → out = (some (.int ((-2) : Int32)), (sI_ σ 1 2 (0 : Int32)))) ∧ (¬ (x1 < (1 : Int32)) → (((9999 : Int32) < x1 → out = (some (.int ((-2) : Int32)), (sI_ σ 1 2 (0 : Int32)))) ∧ (¬ ((9999 : Int32) < x1) → (∃ b1, (sI_ σ 1 2 (0 : Int32)).2.2 0 12 = some b1 ∧ isB b1 ∧ (∃ (v3 : Int32) (σ2 : St_), f_X8_areUnlike KC [.ref 1, .int (σ.1 1 2), .int (10 : Int32), .int ((sI_ σ 1 2 (0 : Int32)).1 b1 11)] (sI_ σ 1 2 (0 : Int32)) = some (some (.int v3), σ2) ∧ ((v3 = 0 → out = (some (.int ((-2) : Int32)), σ2)) ∧ (¬ (v3 = 0) → (∃ b4, σ2.2.2 0 12 = some b4 ∧ isB b4 ∧ (∃ (v6 : Int32) (σ5 : St_), f_X2_divide KC [.ref 105, .ref b4, .ref 1, .int (σ.1 1 2), .int x1] σ2 = some (some (.int v6), σ5) ∧ out = (some (.int v6), σ5)))))))))))) : Ev_ (P_X11_net KC) 0 [some (.ref 0), some (.int x1), none] [] σ out := by
  refine ev_n 1 (fun _ => rfl) ?_
  refine ev_go rfl (w_gF rfl rfl) ?_
  refine ev_go rfl (w_gI rfl) ?_
  refine ev_n 2 (fun _ => rfl) ?_
  refine ev_go rfl (w_gF rfl rfl) ?_
  refine ev_n 1 (fun _ => rfl) ?_
  refine ev_go rfl (w_pI rfl) ?_
  refine ev_n 2 (fun _ => rfl) ?_
  refine ev_if (c := x1 < (1 : Int32)) rfl (fun _ => rfl) (fun hc => ?_) (fun hc => ?_)
  · replace h := h.1 hc
    refine ev_n 1 (fun _ => rfl) ?_
    exact ev_ret rfl (fun _ => rfl) h
  · replace h := h.2 hc
    refine ev_n 2 (fun _ => rfl) ?_
    refine ev_if (c := (9999 : Int32) < x1) rfl (fun _ => rfl) (fun hc => ?_) (fun hc => ?_)
    · replace h := h.1 hc
      refine ev_n 1 (fun _ => rfl) ?_
      exact ev_ret rfl (fun _ => rfl) h
    · replace h := h.2 hc
      refine ev_n 1 (fun _ => rfl) ?_
      refine ev_go rfl (w_gF rfl rfl) ?_
      refine ev_n 3 (fun _ => rfl) ?_
      obtain ⟨b1, eb1, hb1, h⟩ := h
      refine ev_go rfl (w_gR rfl eb1) ?_
      refine ev_go rfl (w_gI (kb_0 hb1)) ?_
      obtain ⟨v3, σ2, hf, h⟩ := h
      refine ev_go rfl (w_callV rfl rfl rfl (Nat.le_of_ble_eq_true rfl) hf) ?_
      refine ev_if (c := v3 = 0) rfl (fun _ => rfl) (fun hc => ?_) (fun hc => ?_)
      · replace h := h.1 hc
        refine ev_n 1 (fun _ => rfl) ?_
        exact ev_ret rfl (fun _ => rfl) h
      · replace h := h.2 hc
        refine ev_n 1 (fun _ => rfl) ?_
        refine ev_go rfl (w_gF rfl rfl) ?_
        refine ev_n 1 (fun _ => rfl) ?_
        obtain ⟨b4, eb4, hb4, h⟩ := h
        refine ev_go rfl (w_gR rfl eb4) ?_
        refine ev_n 1 (fun _ => rfl) ?_
        refine ev_go rfl (w_gF rfl rfl) ?_
        refine ev_n 2 (fun _ => rfl) ?_
        obtain ⟨v6, σ5, hf, h⟩ := h
        refine ev_go rfl (w_callV rfl rfl rfl (Nat.le_of_ble_eq_true rfl) hf) ?_
        exact ev_ret rfl (fun _ => rfl) h
theorem m_X11_net : ∀ pc o, (P_X11_net KC).lookup pc = some o → Mon_ o := all_mon (a_X11_net (l := launch0) (E := EC0) EC0_ok)
theorem z_X11_net {x1 : Int32} {σ : St_} {out : Out_} (h : Ev_ (P_X11_net KC) 0 [some (.ref 0), some (.int x1), none] [] σ out) : f_X11_net KC [.ref 0, .int x1] σ = some out := fn_eq m_X11_net rfl h
set_option maxRecDepth 20000 in
theorem e_X11_netSide_0  {σ : St_} {out : Out_}  (h : out = (some (.int (σ.1 105 2)), σ)) : Ev_ (P_X11_netSide KC) 0 [some (.ref 0)] [] σ out := by
  refine ev_n 1 (fun _ => rfl) ?_
  refine ev_go rfl (w_gF rfl rfl) ?_
  refine ev_go rfl (w_gI rfl) ?_
  exact ev_ret rfl (fun _ => rfl) h
theorem m_X11_netSide : ∀ pc o, (P_X11_netSide KC).lookup pc = some o → Mon_ o := all_mon (a_X11_netSide (l := launch0) (E := EC0) EC0_ok)
theorem z_X11_netSide  {σ : St_} {out : Out_} (h : Ev_ (P_X11_netSide KC) 0 [some (.ref 0)] [] σ out) : f_X11_netSide KC [.ref 0] σ = some out := fn_eq m_X11_netSide rfl h
set_option maxRecDepth 20000 in
theorem e_X11_chain_0  {σ : St_} {out : Out_}  (h : (∃ b1, (sI_ σ 1 2 (0 : Int32)).2.2 0 12 = some b1 ∧ isB b1 ∧ (∃ (v3 : Int32) (σ2 : St_), f_X8_areUnlike KC [.ref 1, .int (σ.1 1 2), .int (7 : Int32), .int ((sI_ σ 1 2 (0 : Int32)).1 b1 12)] (sI_ σ 1 2 (0 : Int32)) = some (some (.int v3), σ2) ∧ ((v3 = 0 → out = (some (.int ((-1) : Int32)), σ2)) ∧ (¬ (v3 = 0) → (∃ b4, σ2.2.2 0 12 = some b4 ∧ isB b4 ∧ (∃ (v6 : Int32) (σ5 : St_), f_X7_search KC [.ref 129, .ref b4, .ref 1, .int (σ.1 1 2)] σ2 = some (some (.int v6), σ5) ∧ out = (some (.int v6), σ5)))))))) : Ev_ (P_X11_chain KC) 0 [some (.ref 0), none] [] σ out := by
  refine ev_n 1 (fun _ => rfl) ?_
  refine ev_go rfl (w_gF rfl rfl) ?_
  refine ev_go rfl (w_gI rfl) ?_
  refine ev_n 2 (fun _ => rfl) ?_
  refine ev_go rfl (w_gF rfl rfl) ?_
  refine ev_n 1 (fun _ => rfl) ?_
  refine ev_go rfl (w_pI rfl) ?_
  refine ev_n 1 (fun _ => rfl) ?_
  refine ev_go rfl (w_gF rfl rfl) ?_
  refine ev_n 3 (fun _ => rfl) ?_
  obtain ⟨b1, eb1, hb1, h⟩ := h
  refine ev_go rfl (w_gR rfl eb1) ?_
  refine ev_go rfl (w_gI (kb_0 hb1)) ?_
  obtain ⟨v3, σ2, hf, h⟩ := h
  refine ev_go rfl (w_callV rfl rfl rfl (Nat.le_of_ble_eq_true rfl) hf) ?_
  refine ev_if (c := v3 = 0) rfl (fun _ => rfl) (fun hc => ?_) (fun hc => ?_)
  · replace h := h.1 hc
    refine ev_n 1 (fun _ => rfl) ?_
    exact ev_ret rfl (fun _ => rfl) h
  · replace h := h.2 hc
    refine ev_n 1 (fun _ => rfl) ?_
    refine ev_go rfl (w_gF rfl rfl) ?_
    refine ev_n 1 (fun _ => rfl) ?_
    obtain ⟨b4, eb4, hb4, h⟩ := h
    refine ev_go rfl (w_gR rfl eb4) ?_
    refine ev_n 1 (fun _ => rfl) ?_
    refine ev_go rfl (w_gF rfl rfl) ?_
    refine ev_n 1 (fun _ => rfl) ?_
    obtain ⟨v6, σ5, hf, h⟩ := h
    refine ev_go rfl (w_callV rfl rfl rfl (Nat.le_of_ble_eq_true rfl) hf) ?_
    exact ev_ret rfl (fun _ => rfl) h
theorem m_X11_chain : ∀ pc o, (P_X11_chain KC).lookup pc = some o → Mon_ o := all_mon (a_X11_chain (l := launch0) (E := EC0) EC0_ok)
theorem z_X11_chain  {σ : St_} {out : Out_} (h : Ev_ (P_X11_chain KC) 0 [some (.ref 0), none] [] σ out) : f_X11_chain KC [.ref 0] σ = some out := fn_eq m_X11_chain rfl h
set_option maxRecDepth 20000 in
theorem e_X11_chainAt_0 {x1 : Int32} {σ : St_} {out : Out_}  (h : ((x1 < 0 → out = (some (.int ((-1) : Int32)), σ)) ∧ (¬ (x1 < 0) → ((x1 < (σ.1 129 1) → (vpin_ x1 7 = true) ∧ out = (some (.int (σ.1 130 (Int32.toNatClampNeg x1))), σ)) ∧ (¬ (x1 < (σ.1 129 1)) → out = (some (.int ((-1) : Int32)), σ)))))) : Ev_ (P_X11_chainAt KC) 0 [some (.ref 0), some (.int x1)] [] σ out := by
  refine ev_n 1 (fun _ => rfl) ?_
  refine ev_if (c := x1 < 0) rfl (fun _ => rfl) (fun hc => ?_) (fun hc => ?_)
  · replace h := h.1 hc
    refine ev_n 2 (fun _ => rfl) ?_
    exact ev_ret rfl (fun _ => rfl) h
  · replace h := h.2 hc
    refine ev_n 2 (fun _ => rfl) ?_
    refine ev_go rfl (w_gF rfl rfl) ?_
    refine ev_go rfl (w_gI rfl) ?_
    refine ev_if (c := x1 < (σ.1 129 1)) rfl (fun _ => rfl) (fun hc => ?_) (fun hc => ?_)
    · replace h := h.1 hc
      refine ev_n 1 (fun _ => rfl) ?_
      refine ev_go rfl (w_gF rfl rfl) ?_
      refine ev_go rfl (w_gF rfl rfl) ?_
      refine ev_n 1 (fun _ => rfl) ?_
      obtain ⟨h0, h⟩ := h
      refine ev_go rfl (w_iald rfl h0) ?_
      exact ev_ret rfl (fun _ => rfl) h
    · replace h := h.2 hc
      refine ev_n 2 (fun _ => rfl) ?_
      exact ev_ret rfl (fun _ => rfl) h
theorem m_X11_chainAt : ∀ pc o, (P_X11_chainAt KC).lookup pc = some o → Mon_ o := all_mon (a_X11_chainAt (l := launch0) (E := EC0) EC0_ok)
theorem z_X11_chainAt {x1 : Int32} {σ : St_} {out : Out_} (h : Ev_ (P_X11_chainAt KC) 0 [some (.ref 0), some (.int x1)] [] σ out) : f_X11_chainAt KC [.ref 0, .int x1] σ = some out := fn_eq m_X11_chainAt rfl h
set_option maxRecDepth 20000 in
theorem e_X11_alone_0 {x1 : Int32} {x2 : Int32} {σ : St_} {out : Out_}  (h : (∃ b1, σ.2.2 0 12 = some b1 ∧ isB b1 ∧ (∃ (v3 : Int32) (σ2 : St_), f_X0_hasReader KC [.ref b1, .int x1] σ = some (some (.int v3), σ2) ∧ ((v3 = 0 → out = (some (.int ((-1) : Int32)), σ2)) ∧ (¬ (v3 = 0) → ((x2 < 0 → out = (some (.int ((-1) : Int32)), σ2)) ∧ (¬ (x2 < 0) → ((x2 ≤ (1 : Int32) → (∃ b4, σ2.2.2 0 12 = some b4 ∧ isB b4 ∧ (∃ (σ5 : St_), f_X1_readAlone KC [.ref 133, .ref b4, .int x1] σ2 = some (none, σ5) ∧ ((x2 = 0 → out = (some (.int (σ5.1 133 0)), σ5)) ∧ (¬ (x2 = 0) → out = (some (.int (σ5.1 133 1)), σ5)))))) ∧ (¬ (x2 ≤ (1 : Int32)) → out = (some (.int ((-1) : Int32)), σ2)))))))))) : Ev_ (P_X11_alone KC) 0 [some (.ref 0), some (.int x1), some (.int x2)] [] σ out := by
  refine ev_n 1 (fun _ => rfl) ?_
  obtain ⟨b1, eb1, hb1, h⟩ := h
  refine ev_go rfl (w_gR rfl eb1) ?_
  refine ev_n 1 (fun _ => rfl) ?_
  obtain ⟨v3, σ2, hf, h⟩ := h
  refine ev_go rfl (w_callV rfl rfl (kb_0 hb1) (Nat.le_of_ble_eq_true rfl) hf) ?_
  refine ev_if (c := v3 = 0) rfl (fun _ => rfl) (fun hc => ?_) (fun hc => ?_)
  · replace h := h.1 hc
    refine ev_n 1 (fun _ => rfl) ?_
    exact ev_ret rfl (fun _ => rfl) h
  · replace h := h.2 hc
    refine ev_n 1 (fun _ => rfl) ?_
    refine ev_if (c := x2 < 0) rfl (fun _ => rfl) (fun hc => ?_) (fun hc => ?_)
    · replace h := h.1 hc
      refine ev_n 1 (fun _ => rfl) ?_
      exact ev_ret rfl (fun _ => rfl) h
    · replace h := h.2 hc
      refine ev_n 2 (fun _ => rfl) ?_
      refine ev_if (c := x2 ≤ (1 : Int32)) rfl (fun _ => rfl) (fun hc => ?_) (fun hc => ?_)
      · replace h := h.1 hc
        refine ev_n 1 (fun _ => rfl) ?_
        refine ev_go rfl (w_gF rfl rfl) ?_
        refine ev_n 1 (fun _ => rfl) ?_
        obtain ⟨b4, eb4, hb4, h⟩ := h
        refine ev_go rfl (w_gR rfl eb4) ?_
        refine ev_n 1 (fun _ => rfl) ?_
        obtain ⟨σ5, hf, h⟩ := h
        refine ev_go rfl (w_callV rfl rfl rfl (Nat.le_of_ble_eq_true rfl) hf) ?_
        refine ev_n 1 (fun _ => rfl) ?_
        refine ev_if (c := x2 = 0) rfl (fun _ => rfl) (fun hc => ?_) (fun hc => ?_)
        · replace h := h.1 hc
          refine ev_n 1 (fun _ => rfl) ?_
          refine ev_go rfl (w_gF rfl rfl) ?_
          refine ev_go rfl (w_gI rfl) ?_
          refine ev_n 1 (fun _ => rfl) ?_
          exact ev_ret rfl (fun _ => rfl) h
        · replace h := h.2 hc
          refine ev_n 1 (fun _ => rfl) ?_
          refine ev_go rfl (w_gF rfl rfl) ?_
          refine ev_go rfl (w_gI rfl) ?_
          exact ev_ret rfl (fun _ => rfl) h
      · replace h := h.2 hc
        refine ev_n 1 (fun _ => rfl) ?_
        exact ev_ret rfl (fun _ => rfl) h
theorem m_X11_alone : ∀ pc o, (P_X11_alone KC).lookup pc = some o → Mon_ o := all_mon (a_X11_alone (l := launch0) (E := EC0) EC0_ok)
theorem z_X11_alone {x1 : Int32} {x2 : Int32} {σ : St_} {out : Out_} (h : Ev_ (P_X11_alone KC) 0 [some (.ref 0), some (.int x1), some (.int x2)] [] σ out) : f_X11_alone KC [.ref 0, .int x1, .int x2] σ = some out := fn_eq m_X11_alone rfl h
set_option maxRecDepth 20000 in
theorem e_X11_leave_0 {x1 : Int32} {σ : St_} {out : Out_}  (h : (∃ b1, σ.2.2 0 12 = some b1 ∧ isB b1 ∧ (((σ.1 b1 12) < (1 : Int32) → out = (some (.int ((-1) : Int32)), σ)) ∧ (¬ ((σ.1 b1 12) < (1 : Int32)) → ((x1 < 0 → out = (some (.int ((-1) : Int32)), σ)) ∧ (¬ (x1 < 0) → ((x1 ≤ (1 : Int32) → (∃ (σ2 : St_), f_X1_leaveOut KC [.ref 133, .ref b1] σ = some (none, σ2) ∧ ((x1 = 0 → out = (some (.int (σ2.1 133 0)), σ2)) ∧ (¬ (x1 = 0) → out = (some (.int (σ2.1 133 1)), σ2))))) ∧ (¬ (x1 ≤ (1 : Int32)) → out = (some (.int ((-1) : Int32)), σ))))))))) : Ev_ (P_X11_leave KC) 0 [some (.ref 0), some (.int x1)] [] σ out := by
  refine ev_n 1 (fun _ => rfl) ?_
  obtain ⟨b1, eb1, hb1, h⟩ := h
  refine ev_go rfl (w_gR rfl eb1) ?_
  refine ev_go rfl (w_gI (kb_0 hb1)) ?_
  refine ev_n 1 (fun _ => rfl) ?_
  refine ev_if (c := (σ.1 b1 12) < (1 : Int32)) rfl (fun _ => rfl) (fun hc => ?_) (fun hc => ?_)
  · replace h := h.1 hc
    refine ev_n 1 (fun _ => rfl) ?_
    exact ev_ret rfl (fun _ => rfl) h
  · replace h := h.2 hc
    refine ev_n 1 (fun _ => rfl) ?_
    refine ev_if (c := x1 < 0) rfl (fun _ => rfl) (fun hc => ?_) (fun hc => ?_)
    · replace h := h.1 hc
      refine ev_n 1 (fun _ => rfl) ?_
      exact ev_ret rfl (fun _ => rfl) h
    · replace h := h.2 hc
      refine ev_n 2 (fun _ => rfl) ?_
      refine ev_if (c := x1 ≤ (1 : Int32)) rfl (fun _ => rfl) (fun hc => ?_) (fun hc => ?_)
      · replace h := h.1 hc
        refine ev_n 1 (fun _ => rfl) ?_
        refine ev_go rfl (w_gF rfl rfl) ?_
        refine ev_n 1 (fun _ => rfl) ?_
        refine ev_go rfl (w_gR (z := b1) rfl eb1) ?_
        obtain ⟨σ2, hf, h⟩ := h
        refine ev_go rfl (w_callV rfl rfl rfl (Nat.le_of_ble_eq_true rfl) hf) ?_
        refine ev_n 1 (fun _ => rfl) ?_
        refine ev_if (c := x1 = 0) rfl (fun _ => rfl) (fun hc => ?_) (fun hc => ?_)
        · replace h := h.1 hc
          refine ev_n 1 (fun _ => rfl) ?_
          refine ev_go rfl (w_gF rfl rfl) ?_
          refine ev_go rfl (w_gI rfl) ?_
          refine ev_n 1 (fun _ => rfl) ?_
          exact ev_ret rfl (fun _ => rfl) h
        · replace h := h.2 hc
          refine ev_n 1 (fun _ => rfl) ?_
          refine ev_go rfl (w_gF rfl rfl) ?_
          refine ev_go rfl (w_gI rfl) ?_
          exact ev_ret rfl (fun _ => rfl) h
      · replace h := h.2 hc
        refine ev_n 1 (fun _ => rfl) ?_
        exact ev_ret rfl (fun _ => rfl) h
theorem m_X11_leave : ∀ pc o, (P_X11_leave KC).lookup pc = some o → Mon_ o := all_mon (a_X11_leave (l := launch0) (E := EC0) EC0_ok)
theorem z_X11_leave {x1 : Int32} {σ : St_} {out : Out_} (h : Ev_ (P_X11_leave KC) 0 [some (.ref 0), some (.int x1)] [] σ out) : f_X11_leave KC [.ref 0, .int x1] σ = some out := fn_eq m_X11_leave rfl h
set_option maxRecDepth 20000 in
theorem e_X11_extra_0 {x1 : Int32} {σ : St_} {out : Out_}  (h : ((x1 < 0 → out = (some (.int ((-1) : Int32)), σ)) ∧ (¬ (x1 < 0) → ((x1 ≤ (2 : Int32) → (∃ (σ1 : St_), f_X11_runOnce KC [.ref 0] σ = some (none, σ1) ∧ (∃ (σ2 : St_), f_X5_findExtra KC [.ref 80] σ1 = some (none, σ2) ∧ ((x1 = 0 → out = (some (.int (σ2.1 80 6)), σ2)) ∧ (¬ x1 = 0 → x1 = 1 → out = (some (.int (σ2.1 80 7)), σ2)) ∧ (¬ x1 = 0 → ¬ x1 = 1 → out = (some (.int (σ2.1 80 8)), σ2)))))) ∧ (¬ (x1 ≤ (2 : Int32)) → out = (some (.int ((-1) : Int32)), σ)))))) : Ev_ (P_X11_extra KC) 0 [some (.ref 0), some (.int x1)] [] σ out := by
  refine ev_n 1 (fun _ => rfl) ?_
  refine ev_if (c := x1 < 0) rfl (fun _ => rfl) (fun hc => ?_) (fun hc => ?_)
  · replace h := h.1 hc
    refine ev_n 1 (fun _ => rfl) ?_
    exact ev_ret rfl (fun _ => rfl) h
  · replace h := h.2 hc
    refine ev_n 2 (fun _ => rfl) ?_
    refine ev_if (c := x1 ≤ (2 : Int32)) rfl (fun _ => rfl) (fun hc => ?_) (fun hc => ?_)
    · replace h := h.1 hc
      refine ev_n 1 (fun _ => rfl) ?_
      obtain ⟨σ1, hf, h⟩ := h
      refine ev_go rfl (w_callV rfl rfl rfl (Nat.le_of_ble_eq_true rfl) hf) ?_
      refine ev_n 1 (fun _ => rfl) ?_
      refine ev_go rfl (w_gF rfl rfl) ?_
      obtain ⟨σ2, hf, h⟩ := h
      refine ev_go rfl (w_callV rfl rfl rfl (Nat.le_of_ble_eq_true rfl) hf) ?_
      refine ev_n 1 (fun _ => rfl) ?_
      refine ev_lsw (y1 := 0) (y2 := 1) (t1 := 48) (t2 := 56) (t3 := 64) rfl (by decide) (by decide) (by decide) (by decide) (fun hc => ?_) (fun hc hd => ?_) (fun hc hd => ?_)
      · replace h := h.1 hc
        refine ev_n 1 (fun _ => rfl) ?_
        refine ev_go rfl (w_gF rfl rfl) ?_
        refine ev_go rfl (w_gI rfl) ?_
        exact ev_ret rfl (fun _ => rfl) h
      · replace h := h.2.1 hc hd
        refine ev_n 1 (fun _ => rfl) ?_
        refine ev_go rfl (w_gF rfl rfl) ?_
        refine ev_go rfl (w_gI rfl) ?_
        exact ev_ret rfl (fun _ => rfl) h
      · replace h := h.2.2 hc hd
        refine ev_n 1 (fun _ => rfl) ?_
        refine ev_go rfl (w_gF rfl rfl) ?_
        refine ev_go rfl (w_gI rfl) ?_
        exact ev_ret rfl (fun _ => rfl) h
    · replace h := h.2 hc
      refine ev_n 1 (fun _ => rfl) ?_
      exact ev_ret rfl (fun _ => rfl) h
theorem m_X11_extra : ∀ pc o, (P_X11_extra KC).lookup pc = some o → Mon_ o := all_mon (a_X11_extra (l := launch0) (E := EC0) EC0_ok)
theorem z_X11_extra {x1 : Int32} {σ : St_} {out : Out_} (h : Ev_ (P_X11_extra KC) 0 [some (.ref 0), some (.int x1)] [] σ out) : f_X11_extra KC [.ref 0, .int x1] σ = some out := fn_eq m_X11_extra rfl h
set_option maxRecDepth 20000 in
theorem e_X11_ask_0  {σ : St_} {out : Out_}  (h : (((σ.1 1 2) < (2 : Int32) → out = (some (.int ((-2) : Int32)), (sI_ σ 1 2 (0 : Int32)))) ∧ (¬ ((σ.1 1 2) < (2 : Int32)) → (((20 : Int32) < (σ.1 1 2) → out = (some (.int ((-2) : Int32)), (sI_ σ 1 2 (0 : Int32)))) ∧ (¬ ((20 : Int32) < (σ.1 1 2)) → ((((σ.1 1 2) - (σ.1 1 2) / (2 : Int32) * (2 : Int32)) = 0 → (∃ (σ1 : St_), f_X11_runOnce KC [.ref 0] (sI_ σ 1 2 (0 : Int32)) = some (none, σ1) ∧ (∃ b2, σ1.2.2 0 12 = some b2 ∧ isB b2 ∧ (∃ (v4 : Int32) (σ3 : St_), f_X5_lacking KC [.ref 80] σ1 = some (some (.int v4), σ3) ∧ (∃ (v6 : Int32) (σ5 : St_), f_X1_askFewest KC [.ref 133, .ref 1, .int ((σ.1 1 2) / (2 : Int32)), .int (σ1.1 b2 11), .int v4] σ3 = some (some (.int v6), σ5) ∧ out = (some (.int v6), σ5)))))) ∧ (¬ (((σ.1 1 2) - (σ.1 1 2) / (2 : Int32) * (2 : Int32)) = 0) → out = (some (.int ((-2) : Int32)), (sI_ σ 1 2 (0 : Int32)))))))))) : Ev_ (P_X11_ask KC) 0 [some (.ref 0), none] [] σ out := by
  refine ev_n 1 (fun _ => rfl) ?_
  refine ev_go rfl (w_gF rfl rfl) ?_
  refine ev_go rfl (w_gI rfl) ?_
  refine ev_n 2 (fun _ => rfl) ?_
  refine ev_go rfl (w_gF rfl rfl) ?_
  refine ev_n 1 (fun _ => rfl) ?_
  refine ev_go rfl (w_pI rfl) ?_
  refine ev_n 2 (fun _ => rfl) ?_
  refine ev_if (c := (σ.1 1 2) < (2 : Int32)) rfl (fun _ => rfl) (fun hc => ?_) (fun hc => ?_)
  · replace h := h.1 hc
    refine ev_n 1 (fun _ => rfl) ?_
    exact ev_ret rfl (fun _ => rfl) h
  · replace h := h.2 hc
    refine ev_n 2 (fun _ => rfl) ?_
    refine ev_if (c := (20 : Int32) < (σ.1 1 2)) rfl (fun _ => rfl) (fun hc => ?_) (fun hc => ?_)
    · replace h := h.1 hc
      refine ev_n 1 (fun _ => rfl) ?_
      exact ev_ret rfl (fun _ => rfl) h
    · replace h := h.2 hc
      refine ev_n 2 (fun _ => rfl) ?_
      refine ev_go rfl (w_rem (by decide)) ?_
      refine ev_if (c := ((σ.1 1 2) - (σ.1 1 2) / (2 : Int32) * (2 : Int32)) = 0) rfl (fun _ => rfl) (fun hc => ?_) (fun hc => ?_)
      · replace h := h.1 hc
        refine ev_n 1 (fun _ => rfl) ?_
        obtain ⟨σ1, hf, h⟩ := h
        refine ev_go rfl (w_callV rfl rfl rfl (Nat.le_of_ble_eq_true rfl) hf) ?_
        refine ev_n 1 (fun _ => rfl) ?_
        refine ev_go rfl (w_gF rfl rfl) ?_
        refine ev_n 1 (fun _ => rfl) ?_
        refine ev_go rfl (w_gF rfl rfl) ?_
        refine ev_n 2 (fun _ => rfl) ?_
        refine ev_go rfl (w_div (by decide)) ?_
        refine ev_n 1 (fun _ => rfl) ?_
        obtain ⟨b2, eb2, hb2, h⟩ := h
        refine ev_go rfl (w_gR rfl eb2) ?_
        refine ev_go rfl (w_gI (kb_0 hb2)) ?_
        refine ev_n 1 (fun _ => rfl) ?_
        refine ev_go rfl (w_gF rfl rfl) ?_
        obtain ⟨v4, σ3, hf, h⟩ := h
        refine ev_go rfl (w_callV rfl rfl rfl (Nat.le_of_ble_eq_true rfl) hf) ?_
        obtain ⟨v6, σ5, hf, h⟩ := h
        refine ev_go rfl (w_callV rfl rfl rfl (Nat.le_of_ble_eq_true rfl) hf) ?_
        exact ev_ret rfl (fun _ => rfl) h
      · replace h := h.2 hc
        refine ev_n 1 (fun _ => rfl) ?_
        exact ev_ret rfl (fun _ => rfl) h
theorem m_X11_ask : ∀ pc o, (P_X11_ask KC).lookup pc = some o → Mon_ o := all_mon (a_X11_ask (l := launch0) (E := EC0) EC0_ok)
theorem z_X11_ask  {σ : St_} {out : Out_} (h : Ev_ (P_X11_ask KC) 0 [some (.ref 0), none] [] σ out) : f_X11_ask KC [.ref 0] σ = some out := fn_eq m_X11_ask rfl h
set_option maxRecDepth 20000 in
theorem e_X11_asked_0  {σ : St_} {out : Out_}  (h : out = (some (.int (σ.1 133 2)), σ)) : Ev_ (P_X11_asked KC) 0 [some (.ref 0)] [] σ out := by
  refine ev_n 1 (fun _ => rfl) ?_
  refine ev_go rfl (w_gF rfl rfl) ?_
  refine ev_go rfl (w_gI rfl) ?_
  exact ev_ret rfl (fun _ => rfl) h
theorem m_X11_asked : ∀ pc o, (P_X11_asked KC).lookup pc = some o → Mon_ o := all_mon (a_X11_asked (l := launch0) (E := EC0) EC0_ok)
theorem z_X11_asked  {σ : St_} {out : Out_} (h : Ev_ (P_X11_asked KC) 0 [some (.ref 0)] [] σ out) : f_X11_asked KC [.ref 0] σ = some out := fn_eq m_X11_asked rfl h
set_option maxRecDepth 20000 in
theorem e_X11_seen_0 {x1 : Int32} {x2 : Int32} {σ : St_} {out : Out_}  (h : (∃ b1, σ.2.2 0 12 = some b1 ∧ isB b1 ∧ (∃ (v3 : Int32) (σ2 : St_), f_X0_hasReader KC [.ref b1, .int x1] σ = some (some (.int v3), σ2) ∧ ((v3 = 0 → out = (some (.int ((-2) : Int32)), σ2)) ∧ (¬ (v3 = 0) → ((x2 < (1 : Int32) → out = (some (.int ((-2) : Int32)), σ2)) ∧ (¬ (x2 < (1 : Int32)) → ((x2 ≤ (1000000 : Int32) → (¬ (Int32.toInt64 x2) = 0) ∧ (∃ b4, σ2.2.2 0 12 = some b4 ∧ isB b4 ∧ (vpin_ x1 9 = true) ∧ Ev_ (P_X11_seen KC) 53 [some (.ref 0), some (.int x1), some (.int x2), some (.long (1000000000000000 : Int64)), none, some (.long ((1000000000000000 : Int64) / (Int32.toInt64 x2))), none, some (.int ((10 : Int32) - (σ2.1 (b4 + 27) (Int32.toNatClampNeg x1)))), some (.int (0 : Int32))] [] σ2 out)) ∧ (¬ (x2 ≤ (1000000 : Int32)) → out = (some (.int ((-2) : Int32)), σ2)))))))))) : Ev_ (P_X11_seen KC) 0 [some (.ref 0), some (.int x1), some (.int x2), none, none, none, none, none, none] [] σ out := by
  refine ev_n 1 (fun _ => rfl) ?_
  obtain ⟨b1, eb1, hb1, h⟩ := h
  refine ev_go rfl (w_gR rfl eb1) ?_
  refine ev_n 1 (fun _ => rfl) ?_
  obtain ⟨v3, σ2, hf, h⟩ := h
  refine ev_go rfl (w_callV rfl rfl (kb_0 hb1) (Nat.le_of_ble_eq_true rfl) hf) ?_
  refine ev_if (c := v3 = 0) rfl (fun _ => rfl) (fun hc => ?_) (fun hc => ?_)
  · replace h := h.1 hc
    refine ev_n 1 (fun _ => rfl) ?_
    exact ev_ret rfl (fun _ => rfl) h
  · replace h := h.2 hc
    refine ev_n 2 (fun _ => rfl) ?_
    refine ev_if (c := x2 < (1 : Int32)) rfl (fun _ => rfl) (fun hc => ?_) (fun hc => ?_)
    · replace h := h.1 hc
      refine ev_n 1 (fun _ => rfl) ?_
      exact ev_ret rfl (fun _ => rfl) h
    · replace h := h.2 hc
      refine ev_n 2 (fun _ => rfl) ?_
      refine ev_if (c := x2 ≤ (1000000 : Int32)) rfl (fun _ => rfl) (fun hc => ?_) (fun hc => ?_)
      · replace h := h.1 hc
        refine ev_n 5 (fun _ => rfl) ?_
        obtain ⟨h0, h⟩ := h
        refine ev_go rfl (w_ldiv h0) ?_
        refine ev_n 3 (fun _ => rfl) ?_
        obtain ⟨b4, eb4, hb4, h⟩ := h
        refine ev_go rfl (w_gR rfl eb4) ?_
        refine ev_go rfl (w_gF (kb_0 hb4) (kb_r10 hb4)) ?_
        refine ev_n 1 (fun _ => rfl) ?_
        obtain ⟨h0, h⟩ := h
        refine ev_go rfl (w_iald (kb_k10 hb4) h0) ?_
        refine ev_n 4 (fun _ => rfl) ?_
        exact h
      · replace h := h.2 hc
        refine ev_n 1 (fun _ => rfl) ?_
        exact ev_ret rfl (fun _ => rfl) h
set_option maxRecDepth 20000 in
theorem e_X11_seen_53 {x1 : Int32} {x2 : Int32} {x3 : Int64} {x5 : Int64} {x7 : Int32} {x8 : Int32} {σ : St_} {out : Out_}  (h : (((300 : Int32) < x8 → out = (some (.int ((-1) : Int32)), σ)) ∧ (¬ ((300 : Int32) < x8) → ((0 < (lg_cmp x3 x5) → Ev_ (P_X11_seen KC) 53 [some (.ref 0), some (.int x1), some (.int x2), some (.long ((x3 * (Int32.toInt64 x7)) / (10 : Int64))), none, some (.long x5), none, some (.int x7), some (.int (x8 + 1))] [] σ out) ∧ (¬ (0 < (lg_cmp x3 x5)) → out = (some (.int x8), σ)))))) : Ev_ (P_X11_seen KC) 53 [some (.ref 0), some (.int x1), some (.int x2), some (.long x3), none, some (.long x5), none, some (.int x7), some (.int x8)] [] σ out := by
  refine ev_n 2 (fun _ => rfl) ?_
  refine ev_if (c := (300 : Int32) < x8) rfl (fun _ => rfl) (fun hc => ?_) (fun hc => ?_)
  · replace h := h.1 hc
    refine ev_n 1 (fun _ => rfl) ?_
    exact ev_ret rfl (fun _ => rfl) h
  · replace h := h.2 hc
    refine ev_n 3 (fun _ => rfl) ?_
    refine ev_if (c := 0 < (lg_cmp x3 x5)) rfl (fun _ => rfl) (fun hc => ?_) (fun hc => ?_)
    · replace h := h.1 hc
      refine ev_n 5 (fun _ => rfl) ?_
      refine ev_go rfl (w_ldiv (by decide)) ?_
      refine ev_n 3 (fun _ => rfl) ?_
      exact h
    · replace h := h.2 hc
      refine ev_n 1 (fun _ => rfl) ?_
      exact ev_ret rfl (fun _ => rfl) h
theorem m_X11_seen : ∀ pc o, (P_X11_seen KC).lookup pc = some o → Mon_ o := all_mon (a_X11_seen (l := launch0) (E := EC0) EC0_ok)
theorem z_X11_seen {x1 : Int32} {x2 : Int32} {σ : St_} {out : Out_} (h : Ev_ (P_X11_seen KC) 0 [some (.ref 0), some (.int x1), some (.int x2), none, none, none, none, none, none] [] σ out) : f_X11_seen KC [.ref 0, .int x1, .int x2] σ = some out := fn_eq m_X11_seen rfl h
set_option maxRecDepth 20000 in
theorem e_X11_ill_0 {x1 : Int32} {x2 : Int32} {x3 : Int32} {σ : St_} {out : Out_}  (h : (∃ b1, σ.2.2 0 12 = some b1 ∧ isB b1 ∧ (∃ (v3 : Int32) (σ2 : St_), f_X0_hasReader KC [.ref b1, .int x1] σ = some (some (.int v3), σ2) ∧ ((v3 = 0 → out = (some (.int ((-1) : Int32)), σ2)) ∧ (¬ (v3 = 0) → ((x2 < 0 → out = (some (.int ((-1) : Int32)), σ2)) ∧ (¬ (x2 < 0) → (∃ p4, σ2.2.2 0 14 = some p4 ∧ isP p4 ∧ (((σ2.1 p4 4) < x2 → out = (some (.int ((-1) : Int32)), σ2)) ∧ (¬ ((σ2.1 p4 4) < x2) → ((x3 < 0 → out = (some (.int ((-1) : Int32)), σ2)) ∧ (¬ (x3 < 0) → ((x3 ≤ (3 : Int32) → (∃ b5, σ2.2.2 0 12 = some b5 ∧ isB b5 ∧ (∃ (σ6 : St_), f_X3_fall KC [.ref 92, .ref b5, .ref p4, .int x1, .int x2] σ2 = some (none, σ6) ∧ ((((x3).toInt < 0 ∨ 2 < (x3).toInt) → out = (some (.int (σ6.1 92 6)), σ6)) ∧ (x3 = 0 → out = (some (.int (σ6.1 92 3)), σ6)) ∧ (x3 = 1 → out = (some (.int (σ6.1 92 4)), σ6)) ∧ (x3 = 2 → out = (some (.int (σ6.1 92 5)), σ6)))))) ∧ (¬ (x3 ≤ (3 : Int32)) → out = (some (.int ((-1) : Int32)), σ2))))))))))))))) : Ev_ (P_X11_ill KC) 0 [some (.ref 0), some (.int x1), some (.int x2), some (.int x3)] [] σ out := by
  refine ev_n 1 (fun _ => rfl) ?_
  obtain ⟨b1, eb1, hb1, h⟩ := h
  refine ev_go rfl (w_gR rfl eb1) ?_
  refine ev_n 1 (fun _ => rfl) ?_
  obtain ⟨v3, σ2, hf, h⟩ := h
  refine ev_go rfl (w_callV rfl rfl (kb_0 hb1) (Nat.le_of_ble_eq_true rfl) hf) ?_
  refine ev_if (c := v3 = 0) rfl (fun _ => rfl) (fun hc => ?_) (fun hc => ?_)
  · replace h := h.1 hc
    refine ev_n 1 (fun _ => rfl) ?_
    exact ev_ret rfl (fun _ => rfl) h
  · replace h := h.2 hc
    refine ev_n 1 (fun _ => rfl) ?_
    refine ev_if (c := x2 < 0) rfl (fun _ => rfl) (fun hc => ?_) (fun hc => ?_)
    · replace h := h.1 hc
      refine ev_n 1 (fun _ => rfl) ?_
      exact ev_ret rfl (fun _ => rfl) h
    · replace h := h.2 hc
      refine ev_n 2 (fun _ => rfl) ?_
      obtain ⟨p4, ep4, hp4, h⟩ := h
      refine ev_go rfl (w_gR rfl ep4) ?_
      refine ev_go rfl (w_gI (kp_0 hp4)) ?_
      refine ev_if (c := (σ2.1 p4 4) < x2) rfl (fun _ => rfl) (fun hc => ?_) (fun hc => ?_)
      · replace h := h.1 hc
        refine ev_n 1 (fun _ => rfl) ?_
        exact ev_ret rfl (fun _ => rfl) h
      · replace h := h.2 hc
        refine ev_n 1 (fun _ => rfl) ?_
        refine ev_if (c := x3 < 0) rfl (fun _ => rfl) (fun hc => ?_) (fun hc => ?_)
        · replace h := h.1 hc
          refine ev_n 1 (fun _ => rfl) ?_
          exact ev_ret rfl (fun _ => rfl) h
        · replace h := h.2 hc
          refine ev_n 2 (fun _ => rfl) ?_
          refine ev_if (c := x3 ≤ (3 : Int32)) rfl (fun _ => rfl) (fun hc => ?_) (fun hc => ?_)
          · replace h := h.1 hc
            refine ev_n 1 (fun _ => rfl) ?_
            refine ev_go rfl (w_gF rfl rfl) ?_
            refine ev_n 1 (fun _ => rfl) ?_
            obtain ⟨b5, eb5, hb5, h⟩ := h
            refine ev_go rfl (w_gR rfl eb5) ?_
            refine ev_n 1 (fun _ => rfl) ?_
            refine ev_go rfl (w_gR (z := p4) rfl ep4) ?_
            refine ev_n 2 (fun _ => rfl) ?_
            obtain ⟨σ6, hf, h⟩ := h
            refine ev_go rfl (w_callV rfl rfl rfl (Nat.le_of_ble_eq_true rfl) hf) ?_
            refine ev_n 1 (fun _ => rfl) ?_
            refine ev_tsw rfl (fun hc => ?_) (fun t hc ht => ?_) (by decide)
            · replace h := h.1 hc
              refine ev_n 1 (fun _ => rfl) ?_
              refine ev_go rfl (w_gF rfl rfl) ?_
              refine ev_go rfl (w_gI rfl) ?_
              exact ev_ret rfl (fun _ => rfl) h
            · have hi := tsw_in (n := 3) hc (by decide)
              rcases (show ((x3).toInt - 0).toNat = 0 ∨ ((x3).toInt - 0).toNat = 1 ∨ ((x3).toInt - 0).toNat = 2 by omega) with e | e | e
              · rw [e] at ht
                cases ht
                replace h := h.2.1 (tsw_eq hc e (by decide))
                refine ev_n 1 (fun _ => rfl) ?_
                refine ev_go rfl (w_gF rfl rfl) ?_
                refine ev_go rfl (w_gI rfl) ?_
                exact ev_ret rfl (fun _ => rfl) h
              · rw [e] at ht
                cases ht
                replace h := h.2.2.1 (tsw_eq hc e (by decide))
                refine ev_n 1 (fun _ => rfl) ?_
                refine ev_go rfl (w_gF rfl rfl) ?_
                refine ev_go rfl (w_gI rfl) ?_
                exact ev_ret rfl (fun _ => rfl) h
              · rw [e] at ht
                cases ht
                replace h := h.2.2.2 (tsw_eq hc e (by decide))
                refine ev_n 1 (fun _ => rfl) ?_
                refine ev_go rfl (w_gF rfl rfl) ?_
                refine ev_go rfl (w_gI rfl) ?_
                exact ev_ret rfl (fun _ => rfl) h
          · replace h := h.2 hc
            refine ev_n 1 (fun _ => rfl) ?_
            exact ev_ret rfl (fun _ => rfl) h
theorem m_X11_ill : ∀ pc o, (P_X11_ill KC).lookup pc = some o → Mon_ o := all_mon (a_X11_ill (l := launch0) (E := EC0) EC0_ok)
theorem z_X11_ill {x1 : Int32} {x2 : Int32} {x3 : Int32} {σ : St_} {out : Out_} (h : Ev_ (P_X11_ill KC) 0 [some (.ref 0), some (.int x1), some (.int x2), some (.int x3)] [] σ out) : f_X11_ill KC [.ref 0, .int x1, .int x2, .int x3] σ = some out := fn_eq m_X11_ill rfl h
set_option maxRecDepth 20000 in
theorem e_X11_sentence_0  {σ : St_} {out : Out_}  (h : (∃ (σ1 : St_), f_X8_start KC [.ref 1, .int (200 : Int32)] σ = some (none, σ1) ∧ (∃ s2, σ1.2.2 0 17 = some s2 ∧ isS s2 ∧ (∃ b3, σ1.2.2 0 12 = some b3 ∧ isB b3 ∧ (∃ (v5 : Int32) (σ4 : St_), f_X9_readFrom KC [.ref s2, .ref 1, .ref b3] σ1 = some (some (.int v5), σ4) ∧ ((v5 = 0 → (∃ (v7 : Int32) (σ6 : St_), f_X8_faultAnswer KC [.ref 1] (sI_ σ4 1 2 (0 : Int32)) = some (some (.int v7), σ6) ∧ out = (some (.int v7), σ6))) ∧ (¬ (v5 = 0) → (∃ s8, (sI_ σ4 1 2 (0 : Int32)).2.2 0 16 = some s8 ∧ isS s8 ∧ (∃ s9, (sI_ σ4 1 2 (0 : Int32)).2.2 0 17 = some s9 ∧ isS s9 ∧ out = (some (.int ((sR_ (sR_ (sI_ σ4 1 2 (0 : Int32)) 0 16 (some s9)) 0 17 (some s8)).1 s9 5)), (sR_ (sR_ (sI_ σ4 1 2 (0 : Int32)) 0 16 (some s9)) 0 17 (some s8)))))))))))) : Ev_ (P_X11_sentence KC) 0 [some (.ref 0), none, none] [] σ out := by
  refine ev_n 1 (fun _ => rfl) ?_
  refine ev_go rfl (w_gF rfl rfl) ?_
  refine ev_n 1 (fun _ => rfl) ?_
  obtain ⟨σ1, hf, h⟩ := h
  refine ev_go rfl (w_callV rfl rfl rfl (Nat.le_of_ble_eq_true rfl) hf) ?_
  refine ev_n 1 (fun _ => rfl) ?_
  obtain ⟨s2, es2, hs2, h⟩ := h
  refine ev_go rfl (w_gR rfl es2) ?_
  refine ev_n 1 (fun _ => rfl) ?_
  refine ev_go rfl (w_gF rfl rfl) ?_
  refine ev_n 1 (fun _ => rfl) ?_
  obtain ⟨b3, eb3, hb3, h⟩ := h
  refine ev_go rfl (w_gR rfl eb3) ?_
  obtain ⟨v5, σ4, hf, h⟩ := h
  refine ev_go rfl (w_callV rfl rfl (ks_0 hs2) (Nat.le_of_ble_eq_true rfl) hf) ?_
  refine ev_n 2 (fun _ => rfl) ?_
  refine ev_go rfl (w_gF rfl rfl) ?_
  refine ev_n 1 (fun _ => rfl) ?_
  refine ev_go rfl (w_pI rfl) ?_
  refine ev_n 1 (fun _ => rfl) ?_
  refine ev_if (c := v5 = 0) rfl (fun _ => rfl) (fun hc => ?_) (fun hc => ?_)
  · replace h := h.1 hc
    refine ev_n 1 (fun _ => rfl) ?_
    refine ev_go rfl (w_gF rfl rfl) ?_
    obtain ⟨v7, σ6, hf, h⟩ := h
    refine ev_go rfl (w_callV rfl rfl rfl (Nat.le_of_ble_eq_true rfl) hf) ?_
    exact ev_ret rfl (fun _ => rfl) h
  · replace h := h.2 hc
    refine ev_n 1 (fun _ => rfl) ?_
    obtain ⟨s8, es8, hs8, h⟩ := h
    refine ev_go rfl (w_gR rfl es8) ?_
    refine ev_n 3 (fun _ => rfl) ?_
    obtain ⟨s9, es9, hs9, h⟩ := h
    refine ev_go rfl (w_gR rfl es9) ?_
    refine ev_go rfl (w_pR rfl) ?_
    refine ev_n 2 (fun _ => rfl) ?_
    refine ev_go rfl (w_pR rfl) ?_
    refine ev_n 1 (fun _ => rfl) ?_
    refine ev_go rfl (w_gR (z := s9) rfl (by simp [sR_, sI_, sJ_, u2_])) ?_
    refine ev_go rfl (w_gI (ks_0 hs9)) ?_
    exact ev_ret rfl (fun _ => rfl) h
theorem m_X11_sentence : ∀ pc o, (P_X11_sentence KC).lookup pc = some o → Mon_ o := all_mon (a_X11_sentence (l := launch0) (E := EC0) EC0_ok)
theorem z_X11_sentence  {σ : St_} {out : Out_} (h : Ev_ (P_X11_sentence KC) 0 [some (.ref 0), none, none] [] σ out) : f_X11_sentence KC [.ref 0] σ = some out := fn_eq m_X11_sentence rfl h
set_option maxRecDepth 20000 in
theorem e_X11_said_0  {σ : St_} {out : Out_}  (h : (∃ s1, σ.2.2 0 16 = some s1 ∧ isS s1 ∧ (((σ.1 s1 5) = 0 → out = (some (.int ((-1) : Int32)), σ)) ∧ (¬ ((σ.1 s1 5) = 0) → (∃ (σ2 : St_), f_X11_runOnce KC [.ref 0] σ = some (none, σ2) ∧ Ev_ (P_X11_said KC) 20 [some (.ref 0), some (.int (0 : Int32)), some (.int (0 : Int32))] [] σ2 out))))) : Ev_ (P_X11_said KC) 0 [some (.ref 0), none, none] [] σ out := by
  refine ev_n 1 (fun _ => rfl) ?_
  obtain ⟨s1, es1, hs1, h⟩ := h
  refine ev_go rfl (w_gR rfl es1) ?_
  refine ev_go rfl (w_gI (ks_0 hs1)) ?_
  refine ev_if (c := (σ.1 s1 5) = 0) rfl (fun _ => rfl) (fun hc => ?_) (fun hc => ?_)
  · replace h := h.1 hc
    refine ev_n 1 (fun _ => rfl) ?_
    exact ev_ret rfl (fun _ => rfl) h
  · replace h := h.2 hc
    refine ev_n 1 (fun _ => rfl) ?_
    obtain ⟨σ2, hf, h⟩ := h
    refine ev_go rfl (w_callV rfl rfl rfl (Nat.le_of_ble_eq_true rfl) hf) ?_
    refine ev_n 4 (fun _ => rfl) ?_
    exact h
set_option maxRecDepth 20000 in
theorem e_X11_said_20 {x1 : Int32} {x2 : Int32} {σ : St_} {out : Out_}  (h : (∃ b1, σ.2.2 0 12 = some b1 ∧ isB b1 ∧ (((σ.1 b1 12) ≤ x2 → out = (some (.int x1), σ)) ∧ (¬ ((σ.1 b1 12) ≤ x2) → (∃ s2, σ.2.2 0 16 = some s2 ∧ isS s2 ∧ (∃ (v4 : Int32) (σ3 : St_), f_X9_holds KC [.ref s2, .ref 80, .int x2] σ = some (some (.int v4), σ3) ∧ ((v4 = 0 → Ev_ (P_X11_said KC) 20 [some (.ref 0), some (.int x1), some (.int (x2 + 1))] [] σ3 out) ∧ (¬ (v4 = 0) → Ev_ (P_X11_said KC) 20 [some (.ref 0), some (.int (x1 ||| ((1 : Int32) <<< (x2 &&& 31)))), some (.int (x2 + 1))] [] σ3 out)))))))) : Ev_ (P_X11_said KC) 20 [some (.ref 0), some (.int x1), some (.int x2)] [] σ out := by
  refine ev_n 2 (fun _ => rfl) ?_
  obtain ⟨b1, eb1, hb1, h⟩ := h
  refine ev_go rfl (w_gR rfl eb1) ?_
  refine ev_go rfl (w_gI (kb_0 hb1)) ?_
  refine ev_if (c := (σ.1 b1 12) ≤ x2) rfl (fun _ => rfl) (fun hc => ?_) (fun hc => ?_)
  · replace h := h.1 hc
    refine ev_n 1 (fun _ => rfl) ?_
    exact ev_ret rfl (fun _ => rfl) h
  · replace h := h.2 hc
    refine ev_n 1 (fun _ => rfl) ?_
    obtain ⟨s2, es2, hs2, h⟩ := h
    refine ev_go rfl (w_gR rfl es2) ?_
    refine ev_n 1 (fun _ => rfl) ?_
    refine ev_go rfl (w_gF rfl rfl) ?_
    refine ev_n 1 (fun _ => rfl) ?_
    obtain ⟨v4, σ3, hf, h⟩ := h
    refine ev_go rfl (w_callV rfl rfl (ks_0 hs2) (Nat.le_of_ble_eq_true rfl) hf) ?_
    refine ev_if (c := v4 = 0) rfl (fun _ => rfl) (fun hc => ?_) (fun hc => ?_)
    · replace h := h.1 hc
      refine ev_n 2 (fun _ => rfl) ?_
      exact h
    · replace h := h.2 hc
      refine ev_n 8 (fun _ => rfl) ?_
      exact h
theorem m_X11_said : ∀ pc o, (P_X11_said KC).lookup pc = some o → Mon_ o := all_mon (a_X11_said (l := launch0) (E := EC0) EC0_ok)
theorem z_X11_said  {σ : St_} {out : Out_} (h : Ev_ (P_X11_said KC) 0 [some (.ref 0), none, none] [] σ out) : f_X11_said KC [.ref 0] σ = some out := fn_eq m_X11_said rfl h
