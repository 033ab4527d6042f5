/-! the law's loop, and its whole run -/
def law_ts : List Nat := [200, 273, 298, 311, 324, 392, 429, 497, 510, 547, 584, 652, 665, 678, 715, 752, 777, 814, 839, 876, 901, 926, 939, 952, 977, 1014, 1039, 1064, 1077, 1090, 1127, 1176, 1189, 1202, 1227, 1252]
theorem law_sw : decode cL_law 40 = .ok (.tableswitch 1237 0 35 #[160, 233, 258, 271, 284, 352, 389, 457, 470, 507, 544, 612, 625, 638, 675, 712, 737, 774, 799, 836, 861, 886, 899, 912, 937, 974, 999, 1024, 1037, 1050, 1087, 1136, 1149, 1162, 1187, 1212], 160) := by decide +kernel
theorem law_cmp {L n : Nat} (hL : L ≤ 3072) (hn : n ≤ 4000) (h : ¬ Int32.ofNat L - 6 < nI n) : n + 6 ≤ L := by
  rcases Nat.lt_or_ge L 6 with h6 | h6
  · refine absurd ?_ h
    have h0 : (0 : Int32) ≤ nI n := Int32.not_lt.mp (nI_pos (by omega))
    refine Int32.lt_of_lt_of_le ?_ h0
    rcases (show L = 0 ∨ L = 1 ∨ L = 2 ∨ L = 3 ∨ L = 4 ∨ L = 5 by omega) with rfl | rfl | rfl | rfl | rfl | rfl <;> decide
  · obtain ⟨k, rfl⟩ : ∃ k, L = k + 6 := ⟨L - 6, by omega⟩
    have e : Int32.ofNat (k + 6) - 6 = nI k := by
      show nI (k + 6) - nI 6 = nI k
      rw [← nI_add]
      exact Int32.add_sub_cancel _ _
    rw [e, nI_ltI (by omega) (by omega)] at h
    omega
section LOOP
variable {p : Program} {l : Launch} {e : Env} {s : State} {m : MethodId} {args : Array Value} {below : List Frame} {meth : Method} {c : Code} {E : En_} {L : Nat} {xs : Nat → Int32} {cl sl : Nat} {Q : State → Prop}
set_option maxRecDepth 100000 in
theorem law_head (h : LX_ p l s m args meth c E L xs) (hcs : cl ≤ room_1.cells ∧ sl ≤ room_1.slots) {n : Nat} (hn : n ≤ 4000) {x5 x6 : Option Value} {σ : St_} (hexit : GW_ p l e room_1 s m args below meth c E 7 cl sl Q 1283 (lwo_ n x5 x6) [] σ) (hgo : n + 6 ≤ L → GW_ p l e room_1 s m args below meth c E 7 cl sl Q 33 (lwo_ n x5 x6) [] σ) : GW_ p l e room_1 s m args below meth c E 7 cl sl Q 23 (lwo_ n x5 x6) [] σ := by
  have hL : L ≤ 3072 := h.2.2.2.2.2.2
  refine GW_op (s_ild (i := 4) (by decide +kernel)) h.1 hcs (by decide) (fun k => rfl) ?_
  refine GW_op (s_ald_n (q := 0) (by decide +kernel) rfl) h.1 hcs (by decide) (fun k => rfl) ?_
  refine gl_slen h (by decide +kernel) ?_
  refine GW_op (s_bipush (n := 6) (v := 6) (by decide +kernel) (by decide)) h.1 hcs (by decide) (fun k => rfl) ?_
  refine GW_op (s_isub (by decide +kernel)) h.1 hcs (by decide) (fun k => rfl) ?_
  by_cases hc : Int32.ofNat L - 6 < nI n
  · refine GW_op (s_cmpgt (off := 1253) (t := 1283) (by decide +kernel) (by decide)) h.1 hcs (by decide) (fun k => if_pos hc) ?_
    exact hexit
  · refine GW_op (s_cmpgt (off := 1253) (t := 1283) (by decide +kernel) (by decide)) h.1 hcs (by decide) (fun k => if_neg hc) ?_
    exact hgo (law_cmp hL hn hc)
theorem law_cases (h : LX_ p l s m args meth c E L xs) (hcs : cl + 1 ≤ room_1.cells ∧ sl + 6 ≤ room_1.slots) {n : Nat} (hn : n + 6 ≤ L) {x5 x6 : Option Value} {σ : St_} (hG : GI_ σ) (hend : ∀ x5 x6 σ1, GI_ σ1 → GW_ p l e room_1 s m args below meth c E 7 (cl + 1) (sl + 6) Q 1277 (lwo_ n x5 x6) [] σ1) : ∀ t ∈ law_ts, GW_ p l e room_1 s m args below meth c E 7 cl sl Q t (lwo_ n x5 x6) [] σ := by
  unfold law_ts
  exact List.forall_mem_cons.mpr ⟨lc_feed h hcs hn hG hend, (List.forall_mem_cons.mpr ⟨lc_end h hcs hn hG hend, (List.forall_mem_cons.mpr ⟨lc_book h hcs hn hG hend, (List.forall_mem_cons.mpr ⟨lc_fault h hcs hn hG hend, (List.forall_mem_cons.mpr ⟨lc_chap h hcs hn hG hend, (List.forall_mem_cons.mpr ⟨lc_leans h hcs hn hG hend, (List.forall_mem_cons.mpr ⟨lc_reader h hcs hn hG hend, (List.forall_mem_cons.mpr ⟨lc_plan h hcs hn hG hend, (List.forall_mem_cons.mpr ⟨lc_make h hcs hn hG hend, (List.forall_mem_cons.mpr ⟨lc_drawn h hcs hn hG hend, (List.forall_mem_cons.mpr ⟨lc_act h hcs hn hG hend, (List.forall_mem_cons.mpr ⟨lc_run h hcs hn hG hend, (List.forall_mem_cons.mpr ⟨lc_why h hcs hn hG hend, (List.forall_mem_cons.mpr ⟨lc_known h hcs hn hG hend, (List.forall_mem_cons.mpr ⟨lc_after h hcs hn hG hend, (List.forall_mem_cons.mpr ⟨lc_all h hcs hn hG hend, (List.forall_mem_cons.mpr ⟨lc_best h hcs hn hG hend, (List.forall_mem_cons.mpr ⟨lc_bestOf h hcs hn hG hend, (List.forall_mem_cons.mpr ⟨lc_cut h hcs hn hG hend, (List.forall_mem_cons.mpr ⟨lc_cutAt h hcs hn hG hend, (List.forall_mem_cons.mpr ⟨lc_net h hcs hn hG hend, (List.forall_mem_cons.mpr ⟨lc_netSide h hcs hn hG hend, (List.forall_mem_cons.mpr ⟨lc_chain h hcs hn hG hend, (List.forall_mem_cons.mpr ⟨lc_chainAt h hcs hn hG hend, (List.forall_mem_cons.mpr ⟨lc_alone h hcs hn hG hend, (List.forall_mem_cons.mpr ⟨lc_leave h hcs hn hG hend, (List.forall_mem_cons.mpr ⟨lc_extra h hcs hn hG hend, (List.forall_mem_cons.mpr ⟨lc_ask h hcs hn hG hend, (List.forall_mem_cons.mpr ⟨lc_asked h hcs hn hG hend, (List.forall_mem_cons.mpr ⟨lc_seen h hcs hn hG hend, (List.forall_mem_cons.mpr ⟨lc_ill h hcs hn hG hend, (List.forall_mem_cons.mpr ⟨lc_sentence h hcs hn hG hend, (List.forall_mem_cons.mpr ⟨lc_said h hcs hn hG hend, (List.forall_mem_cons.mpr ⟨lc_image h hcs hn hG hend, (List.forall_mem_cons.mpr ⟨lc_restore h hcs hn hG hend, (List.forall_mem_cons.mpr ⟨lc_count h hcs hn hG hend, (fun _ z => absurd z List.not_mem_nil)⟩)⟩)⟩)⟩)⟩)⟩)⟩)⟩)⟩)⟩)⟩)⟩)⟩)⟩)⟩)⟩)⟩)⟩)⟩)⟩)⟩)⟩)⟩)⟩)⟩)⟩)⟩)⟩)⟩)⟩)⟩)⟩)⟩)⟩)⟩)⟩
set_option maxRecDepth 100000 in
theorem law_body (h : LX_ p l s m args meth c E L xs) (hcs : cl + 1 ≤ room_1.cells ∧ sl + 6 ≤ room_1.slots) {n : Nat} (hn : n + 6 ≤ L) {x5 x6 : Option Value} {σ : St_} (hG : GI_ σ) (hend : ∀ x5 x6 σ1, GI_ σ1 → GW_ p l e room_1 s m args below meth c E 7 (cl + 1) (sl + 6) Q 1277 (lwo_ n x5 x6) [] σ1) : GW_ p l e room_1 s m args below meth c E 7 cl sl Q 33 (lwo_ n x5 x6) [] σ := by
  have hL : L ≤ 3072 := h.2.2.2.2.2.2
  have hcs0 : cl ≤ room_1.cells ∧ sl ≤ room_1.slots := ⟨by omega, by omega⟩
  refine GW_op (s_ald_n (q := 0) (by decide +kernel) rfl) h.1 hcs0 (by decide) (fun k => rfl) ?_
  refine GW_op (s_ild (i := 4) (by decide +kernel)) h.1 hcs0 (by decide) (fun k => rfl) ?_
  refine gl_sld h (vpin_n (by omega)) (by decide +kernel) ?_
  refine GW_op (s_bipush (n := 63) (v := 63) (by decide +kernel) (by decide)) h.1 hcs0 (by decide) (fun k => rfl) ?_
  refine GW_op (s_iand (by decide +kernel)) h.1 hcs0 (by decide) (fun k => rfl) ?_
  generalize xs (Int32.toNatClampNeg (nI n)) &&& 63 = x
  by_cases hc : x.toInt < 0 ∨ 35 < x.toInt
  · refine GW_op (s_tsw (ts := law_ts) (d := 1277) law_sw (by decide) (by decide)) h.1 hcs0 (by decide) (fun k => if_pos hc) ?_
    exact gl_w (n := n) (hend _ _ _ hG)
  · have hj : (x.toInt - 0).toNat < law_ts.length := by
      show (x.toInt - 0).toNat < 36
      omega
    refine GW_op (s_tsw (ts := law_ts) (d := 1277) law_sw (by decide) (by decide)) h.1 hcs0 (by decide) (q_tsw hc rfl (List.getElem?_eq_getElem hj)) ?_
    exact law_cases h hcs hn hG hend _ (List.getElem_mem hj)
set_option maxRecDepth 100000 in
theorem law_tail (h : LX_ p l s m args meth c E L xs) (hcs : cl ≤ room_1.cells ∧ sl ≤ room_1.slots) {n : Nat} {x5 x6 : Option Value} {σ : St_} (hk : GW_ p l e room_1 s m args below meth c E 7 cl sl Q 23 (lwo_ (n + 6) x5 x6) [] σ) : GW_ p l e room_1 s m args below meth c E 7 cl sl Q 1277 (lwo_ n x5 x6) [] σ := by
  have e : nI n + 6 = nI (n + 6) := nI_add n 6
  refine GW_op (s_inc (i := 4) (n := 6) (v := 6) (by decide +kernel) (by decide)) h.1 hcs (by decide) (fun k => rfl) ?_
  refine GW_op (s_goto (off := (-1257)) (t := 23) (by decide +kernel) (by decide)) h.1 hcs (by decide) (fun k => rfl) ?_
  rw [e]
  exact hk
theorem law_loop (h : LX_ p l s m args meth c E L xs) {S : Nat} (hb : S + 6 * 514 ≤ 7293034) (hexit : ∀ j, j ≤ 513 → ∀ n x5 x6 σ, GW_ p l e room_1 s m args below meth c E 7 (247 + j) (S + 6 * j) Q 1283 (lwo_ n x5 x6) [] σ) : ∀ k j, j + k = 513 → ∀ x5 x6 σ, GI_ σ → GW_ p l e room_1 s m args below meth c E 7 (247 + j) (S + 6 * j) Q 23 (lwo_ (6 * j) x5 x6) [] σ := by
  have hL : L ≤ 3072 := h.2.2.2.2.2.2
  have hr : ∀ j, j ≤ 514 → 247 + j ≤ room_1.cells ∧ S + 6 * j ≤ room_1.slots := fun j hj => ⟨by show 247 + j ≤ 601024; omega, by show S + 6 * j ≤ 7293034; omega⟩
  intro k
  induction k with
  | zero =>
    intro j hj x5 x6 σ hG
    refine law_head h (hr j (by omega)) (by omega) (hexit j (by omega) _ _ _ _) (fun z => ?_)
    omega
  | succ k ih =>
    intro j hj x5 x6 σ hG
    refine law_head h (hr j (by omega)) (by omega) (hexit j (by omega) _ _ _ _) (fun z => ?_)
    have e1 : 247 + j + 1 = 247 + (j + 1) := by omega
    have e2 : S + 6 * j + 6 = S + 6 * (j + 1) := by omega
    have e3 : 6 * j + 6 = 6 * (j + 1) := by omega
    have hr1 := hr (j + 1) (by omega)
    refine law_body h (by rw [e1, e2]; exact hr1) z hG (fun y5 y6 σ1 hG1 => ?_)
    rw [e1, e2]
    refine law_tail h hr1 ?_
    rw [e3]
    exact ih (j + 1) (by omega) y5 y6 σ1 hG1
end LOOP
theorem sl_247 : slN_ 247 + 6 * 514 ≤ 7293034 := by decide +kernel
set_option maxRecDepth 100000 in
theorem whole_start {p : Program} {e : Env} {s : State} {m : MethodId} {below : List Frame} {meth : Method} {c : Code} (l : Launch) (hflags : l.flags = flags0) {b L : Nat} {xs : Nat → Int32} (hL : L ≤ 3072) (C0 : lw_At p s m meth c b L xs) : W p l e room_1 s m #[Value.ref b] below meth c s.heap [] 0 0 (lw_Z below #[Value.ref b] s) (entryFrame m ([Value.ref b] : List Value).toArray 7) := by
  obtain ⟨hx, hb, hr, hml, hown, hts, hX, hbl, hlk, hg⟩ := C0
  obtain ⟨ar, D, hK⟩ := st_K hts
  have key : ∀ E : En_, E = (ar, D, fun o => if o = 247 then b else s.heap.size + o, KC, 247) → W p l e room_1 s m #[Value.ref b] below meth c s.heap [] 0 0 (lw_Z below #[Value.ref b] s) (entryFrame m ([Value.ref b] : List Value).toArray 7) := by
    intro E hE
    have e247 : E.2.2.1 247 = b := by rw [hE]; rfl
    have eo : ∀ o, o < 247 → E.2.2.1 o = s.heap.size + o := fun o ho => by
      rw [hE]
      exact if_neg (by omega)
    have hKC : E.2.2.2.1 = KC := by rw [hE]
    have hN : E.2.2.2.2 = 247 := by rw [hE]
    have hKE : va_K E.2.1 vwCl (tys_ E) s := by rw [hE]; exact hK _ _ _
    have hEX : EX_ E := fun o ho => by rw [eo o ho, eo 0 (by decide), Nat.add_zero]
    have hOK : EOK_ E := ⟨fun i j hi hj h => by rw [hN] at hi hj; rw [eo i hi, eo j hj] at h; omega, fun o ho => by rw [hN] at ho; rw [hKC, KC_hi ho]; decide⟩
    have hAN : ∀ a : Nat, a < s.heap.size → ¬ AN_ E a := fun a ha h => by
      have h : E.2.2.1 0 ≤ a := h
      rw [eo 0 (by decide)] at h
      omega
    have hAA : ∀ q : Nat, A_ E s.heap.size q → s.heap.size ≤ q := fun q h => by
      rcases h with ⟨o, ho, h⟩ | h
      · rw [hN] at ho
        rw [eo o ho] at h
        omega
      · exact h
    have hts2 := hts_G hts
    have X : Fx_ p s m #[Value.ref b] meth c E RL cL_law 7 (some .boolean) (c0L_ :: G_) := ⟨hx, hb, hml, hown, hts2, hKE, hr, hlk, hOK⟩
    have hLX : LX_ p l s m #[Value.ref b] meth c E L xs := ⟨X, hKC, hOK, ⟨by rw [e247]; exact hX, by rw [e247]; exact hbl, fun z => by have := hAA _ z; rw [e247] at this; omega⟩, st_TZ hts hg (fun a ha z => by have := hAA _ z; omega), by unfold Launch.stackTraces; rw [hflags]; decide +kernel, hL⟩
    have X0 : FxN_ p room_1 s m #[Value.ref b] meth c E RL cL_law 7 (c0L_ :: G_) 0 247 := ⟨hx, hb, hml, hown, hts2, hKE, hlk, ⟨hEX, hKC, by rw [eo 0 (by decide)]; omega, st_XS hts hg hAN⟩, ⟨Nat.le_refl _, by show 247 ≤ 601024 + 0; omega, by show slN_ 247 ≤ 7293034 + slN_ 0; have := sl_247; omega⟩⟩
    have hexit : ∀ j, j ≤ 513 → ∀ n x5 x6 σ, GW_ p l e room_1 s m #[Value.ref b] below meth c E 7 (247 + j) (slN_ 247 + 6 * j) (lw_Z below #[Value.ref b] s) 1283 (lwo_ n x5 x6) [] σ := fun j hj n x5 x6 σ => by
      have h2 := sl_247
      refine GW_op (s_iconst (n := 1) (v := 1) (by decide +kernel) (by decide)) X ⟨by show 247 + j ≤ 601024; omega, by show slN_ 247 + 6 * j ≤ 7293034; omega⟩ (by decide) (fun k => rfl) ?_
      intro H locs ls hP hS hl
      exact va_forget (fun q hq => hAA _ (hS.2.2 q hq)) (W.widen (by omega) (by omega) (lw_ret hx hb hr hlk (by decide +kernel)))
    have go : GN_ p l e room_1 s m #[Value.ref b] below meth c E 7 0 (lw_Z below #[Value.ref b] s) 20 [some (.ref 247), some (.ref 0), some (.ref 219), some (.ref 246), none, none, none] [] (247, st0_) := by
      intro H locs ls cl sl hP hS hc hs hl
      have e1 : cl = 247 := hc
      have e2 : sl = slN_ 247 := hs
      subst e1
      subst e2
      have h2 := sl_247
      have hcs : 247 ≤ room_1.cells ∧ slN_ 247 ≤ room_1.slots := ⟨by show 247 ≤ 601024; omega, by show slN_ 247 ≤ 7293034; omega⟩
      rw [st0_wl hKC hN] at hP
      refine (?_ : GW_ p l e room_1 s m #[Value.ref b] below meth c E 7 247 (slN_ 247) (lw_Z below #[Value.ref b] s) 20 [some (.ref 247), some (.ref 0), some (.ref 219), some (.ref 246), none, none, none] [] st0_) H locs ls hP ⟨hS.1, fun q h1 h2 => hS.2.1 q h1 (hAN q h1), fun q hq => Or.inr (by have h3 : E.2.2.1 0 ≤ q.base := hS.2.2 q hq; rw [eo 0 (by decide)] at h3; omega)⟩ hl
      refine GW_op (s_iconst (n := 0) (v := 0) (by decide +kernel) (by decide)) X hcs (by decide) (fun k => rfl) ?_
      refine GW_op (s_ist (i := 4) (by decide +kernel)) X hcs (by decide) (fun k => rfl) ?_
      exact law_loop hLX sl_247 hexit 513 0 rfl none none st0_ st0_GI
    have hl0 := lv_entry ([.ref b] : List Value) (n := 7) (Nat.le_of_ble_eq_true rfl)
    rw [lg_entry_eq]
    refine law_pre hEX hKC X0 go s.heap [] _ 0 0 (fun k q hk => ?_) va_S.rf rfl rfl (hl_0 (as := [.ref 247]) (nL := 7) ⟨rfl, Nat.le_of_ble_eq_true rfl⟩ (by show lv_has _ 7 (lv_args 0 [.ref (E.2.2.1 247)]); rw [e247]; exact hl0))
    simp [wlN_] at hk
  exact key _ rfl
