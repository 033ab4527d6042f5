/-! the law's helpers -/
def rmH_ : Room := { frames := 20, cells := 0, slots := 0, locals := 4000 }
def rmU_ : Room := { frames := 20, cells := 1, slots := 6, locals := 4000 }
section HLP
variable {p : Program} {l : Launch} {e : Env} {R : Room} {s : State} {m : MethodId} {args : Array Value} {below : List Frame} {meth : Method} {c : Code} {E : En_}
theorem preT_ {H : Heap} {locs : List Loc} {σ : St_} {av : List Value} {A : Nat → Prop} (hP : va_P E.2.1 vwCl (wl_ E σ) H) (hK : va_K E.2.1 vwCl (tys_ E) s) (hZ : TZ_ A s s.heap) (hS : va_S A s.heap H locs) (hA : ∀ q, A_ E H.size q → A q) : FrameBlind (va_Pc av (fun U => U.heap.size = H.size ∧ WP_ E σ U ∧ TZ_ (A_ E H.size) U U.heap)) ∧ ∀ U : State, U.heap = H → s.WarmedH U.vm → va_Pc av (fun U => U.heap.size = H.size ∧ WP_ E σ U ∧ TZ_ (A_ E H.size) U U.heap) av.toArray U := by
  refine ⟨fun a U g mk q => ?_, fun U hU hW => ⟨rfl, by rw [hU], ⟨by rw [hU]; exact hP, va_K.moved hW.alike hK⟩, by rw [hU]; exact ((hZ.kept hS.2.1).narrow hA).moved hW.alike⟩⟩
  obtain ⟨q0, q1, ⟨qP, qK⟩, qZ⟩ := q
  exact ⟨q0, q1, ⟨qP, va_K.moved (u := U) (U := U.calling g mk a) (Vm.Alike.refl U.vm) qK⟩, TZ_.moved (u := U) (U := U.calling g mk a) (Vm.Alike.refl U.vm) qZ⟩
theorem A_mono {a b : Nat} (h : a ≤ b) : ∀ q, A_ E b q → A_ E a q := fun q hq => hq.imp id (fun z => Nat.le_trans h z)
/-- a run that returns, behind a call that might have thrown -/
theorem vrun_ {H H0 : Heap} {locs : List Loc} {Q : State → Prop} {pc : Nat} {ls : Array Slot} {st0 rest : List Value} {out1 : Out_} {A0 A1 : Nat → Prop} {av : Array Value} {cl sl mc ms : Nat} {XC : String → State → State → Prop} (hr : vx_Run p l e R s m args below meth c H locs cl sl mc ms (F0 m pc ls st0) rest (Qc_ E out1 A1 av) XC A1) (hX : ∀ a b d, ¬ XC a b d) (hS : va_S A0 H0 H locs) (hA2 : ∀ q, A1 q → A0 q)
    (kk : ∀ (H1 : Heap) (locs1 : List Loc), va_P E.2.1 vwCl (wl_ E out1.2) H1 → va_S A0 H0 H1 locs1 → W p l e R s m args below meth c H1 locs1 (cl + mc) (sl + ms) Q (F0 m (pc + 3) ls ((out1.1.map (rn_ E.2.2.1)).toList ++ rest))) : W p l e R s m args below meth c H locs cl sl Q (F0 m pc ls st0) := by
  intro T hT X
  rcases hr T hT X with ⟨v, st₀, t, T', L, h0, X', hL, e1, e2, ⟨⟨hv, hw⟩, hF⟩, st⟩ | ⟨q, st₀, t, T', L, E', ce, h0, X', hL, e1, e2, hx, -⟩
  · cases hv
    obtain ⟨k1, k2, k3⟩ := vx_keep h0 e1 hS (fun q _ h => hA2 q h) hA2 hL hF
    obtain ⟨t2, a1, b1⟩ := kk T'.heap (locs ++ L) (by rw [e1]; exact hw.1) k3 T' rfl X'
    exact ⟨t2, st t2 a1, b1⟩
  · exact (hX _ _ _ hx).elim
end HLP
set_option maxRecDepth 100000 in
theorem hln_chap {l : Launch} {E : En_} (hE : EOK_ E) (hKC : E.2.2.2.1 = KC) {sz : Nat} {σ σ1 : St_} {x1 x2 v : Int32} (hf : f_X11_chap KC [.ref 0, .int x1, .int x2] σ = some (some (.int v), σ1)) : vx_Met l yL_chap (Cond.codeWith yL_chap cL_chap 5 (some .int) [(0, 10, 13, 13)] :: G_) rmH_ (va_Pc [.ref (E.2.2.1 0), .int x1, .int x2, .ref (E.2.2.1 246)] (fun U => U.heap.size = sz ∧ WP_ E σ U)) (Qc_ E (some (.int 0), sJ_ σ1 246 0 v.toInt64) (A_ E sz)) (fun _ _ _ => False) 0 0 (A_ E sz) := by
  obtain ⟨ar, D, ad, K, nn⟩ := E
  obtain rfl : K = KC := hKC
  generalize hEE : ((ar, D, ad, KC, nn) : En_) = E at hE ⊢
  have hKC : E.2.2.2.1 = KC := by rw [← hEE]
  refine vx_ofWH (by decide +kernel) rfl ?_
  intro p e s m args below meth c s₁ B hml hv
  obtain ⟨rfl, hsz, hP, hK⟩ := hv
  subst hsz
  have X : Fx_ p s m ([.ref (E.2.2.1 0), .int x1, .int x2, .ref (E.2.2.1 246)] : List Value).toArray meth c E yL_chap.cls cL_chap 5 (some .int) (Cond.codeWith yL_chap cL_chap 5 (some .int) [(0, 10, 13, 13)] :: G_) := ⟨B.exec, B.bytes, hml, findClass_of_methodNamed B.named, atoms_spec (ws := Cond.codeWith yL_chap cL_chap 5 (some .int) [(0, 10, 13, 13)] :: G_) B.pre, hK, B.returns, B.notSynchronized, hE⟩
  have hts := X.2.2.2.2.1
  have up : ∀ {w}, w ∈ G_ → w.before ([.ref (E.2.2.1 0), .int x1, .int x2, .ref (E.2.2.1 246)] : List Value).toArray s = true := fun h => hts _ (List.mem_cons_of_mem _ h)
  have hl0 := lv_entry ([.ref (E.2.2.1 0), .int x1, .int x2, .ref (E.2.2.1 246)] : List Value) (n := 5) (Nat.le_of_ble_eq_true rfl)
  rw [lg_entry_eq]
  refine (?_ : GW_ p l e rmH_ s m ([.ref (E.2.2.1 0), .int x1, .int x2, .ref (E.2.2.1 246)] : List Value).toArray below meth c E 5 0 0 (vx_MQ below (Qc_ E (some (.int 0), sJ_ σ1 246 0 v.toInt64) (A_ E s.heap.size)) (fun _ _ _ => False) ([.ref (E.2.2.1 0), .int x1, .int x2, .ref (E.2.2.1 246)] : List Value).toArray s 0 0 (A_ E s.heap.size)) 0 [some (.ref 0), some (.int x1), some (.int x2), some (.ref 246), none] [] σ) s.heap [] _ hP va_S.rf (hl_0 (as := [.ref 0, .int x1, .int x2, .ref 246]) (nL := 5) ⟨rfl, Nat.le_of_ble_eq_true rfl⟩ hl0)
  refine GW_op (s_ald_n (q := 3) (by decide +kernel) rfl) X ⟨Nat.zero_le _, Nat.zero_le _⟩ (by decide) (fun k => rfl) ?_
  refine GW_op (s_iconst (n := 0) (v := 0) (by decide +kernel) (by decide)) X ⟨Nat.zero_le _, Nat.zero_le _⟩ (by decide) (fun k => rfl) ?_
  refine GW_op (s_ald_n (q := 0) (by decide +kernel) rfl) X ⟨Nat.zero_le _, Nat.zero_le _⟩ (by decide) (fun k => rfl) ?_
  refine GW_op (s_ild_n (q := 1) (by decide +kernel) rfl) X ⟨Nat.zero_le _, Nat.zero_le _⟩ (by decide) (fun k => rfl) ?_
  refine GW_op (s_ild_n (q := 2) (by decide +kernel) rfl) X ⟨Nat.zero_le _, Nat.zero_le _⟩ (by decide) (fun k => rfl) ?_
  refine GW_op (s_callV (ci := 11) (by decide +kernel) (t_X11_chap hE) cl_X11_chap ml_RL_7 im_X11_chap se_X11_chap (by decide) rfl ⟨by decide, by decide⟩) X ⟨Nat.zero_le _, Nat.zero_le _⟩ (by decide) (q_callV (b := 0) (r := [.int 0, .ref 246]) (as := [.ref 0, .int x1, .int x2]) rfl ⟨by rw [hKC]; decide, by decide⟩ rfl (by rw [hKC]; exact hf)) ?_
  refine GW_op (s_i2l (by decide +kernel)) X ⟨Nat.zero_le _, Nat.zero_le _⟩ (by decide) (fun k => rfl) ?_
  refine GW_op (s_last (by decide +kernel)) X ⟨Nat.zero_le _, Nat.zero_le _⟩ (by decide) (q_last ⟨by rw [hKC]; decide, by rw [hKC]; decide⟩) ?_
  refine GW_op (s_goto (off := 7) (t := 17) (by decide +kernel) (by decide)) X ⟨Nat.zero_le _, Nat.zero_le _⟩ (by decide) (fun k => rfl) ?_
  refine GW_op (s_iconst (n := 0) (v := 0) (by decide +kernel) (by decide)) X ⟨Nat.zero_le _, Nat.zero_le _⟩ (by decide) (fun k => rfl) ?_
  exact fun H locs ls hP hS hl => vx_ret (W.iret B.exec B.bytes B.returns (fun t ht hW => ⟨⟨rfl, by rw [ht]; exact hP, va_K.moved hW.alike hK⟩, hS.F ht⟩) hS.2.2 (by decide +kernel) B.notSynchronized)
set_option maxRecDepth 100000 in
theorem hlt_chap {l : Launch} {E : En_} (hE : EOK_ E) (hKC : E.2.2.2.1 = KC) (hl : l.stackTraces = false) {sz : Nat} {σ : St_} {x1 x2 : Int32} (hT : ThC_ σ x1 x2) : vx_Met l yL_chap (Cond.codeWith yL_chap cL_chap 5 (some .int) [(0, 10, 13, 13)] :: G_) rmU_ (va_Pc [.ref (E.2.2.1 0), .int x1, .int x2, .ref (E.2.2.1 246)] (fun U => U.heap.size = sz ∧ WP_ E σ U ∧ TZ_ (A_ E sz) U U.heap)) (Qc_ E (some (.int 1), σ) (A_ E sz)) (fun _ _ _ => False) 1 6 (A_ E sz) := by
  obtain ⟨ar, D, ad, K, nn⟩ := E
  obtain rfl : K = KC := hKC
  generalize hEE : ((ar, D, ad, KC, nn) : En_) = E at hE ⊢
  have hKC : E.2.2.2.1 = KC := by rw [← hEE]
  refine vx_ofWH (by decide +kernel) rfl ?_
  intro p e s m args below meth c s₁ B hml hv
  obtain ⟨rfl, hsz, ⟨hP, hK⟩, hZ⟩ := hv
  subst hsz
  have X : Fx_ p s m ([.ref (E.2.2.1 0), .int x1, .int x2, .ref (E.2.2.1 246)] : List Value).toArray meth c E yL_chap.cls cL_chap 5 (some .int) (Cond.codeWith yL_chap cL_chap 5 (some .int) [(0, 10, 13, 13)] :: G_) := ⟨B.exec, B.bytes, hml, findClass_of_methodNamed B.named, atoms_spec (ws := Cond.codeWith yL_chap cL_chap 5 (some .int) [(0, 10, 13, 13)] :: G_) B.pre, hK, B.returns, B.notSynchronized, hE⟩
  have hts := X.2.2.2.2.1
  have up : ∀ {w}, w ∈ G_ → w.before ([.ref (E.2.2.1 0), .int x1, .int x2, .ref (E.2.2.1 246)] : List Value).toArray s = true := fun h => hts _ (List.mem_cons_of_mem _ h)
  have hl0 := lv_entry ([.ref (E.2.2.1 0), .int x1, .int x2, .ref (E.2.2.1 246)] : List Value) (n := 5) (Nat.le_of_ble_eq_true rfl)
  rw [lg_entry_eq]
  refine (?_ : GW_ p l e rmU_ s m ([.ref (E.2.2.1 0), .int x1, .int x2, .ref (E.2.2.1 246)] : List Value).toArray below meth c E 5 0 0 (vx_MQ below (Qc_ E (some (.int 1), σ) (A_ E s.heap.size)) (fun _ _ _ => False) ([.ref (E.2.2.1 0), .int x1, .int x2, .ref (E.2.2.1 246)] : List Value).toArray s 1 6 (A_ E s.heap.size)) 0 [some (.ref 0), some (.int x1), some (.int x2), some (.ref 246), none] [] σ) s.heap [] _ hP va_S.rf (hl_0 (as := [.ref 0, .int x1, .int x2, .ref 246]) (nL := 5) ⟨rfl, Nat.le_of_ble_eq_true rfl⟩ hl0)
  refine GW_op (s_ald_n (q := 3) (by decide +kernel) rfl) X ⟨Nat.zero_le _, Nat.zero_le _⟩ (by decide) (fun k => rfl) ?_
  refine GW_op (s_iconst (n := 0) (v := 0) (by decide +kernel) (by decide)) X ⟨Nat.zero_le _, Nat.zero_le _⟩ (by decide) (fun k => rfl) ?_
  refine GW_op (s_ald_n (q := 0) (by decide +kernel) rfl) X ⟨Nat.zero_le _, Nat.zero_le _⟩ (by decide) (fun k => rfl) ?_
  refine GW_op (s_ild_n (q := 1) (by decide +kernel) rfl) X ⟨Nat.zero_le _, Nat.zero_le _⟩ (by decide) (fun k => rfl) ?_
  refine GW_op (s_ild_n (q := 2) (by decide +kernel) rfl) X ⟨Nat.zero_le _, Nat.zero_le _⟩ (by decide) (fun k => rfl) ?_
  intro H locs ls hP hS hlo
  obtain ⟨h1, h2, h3, h4⟩ := cl_X11_chap
  have cb : CallB rmU_ s ([.ref (E.2.2.1 0), .int x1, .int x2, .ref (E.2.2.1 246)] : List Value).toArray RL 7 yX11_chap cX11_chap 3 (some .int) (.code yX11_chap cX11_chap 3 (some .int) :: G_) rmT_ 1 6 2 := callB_of 2 hts (wd_good h1) rfl rfl rfl (up h2) (up ml_RL_7) h3 ⟨by decide, by decide⟩
  have hrc := va_recv hK hP (c_cl 11 (by decide)) ((wl_get (o := 0) (k_lt hE (by rw [hKC]; decide))).trans (by rw [ent_obj (ci := 11) (by rw [hKC]; decide) (by decide)]))
  rw [show (cR_ 11, cT_ 11, cN_ 11).1 = yX11_chap.cls from rfl] at hrc
  have hpre := preT_ (av := [.ref (E.2.2.1 0), .int x1, .int x2]) hP hK hZ hS (A_mono hS.1)
  have hr := vx_runV (l := l) (m := m) (below := below) (meth := meth) (H := H) (locs := locs) (cells := 0) (slots := 0) (e := e) (R := rmU_) (b := E.2.2.1 0) (As := [.int x1, .int x2]) (rest := [.int 0, .ref (E.2.2.1 246)]) (g := F0 m 5 ls [.int x2, .int x1, .ref (E.2.2.1 0), .int 0, .ref (E.2.2.1 246)]) (index := 7) (own := RL) (C := yX11_chap.cls) ⟨B.exec, B.bytes, hml, findClass_of_methodNamed B.named, hts⟩ (thr_chap hE hKC hl (sz := H.size) hT) ⟨cb, up im_X11_chap, up se_X11_chap⟩ ⟨hpre.1, hrc, hpre.2⟩ rfl rfl hlo.2.1 rfl (Nat.le_of_ble_eq_true rfl) (show decode cL_chap 5 = .ok (.invokevirtual 7, 3) by decide +kernel) ⟨by decide, by decide⟩
  intro T hT2 X2
  rcases hr T hT2 X2 with ⟨v, st₀, t, T', L, h0, X', hL, e1, e2, hq, st⟩ | ⟨q, st₀, t, T', L, E', ce, h0, X', hL, e1, e2, ⟨rfl, ⟨hP1, hK1⟩, hF⟩, hce, hcv, hcl, st⟩
  · exact hq.elim
  · obtain ⟨k1, k2, k3⟩ := vx_keep h0 e1 hS (fun q _ h => A_mono hS.1 q h) (A_mono hS.1) hL hF
    have hQ : vx_W p l e rmU_ s m ([.ref (E.2.2.1 0), .int x1, .int x2, .ref (E.2.2.1 246)] : List Value).toArray below meth c T'.heap (locs ++ L) (0 + 1) (0 + 6) (vx_MQ below (Qc_ E (some (.int 1), σ) (A_ E s.heap.size)) (fun _ _ _ => False) ([.ref (E.2.2.1 0), .int x1, .int x2, .ref (E.2.2.1 246)] : List Value).toArray s 1 6 (A_ E s.heap.size)) (F0 m 5 ls [.int 0, .ref (E.2.2.1 246)]) q := by
      refine vx_catch (own := RL) (name := NSE_) (findClass_of_methodNamed B.named) [] ⟨0, 10, 13, 13⟩ [] (vx_table (x := yL_chap) B (hts _ List.mem_cons_self)) (fun z hz => by cases hz) (by decide) (by decide) (up (G_6 (i := 45) rfl rfl)) (va_tabs rfl rfl (hZ.1 (.castable NSE_ NSE_) (by decide +kernel))) (by rw [e1]; exact hce) hcv hcl ?_
      refine lv_astore (i := 4) B.exec B.bytes (by decide +kernel) (hl_has hlo) (by decide) rfl (fun ls1 _ => ?_)
      refine lv_iconst (n := 1) (v := 1) B.exec B.bytes (by decide +kernel) (by decide) ?_
      exact vx_ret (W.iret B.exec B.bytes B.returns (fun t2 ht hW => ⟨⟨rfl, by rw [ht, e1]; exact hP1, va_K.moved hW.alike hK⟩, k3.F ht⟩) k3.2.2 (by decide +kernel) B.notSynchronized)
    obtain ⟨t2, a1, b1⟩ := hQ T' rfl X'
    exact ⟨t2, st.trans a1, b1⟩
set_option maxRecDepth 100000 in
theorem hln_reader {l : Launch} {E : En_} (hE : EOK_ E) (hKC : E.2.2.2.1 = KC) {sz : Nat} {σ σ1 : St_} {x1 x2 v : Int32} (hf : f_X11_reader KC [.ref 0, .int x1, .int x2] σ = some (some (.int v), σ1)) : vx_Met l yL_reader (Cond.codeWith yL_reader cL_reader 5 (some .int) [(0, 10, 13, 13)] :: G_) rmH_ (va_Pc [.ref (E.2.2.1 0), .int x1, .int x2, .ref (E.2.2.1 246)] (fun U => U.heap.size = sz ∧ WP_ E σ U)) (Qc_ E (some (.int 0), sJ_ σ1 246 0 v.toInt64) (A_ E sz)) (fun _ _ _ => False) 0 0 (A_ E sz) := by
  obtain ⟨ar, D, ad, K, nn⟩ := E
  obtain rfl : K = KC := hKC
  generalize hEE : ((ar, D, ad, KC, nn) : En_) = E at hE ⊢
  have hKC : E.2.2.2.1 = KC := by rw [← hEE]
  refine vx_ofWH (by decide +kernel) rfl ?_
  intro p e s m args below meth c s₁ B hml hv
  obtain ⟨rfl, hsz, hP, hK⟩ := hv
  subst hsz
  have X : Fx_ p s m ([.ref (E.2.2.1 0), .int x1, .int x2, .ref (E.2.2.1 246)] : List Value).toArray meth c E yL_reader.cls cL_reader 5 (some .int) (Cond.codeWith yL_reader cL_reader 5 (some .int) [(0, 10, 13, 13)] :: G_) := ⟨B.exec, B.bytes, hml, findClass_of_methodNamed B.named, atoms_spec (ws := Cond.codeWith yL_reader cL_reader 5 (some .int) [(0, 10, 13, 13)] :: G_) B.pre, hK, B.returns, B.notSynchronized, hE⟩
  have hts := X.2.2.2.2.1
  have up : ∀ {w}, w ∈ G_ → w.before ([.ref (E.2.2.1 0), .int x1, .int x2, .ref (E.2.2.1 246)] : List Value).toArray s = true := fun h => hts _ (List.mem_cons_of_mem _ h)
  have hl0 := lv_entry ([.ref (E.2.2.1 0), .int x1, .int x2, .ref (E.2.2.1 246)] : List Value) (n := 5) (Nat.le_of_ble_eq_true rfl)
  rw [lg_entry_eq]
  refine (?_ : GW_ p l e rmH_ s m ([.ref (E.2.2.1 0), .int x1, .int x2, .ref (E.2.2.1 246)] : List Value).toArray below meth c E 5 0 0 (vx_MQ below (Qc_ E (some (.int 0), sJ_ σ1 246 0 v.toInt64) (A_ E s.heap.size)) (fun _ _ _ => False) ([.ref (E.2.2.1 0), .int x1, .int x2, .ref (E.2.2.1 246)] : List Value).toArray s 0 0 (A_ E s.heap.size)) 0 [some (.ref 0), some (.int x1), some (.int x2), some (.ref 246), none] [] σ) s.heap [] _ hP va_S.rf (hl_0 (as := [.ref 0, .int x1, .int x2, .ref 246]) (nL := 5) ⟨rfl, Nat.le_of_ble_eq_true rfl⟩ hl0)
  refine GW_op (s_ald_n (q := 3) (by decide +kernel) rfl) X ⟨Nat.zero_le _, Nat.zero_le _⟩ (by decide) (fun k => rfl) ?_
  refine GW_op (s_iconst (n := 0) (v := 0) (by decide +kernel) (by decide)) X ⟨Nat.zero_le _, Nat.zero_le _⟩ (by decide) (fun k => rfl) ?_
  refine GW_op (s_ald_n (q := 0) (by decide +kernel) rfl) X ⟨Nat.zero_le _, Nat.zero_le _⟩ (by decide) (fun k => rfl) ?_
  refine GW_op (s_ild_n (q := 1) (by decide +kernel) rfl) X ⟨Nat.zero_le _, Nat.zero_le _⟩ (by decide) (fun k => rfl) ?_
  refine GW_op (s_ild_n (q := 2) (by decide +kernel) rfl) X ⟨Nat.zero_le _, Nat.zero_le _⟩ (by decide) (fun k => rfl) ?_
  refine GW_op (s_callV (ci := 11) (by decide +kernel) (t_X11_reader hE) cl_X11_reader ml_RL_15 im_X11_reader se_X11_reader (by decide) rfl ⟨by decide, by decide⟩) X ⟨Nat.zero_le _, Nat.zero_le _⟩ (by decide) (q_callV (b := 0) (r := [.int 0, .ref 246]) (as := [.ref 0, .int x1, .int x2]) rfl ⟨by rw [hKC]; decide, by decide⟩ rfl (by rw [hKC]; exact hf)) ?_
  refine GW_op (s_i2l (by decide +kernel)) X ⟨Nat.zero_le _, Nat.zero_le _⟩ (by decide) (fun k => rfl) ?_
  refine GW_op (s_last (by decide +kernel)) X ⟨Nat.zero_le _, Nat.zero_le _⟩ (by decide) (q_last ⟨by rw [hKC]; decide, by rw [hKC]; decide⟩) ?_
  refine GW_op (s_goto (off := 7) (t := 17) (by decide +kernel) (by decide)) X ⟨Nat.zero_le _, Nat.zero_le _⟩ (by decide) (fun k => rfl) ?_
  refine GW_op (s_iconst (n := 0) (v := 0) (by decide +kernel) (by decide)) X ⟨Nat.zero_le _, Nat.zero_le _⟩ (by decide) (fun k => rfl) ?_
  exact fun H locs ls hP hS hl => vx_ret (W.iret B.exec B.bytes B.returns (fun t ht hW => ⟨⟨rfl, by rw [ht]; exact hP, va_K.moved hW.alike hK⟩, hS.F ht⟩) hS.2.2 (by decide +kernel) B.notSynchronized)
set_option maxRecDepth 100000 in
theorem hlt_reader {l : Launch} {E : En_} (hE : EOK_ E) (hKC : E.2.2.2.1 = KC) (hl : l.stackTraces = false) {sz : Nat} {σ : St_} {x1 x2 : Int32} (hT : ThR_ σ x1 x2) : vx_Met l yL_reader (Cond.codeWith yL_reader cL_reader 5 (some .int) [(0, 10, 13, 13)] :: G_) rmU_ (va_Pc [.ref (E.2.2.1 0), .int x1, .int x2, .ref (E.2.2.1 246)] (fun U => U.heap.size = sz ∧ WP_ E σ U ∧ TZ_ (A_ E sz) U U.heap)) (Qc_ E (some (.int 1), σ) (A_ E sz)) (fun _ _ _ => False) 1 6 (A_ E sz) := by
  obtain ⟨ar, D, ad, K, nn⟩ := E
  obtain rfl : K = KC := hKC
  generalize hEE : ((ar, D, ad, KC, nn) : En_) = E at hE ⊢
  have hKC : E.2.2.2.1 = KC := by rw [← hEE]
  refine vx_ofWH (by decide +kernel) rfl ?_
  intro p e s m args below meth c s₁ B hml hv
  obtain ⟨rfl, hsz, ⟨hP, hK⟩, hZ⟩ := hv
  subst hsz
  have X : Fx_ p s m ([.ref (E.2.2.1 0), .int x1, .int x2, .ref (E.2.2.1 246)] : List Value).toArray meth c E yL_reader.cls cL_reader 5 (some .int) (Cond.codeWith yL_reader cL_reader 5 (some .int) [(0, 10, 13, 13)] :: G_) := ⟨B.exec, B.bytes, hml, findClass_of_methodNamed B.named, atoms_spec (ws := Cond.codeWith yL_reader cL_reader 5 (some .int) [(0, 10, 13, 13)] :: G_) B.pre, hK, B.returns, B.notSynchronized, hE⟩
  have hts := X.2.2.2.2.1
  have up : ∀ {w}, w ∈ G_ → w.before ([.ref (E.2.2.1 0), .int x1, .int x2, .ref (E.2.2.1 246)] : List Value).toArray s = true := fun h => hts _ (List.mem_cons_of_mem _ h)
  have hl0 := lv_entry ([.ref (E.2.2.1 0), .int x1, .int x2, .ref (E.2.2.1 246)] : List Value) (n := 5) (Nat.le_of_ble_eq_true rfl)
  rw [lg_entry_eq]
  refine (?_ : GW_ p l e rmU_ s m ([.ref (E.2.2.1 0), .int x1, .int x2, .ref (E.2.2.1 246)] : List Value).toArray below meth c E 5 0 0 (vx_MQ below (Qc_ E (some (.int 1), σ) (A_ E s.heap.size)) (fun _ _ _ => False) ([.ref (E.2.2.1 0), .int x1, .int x2, .ref (E.2.2.1 246)] : List Value).toArray s 1 6 (A_ E s.heap.size)) 0 [some (.ref 0), some (.int x1), some (.int x2), some (.ref 246), none] [] σ) s.heap [] _ hP va_S.rf (hl_0 (as := [.ref 0, .int x1, .int x2, .ref 246]) (nL := 5) ⟨rfl, Nat.le_of_ble_eq_true rfl⟩ hl0)
  refine GW_op (s_ald_n (q := 3) (by decide +kernel) rfl) X ⟨Nat.zero_le _, Nat.zero_le _⟩ (by decide) (fun k => rfl) ?_
  refine GW_op (s_iconst (n := 0) (v := 0) (by decide +kernel) (by decide)) X ⟨Nat.zero_le _, Nat.zero_le _⟩ (by decide) (fun k => rfl) ?_
  refine GW_op (s_ald_n (q := 0) (by decide +kernel) rfl) X ⟨Nat.zero_le _, Nat.zero_le _⟩ (by decide) (fun k => rfl) ?_
  refine GW_op (s_ild_n (q := 1) (by decide +kernel) rfl) X ⟨Nat.zero_le _, Nat.zero_le _⟩ (by decide) (fun k => rfl) ?_
  refine GW_op (s_ild_n (q := 2) (by decide +kernel) rfl) X ⟨Nat.zero_le _, Nat.zero_le _⟩ (by decide) (fun k => rfl) ?_
  intro H locs ls hP hS hlo
  obtain ⟨h1, h2, h3, h4⟩ := cl_X11_reader
  have cb : CallB rmU_ s ([.ref (E.2.2.1 0), .int x1, .int x2, .ref (E.2.2.1 246)] : List Value).toArray RL 15 yX11_reader cX11_reader 3 (some .int) (.code yX11_reader cX11_reader 3 (some .int) :: G_) rmT_ 1 6 2 := callB_of 2 hts (wd_good h1) rfl rfl rfl (up h2) (up ml_RL_15) h3 ⟨by decide, by decide⟩
  have hrc := va_recv hK hP (c_cl 11 (by decide)) ((wl_get (o := 0) (k_lt hE (by rw [hKC]; decide))).trans (by rw [ent_obj (ci := 11) (by rw [hKC]; decide) (by decide)]))
  rw [show (cR_ 11, cT_ 11, cN_ 11).1 = yX11_reader.cls from rfl] at hrc
  have hpre := preT_ (av := [.ref (E.2.2.1 0), .int x1, .int x2]) hP hK hZ hS (A_mono hS.1)
  have hr := vx_runV (l := l) (m := m) (below := below) (meth := meth) (H := H) (locs := locs) (cells := 0) (slots := 0) (e := e) (R := rmU_) (b := E.2.2.1 0) (As := [.int x1, .int x2]) (rest := [.int 0, .ref (E.2.2.1 246)]) (g := F0 m 5 ls [.int x2, .int x1, .ref (E.2.2.1 0), .int 0, .ref (E.2.2.1 246)]) (index := 15) (own := RL) (C := yX11_reader.cls) ⟨B.exec, B.bytes, hml, findClass_of_methodNamed B.named, hts⟩ (thr_reader hE hKC hl (sz := H.size) hT) ⟨cb, up im_X11_reader, up se_X11_reader⟩ ⟨hpre.1, hrc, hpre.2⟩ rfl rfl hlo.2.1 rfl (Nat.le_of_ble_eq_true rfl) (show decode cL_reader 5 = .ok (.invokevirtual 15, 3) by decide +kernel) ⟨by decide, by decide⟩
  intro T hT2 X2
  rcases hr T hT2 X2 with ⟨v, st₀, t, T', L, h0, X', hL, e1, e2, hq, st⟩ | ⟨q, st₀, t, T', L, E', ce, h0, X', hL, e1, e2, ⟨rfl, ⟨hP1, hK1⟩, hF⟩, hce, hcv, hcl, st⟩
  · exact hq.elim
  · obtain ⟨k1, k2, k3⟩ := vx_keep h0 e1 hS (fun q _ h => A_mono hS.1 q h) (A_mono hS.1) hL hF
    have hQ : vx_W p l e rmU_ s m ([.ref (E.2.2.1 0), .int x1, .int x2, .ref (E.2.2.1 246)] : List Value).toArray below meth c T'.heap (locs ++ L) (0 + 1) (0 + 6) (vx_MQ below (Qc_ E (some (.int 1), σ) (A_ E s.heap.size)) (fun _ _ _ => False) ([.ref (E.2.2.1 0), .int x1, .int x2, .ref (E.2.2.1 246)] : List Value).toArray s 1 6 (A_ E s.heap.size)) (F0 m 5 ls [.int 0, .ref (E.2.2.1 246)]) q := by
      refine vx_catch (own := RL) (name := NSE_) (findClass_of_methodNamed B.named) [] ⟨0, 10, 13, 13⟩ [] (vx_table (x := yL_reader) B (hts _ List.mem_cons_self)) (fun z hz => by cases hz) (by decide) (by decide) (up (G_6 (i := 45) rfl rfl)) (va_tabs rfl rfl (hZ.1 (.castable NSE_ NSE_) (by decide +kernel))) (by rw [e1]; exact hce) hcv hcl ?_
      refine lv_astore (i := 4) B.exec B.bytes (by decide +kernel) (hl_has hlo) (by decide) rfl (fun ls1 _ => ?_)
      refine lv_iconst (n := 1) (v := 1) B.exec B.bytes (by decide +kernel) (by decide) ?_
      exact vx_ret (W.iret B.exec B.bytes B.returns (fun t2 ht hW => ⟨⟨rfl, by rw [ht, e1]; exact hP1, va_K.moved hW.alike hK⟩, k3.F ht⟩) k3.2.2 (by decide +kernel) B.notSynchronized)
    obtain ⟨t2, a1, b1⟩ := hQ T' rfl X'
    exact ⟨t2, st.trans a1, b1⟩
set_option maxRecDepth 100000 in
theorem hln_act {l : Launch} {E : En_} (hE : EOK_ E) (hKC : E.2.2.2.1 = KC) {sz : Nat} {σ σ1 : St_} {x1 x2 v : Int32} (hf : f_X11_act KC [.ref 0, .int x1, .int x2] σ = some (some (.int v), σ1)) : vx_Met l yL_act (Cond.codeWith yL_act cL_act 5 (some .int) [(0, 10, 13, 13)] :: G_) rmH_ (va_Pc [.ref (E.2.2.1 0), .int x1, .int x2, .ref (E.2.2.1 246)] (fun U => U.heap.size = sz ∧ WP_ E σ U)) (Qc_ E (some (.int 0), sJ_ σ1 246 0 v.toInt64) (A_ E sz)) (fun _ _ _ => False) 0 0 (A_ E sz) := by
  obtain ⟨ar, D, ad, K, nn⟩ := E
  obtain rfl : K = KC := hKC
  generalize hEE : ((ar, D, ad, KC, nn) : En_) = E at hE ⊢
  have hKC : E.2.2.2.1 = KC := by rw [← hEE]
  refine vx_ofWH (by decide +kernel) rfl ?_
  intro p e s m args below meth c s₁ B hml hv
  obtain ⟨rfl, hsz, hP, hK⟩ := hv
  subst hsz
  have X : Fx_ p s m ([.ref (E.2.2.1 0), .int x1, .int x2, .ref (E.2.2.1 246)] : List Value).toArray meth c E yL_act.cls cL_act 5 (some .int) (Cond.codeWith yL_act cL_act 5 (some .int) [(0, 10, 13, 13)] :: G_) := ⟨B.exec, B.bytes, hml, findClass_of_methodNamed B.named, atoms_spec (ws := Cond.codeWith yL_act cL_act 5 (some .int) [(0, 10, 13, 13)] :: G_) B.pre, hK, B.returns, B.notSynchronized, hE⟩
  have hts := X.2.2.2.2.1
  have up : ∀ {w}, w ∈ G_ → w.before ([.ref (E.2.2.1 0), .int x1, .int x2, .ref (E.2.2.1 246)] : List Value).toArray s = true := fun h => hts _ (List.mem_cons_of_mem _ h)
  have hl0 := lv_entry ([.ref (E.2.2.1 0), .int x1, .int x2, .ref (E.2.2.1 246)] : List Value) (n := 5) (Nat.le_of_ble_eq_true rfl)
  rw [lg_entry_eq]
  refine (?_ : GW_ p l e rmH_ s m ([.ref (E.2.2.1 0), .int x1, .int x2, .ref (E.2.2.1 246)] : List Value).toArray below meth c E 5 0 0 (vx_MQ below (Qc_ E (some (.int 0), sJ_ σ1 246 0 v.toInt64) (A_ E s.heap.size)) (fun _ _ _ => False) ([.ref (E.2.2.1 0), .int x1, .int x2, .ref (E.2.2.1 246)] : List Value).toArray s 0 0 (A_ E s.heap.size)) 0 [some (.ref 0), some (.int x1), some (.int x2), some (.ref 246), none] [] σ) s.heap [] _ hP va_S.rf (hl_0 (as := [.ref 0, .int x1, .int x2, .ref 246]) (nL := 5) ⟨rfl, Nat.le_of_ble_eq_true rfl⟩ hl0)
  refine GW_op (s_ald_n (q := 3) (by decide +kernel) rfl) X ⟨Nat.zero_le _, Nat.zero_le _⟩ (by decide) (fun k => rfl) ?_
  refine GW_op (s_iconst (n := 0) (v := 0) (by decide +kernel) (by decide)) X ⟨Nat.zero_le _, Nat.zero_le _⟩ (by decide) (fun k => rfl) ?_
  refine GW_op (s_ald_n (q := 0) (by decide +kernel) rfl) X ⟨Nat.zero_le _, Nat.zero_le _⟩ (by decide) (fun k => rfl) ?_
  refine GW_op (s_ild_n (q := 1) (by decide +kernel) rfl) X ⟨Nat.zero_le _, Nat.zero_le _⟩ (by decide) (fun k => rfl) ?_
  refine GW_op (s_ild_n (q := 2) (by decide +kernel) rfl) X ⟨Nat.zero_le _, Nat.zero_le _⟩ (by decide) (fun k => rfl) ?_
  refine GW_op (s_callV (ci := 11) (by decide +kernel) (t_X11_act hE) cl_X11_act ml_RL_18 im_X11_act se_X11_act (by decide) rfl ⟨by decide, by decide⟩) X ⟨Nat.zero_le _, Nat.zero_le _⟩ (by decide) (q_callV (b := 0) (r := [.int 0, .ref 246]) (as := [.ref 0, .int x1, .int x2]) rfl ⟨by rw [hKC]; decide, by decide⟩ rfl (by rw [hKC]; exact hf)) ?_
  refine GW_op (s_i2l (by decide +kernel)) X ⟨Nat.zero_le _, Nat.zero_le _⟩ (by decide) (fun k => rfl) ?_
  refine GW_op (s_last (by decide +kernel)) X ⟨Nat.zero_le _, Nat.zero_le _⟩ (by decide) (q_last ⟨by rw [hKC]; decide, by rw [hKC]; decide⟩) ?_
  refine GW_op (s_goto (off := 7) (t := 17) (by decide +kernel) (by decide)) X ⟨Nat.zero_le _, Nat.zero_le _⟩ (by decide) (fun k => rfl) ?_
  refine GW_op (s_iconst (n := 0) (v := 0) (by decide +kernel) (by decide)) X ⟨Nat.zero_le _, Nat.zero_le _⟩ (by decide) (fun k => rfl) ?_
  exact fun H locs ls hP hS hl => vx_ret (W.iret B.exec B.bytes B.returns (fun t ht hW => ⟨⟨rfl, by rw [ht]; exact hP, va_K.moved hW.alike hK⟩, hS.F ht⟩) hS.2.2 (by decide +kernel) B.notSynchronized)
set_option maxRecDepth 100000 in
theorem hlt_act {l : Launch} {E : En_} (hE : EOK_ E) (hKC : E.2.2.2.1 = KC) (hl : l.stackTraces = false) {sz : Nat} {σ : St_} {x1 x2 : Int32} (hT : ThA_ σ x1 x2) : vx_Met l yL_act (Cond.codeWith yL_act cL_act 5 (some .int) [(0, 10, 13, 13)] :: G_) rmU_ (va_Pc [.ref (E.2.2.1 0), .int x1, .int x2, .ref (E.2.2.1 246)] (fun U => U.heap.size = sz ∧ WP_ E σ U ∧ TZ_ (A_ E sz) U U.heap)) (Qc_ E (some (.int 1), σ) (A_ E sz)) (fun _ _ _ => False) 1 6 (A_ E sz) := by
  obtain ⟨ar, D, ad, K, nn⟩ := E
  obtain rfl : K = KC := hKC
  generalize hEE : ((ar, D, ad, KC, nn) : En_) = E at hE ⊢
  have hKC : E.2.2.2.1 = KC := by rw [← hEE]
  refine vx_ofWH (by decide +kernel) rfl ?_
  intro p e s m args below meth c s₁ B hml hv
  obtain ⟨rfl, hsz, ⟨hP, hK⟩, hZ⟩ := hv
  subst hsz
  have X : Fx_ p s m ([.ref (E.2.2.1 0), .int x1, .int x2, .ref (E.2.2.1 246)] : List Value).toArray meth c E yL_act.cls cL_act 5 (some .int) (Cond.codeWith yL_act cL_act 5 (some .int) [(0, 10, 13, 13)] :: G_) := ⟨B.exec, B.bytes, hml, findClass_of_methodNamed B.named, atoms_spec (ws := Cond.codeWith yL_act cL_act 5 (some .int) [(0, 10, 13, 13)] :: G_) B.pre, hK, B.returns, B.notSynchronized, hE⟩
  have hts := X.2.2.2.2.1
  have up : ∀ {w}, w ∈ G_ → w.before ([.ref (E.2.2.1 0), .int x1, .int x2, .ref (E.2.2.1 246)] : List Value).toArray s = true := fun h => hts _ (List.mem_cons_of_mem _ h)
  have hl0 := lv_entry ([.ref (E.2.2.1 0), .int x1, .int x2, .ref (E.2.2.1 246)] : List Value) (n := 5) (Nat.le_of_ble_eq_true rfl)
  rw [lg_entry_eq]
  refine (?_ : GW_ p l e rmU_ s m ([.ref (E.2.2.1 0), .int x1, .int x2, .ref (E.2.2.1 246)] : List Value).toArray below meth c E 5 0 0 (vx_MQ below (Qc_ E (some (.int 1), σ) (A_ E s.heap.size)) (fun _ _ _ => False) ([.ref (E.2.2.1 0), .int x1, .int x2, .ref (E.2.2.1 246)] : List Value).toArray s 1 6 (A_ E s.heap.size)) 0 [some (.ref 0), some (.int x1), some (.int x2), some (.ref 246), none] [] σ) s.heap [] _ hP va_S.rf (hl_0 (as := [.ref 0, .int x1, .int x2, .ref 246]) (nL := 5) ⟨rfl, Nat.le_of_ble_eq_true rfl⟩ hl0)
  refine GW_op (s_ald_n (q := 3) (by decide +kernel) rfl) X ⟨Nat.zero_le _, Nat.zero_le _⟩ (by decide) (fun k => rfl) ?_
  refine GW_op (s_iconst (n := 0) (v := 0) (by decide +kernel) (by decide)) X ⟨Nat.zero_le _, Nat.zero_le _⟩ (by decide) (fun k => rfl) ?_
  refine GW_op (s_ald_n (q := 0) (by decide +kernel) rfl) X ⟨Nat.zero_le _, Nat.zero_le _⟩ (by decide) (fun k => rfl) ?_
  refine GW_op (s_ild_n (q := 1) (by decide +kernel) rfl) X ⟨Nat.zero_le _, Nat.zero_le _⟩ (by decide) (fun k => rfl) ?_
  refine GW_op (s_ild_n (q := 2) (by decide +kernel) rfl) X ⟨Nat.zero_le _, Nat.zero_le _⟩ (by decide) (fun k => rfl) ?_
  intro H locs ls hP hS hlo
  obtain ⟨h1, h2, h3, h4⟩ := cl_X11_act
  have cb : CallB rmU_ s ([.ref (E.2.2.1 0), .int x1, .int x2, .ref (E.2.2.1 246)] : List Value).toArray RL 18 yX11_act cX11_act 3 (some .int) (.code yX11_act cX11_act 3 (some .int) :: G_) rmT_ 1 6 2 := callB_of 2 hts (wd_good h1) rfl rfl rfl (up h2) (up ml_RL_18) h3 ⟨by decide, by decide⟩
  have hrc := va_recv hK hP (c_cl 11 (by decide)) ((wl_get (o := 0) (k_lt hE (by rw [hKC]; decide))).trans (by rw [ent_obj (ci := 11) (by rw [hKC]; decide) (by decide)]))
  rw [show (cR_ 11, cT_ 11, cN_ 11).1 = yX11_act.cls from rfl] at hrc
  have hpre := preT_ (av := [.ref (E.2.2.1 0), .int x1, .int x2]) hP hK hZ hS (A_mono hS.1)
  have hr := vx_runV (l := l) (m := m) (below := below) (meth := meth) (H := H) (locs := locs) (cells := 0) (slots := 0) (e := e) (R := rmU_) (b := E.2.2.1 0) (As := [.int x1, .int x2]) (rest := [.int 0, .ref (E.2.2.1 246)]) (g := F0 m 5 ls [.int x2, .int x1, .ref (E.2.2.1 0), .int 0, .ref (E.2.2.1 246)]) (index := 18) (own := RL) (C := yX11_act.cls) ⟨B.exec, B.bytes, hml, findClass_of_methodNamed B.named, hts⟩ (thr_act hE hKC hl (sz := H.size) hT) ⟨cb, up im_X11_act, up se_X11_act⟩ ⟨hpre.1, hrc, hpre.2⟩ rfl rfl hlo.2.1 rfl (Nat.le_of_ble_eq_true rfl) (show decode cL_act 5 = .ok (.invokevirtual 18, 3) by decide +kernel) ⟨by decide, by decide⟩
  intro T hT2 X2
  rcases hr T hT2 X2 with ⟨v, st₀, t, T', L, h0, X', hL, e1, e2, hq, st⟩ | ⟨q, st₀, t, T', L, E', ce, h0, X', hL, e1, e2, ⟨rfl, ⟨hP1, hK1⟩, hF⟩, hce, hcv, hcl, st⟩
  · exact hq.elim
  · obtain ⟨k1, k2, k3⟩ := vx_keep h0 e1 hS (fun q _ h => A_mono hS.1 q h) (A_mono hS.1) hL hF
    have hQ : vx_W p l e rmU_ s m ([.ref (E.2.2.1 0), .int x1, .int x2, .ref (E.2.2.1 246)] : List Value).toArray below meth c T'.heap (locs ++ L) (0 + 1) (0 + 6) (vx_MQ below (Qc_ E (some (.int 1), σ) (A_ E s.heap.size)) (fun _ _ _ => False) ([.ref (E.2.2.1 0), .int x1, .int x2, .ref (E.2.2.1 246)] : List Value).toArray s 1 6 (A_ E s.heap.size)) (F0 m 5 ls [.int 0, .ref (E.2.2.1 246)]) q := by
      refine vx_catch (own := RL) (name := NSE_) (findClass_of_methodNamed B.named) [] ⟨0, 10, 13, 13⟩ [] (vx_table (x := yL_act) B (hts _ List.mem_cons_self)) (fun z hz => by cases hz) (by decide) (by decide) (up (G_6 (i := 45) rfl rfl)) (va_tabs rfl rfl (hZ.1 (.castable NSE_ NSE_) (by decide +kernel))) (by rw [e1]; exact hce) hcv hcl ?_
      refine lv_astore (i := 4) B.exec B.bytes (by decide +kernel) (hl_has hlo) (by decide) rfl (fun ls1 _ => ?_)
      refine lv_iconst (n := 1) (v := 1) B.exec B.bytes (by decide +kernel) (by decide) ?_
      exact vx_ret (W.iret B.exec B.bytes B.returns (fun t2 ht hW => ⟨⟨rfl, by rw [ht, e1]; exact hP1, va_K.moved hW.alike hK⟩, k3.F ht⟩) k3.2.2 (by decide +kernel) B.notSynchronized)
    obtain ⟨t2, a1, b1⟩ := hQ T' rfl X'
    exact ⟨t2, st.trans a1, b1⟩
