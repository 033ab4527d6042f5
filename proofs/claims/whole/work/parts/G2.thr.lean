/-! the methods that throw -/
def NSE_ : String := "java/util/NoSuchElementException"
def at0_t (q : Nat × Nat) : Option Cond := match q.1 with
  | 1 => tables_1_1[q.2]?
  | 2 => tables_1_2[q.2]?
  | 3 => tables_1_3[q.2]?
  | 4 => tables_1_4[q.2]?
  | 5 => tables_1_5[q.2]?
  | 6 => tables_1_6[q.2]?
  | 7 => tables_1_7[q.2]?
  | 8 => tables_1_8[q.2]?
  | _ => tables_1_9[q.2]?
theorem at0_m {q : Nat × Nat} {w : Cond} (h : at0_t q = some w) (hg : goodWord w = true) : w ∈ G_ := by
  unfold at0_t at h
  split at h
  · exact G_1 h hg
  · exact G_2 h hg
  · exact G_3 h hg
  · exact G_4 h hg
  · exact G_5 h hg
  · exact G_6 h hg
  · exact G_7 h hg
  · exact G_8 h hg
  · exact G_9 h hg
abbrev nms_ : List String := ["java/lang/RuntimeException", "java/lang/Exception"]
theorem at0_e : vx_at0 RX11 160 NSE_ nms_ = [(1, 18), (6, 72), (6, 81), (6, 83), (6, 86), (6, 88), (6, 73), (6, 74), (1, 31), (1, 32), (6, 75), (6, 80), (6, 84), (6, 100), (6, 62), (6, 101), (6, 64), (6, 102), (6, 66), (6, 76), (6, 78), (6, 68), (6, 90), (6, 91), (6, 92), (6, 93), (6, 53), (6, 93), (6, 94), (6, 95), (6, 96), (6, 55), (6, 96), (6, 97), (6, 98), (6, 73), (6, 57), (6, 89), (6, 51), (6, 52), (6, 59), (6, 60), (6, 61), (6, 63), (6, 65), (6, 67), (6, 71), (6, 70), (6, 69)].filterMap at0_t := by decide +kernel
def faN_ : List Cond := [.declares ⟨"java/lang/RuntimeException", "<init>", "()V"⟩, .declares ⟨"java/lang/Exception", "<init>", "()V"⟩, .declares ⟨"java/lang/Throwable", "<init>", "()V"⟩, .castable NSE_ NSE_]
theorem at0_g : (vx_at0 RX11 160 NSE_ nms_).all (fun w => goodWord w || decide (w ∈ faN_)) = true := by decide +kernel
theorem faN_tab : faN_.all (fun w => w.onTables) = true := by decide +kernel
def FA_ (U : State) : Prop := ∀ w ∈ faN_, w.before #[] U = true
theorem FA_.moved {u U : State} (hvm : u.vm.Alike U.vm) (h : FA_ u) : FA_ U := fun w hw => by
  have h1 := h w hw
  have ht : w.onTables = true := by
    have : faN_.all (fun w => w.onTables) = true := by decide +kernel
    exact List.all_eq_true.mp this w hw
  have hf : w.faceAtom = true := by
    have : faN_.all (fun w => w.faceAtom) = true := by decide +kernel
    exact List.all_eq_true.mp this w hw
  exact va_tabs ht (rfl : (u.setVm U.vm).vm = U.vm) (Cond.faceAtom_setVm hvm w hf h1)
theorem at0_G : ∀ w ∈ vx_at0 RX11 160 NSE_ nms_, w ∈ G_ ∨ w ∈ faN_ := by
  intro w hw
  have hg := List.all_eq_true.mp at0_g w hw
  simp only [Bool.or_eq_true, decide_eq_true_eq] at hg
  rcases hg with hg | hg
  case inr => exact Or.inr hg
  refine Or.inl ?_
  rw [at0_e] at hw
  obtain ⟨q, -, hq⟩ := List.mem_filterMap.mp hw
  exact at0_m hq hg
theorem at0_ot : ∀ w ∈ Cond.classLink RX11 158 NSE_ :: Cond.initialized NSE_ :: vx_at0 RX11 160 NSE_ nms_, vx_ot w = true := by
  intro w hw
  have ho : ∀ w, goodWord w = true → vx_ot w = true := fun w h => by unfold vx_ot; rw [h, Bool.or_true]
  rcases List.mem_cons.mp hw with rfl | hw
  · exact ho _ (by decide +kernel)
  · rcases List.mem_cons.mp hw with rfl | hw
    · exact ho _ (by decide +kernel)
    · have hg := List.all_eq_true.mp at0_g w hw
      simp only [Bool.or_eq_true, decide_eq_true_eq] at hg
      rcases hg with hg | hg
      · exact ho _ hg
      · have : faN_.all (fun w => w.onTables) = true := by decide +kernel
        have := List.all_eq_true.mp this w hg
        unfold vx_ot
        rw [this, Bool.true_or]
def TZ_ (A : Nat → Prop) (U : State) (H : Heap) : Prop := FA_ U ∧ vx_Zq Bundle.tN "UNASSIGNED_STACK" Bundle.steD A U H ∧ vx_Zq Bundle.tN "SUPPRESSED_SENTINEL" Bundle.listD A U H
theorem TZ_.moved {A : Nat → Prop} {u U : State} {H : Heap} (hvm : u.vm.Alike U.vm) (h : TZ_ A u H) : TZ_ A U H := ⟨FA_.moved hvm h.1, vx_Zq.moved hvm h.2.1, vx_Zq.moved hvm h.2.2⟩
theorem TZ_.kept {A : Nat → Prop} {U : State} {H H1 : Heap} (h : TZ_ A U H) (hq : ∀ a : Nat, a < H.size → ¬ A a → H1[a]? = H[a]?) : TZ_ A U H1 := ⟨h.1, h.2.1.kept hq, h.2.2.kept hq⟩
theorem TZ_.narrow {A B : Nat → Prop} {U : State} {H : Heap} (h : TZ_ A U H) (hAB : ∀ q, B q → A q) : TZ_ B U H := ⟨h.1, h.2.1.narrow hAB, h.2.2.narrow hAB⟩
def XC_ (E : En_) (σ : St_) (sz : Nat) : String → State → State → Prop := fun X st t => X = NSE_ ∧ WP_ E σ t ∧ va_F (A_ E sz) st t
def rmT_ : Room := { frames := 10, cells := 1, slots := 6, locals := 1000 }
theorem fitN_ : ∀ n ∈ nms_, Bundle.fit n = true := by decide +kernel
theorem XC_thr {E : En_} {σ : St_} {s : State} {H : Heap} (hP : va_P E.2.1 vwCl (wl_ E σ) H) (hK : va_K E.2.1 vwCl (tys_ E) s) {locs : List Loc} (hS : va_S (A_ E s.heap.size) s.heap H locs) : ∀ t : State, s.vm.Alike t.vm → H.size ≤ t.heap.size → (∀ q : Nat, q < H.size → t.heap[q]? = H[q]?) → XC_ E σ s.heap.size NSE_ s t := fun t h1 h2 h3 =>
  ⟨rfl, ⟨hP.kept (fun k q hk => h3 q.1 (hP k q hk).lt), va_K.moved h1 hK⟩, Nat.le_trans hS.1 h2, fun q hq ha => by rw [h3 q (Nat.lt_of_lt_of_le hq hS.1)]; exact hS.2.1 q hq ha⟩
set_option maxRecDepth 100000 in
theorem thr_chap {l : Launch} {E : En_} (hE : EOK_ E) (hKC : E.2.2.2.1 = KC) (hl : l.stackTraces = false) {sz : Nat} {σ : St_} {x1 x2 : Int32} (hT : ThC_ σ x1 x2) : vx_Met l yX11_chap (.code yX11_chap cX11_chap 3 (some .int) :: G_) rmT_ (va_Pc [.ref (E.2.2.1 0), .int x1, .int x2] (fun U => U.heap.size = sz ∧ WP_ E σ U ∧ TZ_ (A_ E sz) U U.heap)) (fun _ _ _ _ => False) (XC_ E σ sz) 1 6 (A_ E sz) := by
  obtain ⟨ar, D, ad, K, nn⟩ := E
  obtain rfl : K = KC := hKC
  generalize hEE : ((ar, D, ad, KC, nn) : En_) = E at hE ⊢
  have hKC : E.2.2.2.1 = KC := by rw [← hEE]
  refine vx_ofW (by decide +kernel) rfl ?_
  intro p e s m args below meth c s₁ B hml hex hv
  obtain ⟨rfl, hsz, ⟨hP, hK⟩, hZ⟩ := hv
  subst hsz
  have X : Fx_ p s m ([.ref (E.2.2.1 0), .int x1, .int x2] : List Value).toArray meth c E yX11_chap.cls cX11_chap 3 (some .int) (.code yX11_chap cX11_chap 3 (some .int) :: G_) := ⟨B.exec, B.bytes, hml, findClass_of_methodNamed B.named, atoms_spec (ws := .code yX11_chap cX11_chap 3 (some .int) :: G_) B.pre, hK, B.returns, B.notSynchronized, hE⟩
  have hts := X.2.2.2.2.1
  have up : ∀ {w}, w ∈ G_ → w.before ([.ref (E.2.2.1 0), .int x1, .int x2] : List Value).toArray s = true := fun h => hts _ (List.mem_cons_of_mem _ h)
  have hl0 := lv_entry ([.ref (E.2.2.1 0), .int x1, .int x2] : List Value) (n := 3) (Nat.le_refl _)
  rw [lg_entry_eq]
  refine (?_ : GW_ p l e rmT_ s m ([.ref (E.2.2.1 0), .int x1, .int x2] : List Value).toArray below meth c E 3 0 0 (vx_MQ below (fun _ _ _ _ => False) (XC_ E σ s.heap.size) ([.ref (E.2.2.1 0), .int x1, .int x2] : List Value).toArray s 1 6 (A_ E s.heap.size)) 0 [some (.ref 0), some (.int x1), some (.int x2)] [] σ) s.heap [] _ hP va_S.rf (hl_0 (as := [.ref 0, .int x1, .int x2]) (nL := 3) ⟨rfl, Nat.le_refl _⟩ hl0)
  have go : GW_ p l e rmT_ s m ([.ref (E.2.2.1 0), .int x1, .int x2] : List Value).toArray below meth c E 3 0 0 (vx_MQ below (fun _ _ _ _ => False) (XC_ E σ s.heap.size) ([.ref (E.2.2.1 0), .int x1, .int x2] : List Value).toArray s 1 6 (A_ E s.heap.size)) 20 [some (.ref 0), some (.int x1), some (.int x2)] [] σ := fun H locs ls hP hS hl1 =>
    vx_throw0 (cc := cX11_chap) (own := RX11) (cls := NSE_) (names := nms_) (ik := 158) (ic := 160) (mc := 1) (ms := 6) (A := A_ E s.heap.size) B.exec B.bytes hl (findClass_of_methodNamed B.named) (by decide +kernel) fitN_ (up (G_6 (i := 50) rfl rfl)) (up (G_1 (i := 21) rfl rfl)) (fun w hw => (at0_G w hw).elim (fun z => up z) (fun z => va_tabs (List.all_eq_true.mp faN_tab w z) rfl (hZ.1 w z))) at0_ot hZ.2.1 hZ.2.2 hS (hl1.2.1.trans hml.symm) (by decide +kernel) (by decide +kernel) (by decide +kernel) (by decide +kernel) (fun x hx => (hex x hx).elim) (by decide) (Nat.le_of_ble_eq_true rfl) (Nat.le_refl _) (Nat.le_refl _) B.notSynchronized (XC_thr hP hK hS) hS.2.2 (Nat.le_refl _) (Nat.le_refl _)
  obtain ⟨b, v, ⟨hB, h12, hc⟩, hv⟩ := hT
  refine GW_op (s_ald_n (q := 0) (by decide +kernel) rfl) X ⟨Nat.zero_le _, Nat.zero_le _⟩ (by decide) (fun k => rfl) ?_
  refine GW_op (g_11_12 (by decide +kernel) fl_RX11_19) X ⟨Nat.zero_le _, Nat.zero_le _⟩ (by decide) (q_gR (by rw [hKC]; decide) h12) ?_
  refine GW_op (s_ild_n (q := 1) (by decide +kernel) rfl) X ⟨Nat.zero_le _, Nat.zero_le _⟩ (by decide) (fun k => rfl) ?_
  refine GW_op (s_callV (ci := 0) (by decide +kernel) (t_X0_hasChap hE) cl_X0_hasChap ml_RX11_155 im_X0_hasChap se_X0_hasChap (by decide) rfl ⟨by decide, by decide⟩) X ⟨Nat.zero_le _, Nat.zero_le _⟩ (by decide) (q_callV (b := b) (r := []) (as := [.ref b, .int x1]) rfl ⟨by rw [hKC]; rcases hB with rfl | rfl | rfl | rfl <;> decide, by decide⟩ rfl (by rw [hKC]; exact hc)) ?_
  have cond : v = 0 ∨ ¬ v = 0 := Classical.em _
  rcases hv with hv | ⟨hv, hx⟩
  · refine GW_op (s_ifeq (off := 12) (t := 20) (by decide +kernel) (by decide)) X ⟨Nat.zero_le _, Nat.zero_le _⟩ (by decide) (fun k => if_pos hv) ?_
    exact go
  · refine GW_op (s_ifeq (off := 12) (t := 20) (by decide +kernel) (by decide)) X ⟨Nat.zero_le _, Nat.zero_le _⟩ (by decide) (fun k => if_neg hv) ?_
    refine GW_op (s_ild_n (q := 2) (by decide +kernel) rfl) X ⟨Nat.zero_le _, Nat.zero_le _⟩ (by decide) (fun k => rfl) ?_
    rcases hx with hx | ⟨hx, hy⟩
    · refine GW_op (s_iflt (off := 8) (t := 20) (by decide +kernel) (by decide)) X ⟨Nat.zero_le _, Nat.zero_le _⟩ (by decide) (fun k => if_pos hx) ?_
      exact go
    · refine GW_op (s_iflt (off := 8) (t := 20) (by decide +kernel) (by decide)) X ⟨Nat.zero_le _, Nat.zero_le _⟩ (by decide) (fun k => if_neg hx) ?_
      refine GW_op (s_ild_n (q := 2) (by decide +kernel) rfl) X ⟨Nat.zero_le _, Nat.zero_le _⟩ (by decide) (fun k => rfl) ?_
      refine GW_op (s_iconst (n := 3) (v := 3) (by decide +kernel) (by decide)) X ⟨Nat.zero_le _, Nat.zero_le _⟩ (by decide) (fun k => rfl) ?_
      refine GW_op (s_cmple (off := 11) (t := 28) (by decide +kernel) (by decide)) X ⟨Nat.zero_le _, Nat.zero_le _⟩ (by decide) (fun k => if_neg hy) ?_
      exact go
set_option maxRecDepth 100000 in
theorem thr_reader {l : Launch} {E : En_} (hE : EOK_ E) (hKC : E.2.2.2.1 = KC) (hl : l.stackTraces = false) {sz : Nat} {σ : St_} {x1 x2 : Int32} (hT : ThR_ σ x1 x2) : vx_Met l yX11_reader (.code yX11_reader cX11_reader 3 (some .int) :: G_) rmT_ (va_Pc [.ref (E.2.2.1 0), .int x1, .int x2] (fun U => U.heap.size = sz ∧ WP_ E σ U ∧ TZ_ (A_ E sz) U U.heap)) (fun _ _ _ _ => False) (XC_ E σ sz) 1 6 (A_ E sz) := by
  obtain ⟨ar, D, ad, K, nn⟩ := E
  obtain rfl : K = KC := hKC
  generalize hEE : ((ar, D, ad, KC, nn) : En_) = E at hE ⊢
  have hKC : E.2.2.2.1 = KC := by rw [← hEE]
  refine vx_ofW (by decide +kernel) rfl ?_
  intro p e s m args below meth c s₁ B hml hex hv
  obtain ⟨rfl, hsz, ⟨hP, hK⟩, hZ⟩ := hv
  subst hsz
  have X : Fx_ p s m ([.ref (E.2.2.1 0), .int x1, .int x2] : List Value).toArray meth c E yX11_reader.cls cX11_reader 3 (some .int) (.code yX11_reader cX11_reader 3 (some .int) :: G_) := ⟨B.exec, B.bytes, hml, findClass_of_methodNamed B.named, atoms_spec (ws := .code yX11_reader cX11_reader 3 (some .int) :: G_) B.pre, hK, B.returns, B.notSynchronized, hE⟩
  have hts := X.2.2.2.2.1
  have up : ∀ {w}, w ∈ G_ → w.before ([.ref (E.2.2.1 0), .int x1, .int x2] : List Value).toArray s = true := fun h => hts _ (List.mem_cons_of_mem _ h)
  have hl0 := lv_entry ([.ref (E.2.2.1 0), .int x1, .int x2] : List Value) (n := 3) (Nat.le_refl _)
  rw [lg_entry_eq]
  refine (?_ : GW_ p l e rmT_ s m ([.ref (E.2.2.1 0), .int x1, .int x2] : List Value).toArray below meth c E 3 0 0 (vx_MQ below (fun _ _ _ _ => False) (XC_ E σ s.heap.size) ([.ref (E.2.2.1 0), .int x1, .int x2] : List Value).toArray s 1 6 (A_ E s.heap.size)) 0 [some (.ref 0), some (.int x1), some (.int x2)] [] σ) s.heap [] _ hP va_S.rf (hl_0 (as := [.ref 0, .int x1, .int x2]) (nL := 3) ⟨rfl, Nat.le_refl _⟩ hl0)
  have go : GW_ p l e rmT_ s m ([.ref (E.2.2.1 0), .int x1, .int x2] : List Value).toArray below meth c E 3 0 0 (vx_MQ below (fun _ _ _ _ => False) (XC_ E σ s.heap.size) ([.ref (E.2.2.1 0), .int x1, .int x2] : List Value).toArray s 1 6 (A_ E s.heap.size)) 20 [some (.ref 0), some (.int x1), some (.int x2)] [] σ := fun H locs ls hP hS hl1 =>
    vx_throw0 (cc := cX11_reader) (own := RX11) (cls := NSE_) (names := nms_) (ik := 158) (ic := 160) (mc := 1) (ms := 6) (A := A_ E s.heap.size) B.exec B.bytes hl (findClass_of_methodNamed B.named) (by decide +kernel) fitN_ (up (G_6 (i := 50) rfl rfl)) (up (G_1 (i := 21) rfl rfl)) (fun w hw => (at0_G w hw).elim (fun z => up z) (fun z => va_tabs (List.all_eq_true.mp faN_tab w z) rfl (hZ.1 w z))) at0_ot hZ.2.1 hZ.2.2 hS (hl1.2.1.trans hml.symm) (by decide +kernel) (by decide +kernel) (by decide +kernel) (by decide +kernel) (fun x hx => (hex x hx).elim) (by decide) (Nat.le_of_ble_eq_true rfl) (Nat.le_refl _) (Nat.le_refl _) B.notSynchronized (XC_thr hP hK hS) hS.2.2 (Nat.le_refl _) (Nat.le_refl _)
  obtain ⟨b, v, ⟨hB, h12, hc⟩, hv⟩ := hT
  refine GW_op (s_ald_n (q := 0) (by decide +kernel) rfl) X ⟨Nat.zero_le _, Nat.zero_le _⟩ (by decide) (fun k => rfl) ?_
  refine GW_op (g_11_12 (by decide +kernel) fl_RX11_19) X ⟨Nat.zero_le _, Nat.zero_le _⟩ (by decide) (q_gR (by rw [hKC]; decide) h12) ?_
  refine GW_op (s_ild_n (q := 1) (by decide +kernel) rfl) X ⟨Nat.zero_le _, Nat.zero_le _⟩ (by decide) (fun k => rfl) ?_
  refine GW_op (s_callV (ci := 0) (by decide +kernel) (t_X0_hasReader hE) cl_X0_hasReader ml_RX11_179 im_X0_hasReader se_X0_hasReader (by decide) rfl ⟨by decide, by decide⟩) X ⟨Nat.zero_le _, Nat.zero_le _⟩ (by decide) (q_callV (b := b) (r := []) (as := [.ref b, .int x1]) rfl ⟨by rw [hKC]; rcases hB with rfl | rfl | rfl | rfl <;> decide, by decide⟩ rfl (by rw [hKC]; exact hc)) ?_
  have cond : v = 0 ∨ ¬ v = 0 := Classical.em _
  rcases hv with hv | ⟨hv, hx⟩
  · refine GW_op (s_ifeq (off := 12) (t := 20) (by decide +kernel) (by decide)) X ⟨Nat.zero_le _, Nat.zero_le _⟩ (by decide) (fun k => if_pos hv) ?_
    exact go
  · refine GW_op (s_ifeq (off := 12) (t := 20) (by decide +kernel) (by decide)) X ⟨Nat.zero_le _, Nat.zero_le _⟩ (by decide) (fun k => if_neg hv) ?_
    refine GW_op (s_ild_n (q := 2) (by decide +kernel) rfl) X ⟨Nat.zero_le _, Nat.zero_le _⟩ (by decide) (fun k => rfl) ?_
    rcases hx with hx | ⟨hx, hy⟩
    · refine GW_op (s_iflt (off := 8) (t := 20) (by decide +kernel) (by decide)) X ⟨Nat.zero_le _, Nat.zero_le _⟩ (by decide) (fun k => if_pos hx) ?_
      exact go
    · refine GW_op (s_iflt (off := 8) (t := 20) (by decide +kernel) (by decide)) X ⟨Nat.zero_le _, Nat.zero_le _⟩ (by decide) (fun k => if_neg hx) ?_
      refine GW_op (s_ild_n (q := 2) (by decide +kernel) rfl) X ⟨Nat.zero_le _, Nat.zero_le _⟩ (by decide) (fun k => rfl) ?_
      refine GW_op (s_iconst (n := 4) (v := 4) (by decide +kernel) (by decide)) X ⟨Nat.zero_le _, Nat.zero_le _⟩ (by decide) (fun k => rfl) ?_
      refine GW_op (s_cmple (off := 11) (t := 28) (by decide +kernel) (by decide)) X ⟨Nat.zero_le _, Nat.zero_le _⟩ (by decide) (fun k => if_neg hy) ?_
      exact go
set_option maxRecDepth 100000 in
theorem thr_act {l : Launch} {E : En_} (hE : EOK_ E) (hKC : E.2.2.2.1 = KC) (hl : l.stackTraces = false) {sz : Nat} {σ : St_} {x1 x2 : Int32} (hT : ThA_ σ x1 x2) : vx_Met l yX11_act (.code yX11_act cX11_act 3 (some .int) :: G_) rmT_ (va_Pc [.ref (E.2.2.1 0), .int x1, .int x2] (fun U => U.heap.size = sz ∧ WP_ E σ U ∧ TZ_ (A_ E sz) U U.heap)) (fun _ _ _ _ => False) (XC_ E σ sz) 1 6 (A_ E sz) := by
  obtain ⟨ar, D, ad, K, nn⟩ := E
  obtain rfl : K = KC := hKC
  generalize hEE : ((ar, D, ad, KC, nn) : En_) = E at hE ⊢
  have hKC : E.2.2.2.1 = KC := by rw [← hEE]
  refine vx_ofW (by decide +kernel) rfl ?_
  intro p e s m args below meth c s₁ B hml hex hv
  obtain ⟨rfl, hsz, ⟨hP, hK⟩, hZ⟩ := hv
  subst hsz
  have X : Fx_ p s m ([.ref (E.2.2.1 0), .int x1, .int x2] : List Value).toArray meth c E yX11_act.cls cX11_act 3 (some .int) (.code yX11_act cX11_act 3 (some .int) :: G_) := ⟨B.exec, B.bytes, hml, findClass_of_methodNamed B.named, atoms_spec (ws := .code yX11_act cX11_act 3 (some .int) :: G_) B.pre, hK, B.returns, B.notSynchronized, hE⟩
  have hts := X.2.2.2.2.1
  have up : ∀ {w}, w ∈ G_ → w.before ([.ref (E.2.2.1 0), .int x1, .int x2] : List Value).toArray s = true := fun h => hts _ (List.mem_cons_of_mem _ h)
  have hl0 := lv_entry ([.ref (E.2.2.1 0), .int x1, .int x2] : List Value) (n := 3) (Nat.le_refl _)
  rw [lg_entry_eq]
  refine (?_ : GW_ p l e rmT_ s m ([.ref (E.2.2.1 0), .int x1, .int x2] : List Value).toArray below meth c E 3 0 0 (vx_MQ below (fun _ _ _ _ => False) (XC_ E σ s.heap.size) ([.ref (E.2.2.1 0), .int x1, .int x2] : List Value).toArray s 1 6 (A_ E s.heap.size)) 0 [some (.ref 0), some (.int x1), some (.int x2)] [] σ) s.heap [] _ hP va_S.rf (hl_0 (as := [.ref 0, .int x1, .int x2]) (nL := 3) ⟨rfl, Nat.le_refl _⟩ hl0)
  have go : GW_ p l e rmT_ s m ([.ref (E.2.2.1 0), .int x1, .int x2] : List Value).toArray below meth c E 3 0 0 (vx_MQ below (fun _ _ _ _ => False) (XC_ E σ s.heap.size) ([.ref (E.2.2.1 0), .int x1, .int x2] : List Value).toArray s 1 6 (A_ E s.heap.size)) 24 [some (.ref 0), some (.int x1), some (.int x2)] [] σ := fun H locs ls hP hS hl1 =>
    vx_throw0 (cc := cX11_act) (own := RX11) (cls := NSE_) (names := nms_) (ik := 158) (ic := 160) (mc := 1) (ms := 6) (A := A_ E s.heap.size) B.exec B.bytes hl (findClass_of_methodNamed B.named) (by decide +kernel) fitN_ (up (G_6 (i := 50) rfl rfl)) (up (G_1 (i := 21) rfl rfl)) (fun w hw => (at0_G w hw).elim (fun z => up z) (fun z => va_tabs (List.all_eq_true.mp faN_tab w z) rfl (hZ.1 w z))) at0_ot hZ.2.1 hZ.2.2 hS (hl1.2.1.trans hml.symm) (by decide +kernel) (by decide +kernel) (by decide +kernel) (by decide +kernel) (fun x hx => (hex x hx).elim) (by decide) (Nat.le_of_ble_eq_true rfl) (Nat.le_refl _) (Nat.le_refl _) B.notSynchronized (XC_thr hP hK hS) hS.2.2 (Nat.le_refl _) (Nat.le_refl _)
  refine GW_op (s_ild_n (q := 1) (by decide +kernel) rfl) X ⟨Nat.zero_le _, Nat.zero_le _⟩ (by decide) (fun k => rfl) ?_
  rcases hT with hx | ⟨hx, p0, ⟨hP0, h14⟩, hT⟩
  · refine GW_op (s_iflt (off := 23) (t := 24) (by decide +kernel) (by decide)) X ⟨Nat.zero_le _, Nat.zero_le _⟩ (by decide) (fun k => if_pos hx) ?_
    exact go
  · refine GW_op (s_iflt (off := 23) (t := 24) (by decide +kernel) (by decide)) X ⟨Nat.zero_le _, Nat.zero_le _⟩ (by decide) (fun k => if_neg hx) ?_
    refine GW_op (s_ild_n (q := 1) (by decide +kernel) rfl) X ⟨Nat.zero_le _, Nat.zero_le _⟩ (by decide) (fun k => rfl) ?_
    refine GW_op (s_ald_n (q := 0) (by decide +kernel) rfl) X ⟨Nat.zero_le _, Nat.zero_le _⟩ (by decide) (fun k => rfl) ?_
    refine GW_op (g_11_14 (by decide +kernel) fl_RX11_29) X ⟨Nat.zero_le _, Nat.zero_le _⟩ (by decide) (q_gR (by rw [hKC]; decide) h14) ?_
    refine GW_op (g_6_4 (by decide +kernel) fl_RX11_200) X ⟨Nat.zero_le _, Nat.zero_le _⟩ (by decide) (q_gI (by rw [hKC]; rcases hP0 with rfl | rfl | rfl | rfl <;> decide)) ?_
    rcases hT with hv | ⟨hv, hx⟩
    · refine GW_op (s_cmpge (off := 12) (t := 24) (by decide +kernel) (by decide)) X ⟨Nat.zero_le _, Nat.zero_le _⟩ (by decide) (fun k => if_pos hv) ?_
      exact go
    · refine GW_op (s_cmpge (off := 12) (t := 24) (by decide +kernel) (by decide)) X ⟨Nat.zero_le _, Nat.zero_le _⟩ (by decide) (fun k => if_neg hv) ?_
      refine GW_op (s_ild_n (q := 2) (by decide +kernel) rfl) X ⟨Nat.zero_le _, Nat.zero_le _⟩ (by decide) (fun k => rfl) ?_
      rcases hx with hx | ⟨hx, hy⟩
      · refine GW_op (s_iflt (off := 8) (t := 24) (by decide +kernel) (by decide)) X ⟨Nat.zero_le _, Nat.zero_le _⟩ (by decide) (fun k => if_pos hx) ?_
        exact go
      · refine GW_op (s_iflt (off := 8) (t := 24) (by decide +kernel) (by decide)) X ⟨Nat.zero_le _, Nat.zero_le _⟩ (by decide) (fun k => if_neg hx) ?_
        refine GW_op (s_ild_n (q := 2) (by decide +kernel) rfl) X ⟨Nat.zero_le _, Nat.zero_le _⟩ (by decide) (fun k => rfl) ?_
        refine GW_op (s_iconst (n := 3) (v := 3) (by decide +kernel) (by decide)) X ⟨Nat.zero_le _, Nat.zero_le _⟩ (by decide) (fun k => rfl) ?_
        refine GW_op (s_cmple (off := 11) (t := 32) (by decide +kernel) (by decide)) X ⟨Nat.zero_le _, Nat.zero_le _⟩ (by decide) (fun k => if_neg hy) ?_
        exact go
