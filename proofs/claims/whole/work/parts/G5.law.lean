/-! the law's cases -/
abbrev c0L_ : Cond := .initialized RX11
def LX_ (p : Program) (l : Launch) (s : State) (m : MethodId) (args : Array Value) (meth : Method) (c : Code) (E : En_) (L : Nat) (xs : Nat → Int32) : Prop := Fx_ p s m args meth c E RL cL_law 7 (some .boolean) (c0L_ :: G_) ∧ E.2.2.2.1 = KC ∧ EOK_ E ∧ (va_X (E.2.2.1 247) L xs s s.heap ∧ E.2.2.1 247 < s.heap.size ∧ ¬ A_ E s.heap.size (E.2.2.1 247)) ∧ TZ_ (A_ E s.heap.size) s s.heap ∧ l.stackTraces = false ∧ L ≤ 3072
abbrev lwo_ (n : Nat) (x5 x6 : Option Value) : Lo_ := [some (.ref 247), some (.ref 0), some (.ref 219), some (.ref 246), some (.int (nI n)), x5, x6]
theorem lg_same (x : Int64) : lg_cmp x x = 0 := by
  unfold lg_cmp
  rw [if_neg (by simp), if_pos rfl]
theorem th_thrown (σ : St_) : f_X12_thrown KC [.ref 219] σ = some (some (.int (σ.1 219 0)), σ) := z_X12_thrown (e_X12_thrown_0 rfl)
theorem q_tsw {a b : Int} {d pc j t : Nat} {ts : List Nat} {x : Int32} {lo : Lo_} {r : List Value} {σ : St_} (hc : ¬ (x.toInt < a ∨ b < x.toInt)) (hj : (x.toInt - a).toNat = j) (ht : ts[j]? = some t) (k : Ct_) : o_tsw a b d ts k pc lo (.int x :: r) σ = k t lo r σ := by
  unfold o_tsw
  dsimp only
  rw [if_neg hc, hj, ht]
section LAW
variable {p : Program} {l : Launch} {e : Env} {s : State} {m : MethodId} {args : Array Value} {below : List Frame} {meth : Method} {c : Code} {E : En_} {L : Nat} {xs : Nat → Int32} {cl sl : Nat} {Q : State → Prop}
theorem gl_sld (h : LX_ p l s m args meth c E L xs) {pc : Nat} {lo : Lo_} {st : List Value} {σ : St_} {i : Int32} (hi : vpin_ i L = true) (hd : decode cL_law pc = .ok (.iaload, 1)) (hk : GW_ p l e room_1 s m args below meth c E 7 cl sl Q (pc + 1) lo (.int (xs i.toNatClampNeg) :: st) σ) : GW_ p l e room_1 s m args below meth c E 7 cl sl Q pc lo (.int i :: .ref 247 :: st) σ := by
  obtain ⟨⟨hx, hb, -⟩, -, -, ⟨hX, hbl, hA⟩, -⟩ := h
  exact fun H locs ls hP hS hl => va_sld hx hb hX hbl hA hS (vpin_t hi) hd (hk H locs ls hP hS hl)
theorem gl_slen (h : LX_ p l s m args meth c E L xs) {pc : Nat} {lo : Lo_} {st : List Value} {σ : St_} (hd : decode cL_law pc = .ok (.arraylength, 1)) (hk : GW_ p l e room_1 s m args below meth c E 7 cl sl Q (pc + 1) lo (.int (Int32.ofNat L) :: st) σ) : GW_ p l e room_1 s m args below meth c E 7 cl sl Q pc lo (.ref 247 :: st) σ := by
  obtain ⟨⟨hx, hb, -⟩, -, -, ⟨hX, hbl, hA⟩, -⟩ := h
  exact fun H locs ls hP hS hl => va_slen hx hb hX hbl hA hS hd (hk H locs ls hP hS hl)
theorem gl_arg (h : LX_ p l s m args meth c E L xs) (hcs : cl ≤ room_1.cells ∧ sl ≤ room_1.slots) {n q pc : Nat} {k : Int} {x5 x6 : Option Value} {st : List Value} {σ : St_} (d0 : decode cL_law pc = .ok (.aload_n 0, 1)) (d1 : decode cL_law (pc + 1) = .ok (.iload 4, 2)) (d2 : decode cL_law (pc + 1 + 2) = .ok (.iconst k, 1)) (d3 : decode cL_law (pc + 1 + 2 + 1) = .ok (.iadd, 1)) (d4 : decode cL_law (pc + 1 + 2 + 1 + 1) = .ok (.iaload, 1)) (hv : Int32.ofInt k = nI q) (hin : n + q < L) (hk : GW_ p l e room_1 s m args below meth c E 7 cl sl Q (pc + 6) (lwo_ n x5 x6) (.int (xs (n + q)) :: st) σ) : GW_ p l e room_1 s m args below meth c E 7 cl sl Q pc (lwo_ n x5 x6) st σ := by
  have hL : L ≤ 3072 := h.2.2.2.2.2.2
  refine GW_op (s_ald_n (q := 0) d0 rfl) h.1 hcs (by decide) (fun k => rfl) ?_
  refine GW_op (s_ild d1) h.1 hcs (by decide) (fun k => rfl) ?_
  refine GW_op (s_iconst d2 hv) h.1 hcs (by decide) (fun k => rfl) ?_
  refine GW_op (s_iadd d3) h.1 hcs (by decide) (fun k => rfl) ?_
  rw [nI_add]
  refine gl_sld h (vpin_n hin) d4 ?_
  rw [nI_clamp (by omega)]
  exact hk
theorem gl_w {n pc : Nat} {lo : Lo_} {st : List Value} {σ : St_} (hk : GW_ p l e room_1 s m args below meth c E 7 (cl + 1) (sl + 6) Q pc lo st σ) : GW_ p l e room_1 s m args below meth c E 7 cl sl Q pc lo st σ := fun H locs ls hP hS hl => W.widen (Nat.le_succ _) (Nat.le_add_right _ _) (hk H locs ls hP hS hl)
set_option maxRecDepth 100000 in
theorem lc_feed (h : LX_ p l s m args meth c E L xs) (hcs : cl + 1 ≤ room_1.cells ∧ sl + 6 ≤ room_1.slots) {n : Nat} (hn : n + 6 ≤ L) {x5 x6 : Option Value} {σ : St_} (hG : GI_ σ) (hend : ∀ x5 x6 σ1, GI_ σ1 → GW_ p l e room_1 s m args below meth c E 7 (cl + 1) (sl + 6) Q 1277 (lwo_ n x5 x6) [] σ1) : GW_ p l e room_1 s m args below meth c E 7 cl sl Q 200 (lwo_ n x5 x6) [] σ := by
  have hcs0 : cl ≤ room_1.cells ∧ sl ≤ room_1.slots := ⟨by omega, by omega⟩
  obtain ⟨v, τ1, τ2, h1, h2, h3⟩ := gs_feed hG (xs (n + 1)) (xs (n + 2)) (xs (n + 3)) (xs (n + 4)) (xs (n + 5))
  refine GW_op (s_ald_n (q := 1) (by decide +kernel) rfl) h.1 hcs0 (by decide) (fun k => rfl) ?_
  refine gl_arg h hcs0 (q := 1) (k := 1) (by decide +kernel) (by decide +kernel) (by decide +kernel) (by decide +kernel) (by decide +kernel) (by decide) (by omega) ?_
  refine gl_arg h hcs0 (q := 2) (k := 2) (by decide +kernel) (by decide +kernel) (by decide +kernel) (by decide +kernel) (by decide +kernel) (by decide) (by omega) ?_
  refine gl_arg h hcs0 (q := 3) (k := 3) (by decide +kernel) (by decide +kernel) (by decide +kernel) (by decide +kernel) (by decide +kernel) (by decide) (by omega) ?_
  refine gl_arg h hcs0 (q := 4) (k := 4) (by decide +kernel) (by decide +kernel) (by decide +kernel) (by decide +kernel) (by decide +kernel) (by decide) (by omega) ?_
  refine gl_arg h hcs0 (q := 5) (k := 5) (by decide +kernel) (by decide +kernel) (by decide +kernel) (by decide +kernel) (by decide +kernel) (by decide) (by omega) ?_
  refine GW_op (s_callV (ci := 11) (by decide +kernel) (t_X11_feed h.2.2.1) cl_X11_feed ml_RL_25 im_X11_feed se_X11_feed (by decide) rfl ⟨by decide, by decide⟩) h.1 hcs0 (by decide) (q_callV (b := 0) (r := []) (as := [.ref 0, .int (xs (n + 1)), .int (xs (n + 2)), .int (xs (n + 3)), .int (xs (n + 4)), .int (xs (n + 5))]) rfl ⟨by rw [h.2.1]; decide, Nat.le_of_ble_eq_true rfl⟩ rfl (by rw [h.2.1]; exact h1)) ?_
  refine GW_op (s_ald_n (q := 2) (by decide +kernel) rfl) h.1 hcs0 (by decide) (fun k => rfl) ?_
  refine gl_arg h hcs0 (q := 1) (k := 1) (by decide +kernel) (by decide +kernel) (by decide +kernel) (by decide +kernel) (by decide +kernel) (by decide) (by omega) ?_
  refine gl_arg h hcs0 (q := 2) (k := 2) (by decide +kernel) (by decide +kernel) (by decide +kernel) (by decide +kernel) (by decide +kernel) (by decide) (by omega) ?_
  refine gl_arg h hcs0 (q := 3) (k := 3) (by decide +kernel) (by decide +kernel) (by decide +kernel) (by decide +kernel) (by decide +kernel) (by decide) (by omega) ?_
  refine gl_arg h hcs0 (q := 4) (k := 4) (by decide +kernel) (by decide +kernel) (by decide +kernel) (by decide +kernel) (by decide +kernel) (by decide) (by omega) ?_
  refine gl_arg h hcs0 (q := 5) (k := 5) (by decide +kernel) (by decide +kernel) (by decide +kernel) (by decide +kernel) (by decide +kernel) (by decide) (by omega) ?_
  refine GW_op (s_callV (ci := 12) (by decide +kernel) (t_X12_feed h.2.2.1) cl_X12_feed ml_RL_29 im_X12_feed se_X12_feed (by decide) rfl ⟨by decide, by decide⟩) h.1 hcs0 (by decide) (q_callV (b := 219) (r := [.int v]) (as := [.ref 219, .int (xs (n + 1)), .int (xs (n + 2)), .int (xs (n + 3)), .int (xs (n + 4)), .int (xs (n + 5))]) rfl ⟨by rw [h.2.1]; decide, Nat.le_of_ble_eq_true rfl⟩ rfl (by rw [h.2.1]; exact h2)) ?_
  refine GW_op (s_cmpeq (off := 1009) (t := 1277) (by decide +kernel) (by decide)) h.1 hcs0 (by decide) (fun k => if_pos rfl) ?_
  exact gl_w (n := n) (hend _ _ _ h3)
set_option maxRecDepth 100000 in
theorem lc_end (h : LX_ p l s m args meth c E L xs) (hcs : cl + 1 ≤ room_1.cells ∧ sl + 6 ≤ room_1.slots) {n : Nat} (hn : n + 6 ≤ L) {x5 x6 : Option Value} {σ : St_} (hG : GI_ σ) (hend : ∀ x5 x6 σ1, GI_ σ1 → GW_ p l e room_1 s m args below meth c E 7 (cl + 1) (sl + 6) Q 1277 (lwo_ n x5 x6) [] σ1) : GW_ p l e room_1 s m args below meth c E 7 cl sl Q 273 (lwo_ n x5 x6) [] σ := by
  have hcs0 : cl ≤ room_1.cells ∧ sl ≤ room_1.slots := ⟨by omega, by omega⟩
  obtain ⟨v, τ1, τ2, h1, h2, h3⟩ := gs_end hG (xs (n + 1))
  refine GW_op (s_ald_n (q := 1) (by decide +kernel) rfl) h.1 hcs0 (by decide) (fun k => rfl) ?_
  refine gl_arg h hcs0 (q := 1) (k := 1) (by decide +kernel) (by decide +kernel) (by decide +kernel) (by decide +kernel) (by decide +kernel) (by decide) (by omega) ?_
  refine GW_op (s_callV (ci := 11) (by decide +kernel) (t_X11_end h.2.2.1) cl_X11_end ml_RL_30 im_X11_end se_X11_end (by decide) rfl ⟨by decide, by decide⟩) h.1 hcs0 (by decide) (q_callV (b := 0) (r := []) (as := [.ref 0, .int (xs (n + 1))]) rfl ⟨by rw [h.2.1]; decide, Nat.le_of_ble_eq_true rfl⟩ rfl (by rw [h.2.1]; exact h1)) ?_
  refine GW_op (s_ald_n (q := 2) (by decide +kernel) rfl) h.1 hcs0 (by decide) (fun k => rfl) ?_
  refine gl_arg h hcs0 (q := 1) (k := 1) (by decide +kernel) (by decide +kernel) (by decide +kernel) (by decide +kernel) (by decide +kernel) (by decide) (by omega) ?_
  refine GW_op (s_callV (ci := 12) (by decide +kernel) (t_X12_end h.2.2.1) cl_X12_end ml_RL_34 im_X12_end se_X12_end (by decide) rfl ⟨by decide, by decide⟩) h.1 hcs0 (by decide) (q_callV (b := 219) (r := [.int v]) (as := [.ref 219, .int (xs (n + 1))]) rfl ⟨by rw [h.2.1]; decide, Nat.le_of_ble_eq_true rfl⟩ rfl (by rw [h.2.1]; exact h2)) ?_
  refine GW_op (s_cmpeq (off := 984) (t := 1277) (by decide +kernel) (by decide)) h.1 hcs0 (by decide) (fun k => if_pos rfl) ?_
  exact gl_w (n := n) (hend _ _ _ h3)
set_option maxRecDepth 100000 in
theorem lc_book (h : LX_ p l s m args meth c E L xs) (hcs : cl + 1 ≤ room_1.cells ∧ sl + 6 ≤ room_1.slots) {n : Nat} (hn : n + 6 ≤ L) {x5 x6 : Option Value} {σ : St_} (hG : GI_ σ) (hend : ∀ x5 x6 σ1, GI_ σ1 → GW_ p l e room_1 s m args below meth c E 7 (cl + 1) (sl + 6) Q 1277 (lwo_ n x5 x6) [] σ1) : GW_ p l e room_1 s m args below meth c E 7 cl sl Q 298 (lwo_ n x5 x6) [] σ := by
  have hcs0 : cl ≤ room_1.cells ∧ sl ≤ room_1.slots := ⟨by omega, by omega⟩
  obtain ⟨v, τ1, τ2, h1, h2, h3⟩ := gs_book hG
  refine GW_op (s_ald_n (q := 1) (by decide +kernel) rfl) h.1 hcs0 (by decide) (fun k => rfl) ?_
  refine GW_op (s_callV (ci := 11) (by decide +kernel) (t_X11_book h.2.2.1) cl_X11_book ml_RL_35 im_X11_book se_X11_book (by decide) rfl ⟨by decide, by decide⟩) h.1 hcs0 (by decide) (q_callV (b := 0) (r := []) (as := [.ref 0]) rfl ⟨by rw [h.2.1]; decide, Nat.le_of_ble_eq_true rfl⟩ rfl (by rw [h.2.1]; exact h1)) ?_
  refine GW_op (s_ald_n (q := 2) (by decide +kernel) rfl) h.1 hcs0 (by decide) (fun k => rfl) ?_
  refine GW_op (s_callV (ci := 12) (by decide +kernel) (t_X12_book h.2.2.1) cl_X12_book ml_RL_39 im_X12_book se_X12_book (by decide) rfl ⟨by decide, by decide⟩) h.1 hcs0 (by decide) (q_callV (b := 219) (r := [.int v]) (as := [.ref 219]) rfl ⟨by rw [h.2.1]; decide, Nat.le_of_ble_eq_true rfl⟩ rfl (by rw [h.2.1]; exact h2)) ?_
  refine GW_op (s_cmpeq (off := 971) (t := 1277) (by decide +kernel) (by decide)) h.1 hcs0 (by decide) (fun k => if_pos rfl) ?_
  exact gl_w (n := n) (hend _ _ _ h3)
set_option maxRecDepth 100000 in
theorem lc_fault (h : LX_ p l s m args meth c E L xs) (hcs : cl + 1 ≤ room_1.cells ∧ sl + 6 ≤ room_1.slots) {n : Nat} (hn : n + 6 ≤ L) {x5 x6 : Option Value} {σ : St_} (hG : GI_ σ) (hend : ∀ x5 x6 σ1, GI_ σ1 → GW_ p l e room_1 s m args below meth c E 7 (cl + 1) (sl + 6) Q 1277 (lwo_ n x5 x6) [] σ1) : GW_ p l e room_1 s m args below meth c E 7 cl sl Q 311 (lwo_ n x5 x6) [] σ := by
  have hcs0 : cl ≤ room_1.cells ∧ sl ≤ room_1.slots := ⟨by omega, by omega⟩
  obtain ⟨v, τ1, τ2, h1, h2, h3⟩ := gs_fault hG
  refine GW_op (s_ald_n (q := 1) (by decide +kernel) rfl) h.1 hcs0 (by decide) (fun k => rfl) ?_
  refine GW_op (s_callV (ci := 11) (by decide +kernel) (t_X11_fault h.2.2.1) cl_X11_fault ml_RL_40 im_X11_fault se_X11_fault (by decide) rfl ⟨by decide, by decide⟩) h.1 hcs0 (by decide) (q_callV (b := 0) (r := []) (as := [.ref 0]) rfl ⟨by rw [h.2.1]; decide, Nat.le_of_ble_eq_true rfl⟩ rfl (by rw [h.2.1]; exact h1)) ?_
  refine GW_op (s_ald_n (q := 2) (by decide +kernel) rfl) h.1 hcs0 (by decide) (fun k => rfl) ?_
  refine GW_op (s_callV (ci := 12) (by decide +kernel) (t_X12_fault h.2.2.1) cl_X12_fault ml_RL_43 im_X12_fault se_X12_fault (by decide) rfl ⟨by decide, by decide⟩) h.1 hcs0 (by decide) (q_callV (b := 219) (r := [.int v]) (as := [.ref 219]) rfl ⟨by rw [h.2.1]; decide, Nat.le_of_ble_eq_true rfl⟩ rfl (by rw [h.2.1]; exact h2)) ?_
  refine GW_op (s_cmpeq (off := 958) (t := 1277) (by decide +kernel) (by decide)) h.1 hcs0 (by decide) (fun k => if_pos rfl) ?_
  exact gl_w (n := n) (hend _ _ _ h3)
theorem gin_chap : GoodIn (c0L_ :: G_) (va_wsS RL 44 yL_chap (Cond.codeWith yL_chap cL_chap 5 (some .int) [(0, 10, 13, 13)] :: G_)) := by
  have key : ∀ {w}, w ∈ G_ → w ∈ (c0L_ :: G_ : List Cond) ∧ ((w.onTables && w.keeps) = true ∨ ∃ ty, w = .arrayClass ty) := fun h => ⟨List.mem_cons_of_mem _ h, G_good h⟩
  intro w hw
  refine key ?_
  unfold va_wsS at hw
  rcases List.mem_append.mp hw with hw | hw
  · rcases List.mem_cons.mp hw with rfl | hw
    · exact ml_RL_44
    · rcases List.mem_cons.mp hw with rfl | hw
      · exact G_6 (i := 43) rfl rfl
      · rcases List.mem_cons.mp hw with rfl | hw
        · exact G_1 (i := 0) rfl rfl
        · cases hw
  · rcases List.mem_cons.mp hw with rfl | hw
    · exact G_6 (i := 44) rfl rfl
    · exact hw
set_option maxRecDepth 100000 in
theorem lc_chap (h : LX_ p l s m args meth c E L xs) (hcs : cl + 1 ≤ room_1.cells ∧ sl + 6 ≤ room_1.slots) {n : Nat} (hn : n + 6 ≤ L) {x5 x6 : Option Value} {σ : St_} (hG : GI_ σ) (hend : ∀ x5 x6 σ1, GI_ σ1 → GW_ p l e room_1 s m args below meth c E 7 (cl + 1) (sl + 6) Q 1277 (lwo_ n x5 x6) [] σ1) : GW_ p l e room_1 s m args below meth c E 7 cl sl Q 324 (lwo_ n x5 x6) [] σ := by
  have hcs0 : cl ≤ room_1.cells ∧ sl ≤ room_1.slots := ⟨by omega, by omega⟩
  refine GW_op (s_ald_n (q := 1) (by decide +kernel) rfl) h.1 hcs0 (by decide) (fun k => rfl) ?_
  refine gl_arg h hcs0 (q := 1) (k := 1) (by decide +kernel) (by decide +kernel) (by decide +kernel) (by decide +kernel) (by decide +kernel) (by decide) (by omega) ?_
  refine gl_arg h hcs0 (q := 2) (k := 2) (by decide +kernel) (by decide +kernel) (by decide +kernel) (by decide +kernel) (by decide +kernel) (by decide) (by omega) ?_
  refine GW_op (s_ald_n (q := 3) (by decide +kernel) rfl) h.1 hcs0 (by decide) (fun k => rfl) ?_
  obtain ⟨⟨hx, hb, hml, hown, hts, hK, hr, hlk, hE⟩, hKC, -, -, hZ, hfl, -⟩ := id h
  rcases two_chap hG (xs (n + 1)) (xs (n + 2)) with ⟨v, h1, τ2, h2, h3, hv, h4⟩ | ⟨hT, τ2, h2, h3, h4⟩
  · have key : GW_ p l e room_1 s m args below meth c E 7 (cl + 0) (sl + 0) Q 341 (lwo_ n x5 x6) [.int 0] (sJ_ σ 246 0 v.toInt64) := by
      have hq : lg_cmp (τ2.2.1 246 (Int32.toNatClampNeg 0)) v.toInt64 = 0 := by rw [show τ2.2.1 246 (Int32.toNatClampNeg 0) = v.toInt64 from hv]; exact lg_same _
      refine GW_op (s_ist (i := 5) (by decide +kernel)) h.1 hcs0 (by decide) (fun k => rfl) ?_
      refine GW_op (s_ald_n (q := 2) (by decide +kernel) rfl) h.1 hcs0 (by decide) (fun k => rfl) ?_
      refine gl_arg h hcs0 (q := 1) (k := 1) (by decide +kernel) (by decide +kernel) (by decide +kernel) (by decide +kernel) (by decide +kernel) (by decide) (by omega) ?_
      refine gl_arg h hcs0 (q := 2) (k := 2) (by decide +kernel) (by decide +kernel) (by decide +kernel) (by decide +kernel) (by decide +kernel) (by decide) (by omega) ?_
      refine GW_op (s_callV (ci := 12) (by decide +kernel) (t_X12_chap h.2.2.1) cl_X12_chap ml_RL_49 im_X12_chap se_X12_chap (by decide) rfl ⟨by decide, by decide⟩) h.1 hcs0 (by decide) (q_callV (b := 219) (r := []) (as := [.ref 219, .int (xs (n + 1)), .int (xs (n + 2))]) rfl ⟨by rw [h.2.1]; decide, Nat.le_of_ble_eq_true rfl⟩ rfl (by rw [h.2.1]; exact h2)) ?_
      refine GW_op (s_ist (i := 6) (by decide +kernel)) h.1 hcs0 (by decide) (fun k => rfl) ?_
      refine GW_op (s_ald_n (q := 2) (by decide +kernel) rfl) h.1 hcs0 (by decide) (fun k => rfl) ?_
      refine GW_op (s_callV (ci := 12) (by decide +kernel) (t_X12_thrown h.2.2.1) cl_X12_thrown ml_RL_50 im_X12_thrown se_X12_thrown (by decide) rfl ⟨by decide, by decide⟩) h.1 hcs0 (by decide) (q_callV (b := 219) (r := []) (as := [.ref 219]) rfl ⟨by rw [h.2.1]; decide, Nat.le_of_ble_eq_true rfl⟩ rfl (by rw [h.2.1]; exact th_thrown _)) ?_
      refine GW_op (s_ild (i := 5) (by decide +kernel)) h.1 hcs0 (by decide) (fun k => rfl) ?_
      refine GW_op (s_cmpeq (off := 5) (t := 372) (by decide +kernel) (by decide)) h.1 hcs0 (by decide) (fun k => if_pos h3) ?_
      refine GW_op (s_ild (i := 5) (by decide +kernel)) h.1 hcs0 (by decide) (fun k => rfl) ?_
      refine GW_op (s_ifne (off := 15) (t := 389) (by decide +kernel) (by decide)) h.1 hcs0 (by decide) (fun k => rfl) ?_
      refine GW_op (s_ald_n (q := 3) (by decide +kernel) rfl) h.1 hcs0 (by decide) (fun k => rfl) ?_
      refine GW_op (s_iconst (n := 0) (v := 0) (by decide +kernel) (by decide)) h.1 hcs0 (by decide) (fun k => rfl) ?_
      refine GW_op (s_lald (by decide +kernel)) h.1 hcs0 (by decide) (q_lald ⟨by rw [h.2.1]; decide, by rw [h.2.1]; decide⟩) ?_
      refine GW_op (s_ild (i := 6) (by decide +kernel)) h.1 hcs0 (by decide) (fun k => rfl) ?_
      refine GW_op (s_i2l (by decide +kernel)) h.1 hcs0 (by decide) (fun k => rfl) ?_
      refine GW_op (s_lcmp (by decide +kernel)) h.1 hcs0 (by decide) (fun k => rfl) ?_
      refine GW_op (s_ifeq (off := 5) (t := 389) (by decide +kernel) (by decide)) h.1 hcs0 (by decide) (fun k => if_pos hq) ?_
      refine GW_op (s_goto (off := 888) (t := 1277) (by decide +kernel) (by decide)) h.1 hcs0 (by decide) (fun k => rfl) ?_
      exact gl_w (n := n) (hend _ _ _ h4)
    intro H locs ls hP hS hlo
    have hpre := pre_ (av := [.ref (E.2.2.1 0), .int (xs (n + 1)), .int (xs (n + 2)), .ref (E.2.2.1 246)]) hP hK
    have hr2 := vx_runSX (l := l) (m := m) (below := below) (meth := meth) (H := H) (locs := locs) (cells := cl) (slots := sl) (e := e) (R := room_1) (As := [.ref (E.2.2.1 0), .int (xs (n + 1)), .int (xs (n + 2)), .ref (E.2.2.1 246)]) (rest := []) (g := F0 m 338 ls [.ref (E.2.2.1 246), .int (xs (n + 2)), .int (xs (n + 1)), .ref (E.2.2.1 0)]) (index := 44) (own := RL) (y := yL_chap) (bytes := cL_chap) (maxL := 5) (hh := [(0, 10, 13, 13)]) ⟨hx, hb, hml, hown, hts⟩ (hln_chap hE hKC (sz := H.size) h1) (vx_cwSW 4 hts gin_chap rfl rfl rfl (by decide +kernel) ⟨by decide, by decide⟩) hpre rfl rfl hlo.2.1 rfl (Nat.le_of_ble_eq_true rfl) (show decode cL_law 338 = .ok (.invokestatic 44, 3) by decide +kernel) ⟨by omega, by omega⟩
    refine vrun_ (E := E) (out1 := (some (.int 0), sJ_ σ 246 0 v.toInt64)) hr2 (fun _ _ _ z => z) hS (A_mono hS.1) (fun H1 locs1 hP1 hS1 => ?_)
    exact key H1 locs1 ls hP1 hS1 hlo
  · have key : GW_ p l e room_1 s m args below meth c E 7 (cl + 1) (sl + 6) Q 341 (lwo_ n x5 x6) [.int 1] σ := by
      refine GW_op (s_ist (i := 5) (by decide +kernel)) h.1 hcs (by decide) (fun k => rfl) ?_
      refine GW_op (s_ald_n (q := 2) (by decide +kernel) rfl) h.1 hcs (by decide) (fun k => rfl) ?_
      refine gl_arg h hcs (q := 1) (k := 1) (by decide +kernel) (by decide +kernel) (by decide +kernel) (by decide +kernel) (by decide +kernel) (by decide) (by omega) ?_
      refine gl_arg h hcs (q := 2) (k := 2) (by decide +kernel) (by decide +kernel) (by decide +kernel) (by decide +kernel) (by decide +kernel) (by decide) (by omega) ?_
      refine GW_op (s_callV (ci := 12) (by decide +kernel) (t_X12_chap h.2.2.1) cl_X12_chap ml_RL_49 im_X12_chap se_X12_chap (by decide) rfl ⟨by decide, by decide⟩) h.1 hcs (by decide) (q_callV (b := 219) (r := []) (as := [.ref 219, .int (xs (n + 1)), .int (xs (n + 2))]) rfl ⟨by rw [h.2.1]; decide, Nat.le_of_ble_eq_true rfl⟩ rfl (by rw [h.2.1]; exact h2)) ?_
      refine GW_op (s_ist (i := 6) (by decide +kernel)) h.1 hcs (by decide) (fun k => rfl) ?_
      refine GW_op (s_ald_n (q := 2) (by decide +kernel) rfl) h.1 hcs (by decide) (fun k => rfl) ?_
      refine GW_op (s_callV (ci := 12) (by decide +kernel) (t_X12_thrown h.2.2.1) cl_X12_thrown ml_RL_50 im_X12_thrown se_X12_thrown (by decide) rfl ⟨by decide, by decide⟩) h.1 hcs (by decide) (q_callV (b := 219) (r := []) (as := [.ref 219]) rfl ⟨by rw [h.2.1]; decide, Nat.le_of_ble_eq_true rfl⟩ rfl (by rw [h.2.1]; exact th_thrown _)) ?_
      refine GW_op (s_ild (i := 5) (by decide +kernel)) h.1 hcs (by decide) (fun k => rfl) ?_
      refine GW_op (s_cmpeq (off := 5) (t := 372) (by decide +kernel) (by decide)) h.1 hcs (by decide) (fun k => if_pos h3) ?_
      refine GW_op (s_ild (i := 5) (by decide +kernel)) h.1 hcs (by decide) (fun k => rfl) ?_
      refine GW_op (s_ifne (off := 15) (t := 389) (by decide +kernel) (by decide)) h.1 hcs (by decide) (fun k => rfl) ?_
      refine GW_op (s_goto (off := 888) (t := 1277) (by decide +kernel) (by decide)) h.1 hcs (by decide) (fun k => rfl) ?_
      exact hend _ _ _ h4
    intro H locs ls hP hS hlo
    have hpre := preT_ (av := [.ref (E.2.2.1 0), .int (xs (n + 1)), .int (xs (n + 2)), .ref (E.2.2.1 246)]) hP hK hZ hS (A_mono hS.1)
    have hr2 := vx_runSX (l := l) (m := m) (below := below) (meth := meth) (H := H) (locs := locs) (cells := cl) (slots := sl) (e := e) (R := room_1) (As := [.ref (E.2.2.1 0), .int (xs (n + 1)), .int (xs (n + 2)), .ref (E.2.2.1 246)]) (rest := []) (g := F0 m 338 ls [.ref (E.2.2.1 246), .int (xs (n + 2)), .int (xs (n + 1)), .ref (E.2.2.1 0)]) (index := 44) (own := RL) (y := yL_chap) (bytes := cL_chap) (maxL := 5) (hh := [(0, 10, 13, 13)]) ⟨hx, hb, hml, hown, hts⟩ (hlt_chap hE hKC hfl (sz := H.size) hT) (vx_cwSW 4 hts gin_chap rfl rfl rfl (by decide +kernel) ⟨by decide, by decide⟩) hpre rfl rfl hlo.2.1 rfl (Nat.le_of_ble_eq_true rfl) (show decode cL_law 338 = .ok (.invokestatic 44, 3) by decide +kernel) ⟨by omega, by omega⟩
    refine vrun_ (E := E) (out1 := (some (.int 1), σ)) hr2 (fun _ _ _ z => z) hS (A_mono hS.1) (fun H1 locs1 hP1 hS1 => ?_)
    exact key H1 locs1 ls hP1 hS1 hlo
set_option maxRecDepth 100000 in
theorem lc_leans (h : LX_ p l s m args meth c E L xs) (hcs : cl + 1 ≤ room_1.cells ∧ sl + 6 ≤ room_1.slots) {n : Nat} (hn : n + 6 ≤ L) {x5 x6 : Option Value} {σ : St_} (hG : GI_ σ) (hend : ∀ x5 x6 σ1, GI_ σ1 → GW_ p l e room_1 s m args below meth c E 7 (cl + 1) (sl + 6) Q 1277 (lwo_ n x5 x6) [] σ1) : GW_ p l e room_1 s m args below meth c E 7 cl sl Q 392 (lwo_ n x5 x6) [] σ := by
  have hcs0 : cl ≤ room_1.cells ∧ sl ≤ room_1.slots := ⟨by omega, by omega⟩
  obtain ⟨v, τ1, τ2, h1, h2, h3⟩ := gs_leans hG (xs (n + 1)) (xs (n + 2))
  refine GW_op (s_ald_n (q := 1) (by decide +kernel) rfl) h.1 hcs0 (by decide) (fun k => rfl) ?_
  refine gl_arg h hcs0 (q := 1) (k := 1) (by decide +kernel) (by decide +kernel) (by decide +kernel) (by decide +kernel) (by decide +kernel) (by decide) (by omega) ?_
  refine gl_arg h hcs0 (q := 2) (k := 2) (by decide +kernel) (by decide +kernel) (by decide +kernel) (by decide +kernel) (by decide +kernel) (by decide) (by omega) ?_
  refine GW_op (s_callV (ci := 11) (by decide +kernel) (t_X11_leans h.2.2.1) cl_X11_leans ml_RL_53 im_X11_leans se_X11_leans (by decide) rfl ⟨by decide, by decide⟩) h.1 hcs0 (by decide) (q_callV (b := 0) (r := []) (as := [.ref 0, .int (xs (n + 1)), .int (xs (n + 2))]) rfl ⟨by rw [h.2.1]; decide, Nat.le_of_ble_eq_true rfl⟩ rfl (by rw [h.2.1]; exact h1)) ?_
  refine GW_op (s_ald_n (q := 2) (by decide +kernel) rfl) h.1 hcs0 (by decide) (fun k => rfl) ?_
  refine gl_arg h hcs0 (q := 1) (k := 1) (by decide +kernel) (by decide +kernel) (by decide +kernel) (by decide +kernel) (by decide +kernel) (by decide) (by omega) ?_
  refine gl_arg h hcs0 (q := 2) (k := 2) (by decide +kernel) (by decide +kernel) (by decide +kernel) (by decide +kernel) (by decide +kernel) (by decide) (by omega) ?_
  refine GW_op (s_callV (ci := 12) (by decide +kernel) (t_X12_leans h.2.2.1) cl_X12_leans ml_RL_56 im_X12_leans se_X12_leans (by decide) rfl ⟨by decide, by decide⟩) h.1 hcs0 (by decide) (q_callV (b := 219) (r := [.int v]) (as := [.ref 219, .int (xs (n + 1)), .int (xs (n + 2))]) rfl ⟨by rw [h.2.1]; decide, Nat.le_of_ble_eq_true rfl⟩ rfl (by rw [h.2.1]; exact h2)) ?_
  refine GW_op (s_cmpeq (off := 853) (t := 1277) (by decide +kernel) (by decide)) h.1 hcs0 (by decide) (fun k => if_pos rfl) ?_
  exact gl_w (n := n) (hend _ _ _ h3)
theorem gin_reader : GoodIn (c0L_ :: G_) (va_wsS RL 57 yL_reader (Cond.codeWith yL_reader cL_reader 5 (some .int) [(0, 10, 13, 13)] :: G_)) := by
  have key : ∀ {w}, w ∈ G_ → w ∈ (c0L_ :: G_ : List Cond) ∧ ((w.onTables && w.keeps) = true ∨ ∃ ty, w = .arrayClass ty) := fun h => ⟨List.mem_cons_of_mem _ h, G_good h⟩
  intro w hw
  refine key ?_
  unfold va_wsS at hw
  rcases List.mem_append.mp hw with hw | hw
  · rcases List.mem_cons.mp hw with rfl | hw
    · exact ml_RL_57
    · rcases List.mem_cons.mp hw with rfl | hw
      · exact G_6 (i := 116) rfl rfl
      · rcases List.mem_cons.mp hw with rfl | hw
        · exact G_1 (i := 0) rfl rfl
        · cases hw
  · rcases List.mem_cons.mp hw with rfl | hw
    · exact G_6 (i := 117) rfl rfl
    · exact hw
set_option maxRecDepth 100000 in
theorem lc_reader (h : LX_ p l s m args meth c E L xs) (hcs : cl + 1 ≤ room_1.cells ∧ sl + 6 ≤ room_1.slots) {n : Nat} (hn : n + 6 ≤ L) {x5 x6 : Option Value} {σ : St_} (hG : GI_ σ) (hend : ∀ x5 x6 σ1, GI_ σ1 → GW_ p l e room_1 s m args below meth c E 7 (cl + 1) (sl + 6) Q 1277 (lwo_ n x5 x6) [] σ1) : GW_ p l e room_1 s m args below meth c E 7 cl sl Q 429 (lwo_ n x5 x6) [] σ := by
  have hcs0 : cl ≤ room_1.cells ∧ sl ≤ room_1.slots := ⟨by omega, by omega⟩
  refine GW_op (s_ald_n (q := 1) (by decide +kernel) rfl) h.1 hcs0 (by decide) (fun k => rfl) ?_
  refine gl_arg h hcs0 (q := 1) (k := 1) (by decide +kernel) (by decide +kernel) (by decide +kernel) (by decide +kernel) (by decide +kernel) (by decide) (by omega) ?_
  refine gl_arg h hcs0 (q := 2) (k := 2) (by decide +kernel) (by decide +kernel) (by decide +kernel) (by decide +kernel) (by decide +kernel) (by decide) (by omega) ?_
  refine GW_op (s_ald_n (q := 3) (by decide +kernel) rfl) h.1 hcs0 (by decide) (fun k => rfl) ?_
  obtain ⟨⟨hx, hb, hml, hown, hts, hK, hr, hlk, hE⟩, hKC, -, -, hZ, hfl, -⟩ := id h
  rcases two_reader hG (xs (n + 1)) (xs (n + 2)) with ⟨v, h1, τ2, h2, h3, hv, h4⟩ | ⟨hT, τ2, h2, h3, h4⟩
  · have key : GW_ p l e room_1 s m args below meth c E 7 (cl + 0) (sl + 0) Q 446 (lwo_ n x5 x6) [.int 0] (sJ_ σ 246 0 v.toInt64) := by
      have hq : lg_cmp (τ2.2.1 246 (Int32.toNatClampNeg 0)) v.toInt64 = 0 := by rw [show τ2.2.1 246 (Int32.toNatClampNeg 0) = v.toInt64 from hv]; exact lg_same _
      refine GW_op (s_ist (i := 5) (by decide +kernel)) h.1 hcs0 (by decide) (fun k => rfl) ?_
      refine GW_op (s_ald_n (q := 2) (by decide +kernel) rfl) h.1 hcs0 (by decide) (fun k => rfl) ?_
      refine gl_arg h hcs0 (q := 1) (k := 1) (by decide +kernel) (by decide +kernel) (by decide +kernel) (by decide +kernel) (by decide +kernel) (by decide) (by omega) ?_
      refine gl_arg h hcs0 (q := 2) (k := 2) (by decide +kernel) (by decide +kernel) (by decide +kernel) (by decide +kernel) (by decide +kernel) (by decide) (by omega) ?_
      refine GW_op (s_callV (ci := 12) (by decide +kernel) (t_X12_reader h.2.2.1) cl_X12_reader ml_RL_59 im_X12_reader se_X12_reader (by decide) rfl ⟨by decide, by decide⟩) h.1 hcs0 (by decide) (q_callV (b := 219) (r := []) (as := [.ref 219, .int (xs (n + 1)), .int (xs (n + 2))]) rfl ⟨by rw [h.2.1]; decide, Nat.le_of_ble_eq_true rfl⟩ rfl (by rw [h.2.1]; exact h2)) ?_
      refine GW_op (s_ist (i := 6) (by decide +kernel)) h.1 hcs0 (by decide) (fun k => rfl) ?_
      refine GW_op (s_ald_n (q := 2) (by decide +kernel) rfl) h.1 hcs0 (by decide) (fun k => rfl) ?_
      refine GW_op (s_callV (ci := 12) (by decide +kernel) (t_X12_thrown h.2.2.1) cl_X12_thrown ml_RL_50 im_X12_thrown se_X12_thrown (by decide) rfl ⟨by decide, by decide⟩) h.1 hcs0 (by decide) (q_callV (b := 219) (r := []) (as := [.ref 219]) rfl ⟨by rw [h.2.1]; decide, Nat.le_of_ble_eq_true rfl⟩ rfl (by rw [h.2.1]; exact th_thrown _)) ?_
      refine GW_op (s_ild (i := 5) (by decide +kernel)) h.1 hcs0 (by decide) (fun k => rfl) ?_
      refine GW_op (s_cmpeq (off := 5) (t := 477) (by decide +kernel) (by decide)) h.1 hcs0 (by decide) (fun k => if_pos h3) ?_
      refine GW_op (s_ild (i := 5) (by decide +kernel)) h.1 hcs0 (by decide) (fun k => rfl) ?_
      refine GW_op (s_ifne (off := 15) (t := 494) (by decide +kernel) (by decide)) h.1 hcs0 (by decide) (fun k => rfl) ?_
      refine GW_op (s_ald_n (q := 3) (by decide +kernel) rfl) h.1 hcs0 (by decide) (fun k => rfl) ?_
      refine GW_op (s_iconst (n := 0) (v := 0) (by decide +kernel) (by decide)) h.1 hcs0 (by decide) (fun k => rfl) ?_
      refine GW_op (s_lald (by decide +kernel)) h.1 hcs0 (by decide) (q_lald ⟨by rw [h.2.1]; decide, by rw [h.2.1]; decide⟩) ?_
      refine GW_op (s_ild (i := 6) (by decide +kernel)) h.1 hcs0 (by decide) (fun k => rfl) ?_
      refine GW_op (s_i2l (by decide +kernel)) h.1 hcs0 (by decide) (fun k => rfl) ?_
      refine GW_op (s_lcmp (by decide +kernel)) h.1 hcs0 (by decide) (fun k => rfl) ?_
      refine GW_op (s_ifeq (off := 5) (t := 494) (by decide +kernel) (by decide)) h.1 hcs0 (by decide) (fun k => if_pos hq) ?_
      refine GW_op (s_goto (off := 783) (t := 1277) (by decide +kernel) (by decide)) h.1 hcs0 (by decide) (fun k => rfl) ?_
      exact gl_w (n := n) (hend _ _ _ h4)
    intro H locs ls hP hS hlo
    have hpre := pre_ (av := [.ref (E.2.2.1 0), .int (xs (n + 1)), .int (xs (n + 2)), .ref (E.2.2.1 246)]) hP hK
    have hr2 := vx_runSX (l := l) (m := m) (below := below) (meth := meth) (H := H) (locs := locs) (cells := cl) (slots := sl) (e := e) (R := room_1) (As := [.ref (E.2.2.1 0), .int (xs (n + 1)), .int (xs (n + 2)), .ref (E.2.2.1 246)]) (rest := []) (g := F0 m 443 ls [.ref (E.2.2.1 246), .int (xs (n + 2)), .int (xs (n + 1)), .ref (E.2.2.1 0)]) (index := 57) (own := RL) (y := yL_reader) (bytes := cL_reader) (maxL := 5) (hh := [(0, 10, 13, 13)]) ⟨hx, hb, hml, hown, hts⟩ (hln_reader hE hKC (sz := H.size) h1) (vx_cwSW 4 hts gin_reader rfl rfl rfl (by decide +kernel) ⟨by decide, by decide⟩) hpre rfl rfl hlo.2.1 rfl (Nat.le_of_ble_eq_true rfl) (show decode cL_law 443 = .ok (.invokestatic 57, 3) by decide +kernel) ⟨by omega, by omega⟩
    refine vrun_ (E := E) (out1 := (some (.int 0), sJ_ σ 246 0 v.toInt64)) hr2 (fun _ _ _ z => z) hS (A_mono hS.1) (fun H1 locs1 hP1 hS1 => ?_)
    exact key H1 locs1 ls hP1 hS1 hlo
  · have key : GW_ p l e room_1 s m args below meth c E 7 (cl + 1) (sl + 6) Q 446 (lwo_ n x5 x6) [.int 1] σ := by
      refine GW_op (s_ist (i := 5) (by decide +kernel)) h.1 hcs (by decide) (fun k => rfl) ?_
      refine GW_op (s_ald_n (q := 2) (by decide +kernel) rfl) h.1 hcs (by decide) (fun k => rfl) ?_
      refine gl_arg h hcs (q := 1) (k := 1) (by decide +kernel) (by decide +kernel) (by decide +kernel) (by decide +kernel) (by decide +kernel) (by decide) (by omega) ?_
      refine gl_arg h hcs (q := 2) (k := 2) (by decide +kernel) (by decide +kernel) (by decide +kernel) (by decide +kernel) (by decide +kernel) (by decide) (by omega) ?_
      refine GW_op (s_callV (ci := 12) (by decide +kernel) (t_X12_reader h.2.2.1) cl_X12_reader ml_RL_59 im_X12_reader se_X12_reader (by decide) rfl ⟨by decide, by decide⟩) h.1 hcs (by decide) (q_callV (b := 219) (r := []) (as := [.ref 219, .int (xs (n + 1)), .int (xs (n + 2))]) rfl ⟨by rw [h.2.1]; decide, Nat.le_of_ble_eq_true rfl⟩ rfl (by rw [h.2.1]; exact h2)) ?_
      refine GW_op (s_ist (i := 6) (by decide +kernel)) h.1 hcs (by decide) (fun k => rfl) ?_
      refine GW_op (s_ald_n (q := 2) (by decide +kernel) rfl) h.1 hcs (by decide) (fun k => rfl) ?_
      refine GW_op (s_callV (ci := 12) (by decide +kernel) (t_X12_thrown h.2.2.1) cl_X12_thrown ml_RL_50 im_X12_thrown se_X12_thrown (by decide) rfl ⟨by decide, by decide⟩) h.1 hcs (by decide) (q_callV (b := 219) (r := []) (as := [.ref 219]) rfl ⟨by rw [h.2.1]; decide, Nat.le_of_ble_eq_true rfl⟩ rfl (by rw [h.2.1]; exact th_thrown _)) ?_
      refine GW_op (s_ild (i := 5) (by decide +kernel)) h.1 hcs (by decide) (fun k => rfl) ?_
      refine GW_op (s_cmpeq (off := 5) (t := 477) (by decide +kernel) (by decide)) h.1 hcs (by decide) (fun k => if_pos h3) ?_
      refine GW_op (s_ild (i := 5) (by decide +kernel)) h.1 hcs (by decide) (fun k => rfl) ?_
      refine GW_op (s_ifne (off := 15) (t := 494) (by decide +kernel) (by decide)) h.1 hcs (by decide) (fun k => rfl) ?_
      refine GW_op (s_goto (off := 783) (t := 1277) (by decide +kernel) (by decide)) h.1 hcs (by decide) (fun k => rfl) ?_
      exact hend _ _ _ h4
    intro H locs ls hP hS hlo
    have hpre := preT_ (av := [.ref (E.2.2.1 0), .int (xs (n + 1)), .int (xs (n + 2)), .ref (E.2.2.1 246)]) hP hK hZ hS (A_mono hS.1)
    have hr2 := vx_runSX (l := l) (m := m) (below := below) (meth := meth) (H := H) (locs := locs) (cells := cl) (slots := sl) (e := e) (R := room_1) (As := [.ref (E.2.2.1 0), .int (xs (n + 1)), .int (xs (n + 2)), .ref (E.2.2.1 246)]) (rest := []) (g := F0 m 443 ls [.ref (E.2.2.1 246), .int (xs (n + 2)), .int (xs (n + 1)), .ref (E.2.2.1 0)]) (index := 57) (own := RL) (y := yL_reader) (bytes := cL_reader) (maxL := 5) (hh := [(0, 10, 13, 13)]) ⟨hx, hb, hml, hown, hts⟩ (hlt_reader hE hKC hfl (sz := H.size) hT) (vx_cwSW 4 hts gin_reader rfl rfl rfl (by decide +kernel) ⟨by decide, by decide⟩) hpre rfl rfl hlo.2.1 rfl (Nat.le_of_ble_eq_true rfl) (show decode cL_law 443 = .ok (.invokestatic 57, 3) by decide +kernel) ⟨by omega, by omega⟩
    refine vrun_ (E := E) (out1 := (some (.int 1), σ)) hr2 (fun _ _ _ z => z) hS (A_mono hS.1) (fun H1 locs1 hP1 hS1 => ?_)
    exact key H1 locs1 ls hP1 hS1 hlo
set_option maxRecDepth 100000 in
theorem lc_plan (h : LX_ p l s m args meth c E L xs) (hcs : cl + 1 ≤ room_1.cells ∧ sl + 6 ≤ room_1.slots) {n : Nat} (hn : n + 6 ≤ L) {x5 x6 : Option Value} {σ : St_} (hG : GI_ σ) (hend : ∀ x5 x6 σ1, GI_ σ1 → GW_ p l e room_1 s m args below meth c E 7 (cl + 1) (sl + 6) Q 1277 (lwo_ n x5 x6) [] σ1) : GW_ p l e room_1 s m args below meth c E 7 cl sl Q 497 (lwo_ n x5 x6) [] σ := by
  have hcs0 : cl ≤ room_1.cells ∧ sl ≤ room_1.slots := ⟨by omega, by omega⟩
  obtain ⟨v, τ1, τ2, h1, h2, h3⟩ := gs_plan hG
  refine GW_op (s_ald_n (q := 1) (by decide +kernel) rfl) h.1 hcs0 (by decide) (fun k => rfl) ?_
  refine GW_op (s_callV (ci := 11) (by decide +kernel) (t_X11_plan h.2.2.1) cl_X11_plan ml_RL_60 im_X11_plan se_X11_plan (by decide) rfl ⟨by decide, by decide⟩) h.1 hcs0 (by decide) (q_callV (b := 0) (r := []) (as := [.ref 0]) rfl ⟨by rw [h.2.1]; decide, Nat.le_of_ble_eq_true rfl⟩ rfl (by rw [h.2.1]; exact h1)) ?_
  refine GW_op (s_ald_n (q := 2) (by decide +kernel) rfl) h.1 hcs0 (by decide) (fun k => rfl) ?_
  refine GW_op (s_callV (ci := 12) (by decide +kernel) (t_X12_plan h.2.2.1) cl_X12_plan ml_RL_63 im_X12_plan se_X12_plan (by decide) rfl ⟨by decide, by decide⟩) h.1 hcs0 (by decide) (q_callV (b := 219) (r := [.int v]) (as := [.ref 219]) rfl ⟨by rw [h.2.1]; decide, Nat.le_of_ble_eq_true rfl⟩ rfl (by rw [h.2.1]; exact h2)) ?_
  refine GW_op (s_cmpeq (off := 772) (t := 1277) (by decide +kernel) (by decide)) h.1 hcs0 (by decide) (fun k => if_pos rfl) ?_
  exact gl_w (n := n) (hend _ _ _ h3)
set_option maxRecDepth 100000 in
theorem lc_make (h : LX_ p l s m args meth c E L xs) (hcs : cl + 1 ≤ room_1.cells ∧ sl + 6 ≤ room_1.slots) {n : Nat} (hn : n + 6 ≤ L) {x5 x6 : Option Value} {σ : St_} (hG : GI_ σ) (hend : ∀ x5 x6 σ1, GI_ σ1 → GW_ p l e room_1 s m args below meth c E 7 (cl + 1) (sl + 6) Q 1277 (lwo_ n x5 x6) [] σ1) : GW_ p l e room_1 s m args below meth c E 7 cl sl Q 510 (lwo_ n x5 x6) [] σ := by
  have hcs0 : cl ≤ room_1.cells ∧ sl ≤ room_1.slots := ⟨by omega, by omega⟩
  obtain ⟨v, τ1, τ2, h1, h2, h3⟩ := gs_make hG (xs (n + 1)) (xs (n + 2))
  refine GW_op (s_ald_n (q := 1) (by decide +kernel) rfl) h.1 hcs0 (by decide) (fun k => rfl) ?_
  refine gl_arg h hcs0 (q := 1) (k := 1) (by decide +kernel) (by decide +kernel) (by decide +kernel) (by decide +kernel) (by decide +kernel) (by decide) (by omega) ?_
  refine gl_arg h hcs0 (q := 2) (k := 2) (by decide +kernel) (by decide +kernel) (by decide +kernel) (by decide +kernel) (by decide +kernel) (by decide) (by omega) ?_
  refine GW_op (s_callV (ci := 11) (by decide +kernel) (t_X11_make h.2.2.1) cl_X11_make ml_RL_64 im_X11_make se_X11_make (by decide) rfl ⟨by decide, by decide⟩) h.1 hcs0 (by decide) (q_callV (b := 0) (r := []) (as := [.ref 0, .int (xs (n + 1)), .int (xs (n + 2))]) rfl ⟨by rw [h.2.1]; decide, Nat.le_of_ble_eq_true rfl⟩ rfl (by rw [h.2.1]; exact h1)) ?_
  refine GW_op (s_ald_n (q := 2) (by decide +kernel) rfl) h.1 hcs0 (by decide) (fun k => rfl) ?_
  refine gl_arg h hcs0 (q := 1) (k := 1) (by decide +kernel) (by decide +kernel) (by decide +kernel) (by decide +kernel) (by decide +kernel) (by decide) (by omega) ?_
  refine gl_arg h hcs0 (q := 2) (k := 2) (by decide +kernel) (by decide +kernel) (by decide +kernel) (by decide +kernel) (by decide +kernel) (by decide) (by omega) ?_
  refine GW_op (s_callV (ci := 12) (by decide +kernel) (t_X12_make h.2.2.1) cl_X12_make ml_RL_67 im_X12_make se_X12_make (by decide) rfl ⟨by decide, by decide⟩) h.1 hcs0 (by decide) (q_callV (b := 219) (r := [.int v]) (as := [.ref 219, .int (xs (n + 1)), .int (xs (n + 2))]) rfl ⟨by rw [h.2.1]; decide, Nat.le_of_ble_eq_true rfl⟩ rfl (by rw [h.2.1]; exact h2)) ?_
  refine GW_op (s_cmpeq (off := 735) (t := 1277) (by decide +kernel) (by decide)) h.1 hcs0 (by decide) (fun k => if_pos rfl) ?_
  exact gl_w (n := n) (hend _ _ _ h3)
set_option maxRecDepth 100000 in
theorem lc_drawn (h : LX_ p l s m args meth c E L xs) (hcs : cl + 1 ≤ room_1.cells ∧ sl + 6 ≤ room_1.slots) {n : Nat} (hn : n + 6 ≤ L) {x5 x6 : Option Value} {σ : St_} (hG : GI_ σ) (hend : ∀ x5 x6 σ1, GI_ σ1 → GW_ p l e room_1 s m args below meth c E 7 (cl + 1) (sl + 6) Q 1277 (lwo_ n x5 x6) [] σ1) : GW_ p l e room_1 s m args below meth c E 7 cl sl Q 547 (lwo_ n x5 x6) [] σ := by
  have hcs0 : cl ≤ room_1.cells ∧ sl ≤ room_1.slots := ⟨by omega, by omega⟩
  obtain ⟨v, τ1, τ2, h1, h2, h3⟩ := gs_drawn hG (xs (n + 1)) (xs (n + 2))
  refine GW_op (s_ald_n (q := 1) (by decide +kernel) rfl) h.1 hcs0 (by decide) (fun k => rfl) ?_
  refine gl_arg h hcs0 (q := 1) (k := 1) (by decide +kernel) (by decide +kernel) (by decide +kernel) (by decide +kernel) (by decide +kernel) (by decide) (by omega) ?_
  refine gl_arg h hcs0 (q := 2) (k := 2) (by decide +kernel) (by decide +kernel) (by decide +kernel) (by decide +kernel) (by decide +kernel) (by decide) (by omega) ?_
  refine GW_op (s_callV (ci := 11) (by decide +kernel) (t_X11_drawn h.2.2.1) cl_X11_drawn ml_RL_68 im_X11_drawn se_X11_drawn (by decide) rfl ⟨by decide, by decide⟩) h.1 hcs0 (by decide) (q_callV (b := 0) (r := []) (as := [.ref 0, .int (xs (n + 1)), .int (xs (n + 2))]) rfl ⟨by rw [h.2.1]; decide, Nat.le_of_ble_eq_true rfl⟩ rfl (by rw [h.2.1]; exact h1)) ?_
  refine GW_op (s_ald_n (q := 2) (by decide +kernel) rfl) h.1 hcs0 (by decide) (fun k => rfl) ?_
  refine gl_arg h hcs0 (q := 1) (k := 1) (by decide +kernel) (by decide +kernel) (by decide +kernel) (by decide +kernel) (by decide +kernel) (by decide) (by omega) ?_
  refine gl_arg h hcs0 (q := 2) (k := 2) (by decide +kernel) (by decide +kernel) (by decide +kernel) (by decide +kernel) (by decide +kernel) (by decide) (by omega) ?_
  refine GW_op (s_callV (ci := 12) (by decide +kernel) (t_X12_drawn h.2.2.1) cl_X12_drawn ml_RL_71 im_X12_drawn se_X12_drawn (by decide) rfl ⟨by decide, by decide⟩) h.1 hcs0 (by decide) (q_callV (b := 219) (r := [.int v]) (as := [.ref 219, .int (xs (n + 1)), .int (xs (n + 2))]) rfl ⟨by rw [h.2.1]; decide, Nat.le_of_ble_eq_true rfl⟩ rfl (by rw [h.2.1]; exact h2)) ?_
  refine GW_op (s_cmpeq (off := 698) (t := 1277) (by decide +kernel) (by decide)) h.1 hcs0 (by decide) (fun k => if_pos rfl) ?_
  exact gl_w (n := n) (hend _ _ _ h3)
theorem gin_act : GoodIn (c0L_ :: G_) (va_wsS RL 72 yL_act (Cond.codeWith yL_act cL_act 5 (some .int) [(0, 10, 13, 13)] :: G_)) := by
  have key : ∀ {w}, w ∈ G_ → w ∈ (c0L_ :: G_ : List Cond) ∧ ((w.onTables && w.keeps) = true ∨ ∃ ty, w = .arrayClass ty) := fun h => ⟨List.mem_cons_of_mem _ h, G_good h⟩
  intro w hw
  refine key ?_
  unfold va_wsS at hw
  rcases List.mem_append.mp hw with hw | hw
  · rcases List.mem_cons.mp hw with rfl | hw
    · exact ml_RL_72
    · rcases List.mem_cons.mp hw with rfl | hw
      · exact G_6 (i := 123) rfl rfl
      · rcases List.mem_cons.mp hw with rfl | hw
        · exact G_1 (i := 0) rfl rfl
        · cases hw
  · rcases List.mem_cons.mp hw with rfl | hw
    · exact G_6 (i := 124) rfl rfl
    · exact hw
set_option maxRecDepth 100000 in
theorem lc_act (h : LX_ p l s m args meth c E L xs) (hcs : cl + 1 ≤ room_1.cells ∧ sl + 6 ≤ room_1.slots) {n : Nat} (hn : n + 6 ≤ L) {x5 x6 : Option Value} {σ : St_} (hG : GI_ σ) (hend : ∀ x5 x6 σ1, GI_ σ1 → GW_ p l e room_1 s m args below meth c E 7 (cl + 1) (sl + 6) Q 1277 (lwo_ n x5 x6) [] σ1) : GW_ p l e room_1 s m args below meth c E 7 cl sl Q 584 (lwo_ n x5 x6) [] σ := by
  have hcs0 : cl ≤ room_1.cells ∧ sl ≤ room_1.slots := ⟨by omega, by omega⟩
  refine GW_op (s_ald_n (q := 1) (by decide +kernel) rfl) h.1 hcs0 (by decide) (fun k => rfl) ?_
  refine gl_arg h hcs0 (q := 1) (k := 1) (by decide +kernel) (by decide +kernel) (by decide +kernel) (by decide +kernel) (by decide +kernel) (by decide) (by omega) ?_
  refine gl_arg h hcs0 (q := 2) (k := 2) (by decide +kernel) (by decide +kernel) (by decide +kernel) (by decide +kernel) (by decide +kernel) (by decide) (by omega) ?_
  refine GW_op (s_ald_n (q := 3) (by decide +kernel) rfl) h.1 hcs0 (by decide) (fun k => rfl) ?_
  obtain ⟨⟨hx, hb, hml, hown, hts, hK, hr, hlk, hE⟩, hKC, -, -, hZ, hfl, -⟩ := id h
  rcases two_act hG (xs (n + 1)) (xs (n + 2)) with ⟨v, h1, τ2, h2, h3, hv, h4⟩ | ⟨hT, τ2, h2, h3, h4⟩
  · have key : GW_ p l e room_1 s m args below meth c E 7 (cl + 0) (sl + 0) Q 601 (lwo_ n x5 x6) [.int 0] (sJ_ σ 246 0 v.toInt64) := by
      have hq : lg_cmp (τ2.2.1 246 (Int32.toNatClampNeg 0)) v.toInt64 = 0 := by rw [show τ2.2.1 246 (Int32.toNatClampNeg 0) = v.toInt64 from hv]; exact lg_same _
      refine GW_op (s_ist (i := 5) (by decide +kernel)) h.1 hcs0 (by decide) (fun k => rfl) ?_
      refine GW_op (s_ald_n (q := 2) (by decide +kernel) rfl) h.1 hcs0 (by decide) (fun k => rfl) ?_
      refine gl_arg h hcs0 (q := 1) (k := 1) (by decide +kernel) (by decide +kernel) (by decide +kernel) (by decide +kernel) (by decide +kernel) (by decide) (by omega) ?_
      refine gl_arg h hcs0 (q := 2) (k := 2) (by decide +kernel) (by decide +kernel) (by decide +kernel) (by decide +kernel) (by decide +kernel) (by decide) (by omega) ?_
      refine GW_op (s_callV (ci := 12) (by decide +kernel) (t_X12_act h.2.2.1) cl_X12_act ml_RL_74 im_X12_act se_X12_act (by decide) rfl ⟨by decide, by decide⟩) h.1 hcs0 (by decide) (q_callV (b := 219) (r := []) (as := [.ref 219, .int (xs (n + 1)), .int (xs (n + 2))]) rfl ⟨by rw [h.2.1]; decide, Nat.le_of_ble_eq_true rfl⟩ rfl (by rw [h.2.1]; exact h2)) ?_
      refine GW_op (s_ist (i := 6) (by decide +kernel)) h.1 hcs0 (by decide) (fun k => rfl) ?_
      refine GW_op (s_ald_n (q := 2) (by decide +kernel) rfl) h.1 hcs0 (by decide) (fun k => rfl) ?_
      refine GW_op (s_callV (ci := 12) (by decide +kernel) (t_X12_thrown h.2.2.1) cl_X12_thrown ml_RL_50 im_X12_thrown se_X12_thrown (by decide) rfl ⟨by decide, by decide⟩) h.1 hcs0 (by decide) (q_callV (b := 219) (r := []) (as := [.ref 219]) rfl ⟨by rw [h.2.1]; decide, Nat.le_of_ble_eq_true rfl⟩ rfl (by rw [h.2.1]; exact th_thrown _)) ?_
      refine GW_op (s_ild (i := 5) (by decide +kernel)) h.1 hcs0 (by decide) (fun k => rfl) ?_
      refine GW_op (s_cmpeq (off := 5) (t := 632) (by decide +kernel) (by decide)) h.1 hcs0 (by decide) (fun k => if_pos h3) ?_
      refine GW_op (s_ild (i := 5) (by decide +kernel)) h.1 hcs0 (by decide) (fun k => rfl) ?_
      refine GW_op (s_ifne (off := 15) (t := 649) (by decide +kernel) (by decide)) h.1 hcs0 (by decide) (fun k => rfl) ?_
      refine GW_op (s_ald_n (q := 3) (by decide +kernel) rfl) h.1 hcs0 (by decide) (fun k => rfl) ?_
      refine GW_op (s_iconst (n := 0) (v := 0) (by decide +kernel) (by decide)) h.1 hcs0 (by decide) (fun k => rfl) ?_
      refine GW_op (s_lald (by decide +kernel)) h.1 hcs0 (by decide) (q_lald ⟨by rw [h.2.1]; decide, by rw [h.2.1]; decide⟩) ?_
      refine GW_op (s_ild (i := 6) (by decide +kernel)) h.1 hcs0 (by decide) (fun k => rfl) ?_
      refine GW_op (s_i2l (by decide +kernel)) h.1 hcs0 (by decide) (fun k => rfl) ?_
      refine GW_op (s_lcmp (by decide +kernel)) h.1 hcs0 (by decide) (fun k => rfl) ?_
      refine GW_op (s_ifeq (off := 5) (t := 649) (by decide +kernel) (by decide)) h.1 hcs0 (by decide) (fun k => if_pos hq) ?_
      refine GW_op (s_goto (off := 628) (t := 1277) (by decide +kernel) (by decide)) h.1 hcs0 (by decide) (fun k => rfl) ?_
      exact gl_w (n := n) (hend _ _ _ h4)
    intro H locs ls hP hS hlo
    have hpre := pre_ (av := [.ref (E.2.2.1 0), .int (xs (n + 1)), .int (xs (n + 2)), .ref (E.2.2.1 246)]) hP hK
    have hr2 := vx_runSX (l := l) (m := m) (below := below) (meth := meth) (H := H) (locs := locs) (cells := cl) (slots := sl) (e := e) (R := room_1) (As := [.ref (E.2.2.1 0), .int (xs (n + 1)), .int (xs (n + 2)), .ref (E.2.2.1 246)]) (rest := []) (g := F0 m 598 ls [.ref (E.2.2.1 246), .int (xs (n + 2)), .int (xs (n + 1)), .ref (E.2.2.1 0)]) (index := 72) (own := RL) (y := yL_act) (bytes := cL_act) (maxL := 5) (hh := [(0, 10, 13, 13)]) ⟨hx, hb, hml, hown, hts⟩ (hln_act hE hKC (sz := H.size) h1) (vx_cwSW 4 hts gin_act rfl rfl rfl (by decide +kernel) ⟨by decide, by decide⟩) hpre rfl rfl hlo.2.1 rfl (Nat.le_of_ble_eq_true rfl) (show decode cL_law 598 = .ok (.invokestatic 72, 3) by decide +kernel) ⟨by omega, by omega⟩
    refine vrun_ (E := E) (out1 := (some (.int 0), sJ_ σ 246 0 v.toInt64)) hr2 (fun _ _ _ z => z) hS (A_mono hS.1) (fun H1 locs1 hP1 hS1 => ?_)
    exact key H1 locs1 ls hP1 hS1 hlo
  · have key : GW_ p l e room_1 s m args below meth c E 7 (cl + 1) (sl + 6) Q 601 (lwo_ n x5 x6) [.int 1] σ := by
      refine GW_op (s_ist (i := 5) (by decide +kernel)) h.1 hcs (by decide) (fun k => rfl) ?_
      refine GW_op (s_ald_n (q := 2) (by decide +kernel) rfl) h.1 hcs (by decide) (fun k => rfl) ?_
      refine gl_arg h hcs (q := 1) (k := 1) (by decide +kernel) (by decide +kernel) (by decide +kernel) (by decide +kernel) (by decide +kernel) (by decide) (by omega) ?_
      refine gl_arg h hcs (q := 2) (k := 2) (by decide +kernel) (by decide +kernel) (by decide +kernel) (by decide +kernel) (by decide +kernel) (by decide) (by omega) ?_
      refine GW_op (s_callV (ci := 12) (by decide +kernel) (t_X12_act h.2.2.1) cl_X12_act ml_RL_74 im_X12_act se_X12_act (by decide) rfl ⟨by decide, by decide⟩) h.1 hcs (by decide) (q_callV (b := 219) (r := []) (as := [.ref 219, .int (xs (n + 1)), .int (xs (n + 2))]) rfl ⟨by rw [h.2.1]; decide, Nat.le_of_ble_eq_true rfl⟩ rfl (by rw [h.2.1]; exact h2)) ?_
      refine GW_op (s_ist (i := 6) (by decide +kernel)) h.1 hcs (by decide) (fun k => rfl) ?_
      refine GW_op (s_ald_n (q := 2) (by decide +kernel) rfl) h.1 hcs (by decide) (fun k => rfl) ?_
      refine GW_op (s_callV (ci := 12) (by decide +kernel) (t_X12_thrown h.2.2.1) cl_X12_thrown ml_RL_50 im_X12_thrown se_X12_thrown (by decide) rfl ⟨by decide, by decide⟩) h.1 hcs (by decide) (q_callV (b := 219) (r := []) (as := [.ref 219]) rfl ⟨by rw [h.2.1]; decide, Nat.le_of_ble_eq_true rfl⟩ rfl (by rw [h.2.1]; exact th_thrown _)) ?_
      refine GW_op (s_ild (i := 5) (by decide +kernel)) h.1 hcs (by decide) (fun k => rfl) ?_
      refine GW_op (s_cmpeq (off := 5) (t := 632) (by decide +kernel) (by decide)) h.1 hcs (by decide) (fun k => if_pos h3) ?_
      refine GW_op (s_ild (i := 5) (by decide +kernel)) h.1 hcs (by decide) (fun k => rfl) ?_
      refine GW_op (s_ifne (off := 15) (t := 649) (by decide +kernel) (by decide)) h.1 hcs (by decide) (fun k => rfl) ?_
      refine GW_op (s_goto (off := 628) (t := 1277) (by decide +kernel) (by decide)) h.1 hcs (by decide) (fun k => rfl) ?_
      exact hend _ _ _ h4
    intro H locs ls hP hS hlo
    have hpre := preT_ (av := [.ref (E.2.2.1 0), .int (xs (n + 1)), .int (xs (n + 2)), .ref (E.2.2.1 246)]) hP hK hZ hS (A_mono hS.1)
    have hr2 := vx_runSX (l := l) (m := m) (below := below) (meth := meth) (H := H) (locs := locs) (cells := cl) (slots := sl) (e := e) (R := room_1) (As := [.ref (E.2.2.1 0), .int (xs (n + 1)), .int (xs (n + 2)), .ref (E.2.2.1 246)]) (rest := []) (g := F0 m 598 ls [.ref (E.2.2.1 246), .int (xs (n + 2)), .int (xs (n + 1)), .ref (E.2.2.1 0)]) (index := 72) (own := RL) (y := yL_act) (bytes := cL_act) (maxL := 5) (hh := [(0, 10, 13, 13)]) ⟨hx, hb, hml, hown, hts⟩ (hlt_act hE hKC hfl (sz := H.size) hT) (vx_cwSW 4 hts gin_act rfl rfl rfl (by decide +kernel) ⟨by decide, by decide⟩) hpre rfl rfl hlo.2.1 rfl (Nat.le_of_ble_eq_true rfl) (show decode cL_law 598 = .ok (.invokestatic 72, 3) by decide +kernel) ⟨by omega, by omega⟩
    refine vrun_ (E := E) (out1 := (some (.int 1), σ)) hr2 (fun _ _ _ z => z) hS (A_mono hS.1) (fun H1 locs1 hP1 hS1 => ?_)
    exact key H1 locs1 ls hP1 hS1 hlo
set_option maxRecDepth 100000 in
theorem lc_run (h : LX_ p l s m args meth c E L xs) (hcs : cl + 1 ≤ room_1.cells ∧ sl + 6 ≤ room_1.slots) {n : Nat} (hn : n + 6 ≤ L) {x5 x6 : Option Value} {σ : St_} (hG : GI_ σ) (hend : ∀ x5 x6 σ1, GI_ σ1 → GW_ p l e room_1 s m args below meth c E 7 (cl + 1) (sl + 6) Q 1277 (lwo_ n x5 x6) [] σ1) : GW_ p l e room_1 s m args below meth c E 7 cl sl Q 652 (lwo_ n x5 x6) [] σ := by
  have hcs0 : cl ≤ room_1.cells ∧ sl ≤ room_1.slots := ⟨by omega, by omega⟩
  obtain ⟨v, τ1, τ2, h1, h2, h3⟩ := gs_run hG
  refine GW_op (s_ald_n (q := 1) (by decide +kernel) rfl) h.1 hcs0 (by decide) (fun k => rfl) ?_
  refine GW_op (s_callV (ci := 11) (by decide +kernel) (t_X11_run h.2.2.1) cl_X11_run ml_RL_75 im_X11_run se_X11_run (by decide) rfl ⟨by decide, by decide⟩) h.1 hcs0 (by decide) (q_callV (b := 0) (r := []) (as := [.ref 0]) rfl ⟨by rw [h.2.1]; decide, Nat.le_of_ble_eq_true rfl⟩ rfl (by rw [h.2.1]; exact h1)) ?_
  refine GW_op (s_ald_n (q := 2) (by decide +kernel) rfl) h.1 hcs0 (by decide) (fun k => rfl) ?_
  refine GW_op (s_callV (ci := 12) (by decide +kernel) (t_X12_run h.2.2.1) cl_X12_run ml_RL_78 im_X12_run se_X12_run (by decide) rfl ⟨by decide, by decide⟩) h.1 hcs0 (by decide) (q_callV (b := 219) (r := [.int v]) (as := [.ref 219]) rfl ⟨by rw [h.2.1]; decide, Nat.le_of_ble_eq_true rfl⟩ rfl (by rw [h.2.1]; exact h2)) ?_
  refine GW_op (s_cmpeq (off := 617) (t := 1277) (by decide +kernel) (by decide)) h.1 hcs0 (by decide) (fun k => if_pos rfl) ?_
  exact gl_w (n := n) (hend _ _ _ h3)
set_option maxRecDepth 100000 in
theorem lc_why (h : LX_ p l s m args meth c E L xs) (hcs : cl + 1 ≤ room_1.cells ∧ sl + 6 ≤ room_1.slots) {n : Nat} (hn : n + 6 ≤ L) {x5 x6 : Option Value} {σ : St_} (hG : GI_ σ) (hend : ∀ x5 x6 σ1, GI_ σ1 → GW_ p l e room_1 s m args below meth c E 7 (cl + 1) (sl + 6) Q 1277 (lwo_ n x5 x6) [] σ1) : GW_ p l e room_1 s m args below meth c E 7 cl sl Q 665 (lwo_ n x5 x6) [] σ := by
  have hcs0 : cl ≤ room_1.cells ∧ sl ≤ room_1.slots := ⟨by omega, by omega⟩
  obtain ⟨v, τ1, τ2, h1, h2, h3⟩ := gs_why hG
  refine GW_op (s_ald_n (q := 1) (by decide +kernel) rfl) h.1 hcs0 (by decide) (fun k => rfl) ?_
  refine GW_op (s_callV (ci := 11) (by decide +kernel) (t_X11_why h.2.2.1) cl_X11_why ml_RL_79 im_X11_why se_X11_why (by decide) rfl ⟨by decide, by decide⟩) h.1 hcs0 (by decide) (q_callV (b := 0) (r := []) (as := [.ref 0]) rfl ⟨by rw [h.2.1]; decide, Nat.le_of_ble_eq_true rfl⟩ rfl (by rw [h.2.1]; exact h1)) ?_
  refine GW_op (s_ald_n (q := 2) (by decide +kernel) rfl) h.1 hcs0 (by decide) (fun k => rfl) ?_
  refine GW_op (s_callV (ci := 12) (by decide +kernel) (t_X12_why h.2.2.1) cl_X12_why ml_RL_82 im_X12_why se_X12_why (by decide) rfl ⟨by decide, by decide⟩) h.1 hcs0 (by decide) (q_callV (b := 219) (r := [.int v]) (as := [.ref 219]) rfl ⟨by rw [h.2.1]; decide, Nat.le_of_ble_eq_true rfl⟩ rfl (by rw [h.2.1]; exact h2)) ?_
  refine GW_op (s_cmpeq (off := 604) (t := 1277) (by decide +kernel) (by decide)) h.1 hcs0 (by decide) (fun k => if_pos rfl) ?_
  exact gl_w (n := n) (hend _ _ _ h3)
set_option maxRecDepth 100000 in
theorem lc_known (h : LX_ p l s m args meth c E L xs) (hcs : cl + 1 ≤ room_1.cells ∧ sl + 6 ≤ room_1.slots) {n : Nat} (hn : n + 6 ≤ L) {x5 x6 : Option Value} {σ : St_} (hG : GI_ σ) (hend : ∀ x5 x6 σ1, GI_ σ1 → GW_ p l e room_1 s m args below meth c E 7 (cl + 1) (sl + 6) Q 1277 (lwo_ n x5 x6) [] σ1) : GW_ p l e room_1 s m args below meth c E 7 cl sl Q 678 (lwo_ n x5 x6) [] σ := by
  have hcs0 : cl ≤ room_1.cells ∧ sl ≤ room_1.slots := ⟨by omega, by omega⟩
  obtain ⟨v, τ1, τ2, h1, h2, h3⟩ := gs_known hG (xs (n + 1)) (xs (n + 2))
  refine GW_op (s_ald_n (q := 1) (by decide +kernel) rfl) h.1 hcs0 (by decide) (fun k => rfl) ?_
  refine gl_arg h hcs0 (q := 1) (k := 1) (by decide +kernel) (by decide +kernel) (by decide +kernel) (by decide +kernel) (by decide +kernel) (by decide) (by omega) ?_
  refine gl_arg h hcs0 (q := 2) (k := 2) (by decide +kernel) (by decide +kernel) (by decide +kernel) (by decide +kernel) (by decide +kernel) (by decide) (by omega) ?_
  refine GW_op (s_callV (ci := 11) (by decide +kernel) (t_X11_known h.2.2.1) cl_X11_known ml_RL_83 im_X11_known se_X11_known (by decide) rfl ⟨by decide, by decide⟩) h.1 hcs0 (by decide) (q_callV (b := 0) (r := []) (as := [.ref 0, .int (xs (n + 1)), .int (xs (n + 2))]) rfl ⟨by rw [h.2.1]; decide, Nat.le_of_ble_eq_true rfl⟩ rfl (by rw [h.2.1]; exact h1)) ?_
  refine GW_op (s_ald_n (q := 2) (by decide +kernel) rfl) h.1 hcs0 (by decide) (fun k => rfl) ?_
  refine gl_arg h hcs0 (q := 1) (k := 1) (by decide +kernel) (by decide +kernel) (by decide +kernel) (by decide +kernel) (by decide +kernel) (by decide) (by omega) ?_
  refine gl_arg h hcs0 (q := 2) (k := 2) (by decide +kernel) (by decide +kernel) (by decide +kernel) (by decide +kernel) (by decide +kernel) (by decide) (by omega) ?_
  refine GW_op (s_callV (ci := 12) (by decide +kernel) (t_X12_known h.2.2.1) cl_X12_known ml_RL_86 im_X12_known se_X12_known (by decide) rfl ⟨by decide, by decide⟩) h.1 hcs0 (by decide) (q_callV (b := 219) (r := [.int v]) (as := [.ref 219, .int (xs (n + 1)), .int (xs (n + 2))]) rfl ⟨by rw [h.2.1]; decide, Nat.le_of_ble_eq_true rfl⟩ rfl (by rw [h.2.1]; exact h2)) ?_
  refine GW_op (s_cmpeq (off := 567) (t := 1277) (by decide +kernel) (by decide)) h.1 hcs0 (by decide) (fun k => if_pos rfl) ?_
  exact gl_w (n := n) (hend _ _ _ h3)
set_option maxRecDepth 100000 in
theorem lc_after (h : LX_ p l s m args meth c E L xs) (hcs : cl + 1 ≤ room_1.cells ∧ sl + 6 ≤ room_1.slots) {n : Nat} (hn : n + 6 ≤ L) {x5 x6 : Option Value} {σ : St_} (hG : GI_ σ) (hend : ∀ x5 x6 σ1, GI_ σ1 → GW_ p l e room_1 s m args below meth c E 7 (cl + 1) (sl + 6) Q 1277 (lwo_ n x5 x6) [] σ1) : GW_ p l e room_1 s m args below meth c E 7 cl sl Q 715 (lwo_ n x5 x6) [] σ := by
  have hcs0 : cl ≤ room_1.cells ∧ sl ≤ room_1.slots := ⟨by omega, by omega⟩
  obtain ⟨v, τ1, τ2, h1, h2, h3⟩ := gs_after hG (xs (n + 1)) (xs (n + 2))
  refine GW_op (s_ald_n (q := 1) (by decide +kernel) rfl) h.1 hcs0 (by decide) (fun k => rfl) ?_
  refine gl_arg h hcs0 (q := 1) (k := 1) (by decide +kernel) (by decide +kernel) (by decide +kernel) (by decide +kernel) (by decide +kernel) (by decide) (by omega) ?_
  refine gl_arg h hcs0 (q := 2) (k := 2) (by decide +kernel) (by decide +kernel) (by decide +kernel) (by decide +kernel) (by decide +kernel) (by decide) (by omega) ?_
  refine GW_op (s_callV (ci := 11) (by decide +kernel) (t_X11_after h.2.2.1) cl_X11_after ml_RL_87 im_X11_after se_X11_after (by decide) rfl ⟨by decide, by decide⟩) h.1 hcs0 (by decide) (q_callV (b := 0) (r := []) (as := [.ref 0, .int (xs (n + 1)), .int (xs (n + 2))]) rfl ⟨by rw [h.2.1]; decide, Nat.le_of_ble_eq_true rfl⟩ rfl (by rw [h.2.1]; exact h1)) ?_
  refine GW_op (s_ald_n (q := 2) (by decide +kernel) rfl) h.1 hcs0 (by decide) (fun k => rfl) ?_
  refine gl_arg h hcs0 (q := 1) (k := 1) (by decide +kernel) (by decide +kernel) (by decide +kernel) (by decide +kernel) (by decide +kernel) (by decide) (by omega) ?_
  refine gl_arg h hcs0 (q := 2) (k := 2) (by decide +kernel) (by decide +kernel) (by decide +kernel) (by decide +kernel) (by decide +kernel) (by decide) (by omega) ?_
  refine GW_op (s_callV (ci := 12) (by decide +kernel) (t_X12_after h.2.2.1) cl_X12_after ml_RL_90 im_X12_after se_X12_after (by decide) rfl ⟨by decide, by decide⟩) h.1 hcs0 (by decide) (q_callV (b := 219) (r := [.int v]) (as := [.ref 219, .int (xs (n + 1)), .int (xs (n + 2))]) rfl ⟨by rw [h.2.1]; decide, Nat.le_of_ble_eq_true rfl⟩ rfl (by rw [h.2.1]; exact h2)) ?_
  refine GW_op (s_cmpeq (off := 530) (t := 1277) (by decide +kernel) (by decide)) h.1 hcs0 (by decide) (fun k => if_pos rfl) ?_
  exact gl_w (n := n) (hend _ _ _ h3)
set_option maxRecDepth 100000 in
theorem lc_all (h : LX_ p l s m args meth c E L xs) (hcs : cl + 1 ≤ room_1.cells ∧ sl + 6 ≤ room_1.slots) {n : Nat} (hn : n + 6 ≤ L) {x5 x6 : Option Value} {σ : St_} (hG : GI_ σ) (hend : ∀ x5 x6 σ1, GI_ σ1 → GW_ p l e room_1 s m args below meth c E 7 (cl + 1) (sl + 6) Q 1277 (lwo_ n x5 x6) [] σ1) : GW_ p l e room_1 s m args below meth c E 7 cl sl Q 752 (lwo_ n x5 x6) [] σ := by
  have hcs0 : cl ≤ room_1.cells ∧ sl ≤ room_1.slots := ⟨by omega, by omega⟩
  obtain ⟨v, τ1, τ2, h1, h2, h3⟩ := gs_all hG (xs (n + 1))
  refine GW_op (s_ald_n (q := 1) (by decide +kernel) rfl) h.1 hcs0 (by decide) (fun k => rfl) ?_
  refine gl_arg h hcs0 (q := 1) (k := 1) (by decide +kernel) (by decide +kernel) (by decide +kernel) (by decide +kernel) (by decide +kernel) (by decide) (by omega) ?_
  refine GW_op (s_callV (ci := 11) (by decide +kernel) (t_X11_all h.2.2.1) cl_X11_all ml_RL_91 im_X11_all se_X11_all (by decide) rfl ⟨by decide, by decide⟩) h.1 hcs0 (by decide) (q_callV (b := 0) (r := []) (as := [.ref 0, .int (xs (n + 1))]) rfl ⟨by rw [h.2.1]; decide, Nat.le_of_ble_eq_true rfl⟩ rfl (by rw [h.2.1]; exact h1)) ?_
  refine GW_op (s_ald_n (q := 2) (by decide +kernel) rfl) h.1 hcs0 (by decide) (fun k => rfl) ?_
  refine gl_arg h hcs0 (q := 1) (k := 1) (by decide +kernel) (by decide +kernel) (by decide +kernel) (by decide +kernel) (by decide +kernel) (by decide) (by omega) ?_
  refine GW_op (s_callV (ci := 12) (by decide +kernel) (t_X12_all h.2.2.1) cl_X12_all ml_RL_95 im_X12_all se_X12_all (by decide) rfl ⟨by decide, by decide⟩) h.1 hcs0 (by decide) (q_callV (b := 219) (r := [.int v]) (as := [.ref 219, .int (xs (n + 1))]) rfl ⟨by rw [h.2.1]; decide, Nat.le_of_ble_eq_true rfl⟩ rfl (by rw [h.2.1]; exact h2)) ?_
  refine GW_op (s_cmpeq (off := 505) (t := 1277) (by decide +kernel) (by decide)) h.1 hcs0 (by decide) (fun k => if_pos rfl) ?_
  exact gl_w (n := n) (hend _ _ _ h3)
set_option maxRecDepth 100000 in
theorem lc_best (h : LX_ p l s m args meth c E L xs) (hcs : cl + 1 ≤ room_1.cells ∧ sl + 6 ≤ room_1.slots) {n : Nat} (hn : n + 6 ≤ L) {x5 x6 : Option Value} {σ : St_} (hG : GI_ σ) (hend : ∀ x5 x6 σ1, GI_ σ1 → GW_ p l e room_1 s m args below meth c E 7 (cl + 1) (sl + 6) Q 1277 (lwo_ n x5 x6) [] σ1) : GW_ p l e room_1 s m args below meth c E 7 cl sl Q 777 (lwo_ n x5 x6) [] σ := by
  have hcs0 : cl ≤ room_1.cells ∧ sl ≤ room_1.slots := ⟨by omega, by omega⟩
  obtain ⟨v, τ1, τ2, h1, h2, h3⟩ := gs_best hG (xs (n + 1)) (xs (n + 2))
  refine GW_op (s_ald_n (q := 1) (by decide +kernel) rfl) h.1 hcs0 (by decide) (fun k => rfl) ?_
  refine gl_arg h hcs0 (q := 1) (k := 1) (by decide +kernel) (by decide +kernel) (by decide +kernel) (by decide +kernel) (by decide +kernel) (by decide) (by omega) ?_
  refine gl_arg h hcs0 (q := 2) (k := 2) (by decide +kernel) (by decide +kernel) (by decide +kernel) (by decide +kernel) (by decide +kernel) (by decide) (by omega) ?_
  refine GW_op (s_callV (ci := 11) (by decide +kernel) (t_X11_best h.2.2.1) cl_X11_best ml_RL_96 im_X11_best se_X11_best (by decide) rfl ⟨by decide, by decide⟩) h.1 hcs0 (by decide) (q_callV (b := 0) (r := []) (as := [.ref 0, .int (xs (n + 1)), .int (xs (n + 2))]) rfl ⟨by rw [h.2.1]; decide, Nat.le_of_ble_eq_true rfl⟩ rfl (by rw [h.2.1]; exact h1)) ?_
  refine GW_op (s_ald_n (q := 2) (by decide +kernel) rfl) h.1 hcs0 (by decide) (fun k => rfl) ?_
  refine gl_arg h hcs0 (q := 1) (k := 1) (by decide +kernel) (by decide +kernel) (by decide +kernel) (by decide +kernel) (by decide +kernel) (by decide) (by omega) ?_
  refine gl_arg h hcs0 (q := 2) (k := 2) (by decide +kernel) (by decide +kernel) (by decide +kernel) (by decide +kernel) (by decide +kernel) (by decide) (by omega) ?_
  refine GW_op (s_callV (ci := 12) (by decide +kernel) (t_X12_best h.2.2.1) cl_X12_best ml_RL_99 im_X12_best se_X12_best (by decide) rfl ⟨by decide, by decide⟩) h.1 hcs0 (by decide) (q_callV (b := 219) (r := [.int v]) (as := [.ref 219, .int (xs (n + 1)), .int (xs (n + 2))]) rfl ⟨by rw [h.2.1]; decide, Nat.le_of_ble_eq_true rfl⟩ rfl (by rw [h.2.1]; exact h2)) ?_
  refine GW_op (s_cmpeq (off := 468) (t := 1277) (by decide +kernel) (by decide)) h.1 hcs0 (by decide) (fun k => if_pos rfl) ?_
  exact gl_w (n := n) (hend _ _ _ h3)
set_option maxRecDepth 100000 in
theorem lc_bestOf (h : LX_ p l s m args meth c E L xs) (hcs : cl + 1 ≤ room_1.cells ∧ sl + 6 ≤ room_1.slots) {n : Nat} (hn : n + 6 ≤ L) {x5 x6 : Option Value} {σ : St_} (hG : GI_ σ) (hend : ∀ x5 x6 σ1, GI_ σ1 → GW_ p l e room_1 s m args below meth c E 7 (cl + 1) (sl + 6) Q 1277 (lwo_ n x5 x6) [] σ1) : GW_ p l e room_1 s m args below meth c E 7 cl sl Q 814 (lwo_ n x5 x6) [] σ := by
  have hcs0 : cl ≤ room_1.cells ∧ sl ≤ room_1.slots := ⟨by omega, by omega⟩
  obtain ⟨v, τ1, τ2, h1, h2, h3⟩ := gs_bestOf hG (xs (n + 1))
  refine GW_op (s_ald_n (q := 1) (by decide +kernel) rfl) h.1 hcs0 (by decide) (fun k => rfl) ?_
  refine gl_arg h hcs0 (q := 1) (k := 1) (by decide +kernel) (by decide +kernel) (by decide +kernel) (by decide +kernel) (by decide +kernel) (by decide) (by omega) ?_
  refine GW_op (s_callV (ci := 11) (by decide +kernel) (t_X11_bestOf h.2.2.1) cl_X11_bestOf ml_RL_100 im_X11_bestOf se_X11_bestOf (by decide) rfl ⟨by decide, by decide⟩) h.1 hcs0 (by decide) (q_callV (b := 0) (r := []) (as := [.ref 0, .int (xs (n + 1))]) rfl ⟨by rw [h.2.1]; decide, Nat.le_of_ble_eq_true rfl⟩ rfl (by rw [h.2.1]; exact h1)) ?_
  refine GW_op (s_ald_n (q := 2) (by decide +kernel) rfl) h.1 hcs0 (by decide) (fun k => rfl) ?_
  refine gl_arg h hcs0 (q := 1) (k := 1) (by decide +kernel) (by decide +kernel) (by decide +kernel) (by decide +kernel) (by decide +kernel) (by decide) (by omega) ?_
  refine GW_op (s_callV (ci := 12) (by decide +kernel) (t_X12_bestOf h.2.2.1) cl_X12_bestOf ml_RL_103 im_X12_bestOf se_X12_bestOf (by decide) rfl ⟨by decide, by decide⟩) h.1 hcs0 (by decide) (q_callV (b := 219) (r := [.int v]) (as := [.ref 219, .int (xs (n + 1))]) rfl ⟨by rw [h.2.1]; decide, Nat.le_of_ble_eq_true rfl⟩ rfl (by rw [h.2.1]; exact h2)) ?_
  refine GW_op (s_cmpeq (off := 443) (t := 1277) (by decide +kernel) (by decide)) h.1 hcs0 (by decide) (fun k => if_pos rfl) ?_
  exact gl_w (n := n) (hend _ _ _ h3)
set_option maxRecDepth 100000 in
theorem lc_cut (h : LX_ p l s m args meth c E L xs) (hcs : cl + 1 ≤ room_1.cells ∧ sl + 6 ≤ room_1.slots) {n : Nat} (hn : n + 6 ≤ L) {x5 x6 : Option Value} {σ : St_} (hG : GI_ σ) (hend : ∀ x5 x6 σ1, GI_ σ1 → GW_ p l e room_1 s m args below meth c E 7 (cl + 1) (sl + 6) Q 1277 (lwo_ n x5 x6) [] σ1) : GW_ p l e room_1 s m args below meth c E 7 cl sl Q 839 (lwo_ n x5 x6) [] σ := by
  have hcs0 : cl ≤ room_1.cells ∧ sl ≤ room_1.slots := ⟨by omega, by omega⟩
  obtain ⟨v, τ1, τ2, h1, h2, h3⟩ := gs_cut hG (xs (n + 1)) (xs (n + 2))
  refine GW_op (s_ald_n (q := 1) (by decide +kernel) rfl) h.1 hcs0 (by decide) (fun k => rfl) ?_
  refine gl_arg h hcs0 (q := 1) (k := 1) (by decide +kernel) (by decide +kernel) (by decide +kernel) (by decide +kernel) (by decide +kernel) (by decide) (by omega) ?_
  refine gl_arg h hcs0 (q := 2) (k := 2) (by decide +kernel) (by decide +kernel) (by decide +kernel) (by decide +kernel) (by decide +kernel) (by decide) (by omega) ?_
  refine GW_op (s_callV (ci := 11) (by decide +kernel) (t_X11_cut h.2.2.1) cl_X11_cut ml_RL_104 im_X11_cut se_X11_cut (by decide) rfl ⟨by decide, by decide⟩) h.1 hcs0 (by decide) (q_callV (b := 0) (r := []) (as := [.ref 0, .int (xs (n + 1)), .int (xs (n + 2))]) rfl ⟨by rw [h.2.1]; decide, Nat.le_of_ble_eq_true rfl⟩ rfl (by rw [h.2.1]; exact h1)) ?_
  refine GW_op (s_ald_n (q := 2) (by decide +kernel) rfl) h.1 hcs0 (by decide) (fun k => rfl) ?_
  refine gl_arg h hcs0 (q := 1) (k := 1) (by decide +kernel) (by decide +kernel) (by decide +kernel) (by decide +kernel) (by decide +kernel) (by decide) (by omega) ?_
  refine gl_arg h hcs0 (q := 2) (k := 2) (by decide +kernel) (by decide +kernel) (by decide +kernel) (by decide +kernel) (by decide +kernel) (by decide) (by omega) ?_
  refine GW_op (s_callV (ci := 12) (by decide +kernel) (t_X12_cut h.2.2.1) cl_X12_cut ml_RL_107 im_X12_cut se_X12_cut (by decide) rfl ⟨by decide, by decide⟩) h.1 hcs0 (by decide) (q_callV (b := 219) (r := [.int v]) (as := [.ref 219, .int (xs (n + 1)), .int (xs (n + 2))]) rfl ⟨by rw [h.2.1]; decide, Nat.le_of_ble_eq_true rfl⟩ rfl (by rw [h.2.1]; exact h2)) ?_
  refine GW_op (s_cmpeq (off := 406) (t := 1277) (by decide +kernel) (by decide)) h.1 hcs0 (by decide) (fun k => if_pos rfl) ?_
  exact gl_w (n := n) (hend _ _ _ h3)
set_option maxRecDepth 100000 in
theorem lc_cutAt (h : LX_ p l s m args meth c E L xs) (hcs : cl + 1 ≤ room_1.cells ∧ sl + 6 ≤ room_1.slots) {n : Nat} (hn : n + 6 ≤ L) {x5 x6 : Option Value} {σ : St_} (hG : GI_ σ) (hend : ∀ x5 x6 σ1, GI_ σ1 → GW_ p l e room_1 s m args below meth c E 7 (cl + 1) (sl + 6) Q 1277 (lwo_ n x5 x6) [] σ1) : GW_ p l e room_1 s m args below meth c E 7 cl sl Q 876 (lwo_ n x5 x6) [] σ := by
  have hcs0 : cl ≤ room_1.cells ∧ sl ≤ room_1.slots := ⟨by omega, by omega⟩
  obtain ⟨v, τ1, τ2, h1, h2, h3⟩ := gs_cutAt hG (xs (n + 1))
  refine GW_op (s_ald_n (q := 1) (by decide +kernel) rfl) h.1 hcs0 (by decide) (fun k => rfl) ?_
  refine gl_arg h hcs0 (q := 1) (k := 1) (by decide +kernel) (by decide +kernel) (by decide +kernel) (by decide +kernel) (by decide +kernel) (by decide) (by omega) ?_
  refine GW_op (s_callV (ci := 11) (by decide +kernel) (t_X11_cutAt h.2.2.1) cl_X11_cutAt ml_RL_108 im_X11_cutAt se_X11_cutAt (by decide) rfl ⟨by decide, by decide⟩) h.1 hcs0 (by decide) (q_callV (b := 0) (r := []) (as := [.ref 0, .int (xs (n + 1))]) rfl ⟨by rw [h.2.1]; decide, Nat.le_of_ble_eq_true rfl⟩ rfl (by rw [h.2.1]; exact h1)) ?_
  refine GW_op (s_ald_n (q := 2) (by decide +kernel) rfl) h.1 hcs0 (by decide) (fun k => rfl) ?_
  refine gl_arg h hcs0 (q := 1) (k := 1) (by decide +kernel) (by decide +kernel) (by decide +kernel) (by decide +kernel) (by decide +kernel) (by decide) (by omega) ?_
  refine GW_op (s_callV (ci := 12) (by decide +kernel) (t_X12_cutAt h.2.2.1) cl_X12_cutAt ml_RL_111 im_X12_cutAt se_X12_cutAt (by decide) rfl ⟨by decide, by decide⟩) h.1 hcs0 (by decide) (q_callV (b := 219) (r := [.int v]) (as := [.ref 219, .int (xs (n + 1))]) rfl ⟨by rw [h.2.1]; decide, Nat.le_of_ble_eq_true rfl⟩ rfl (by rw [h.2.1]; exact h2)) ?_
  refine GW_op (s_cmpeq (off := 381) (t := 1277) (by decide +kernel) (by decide)) h.1 hcs0 (by decide) (fun k => if_pos rfl) ?_
  exact gl_w (n := n) (hend _ _ _ h3)
set_option maxRecDepth 100000 in
theorem lc_net (h : LX_ p l s m args meth c E L xs) (hcs : cl + 1 ≤ room_1.cells ∧ sl + 6 ≤ room_1.slots) {n : Nat} (hn : n + 6 ≤ L) {x5 x6 : Option Value} {σ : St_} (hG : GI_ σ) (hend : ∀ x5 x6 σ1, GI_ σ1 → GW_ p l e room_1 s m args below meth c E 7 (cl + 1) (sl + 6) Q 1277 (lwo_ n x5 x6) [] σ1) : GW_ p l e room_1 s m args below meth c E 7 cl sl Q 901 (lwo_ n x5 x6) [] σ := by
  have hcs0 : cl ≤ room_1.cells ∧ sl ≤ room_1.slots := ⟨by omega, by omega⟩
  obtain ⟨v, τ1, τ2, h1, h2, h3⟩ := gs_net hG (xs (n + 1))
  refine GW_op (s_ald_n (q := 1) (by decide +kernel) rfl) h.1 hcs0 (by decide) (fun k => rfl) ?_
  refine gl_arg h hcs0 (q := 1) (k := 1) (by decide +kernel) (by decide +kernel) (by decide +kernel) (by decide +kernel) (by decide +kernel) (by decide) (by omega) ?_
  refine GW_op (s_callV (ci := 11) (by decide +kernel) (t_X11_net h.2.2.1) cl_X11_net ml_RL_112 im_X11_net se_X11_net (by decide) rfl ⟨by decide, by decide⟩) h.1 hcs0 (by decide) (q_callV (b := 0) (r := []) (as := [.ref 0, .int (xs (n + 1))]) rfl ⟨by rw [h.2.1]; decide, Nat.le_of_ble_eq_true rfl⟩ rfl (by rw [h.2.1]; exact h1)) ?_
  refine GW_op (s_ald_n (q := 2) (by decide +kernel) rfl) h.1 hcs0 (by decide) (fun k => rfl) ?_
  refine gl_arg h hcs0 (q := 1) (k := 1) (by decide +kernel) (by decide +kernel) (by decide +kernel) (by decide +kernel) (by decide +kernel) (by decide) (by omega) ?_
  refine GW_op (s_callV (ci := 12) (by decide +kernel) (t_X12_net h.2.2.1) cl_X12_net ml_RL_115 im_X12_net se_X12_net (by decide) rfl ⟨by decide, by decide⟩) h.1 hcs0 (by decide) (q_callV (b := 219) (r := [.int v]) (as := [.ref 219, .int (xs (n + 1))]) rfl ⟨by rw [h.2.1]; decide, Nat.le_of_ble_eq_true rfl⟩ rfl (by rw [h.2.1]; exact h2)) ?_
  refine GW_op (s_cmpeq (off := 356) (t := 1277) (by decide +kernel) (by decide)) h.1 hcs0 (by decide) (fun k => if_pos rfl) ?_
  exact gl_w (n := n) (hend _ _ _ h3)
set_option maxRecDepth 100000 in
theorem lc_netSide (h : LX_ p l s m args meth c E L xs) (hcs : cl + 1 ≤ room_1.cells ∧ sl + 6 ≤ room_1.slots) {n : Nat} (hn : n + 6 ≤ L) {x5 x6 : Option Value} {σ : St_} (hG : GI_ σ) (hend : ∀ x5 x6 σ1, GI_ σ1 → GW_ p l e room_1 s m args below meth c E 7 (cl + 1) (sl + 6) Q 1277 (lwo_ n x5 x6) [] σ1) : GW_ p l e room_1 s m args below meth c E 7 cl sl Q 926 (lwo_ n x5 x6) [] σ := by
  have hcs0 : cl ≤ room_1.cells ∧ sl ≤ room_1.slots := ⟨by omega, by omega⟩
  obtain ⟨v, τ1, τ2, h1, h2, h3⟩ := gs_netSide hG
  refine GW_op (s_ald_n (q := 1) (by decide +kernel) rfl) h.1 hcs0 (by decide) (fun k => rfl) ?_
  refine GW_op (s_callV (ci := 11) (by decide +kernel) (t_X11_netSide h.2.2.1) cl_X11_netSide ml_RL_116 im_X11_netSide se_X11_netSide (by decide) rfl ⟨by decide, by decide⟩) h.1 hcs0 (by decide) (q_callV (b := 0) (r := []) (as := [.ref 0]) rfl ⟨by rw [h.2.1]; decide, Nat.le_of_ble_eq_true rfl⟩ rfl (by rw [h.2.1]; exact h1)) ?_
  refine GW_op (s_ald_n (q := 2) (by decide +kernel) rfl) h.1 hcs0 (by decide) (fun k => rfl) ?_
  refine GW_op (s_callV (ci := 12) (by decide +kernel) (t_X12_netSide h.2.2.1) cl_X12_netSide ml_RL_119 im_X12_netSide se_X12_netSide (by decide) rfl ⟨by decide, by decide⟩) h.1 hcs0 (by decide) (q_callV (b := 219) (r := [.int v]) (as := [.ref 219]) rfl ⟨by rw [h.2.1]; decide, Nat.le_of_ble_eq_true rfl⟩ rfl (by rw [h.2.1]; exact h2)) ?_
  refine GW_op (s_cmpeq (off := 343) (t := 1277) (by decide +kernel) (by decide)) h.1 hcs0 (by decide) (fun k => if_pos rfl) ?_
  exact gl_w (n := n) (hend _ _ _ h3)
set_option maxRecDepth 100000 in
theorem lc_chain (h : LX_ p l s m args meth c E L xs) (hcs : cl + 1 ≤ room_1.cells ∧ sl + 6 ≤ room_1.slots) {n : Nat} (hn : n + 6 ≤ L) {x5 x6 : Option Value} {σ : St_} (hG : GI_ σ) (hend : ∀ x5 x6 σ1, GI_ σ1 → GW_ p l e room_1 s m args below meth c E 7 (cl + 1) (sl + 6) Q 1277 (lwo_ n x5 x6) [] σ1) : GW_ p l e room_1 s m args below meth c E 7 cl sl Q 939 (lwo_ n x5 x6) [] σ := by
  have hcs0 : cl ≤ room_1.cells ∧ sl ≤ room_1.slots := ⟨by omega, by omega⟩
  obtain ⟨v, τ1, τ2, h1, h2, h3⟩ := gs_chain hG
  refine GW_op (s_ald_n (q := 1) (by decide +kernel) rfl) h.1 hcs0 (by decide) (fun k => rfl) ?_
  refine GW_op (s_callV (ci := 11) (by decide +kernel) (t_X11_chain h.2.2.1) cl_X11_chain ml_RL_120 im_X11_chain se_X11_chain (by decide) rfl ⟨by decide, by decide⟩) h.1 hcs0 (by decide) (q_callV (b := 0) (r := []) (as := [.ref 0]) rfl ⟨by rw [h.2.1]; decide, Nat.le_of_ble_eq_true rfl⟩ rfl (by rw [h.2.1]; exact h1)) ?_
  refine GW_op (s_ald_n (q := 2) (by decide +kernel) rfl) h.1 hcs0 (by decide) (fun k => rfl) ?_
  refine GW_op (s_callV (ci := 12) (by decide +kernel) (t_X12_chain h.2.2.1) cl_X12_chain ml_RL_123 im_X12_chain se_X12_chain (by decide) rfl ⟨by decide, by decide⟩) h.1 hcs0 (by decide) (q_callV (b := 219) (r := [.int v]) (as := [.ref 219]) rfl ⟨by rw [h.2.1]; decide, Nat.le_of_ble_eq_true rfl⟩ rfl (by rw [h.2.1]; exact h2)) ?_
  refine GW_op (s_cmpeq (off := 330) (t := 1277) (by decide +kernel) (by decide)) h.1 hcs0 (by decide) (fun k => if_pos rfl) ?_
  exact gl_w (n := n) (hend _ _ _ h3)
set_option maxRecDepth 100000 in
theorem lc_chainAt (h : LX_ p l s m args meth c E L xs) (hcs : cl + 1 ≤ room_1.cells ∧ sl + 6 ≤ room_1.slots) {n : Nat} (hn : n + 6 ≤ L) {x5 x6 : Option Value} {σ : St_} (hG : GI_ σ) (hend : ∀ x5 x6 σ1, GI_ σ1 → GW_ p l e room_1 s m args below meth c E 7 (cl + 1) (sl + 6) Q 1277 (lwo_ n x5 x6) [] σ1) : GW_ p l e room_1 s m args below meth c E 7 cl sl Q 952 (lwo_ n x5 x6) [] σ := by
  have hcs0 : cl ≤ room_1.cells ∧ sl ≤ room_1.slots := ⟨by omega, by omega⟩
  obtain ⟨v, τ1, τ2, h1, h2, h3⟩ := gs_chainAt hG (xs (n + 1))
  refine GW_op (s_ald_n (q := 1) (by decide +kernel) rfl) h.1 hcs0 (by decide) (fun k => rfl) ?_
  refine gl_arg h hcs0 (q := 1) (k := 1) (by decide +kernel) (by decide +kernel) (by decide +kernel) (by decide +kernel) (by decide +kernel) (by decide) (by omega) ?_
  refine GW_op (s_callV (ci := 11) (by decide +kernel) (t_X11_chainAt h.2.2.1) cl_X11_chainAt ml_RL_124 im_X11_chainAt se_X11_chainAt (by decide) rfl ⟨by decide, by decide⟩) h.1 hcs0 (by decide) (q_callV (b := 0) (r := []) (as := [.ref 0, .int (xs (n + 1))]) rfl ⟨by rw [h.2.1]; decide, Nat.le_of_ble_eq_true rfl⟩ rfl (by rw [h.2.1]; exact h1)) ?_
  refine GW_op (s_ald_n (q := 2) (by decide +kernel) rfl) h.1 hcs0 (by decide) (fun k => rfl) ?_
  refine gl_arg h hcs0 (q := 1) (k := 1) (by decide +kernel) (by decide +kernel) (by decide +kernel) (by decide +kernel) (by decide +kernel) (by decide) (by omega) ?_
  refine GW_op (s_callV (ci := 12) (by decide +kernel) (t_X12_chainAt h.2.2.1) cl_X12_chainAt ml_RL_127 im_X12_chainAt se_X12_chainAt (by decide) rfl ⟨by decide, by decide⟩) h.1 hcs0 (by decide) (q_callV (b := 219) (r := [.int v]) (as := [.ref 219, .int (xs (n + 1))]) rfl ⟨by rw [h.2.1]; decide, Nat.le_of_ble_eq_true rfl⟩ rfl (by rw [h.2.1]; exact h2)) ?_
  refine GW_op (s_cmpeq (off := 305) (t := 1277) (by decide +kernel) (by decide)) h.1 hcs0 (by decide) (fun k => if_pos rfl) ?_
  exact gl_w (n := n) (hend _ _ _ h3)
set_option maxRecDepth 100000 in
theorem lc_alone (h : LX_ p l s m args meth c E L xs) (hcs : cl + 1 ≤ room_1.cells ∧ sl + 6 ≤ room_1.slots) {n : Nat} (hn : n + 6 ≤ L) {x5 x6 : Option Value} {σ : St_} (hG : GI_ σ) (hend : ∀ x5 x6 σ1, GI_ σ1 → GW_ p l e room_1 s m args below meth c E 7 (cl + 1) (sl + 6) Q 1277 (lwo_ n x5 x6) [] σ1) : GW_ p l e room_1 s m args below meth c E 7 cl sl Q 977 (lwo_ n x5 x6) [] σ := by
  have hcs0 : cl ≤ room_1.cells ∧ sl ≤ room_1.slots := ⟨by omega, by omega⟩
  obtain ⟨v, τ1, τ2, h1, h2, h3⟩ := gs_alone hG (xs (n + 1)) (xs (n + 2))
  refine GW_op (s_ald_n (q := 1) (by decide +kernel) rfl) h.1 hcs0 (by decide) (fun k => rfl) ?_
  refine gl_arg h hcs0 (q := 1) (k := 1) (by decide +kernel) (by decide +kernel) (by decide +kernel) (by decide +kernel) (by decide +kernel) (by decide) (by omega) ?_
  refine gl_arg h hcs0 (q := 2) (k := 2) (by decide +kernel) (by decide +kernel) (by decide +kernel) (by decide +kernel) (by decide +kernel) (by decide) (by omega) ?_
  refine GW_op (s_callV (ci := 11) (by decide +kernel) (t_X11_alone h.2.2.1) cl_X11_alone ml_RL_128 im_X11_alone se_X11_alone (by decide) rfl ⟨by decide, by decide⟩) h.1 hcs0 (by decide) (q_callV (b := 0) (r := []) (as := [.ref 0, .int (xs (n + 1)), .int (xs (n + 2))]) rfl ⟨by rw [h.2.1]; decide, Nat.le_of_ble_eq_true rfl⟩ rfl (by rw [h.2.1]; exact h1)) ?_
  refine GW_op (s_ald_n (q := 2) (by decide +kernel) rfl) h.1 hcs0 (by decide) (fun k => rfl) ?_
  refine gl_arg h hcs0 (q := 1) (k := 1) (by decide +kernel) (by decide +kernel) (by decide +kernel) (by decide +kernel) (by decide +kernel) (by decide) (by omega) ?_
  refine gl_arg h hcs0 (q := 2) (k := 2) (by decide +kernel) (by decide +kernel) (by decide +kernel) (by decide +kernel) (by decide +kernel) (by decide) (by omega) ?_
  refine GW_op (s_callV (ci := 12) (by decide +kernel) (t_X12_alone h.2.2.1) cl_X12_alone ml_RL_131 im_X12_alone se_X12_alone (by decide) rfl ⟨by decide, by decide⟩) h.1 hcs0 (by decide) (q_callV (b := 219) (r := [.int v]) (as := [.ref 219, .int (xs (n + 1)), .int (xs (n + 2))]) rfl ⟨by rw [h.2.1]; decide, Nat.le_of_ble_eq_true rfl⟩ rfl (by rw [h.2.1]; exact h2)) ?_
  refine GW_op (s_cmpeq (off := 268) (t := 1277) (by decide +kernel) (by decide)) h.1 hcs0 (by decide) (fun k => if_pos rfl) ?_
  exact gl_w (n := n) (hend _ _ _ h3)
set_option maxRecDepth 100000 in
theorem lc_leave (h : LX_ p l s m args meth c E L xs) (hcs : cl + 1 ≤ room_1.cells ∧ sl + 6 ≤ room_1.slots) {n : Nat} (hn : n + 6 ≤ L) {x5 x6 : Option Value} {σ : St_} (hG : GI_ σ) (hend : ∀ x5 x6 σ1, GI_ σ1 → GW_ p l e room_1 s m args below meth c E 7 (cl + 1) (sl + 6) Q 1277 (lwo_ n x5 x6) [] σ1) : GW_ p l e room_1 s m args below meth c E 7 cl sl Q 1014 (lwo_ n x5 x6) [] σ := by
  have hcs0 : cl ≤ room_1.cells ∧ sl ≤ room_1.slots := ⟨by omega, by omega⟩
  obtain ⟨v, τ1, τ2, h1, h2, h3⟩ := gs_leave hG (xs (n + 1))
  refine GW_op (s_ald_n (q := 1) (by decide +kernel) rfl) h.1 hcs0 (by decide) (fun k => rfl) ?_
  refine gl_arg h hcs0 (q := 1) (k := 1) (by decide +kernel) (by decide +kernel) (by decide +kernel) (by decide +kernel) (by decide +kernel) (by decide) (by omega) ?_
  refine GW_op (s_callV (ci := 11) (by decide +kernel) (t_X11_leave h.2.2.1) cl_X11_leave ml_RL_132 im_X11_leave se_X11_leave (by decide) rfl ⟨by decide, by decide⟩) h.1 hcs0 (by decide) (q_callV (b := 0) (r := []) (as := [.ref 0, .int (xs (n + 1))]) rfl ⟨by rw [h.2.1]; decide, Nat.le_of_ble_eq_true rfl⟩ rfl (by rw [h.2.1]; exact h1)) ?_
  refine GW_op (s_ald_n (q := 2) (by decide +kernel) rfl) h.1 hcs0 (by decide) (fun k => rfl) ?_
  refine gl_arg h hcs0 (q := 1) (k := 1) (by decide +kernel) (by decide +kernel) (by decide +kernel) (by decide +kernel) (by decide +kernel) (by decide) (by omega) ?_
  refine GW_op (s_callV (ci := 12) (by decide +kernel) (t_X12_leave h.2.2.1) cl_X12_leave ml_RL_135 im_X12_leave se_X12_leave (by decide) rfl ⟨by decide, by decide⟩) h.1 hcs0 (by decide) (q_callV (b := 219) (r := [.int v]) (as := [.ref 219, .int (xs (n + 1))]) rfl ⟨by rw [h.2.1]; decide, Nat.le_of_ble_eq_true rfl⟩ rfl (by rw [h.2.1]; exact h2)) ?_
  refine GW_op (s_cmpeq (off := 243) (t := 1277) (by decide +kernel) (by decide)) h.1 hcs0 (by decide) (fun k => if_pos rfl) ?_
  exact gl_w (n := n) (hend _ _ _ h3)
set_option maxRecDepth 100000 in
theorem lc_extra (h : LX_ p l s m args meth c E L xs) (hcs : cl + 1 ≤ room_1.cells ∧ sl + 6 ≤ room_1.slots) {n : Nat} (hn : n + 6 ≤ L) {x5 x6 : Option Value} {σ : St_} (hG : GI_ σ) (hend : ∀ x5 x6 σ1, GI_ σ1 → GW_ p l e room_1 s m args below meth c E 7 (cl + 1) (sl + 6) Q 1277 (lwo_ n x5 x6) [] σ1) : GW_ p l e room_1 s m args below meth c E 7 cl sl Q 1039 (lwo_ n x5 x6) [] σ := by
  have hcs0 : cl ≤ room_1.cells ∧ sl ≤ room_1.slots := ⟨by omega, by omega⟩
  obtain ⟨v, τ1, τ2, h1, h2, h3⟩ := gs_extra hG (xs (n + 1))
  refine GW_op (s_ald_n (q := 1) (by decide +kernel) rfl) h.1 hcs0 (by decide) (fun k => rfl) ?_
  refine gl_arg h hcs0 (q := 1) (k := 1) (by decide +kernel) (by decide +kernel) (by decide +kernel) (by decide +kernel) (by decide +kernel) (by decide) (by omega) ?_
  refine GW_op (s_callV (ci := 11) (by decide +kernel) (t_X11_extra h.2.2.1) cl_X11_extra ml_RL_136 im_X11_extra se_X11_extra (by decide) rfl ⟨by decide, by decide⟩) h.1 hcs0 (by decide) (q_callV (b := 0) (r := []) (as := [.ref 0, .int (xs (n + 1))]) rfl ⟨by rw [h.2.1]; decide, Nat.le_of_ble_eq_true rfl⟩ rfl (by rw [h.2.1]; exact h1)) ?_
  refine GW_op (s_ald_n (q := 2) (by decide +kernel) rfl) h.1 hcs0 (by decide) (fun k => rfl) ?_
  refine gl_arg h hcs0 (q := 1) (k := 1) (by decide +kernel) (by decide +kernel) (by decide +kernel) (by decide +kernel) (by decide +kernel) (by decide) (by omega) ?_
  refine GW_op (s_callV (ci := 12) (by decide +kernel) (t_X12_extra h.2.2.1) cl_X12_extra ml_RL_139 im_X12_extra se_X12_extra (by decide) rfl ⟨by decide, by decide⟩) h.1 hcs0 (by decide) (q_callV (b := 219) (r := [.int v]) (as := [.ref 219, .int (xs (n + 1))]) rfl ⟨by rw [h.2.1]; decide, Nat.le_of_ble_eq_true rfl⟩ rfl (by rw [h.2.1]; exact h2)) ?_
  refine GW_op (s_cmpeq (off := 218) (t := 1277) (by decide +kernel) (by decide)) h.1 hcs0 (by decide) (fun k => if_pos rfl) ?_
  exact gl_w (n := n) (hend _ _ _ h3)
set_option maxRecDepth 100000 in
theorem lc_ask (h : LX_ p l s m args meth c E L xs) (hcs : cl + 1 ≤ room_1.cells ∧ sl + 6 ≤ room_1.slots) {n : Nat} (hn : n + 6 ≤ L) {x5 x6 : Option Value} {σ : St_} (hG : GI_ σ) (hend : ∀ x5 x6 σ1, GI_ σ1 → GW_ p l e room_1 s m args below meth c E 7 (cl + 1) (sl + 6) Q 1277 (lwo_ n x5 x6) [] σ1) : GW_ p l e room_1 s m args below meth c E 7 cl sl Q 1064 (lwo_ n x5 x6) [] σ := by
  have hcs0 : cl ≤ room_1.cells ∧ sl ≤ room_1.slots := ⟨by omega, by omega⟩
  obtain ⟨v, τ1, τ2, h1, h2, h3⟩ := gs_ask hG
  refine GW_op (s_ald_n (q := 1) (by decide +kernel) rfl) h.1 hcs0 (by decide) (fun k => rfl) ?_
  refine GW_op (s_callV (ci := 11) (by decide +kernel) (t_X11_ask h.2.2.1) cl_X11_ask ml_RL_140 im_X11_ask se_X11_ask (by decide) rfl ⟨by decide, by decide⟩) h.1 hcs0 (by decide) (q_callV (b := 0) (r := []) (as := [.ref 0]) rfl ⟨by rw [h.2.1]; decide, Nat.le_of_ble_eq_true rfl⟩ rfl (by rw [h.2.1]; exact h1)) ?_
  refine GW_op (s_ald_n (q := 2) (by decide +kernel) rfl) h.1 hcs0 (by decide) (fun k => rfl) ?_
  refine GW_op (s_callV (ci := 12) (by decide +kernel) (t_X12_ask h.2.2.1) cl_X12_ask ml_RL_143 im_X12_ask se_X12_ask (by decide) rfl ⟨by decide, by decide⟩) h.1 hcs0 (by decide) (q_callV (b := 219) (r := [.int v]) (as := [.ref 219]) rfl ⟨by rw [h.2.1]; decide, Nat.le_of_ble_eq_true rfl⟩ rfl (by rw [h.2.1]; exact h2)) ?_
  refine GW_op (s_cmpeq (off := 205) (t := 1277) (by decide +kernel) (by decide)) h.1 hcs0 (by decide) (fun k => if_pos rfl) ?_
  exact gl_w (n := n) (hend _ _ _ h3)
set_option maxRecDepth 100000 in
theorem lc_asked (h : LX_ p l s m args meth c E L xs) (hcs : cl + 1 ≤ room_1.cells ∧ sl + 6 ≤ room_1.slots) {n : Nat} (hn : n + 6 ≤ L) {x5 x6 : Option Value} {σ : St_} (hG : GI_ σ) (hend : ∀ x5 x6 σ1, GI_ σ1 → GW_ p l e room_1 s m args below meth c E 7 (cl + 1) (sl + 6) Q 1277 (lwo_ n x5 x6) [] σ1) : GW_ p l e room_1 s m args below meth c E 7 cl sl Q 1077 (lwo_ n x5 x6) [] σ := by
  have hcs0 : cl ≤ room_1.cells ∧ sl ≤ room_1.slots := ⟨by omega, by omega⟩
  obtain ⟨v, τ1, τ2, h1, h2, h3⟩ := gs_asked hG
  refine GW_op (s_ald_n (q := 1) (by decide +kernel) rfl) h.1 hcs0 (by decide) (fun k => rfl) ?_
  refine GW_op (s_callV (ci := 11) (by decide +kernel) (t_X11_asked h.2.2.1) cl_X11_asked ml_RL_144 im_X11_asked se_X11_asked (by decide) rfl ⟨by decide, by decide⟩) h.1 hcs0 (by decide) (q_callV (b := 0) (r := []) (as := [.ref 0]) rfl ⟨by rw [h.2.1]; decide, Nat.le_of_ble_eq_true rfl⟩ rfl (by rw [h.2.1]; exact h1)) ?_
  refine GW_op (s_ald_n (q := 2) (by decide +kernel) rfl) h.1 hcs0 (by decide) (fun k => rfl) ?_
  refine GW_op (s_callV (ci := 12) (by decide +kernel) (t_X12_asked h.2.2.1) cl_X12_asked ml_RL_147 im_X12_asked se_X12_asked (by decide) rfl ⟨by decide, by decide⟩) h.1 hcs0 (by decide) (q_callV (b := 219) (r := [.int v]) (as := [.ref 219]) rfl ⟨by rw [h.2.1]; decide, Nat.le_of_ble_eq_true rfl⟩ rfl (by rw [h.2.1]; exact h2)) ?_
  refine GW_op (s_cmpeq (off := 192) (t := 1277) (by decide +kernel) (by decide)) h.1 hcs0 (by decide) (fun k => if_pos rfl) ?_
  exact gl_w (n := n) (hend _ _ _ h3)
set_option maxRecDepth 100000 in
theorem lc_seen (h : LX_ p l s m args meth c E L xs) (hcs : cl + 1 ≤ room_1.cells ∧ sl + 6 ≤ room_1.slots) {n : Nat} (hn : n + 6 ≤ L) {x5 x6 : Option Value} {σ : St_} (hG : GI_ σ) (hend : ∀ x5 x6 σ1, GI_ σ1 → GW_ p l e room_1 s m args below meth c E 7 (cl + 1) (sl + 6) Q 1277 (lwo_ n x5 x6) [] σ1) : GW_ p l e room_1 s m args below meth c E 7 cl sl Q 1090 (lwo_ n x5 x6) [] σ := by
  have hcs0 : cl ≤ room_1.cells ∧ sl ≤ room_1.slots := ⟨by omega, by omega⟩
  obtain ⟨v, τ1, τ2, h1, h2, h3⟩ := gs_seen hG (xs (n + 1)) (xs (n + 2))
  refine GW_op (s_ald_n (q := 1) (by decide +kernel) rfl) h.1 hcs0 (by decide) (fun k => rfl) ?_
  refine gl_arg h hcs0 (q := 1) (k := 1) (by decide +kernel) (by decide +kernel) (by decide +kernel) (by decide +kernel) (by decide +kernel) (by decide) (by omega) ?_
  refine gl_arg h hcs0 (q := 2) (k := 2) (by decide +kernel) (by decide +kernel) (by decide +kernel) (by decide +kernel) (by decide +kernel) (by decide) (by omega) ?_
  refine GW_op (s_callV (ci := 11) (by decide +kernel) (t_X11_seen h.2.2.1) cl_X11_seen ml_RL_148 im_X11_seen se_X11_seen (by decide) rfl ⟨by decide, by decide⟩) h.1 hcs0 (by decide) (q_callV (b := 0) (r := []) (as := [.ref 0, .int (xs (n + 1)), .int (xs (n + 2))]) rfl ⟨by rw [h.2.1]; decide, Nat.le_of_ble_eq_true rfl⟩ rfl (by rw [h.2.1]; exact h1)) ?_
  refine GW_op (s_ald_n (q := 2) (by decide +kernel) rfl) h.1 hcs0 (by decide) (fun k => rfl) ?_
  refine gl_arg h hcs0 (q := 1) (k := 1) (by decide +kernel) (by decide +kernel) (by decide +kernel) (by decide +kernel) (by decide +kernel) (by decide) (by omega) ?_
  refine gl_arg h hcs0 (q := 2) (k := 2) (by decide +kernel) (by decide +kernel) (by decide +kernel) (by decide +kernel) (by decide +kernel) (by decide) (by omega) ?_
  refine GW_op (s_callV (ci := 12) (by decide +kernel) (t_X12_seen h.2.2.1) cl_X12_seen ml_RL_151 im_X12_seen se_X12_seen (by decide) rfl ⟨by decide, by decide⟩) h.1 hcs0 (by decide) (q_callV (b := 219) (r := [.int v]) (as := [.ref 219, .int (xs (n + 1)), .int (xs (n + 2))]) rfl ⟨by rw [h.2.1]; decide, Nat.le_of_ble_eq_true rfl⟩ rfl (by rw [h.2.1]; exact h2)) ?_
  refine GW_op (s_cmpeq (off := 155) (t := 1277) (by decide +kernel) (by decide)) h.1 hcs0 (by decide) (fun k => if_pos rfl) ?_
  exact gl_w (n := n) (hend _ _ _ h3)
set_option maxRecDepth 100000 in
theorem lc_ill (h : LX_ p l s m args meth c E L xs) (hcs : cl + 1 ≤ room_1.cells ∧ sl + 6 ≤ room_1.slots) {n : Nat} (hn : n + 6 ≤ L) {x5 x6 : Option Value} {σ : St_} (hG : GI_ σ) (hend : ∀ x5 x6 σ1, GI_ σ1 → GW_ p l e room_1 s m args below meth c E 7 (cl + 1) (sl + 6) Q 1277 (lwo_ n x5 x6) [] σ1) : GW_ p l e room_1 s m args below meth c E 7 cl sl Q 1127 (lwo_ n x5 x6) [] σ := by
  have hcs0 : cl ≤ room_1.cells ∧ sl ≤ room_1.slots := ⟨by omega, by omega⟩
  obtain ⟨v, τ1, τ2, h1, h2, h3⟩ := gs_ill hG (xs (n + 1)) (xs (n + 2)) (xs (n + 3))
  refine GW_op (s_ald_n (q := 1) (by decide +kernel) rfl) h.1 hcs0 (by decide) (fun k => rfl) ?_
  refine gl_arg h hcs0 (q := 1) (k := 1) (by decide +kernel) (by decide +kernel) (by decide +kernel) (by decide +kernel) (by decide +kernel) (by decide) (by omega) ?_
  refine gl_arg h hcs0 (q := 2) (k := 2) (by decide +kernel) (by decide +kernel) (by decide +kernel) (by decide +kernel) (by decide +kernel) (by decide) (by omega) ?_
  refine gl_arg h hcs0 (q := 3) (k := 3) (by decide +kernel) (by decide +kernel) (by decide +kernel) (by decide +kernel) (by decide +kernel) (by decide) (by omega) ?_
  refine GW_op (s_callV (ci := 11) (by decide +kernel) (t_X11_ill h.2.2.1) cl_X11_ill ml_RL_152 im_X11_ill se_X11_ill (by decide) rfl ⟨by decide, by decide⟩) h.1 hcs0 (by decide) (q_callV (b := 0) (r := []) (as := [.ref 0, .int (xs (n + 1)), .int (xs (n + 2)), .int (xs (n + 3))]) rfl ⟨by rw [h.2.1]; decide, Nat.le_of_ble_eq_true rfl⟩ rfl (by rw [h.2.1]; exact h1)) ?_
  refine GW_op (s_ald_n (q := 2) (by decide +kernel) rfl) h.1 hcs0 (by decide) (fun k => rfl) ?_
  refine gl_arg h hcs0 (q := 1) (k := 1) (by decide +kernel) (by decide +kernel) (by decide +kernel) (by decide +kernel) (by decide +kernel) (by decide) (by omega) ?_
  refine gl_arg h hcs0 (q := 2) (k := 2) (by decide +kernel) (by decide +kernel) (by decide +kernel) (by decide +kernel) (by decide +kernel) (by decide) (by omega) ?_
  refine gl_arg h hcs0 (q := 3) (k := 3) (by decide +kernel) (by decide +kernel) (by decide +kernel) (by decide +kernel) (by decide +kernel) (by decide) (by omega) ?_
  refine GW_op (s_callV (ci := 12) (by decide +kernel) (t_X12_ill h.2.2.1) cl_X12_ill ml_RL_156 im_X12_ill se_X12_ill (by decide) rfl ⟨by decide, by decide⟩) h.1 hcs0 (by decide) (q_callV (b := 219) (r := [.int v]) (as := [.ref 219, .int (xs (n + 1)), .int (xs (n + 2)), .int (xs (n + 3))]) rfl ⟨by rw [h.2.1]; decide, Nat.le_of_ble_eq_true rfl⟩ rfl (by rw [h.2.1]; exact h2)) ?_
  refine GW_op (s_cmpeq (off := 106) (t := 1277) (by decide +kernel) (by decide)) h.1 hcs0 (by decide) (fun k => if_pos rfl) ?_
  exact gl_w (n := n) (hend _ _ _ h3)
set_option maxRecDepth 100000 in
theorem lc_sentence (h : LX_ p l s m args meth c E L xs) (hcs : cl + 1 ≤ room_1.cells ∧ sl + 6 ≤ room_1.slots) {n : Nat} (hn : n + 6 ≤ L) {x5 x6 : Option Value} {σ : St_} (hG : GI_ σ) (hend : ∀ x5 x6 σ1, GI_ σ1 → GW_ p l e room_1 s m args below meth c E 7 (cl + 1) (sl + 6) Q 1277 (lwo_ n x5 x6) [] σ1) : GW_ p l e room_1 s m args below meth c E 7 cl sl Q 1176 (lwo_ n x5 x6) [] σ := by
  have hcs0 : cl ≤ room_1.cells ∧ sl ≤ room_1.slots := ⟨by omega, by omega⟩
  obtain ⟨v, τ1, τ2, h1, h2, h3⟩ := gs_sentence hG
  refine GW_op (s_ald_n (q := 1) (by decide +kernel) rfl) h.1 hcs0 (by decide) (fun k => rfl) ?_
  refine GW_op (s_callV (ci := 11) (by decide +kernel) (t_X11_sentence h.2.2.1) cl_X11_sentence ml_RL_157 im_X11_sentence se_X11_sentence (by decide) rfl ⟨by decide, by decide⟩) h.1 hcs0 (by decide) (q_callV (b := 0) (r := []) (as := [.ref 0]) rfl ⟨by rw [h.2.1]; decide, Nat.le_of_ble_eq_true rfl⟩ rfl (by rw [h.2.1]; exact h1)) ?_
  refine GW_op (s_ald_n (q := 2) (by decide +kernel) rfl) h.1 hcs0 (by decide) (fun k => rfl) ?_
  refine GW_op (s_callV (ci := 12) (by decide +kernel) (t_X12_sentence h.2.2.1) cl_X12_sentence ml_RL_160 im_X12_sentence se_X12_sentence (by decide) rfl ⟨by decide, by decide⟩) h.1 hcs0 (by decide) (q_callV (b := 219) (r := [.int v]) (as := [.ref 219]) rfl ⟨by rw [h.2.1]; decide, Nat.le_of_ble_eq_true rfl⟩ rfl (by rw [h.2.1]; exact h2)) ?_
  refine GW_op (s_cmpeq (off := 93) (t := 1277) (by decide +kernel) (by decide)) h.1 hcs0 (by decide) (fun k => if_pos rfl) ?_
  exact gl_w (n := n) (hend _ _ _ h3)
set_option maxRecDepth 100000 in
theorem lc_said (h : LX_ p l s m args meth c E L xs) (hcs : cl + 1 ≤ room_1.cells ∧ sl + 6 ≤ room_1.slots) {n : Nat} (hn : n + 6 ≤ L) {x5 x6 : Option Value} {σ : St_} (hG : GI_ σ) (hend : ∀ x5 x6 σ1, GI_ σ1 → GW_ p l e room_1 s m args below meth c E 7 (cl + 1) (sl + 6) Q 1277 (lwo_ n x5 x6) [] σ1) : GW_ p l e room_1 s m args below meth c E 7 cl sl Q 1189 (lwo_ n x5 x6) [] σ := by
  have hcs0 : cl ≤ room_1.cells ∧ sl ≤ room_1.slots := ⟨by omega, by omega⟩
  obtain ⟨v, τ1, τ2, h1, h2, h3⟩ := gs_said hG
  refine GW_op (s_ald_n (q := 1) (by decide +kernel) rfl) h.1 hcs0 (by decide) (fun k => rfl) ?_
  refine GW_op (s_callV (ci := 11) (by decide +kernel) (t_X11_said h.2.2.1) cl_X11_said ml_RL_161 im_X11_said se_X11_said (by decide) rfl ⟨by decide, by decide⟩) h.1 hcs0 (by decide) (q_callV (b := 0) (r := []) (as := [.ref 0]) rfl ⟨by rw [h.2.1]; decide, Nat.le_of_ble_eq_true rfl⟩ rfl (by rw [h.2.1]; exact h1)) ?_
  refine GW_op (s_ald_n (q := 2) (by decide +kernel) rfl) h.1 hcs0 (by decide) (fun k => rfl) ?_
  refine GW_op (s_callV (ci := 12) (by decide +kernel) (t_X12_said h.2.2.1) cl_X12_said ml_RL_164 im_X12_said se_X12_said (by decide) rfl ⟨by decide, by decide⟩) h.1 hcs0 (by decide) (q_callV (b := 219) (r := [.int v]) (as := [.ref 219]) rfl ⟨by rw [h.2.1]; decide, Nat.le_of_ble_eq_true rfl⟩ rfl (by rw [h.2.1]; exact h2)) ?_
  refine GW_op (s_cmpeq (off := 80) (t := 1277) (by decide +kernel) (by decide)) h.1 hcs0 (by decide) (fun k => if_pos rfl) ?_
  exact gl_w (n := n) (hend _ _ _ h3)
set_option maxRecDepth 100000 in
theorem lc_image (h : LX_ p l s m args meth c E L xs) (hcs : cl + 1 ≤ room_1.cells ∧ sl + 6 ≤ room_1.slots) {n : Nat} (hn : n + 6 ≤ L) {x5 x6 : Option Value} {σ : St_} (hG : GI_ σ) (hend : ∀ x5 x6 σ1, GI_ σ1 → GW_ p l e room_1 s m args below meth c E 7 (cl + 1) (sl + 6) Q 1277 (lwo_ n x5 x6) [] σ1) : GW_ p l e room_1 s m args below meth c E 7 cl sl Q 1202 (lwo_ n x5 x6) [] σ := by
  have hcs0 : cl ≤ room_1.cells ∧ sl ≤ room_1.slots := ⟨by omega, by omega⟩
  obtain ⟨v, τ1, τ2, h1, h2, h3⟩ := gs_image hG (xs (n + 1))
  refine GW_op (s_ald_n (q := 1) (by decide +kernel) rfl) h.1 hcs0 (by decide) (fun k => rfl) ?_
  refine gl_arg h hcs0 (q := 1) (k := 1) (by decide +kernel) (by decide +kernel) (by decide +kernel) (by decide +kernel) (by decide +kernel) (by decide) (by omega) ?_
  refine GW_op (s_callV (ci := 11) (by decide +kernel) (t_X11_image h.2.2.1) cl_X11_image ml_RL_165 im_X11_image se_X11_image (by decide) rfl ⟨by decide, by decide⟩) h.1 hcs0 (by decide) (q_callV (b := 0) (r := []) (as := [.ref 0, .int (xs (n + 1))]) rfl ⟨by rw [h.2.1]; decide, Nat.le_of_ble_eq_true rfl⟩ rfl (by rw [h.2.1]; exact h1)) ?_
  refine GW_op (s_ald_n (q := 2) (by decide +kernel) rfl) h.1 hcs0 (by decide) (fun k => rfl) ?_
  refine gl_arg h hcs0 (q := 1) (k := 1) (by decide +kernel) (by decide +kernel) (by decide +kernel) (by decide +kernel) (by decide +kernel) (by decide) (by omega) ?_
  refine GW_op (s_callV (ci := 12) (by decide +kernel) (t_X12_image h.2.2.1) cl_X12_image ml_RL_168 im_X12_image se_X12_image (by decide) rfl ⟨by decide, by decide⟩) h.1 hcs0 (by decide) (q_callV (b := 219) (r := [.int v]) (as := [.ref 219, .int (xs (n + 1))]) rfl ⟨by rw [h.2.1]; decide, Nat.le_of_ble_eq_true rfl⟩ rfl (by rw [h.2.1]; exact h2)) ?_
  refine GW_op (s_cmpeq (off := 55) (t := 1277) (by decide +kernel) (by decide)) h.1 hcs0 (by decide) (fun k => if_pos rfl) ?_
  exact gl_w (n := n) (hend _ _ _ h3)
set_option maxRecDepth 100000 in
theorem lc_restore (h : LX_ p l s m args meth c E L xs) (hcs : cl + 1 ≤ room_1.cells ∧ sl + 6 ≤ room_1.slots) {n : Nat} (hn : n + 6 ≤ L) {x5 x6 : Option Value} {σ : St_} (hG : GI_ σ) (hend : ∀ x5 x6 σ1, GI_ σ1 → GW_ p l e room_1 s m args below meth c E 7 (cl + 1) (sl + 6) Q 1277 (lwo_ n x5 x6) [] σ1) : GW_ p l e room_1 s m args below meth c E 7 cl sl Q 1227 (lwo_ n x5 x6) [] σ := by
  have hcs0 : cl ≤ room_1.cells ∧ sl ≤ room_1.slots := ⟨by omega, by omega⟩
  obtain ⟨v, τ1, τ2, h1, h2, h3⟩ := gs_restore hG (xs (n + 1))
  refine GW_op (s_ald_n (q := 1) (by decide +kernel) rfl) h.1 hcs0 (by decide) (fun k => rfl) ?_
  refine gl_arg h hcs0 (q := 1) (k := 1) (by decide +kernel) (by decide +kernel) (by decide +kernel) (by decide +kernel) (by decide +kernel) (by decide) (by omega) ?_
  refine GW_op (s_callV (ci := 11) (by decide +kernel) (t_X11_restore h.2.2.1) cl_X11_restore ml_RL_169 im_X11_restore se_X11_restore (by decide) rfl ⟨by decide, by decide⟩) h.1 hcs0 (by decide) (q_callV (b := 0) (r := []) (as := [.ref 0, .int (xs (n + 1))]) rfl ⟨by rw [h.2.1]; decide, Nat.le_of_ble_eq_true rfl⟩ rfl (by rw [h.2.1]; exact h1)) ?_
  refine GW_op (s_ald_n (q := 2) (by decide +kernel) rfl) h.1 hcs0 (by decide) (fun k => rfl) ?_
  refine gl_arg h hcs0 (q := 1) (k := 1) (by decide +kernel) (by decide +kernel) (by decide +kernel) (by decide +kernel) (by decide +kernel) (by decide) (by omega) ?_
  refine GW_op (s_callV (ci := 12) (by decide +kernel) (t_X12_restore h.2.2.1) cl_X12_restore ml_RL_172 im_X12_restore se_X12_restore (by decide) rfl ⟨by decide, by decide⟩) h.1 hcs0 (by decide) (q_callV (b := 219) (r := [.int v]) (as := [.ref 219, .int (xs (n + 1))]) rfl ⟨by rw [h.2.1]; decide, Nat.le_of_ble_eq_true rfl⟩ rfl (by rw [h.2.1]; exact h2)) ?_
  refine GW_op (s_cmpeq (off := 30) (t := 1277) (by decide +kernel) (by decide)) h.1 hcs0 (by decide) (fun k => if_pos rfl) ?_
  exact gl_w (n := n) (hend _ _ _ h3)
set_option maxRecDepth 100000 in
theorem lc_count (h : LX_ p l s m args meth c E L xs) (hcs : cl + 1 ≤ room_1.cells ∧ sl + 6 ≤ room_1.slots) {n : Nat} (hn : n + 6 ≤ L) {x5 x6 : Option Value} {σ : St_} (hG : GI_ σ) (hend : ∀ x5 x6 σ1, GI_ σ1 → GW_ p l e room_1 s m args below meth c E 7 (cl + 1) (sl + 6) Q 1277 (lwo_ n x5 x6) [] σ1) : GW_ p l e room_1 s m args below meth c E 7 cl sl Q 1252 (lwo_ n x5 x6) [] σ := by
  have hcs0 : cl ≤ room_1.cells ∧ sl ≤ room_1.slots := ⟨by omega, by omega⟩
  obtain ⟨v, τ1, τ2, h1, h2, h3⟩ := gs_count hG (xs (n + 1))
  refine GW_op (s_ald_n (q := 1) (by decide +kernel) rfl) h.1 hcs0 (by decide) (fun k => rfl) ?_
  refine gl_arg h hcs0 (q := 1) (k := 1) (by decide +kernel) (by decide +kernel) (by decide +kernel) (by decide +kernel) (by decide +kernel) (by decide) (by omega) ?_
  refine GW_op (s_callV (ci := 11) (by decide +kernel) (t_X11_count h.2.2.1) cl_X11_count ml_RL_173 im_X11_count se_X11_count (by decide) rfl ⟨by decide, by decide⟩) h.1 hcs0 (by decide) (q_callV (b := 0) (r := []) (as := [.ref 0, .int (xs (n + 1))]) rfl ⟨by rw [h.2.1]; decide, Nat.le_of_ble_eq_true rfl⟩ rfl (by rw [h.2.1]; exact h1)) ?_
  refine GW_op (s_ald_n (q := 2) (by decide +kernel) rfl) h.1 hcs0 (by decide) (fun k => rfl) ?_
  refine gl_arg h hcs0 (q := 1) (k := 1) (by decide +kernel) (by decide +kernel) (by decide +kernel) (by decide +kernel) (by decide +kernel) (by decide) (by omega) ?_
  refine GW_op (s_callV (ci := 12) (by decide +kernel) (t_X12_count h.2.2.1) cl_X12_count ml_RL_176 im_X12_count se_X12_count (by decide) rfl ⟨by decide, by decide⟩) h.1 hcs0 (by decide) (q_callV (b := 219) (r := [.int v]) (as := [.ref 219, .int (xs (n + 1))]) rfl ⟨by rw [h.2.1]; decide, Nat.le_of_ble_eq_true rfl⟩ rfl (by rw [h.2.1]; exact h2)) ?_
  refine GW_op (s_cmpeq (off := 5) (t := 1277) (by decide +kernel) (by decide)) h.1 hcs0 (by decide) (fun k => if_pos rfl) ?_
  exact gl_w (n := n) (hend _ _ _ h3)
end LAW
