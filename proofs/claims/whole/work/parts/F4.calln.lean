def gz_ (σ : St_) (n r : Nat) : St_ := (fun a j => if n ≤ a ∧ a ≤ n + r then 0 else σ.1 a j, fun a j => if n ≤ a ∧ a ≤ n + r then 0 else σ.2.1 a j, fun a j => if n ≤ a ∧ a ≤ n + r then (if a = n ∧ j < r then some (n + 1 + j) else none) else σ.2.2 a j)
def n_mna (r c : Nat) : On_ := fun k pc lo st τ => match st with
  | .int y :: .int x :: rest => if (KC.1 τ.1 = (20, r) ∧ τ.1 + 1 + r ≤ 247 ∧ (List.range r).all (fun j => KC.1 (τ.1 + 1 + j) == (14, c)) = true) ∧ (¬ x < 0 ∧ x.toNatClampNeg = r) ∧ (¬ y < 0 ∧ y.toNatClampNeg = c) then k (pc + 4) lo (.ref τ.1 :: rest) (τ.1 + 1 + r, gz_ τ.2 τ.1 r) else none
  | _ => none
theorem slN_rows {n r c : Nat} (h : (KC.1 n) = (20, r)) (hr : ∀ j, j < r → KC.1 (n + 1 + j) = (14, c)) : ∀ j, j ≤ r → slN_ (n + 1 + j) = slN_ n + r + j * c
  | 0, _ => by
    show slN_ n + sz_ n = _
    rw [sz_arr (by rw [h]) (by omega), h]
    simp
  | j + 1, hj => by
    show slN_ (n + 1 + j) + sz_ (n + 1 + j) = _
    rw [slN_rows h hr j (by omega), sz_arr (by rw [hr j (by omega)]) (by omega), hr j (by omega), Nat.succ_mul]
    show _ + c = _
    omega
section NCALL
variable {l : Launch} {E : En_} {own : String} {cc : ByteArray} {nL : Nat} {ws : List Cond} {R : Room} {ini : Bool} {pc : Nat}
theorem ns_mna {index r c : Nat} (hsm : r ≤ 100 ∧ c ≤ 100) (hd : decode cc pc = .ok (.multianewarray index 2, 4)) (hcl : Cond.classLink own index "[[I" ∈ ws) (har : Cond.arrayClass .int ∈ ws) : SnN_ l E own cc nL ws R ini pc (n_mna r c) := by
  intro p e s m args below meth c9 n0 out ⟨hx, hb, hml, hown, hts, hK, hlk, ⟨hE, hKC, hA0, hXS⟩, hR⟩ hin Q k hrt hk lo st τ h
  obtain ⟨n, σ⟩ := τ
  unfold n_mna at h
  dsimp only at h
  split at h
  · rename_i y x rest
    split at h
    · rename_i hq
      obtain ⟨⟨hn, hn1, hall⟩, ⟨hx0, hxr⟩, hy0, hyc⟩ := hq
      have hrow : ∀ j, j < r → KC.1 (n + 1 + j) = (14, c) := fun j hj => beq_iff_eq.mp (List.all_eq_true.mp hall j (List.mem_range.mpr hj))
      have hk1 := hk _ _ _ _ h
      have h1 : n + 1 + r ≤ out.1 := hk1.1
      refine ⟨by show n ≤ out.1; omega, fun H locs ls cl sl hP hS hc hs hl => ?_⟩
      have hc : cl + n0 = n := hc
      have hs : sl + slN_ n0 = slN_ n := hs
      have hsl := slN_rows hn hrow r (Nat.le_refl _)
      have hsl2 := slN_le h1
      refine W_sz (fun hsz => ?_)
      have hlo := sz_lo (τ := (n, σ)) hE (by show n ≤ 247; omega) hA0 (by show n0 ≤ n; omega) hP hS
      have hlo : E.2.2.1 0 + n ≤ H.size := hlo
      have hHs : H.size = E.2.2.1 0 + n := by omega
      refine W_mna (N := r) (M := c) hx hb hown (hts _ hcl) (over_moved (Vm.Alike.refl _) hXS.1.1) (hts _ har) hd hx0 hy0 hxr hyc ⟨by omega, by omega⟩ (by omega) (by omega) (fun H1 cA comp L z1 z2 z3 z4 z5 z6 z7 => ?_)
      have hcA : cA = E.1 20 := by
        have a2 : va_RA s (E.1 20) (.array .int) := (hK.2 7 (E.1 20, .array .int) rfl).2
        exact Option.some.inj (z5.symm.trans a2)
      have hcC : comp = E.1 14 := by
        have a2 : va_RA s (E.1 14) .int := (hK.2 1 (E.1 14, .int) rfl).2
        exact Option.some.inj (z6.symm.trans a2)
      subst hcA
      subst hcC
      have hfin := hk1.2 H1 (locs ++ L) ls (cl + 1 + r) (sl + r + r * c) (fun i q hq => ?_) ⟨by omega, fun q h2 h3 => ?_, fun q hq => ?_⟩ (by show cl + 1 + r + n0 = n + 1 + r; omega) (by show sl + r + r * c + slN_ n0 = slN_ (n + 1 + r); omega) hl
      · have hst : (List.map (rn_ E.2.2.1) (Value.ref n :: rest)) = .ref H.size :: List.map (rn_ E.2.2.1) rest := by
          show Value.ref (E.2.2.1 n) :: _ = _
          rw [hE n (by omega), hHs]
        rw [hst] at hfin
        exact hfin
      · have hi : i < n + 1 + r := by
          have := (List.getElem?_eq_some_iff.mp hq).1
          rwa [wlN_len] at this
        rw [wlN_get (τ := (n + 1 + r, gz_ σ n r)) hi] at hq
        cases hq
        by_cases c1 : i < n
        · have e1 : enN_ E (gz_ σ n r) i = enN_ E σ i := enN_congr (by funext j; simp [gz_]; omega) (by funext j; simp [gz_]; omega) (by funext j; simp [gz_]; omega)
          have h5 := hP i _ (wlN_get (τ := (n, σ)) c1)
          show va_at _ _ (E.2.2.1 i, enN_ E (gz_ σ n r) i) H1
          rw [e1]
          exact h5.kept (z2 _ h5.lt)
        · by_cases c2 : i = n
          · subst c2
            have hkd : (E.2.2.2.1.1 i).1 = 20 := by rw [hKC, hn]
            show va_at _ _ (E.2.2.1 i, enN_ E (gz_ σ i r) i) H1
            rw [enN_ref hkd (by omega), hKC, hn, hE i (by omega), ← hHs]
            show H1[H.size]? = some (vp_cell _ _)
            rw [z3, vp_cell_q]
            congr 2
            funext j
            unfold mnf_
            by_cases c3 : j < r
            · rw [if_pos c3]
              have e9 : (gz_ σ i r).2.2 i j = some (i + 1 + j) := by simp [gz_, c3]
              rw [e9]
              show Value.ref (H.size + 1 + j) = Value.ref (E.2.2.1 (i + 1 + j))
              have e8 : (H.size + 1 + j : Nat) = E.2.2.1 (i + 1 + j) := by
                rw [hE (i + 1 + j) (by omega)]
                omega
              rw [e8]
            · rw [if_neg c3]
              have e9 : (gz_ σ i r).2.2 i j = none := by simp [gz_, c3]
              rw [e9]
              rfl
          · obtain ⟨j, rfl⟩ : ∃ j, i = n + 1 + j := ⟨i - (n + 1), by omega⟩
            have hj : j < r := by omega
            have hkd : (E.2.2.2.1.1 (n + 1 + j)).1 = 14 := by rw [hKC, hrow j hj]
            show va_at _ _ (E.2.2.1 (n + 1 + j), enN_ E (gz_ σ n r) (n + 1 + j)) H1
            rw [enN_int hkd (by omega), hKC, hrow j hj, hE (n + 1 + j) (by omega)]
            show H1[_]? = some (vp_cell _ _)
            rw [show E.2.2.1 0 + (n + 1 + j) = H.size + 1 + j by omega, z4 j hj, vp_cell_i]
            congr 2
            funext i
            simp [gz_]
            omega
      · rw [z2 q (Nat.lt_of_lt_of_le h2 hS.1)]
        exact hS.2.1 q h2 h3
      · rcases List.mem_append.mp hq with g | g
        · exact hS.2.2 q g
        · show E.2.2.1 0 ≤ q.base
          rw [z7 q g, hHs]
          omega
    · cases h
  · cases h
def n_obj : On_ := fun k pc lo st τ => match st with
  | .ref _ :: r => if (r.map fun v => v.category).sum ≤ 8 then k (pc + 3) lo r τ else none
  | _ => none
theorem ns_obj {index : Nat} (hd : decode cc pc = .ok (.invokespecial index, 3)) (hl0 : Cond.methodLink own index objectInit ∈ ws) (hi : Cond.instanceMethod objectInit ∈ ws) (hco : Cond.code objectInit ⟨#[0xb1]⟩ 1 none ∈ ws) (hlv : 1 ≤ R.frames ∧ 64 ≤ R.locals) : SnN_ l E own cc nL ws R ini pc n_obj := by
  intro p e s m args below meth c n0 out ⟨hx, hb, hml, hown, hts, hK, hlk, ⟨hE, hKC, hA0, hXS⟩, hR⟩ hin Q k hrt hk lo st τ h
  unfold n_obj at h
  split at h
  · rename_i q r
    split at h
    · rename_i hg
      have hk1 := hk _ _ _ _ h
      refine ⟨hk1.1, fun H locs ls cl sl hP hS hc hs hl => ?_⟩
      refine W.objInit hx hb hown (hts _ hl0) (hts _ hi) (hts _ hco) rfl (by rw [hml]; exact hl.2.1) rfl hd hlv.1 (by rw [rn_sum]; have := hlv.2; show 2 * 0 + _ + 12 ≤ _; omega) ?_
      refine W.eq (g2 := F0 m (pc + 3) ls (r.map (rn_ E.2.2.1))) rfl ?_
      exact hk1.2 H locs ls cl sl hP hS hc hs hl
    · cases h
  · cases h
def PcN_ (E : En_) (as : List Value) (τ : Tn_) : Array Value → State → Prop := va_Pc (as.map (rn_ E.2.2.1)) (fun U => U.heap.size = E.2.2.1 0 + τ.1 ∧ va_P E.2.1 vwCl (wlN_ E τ) U.heap ∧ va_K E.2.1 vwCl (tys_ E) U ∧ XS_ (AN_ E) U U.heap)
def QcN_ (E : En_) (τ : Tn_) : Array Value → State → Outcome → State → Prop := fun _ st oc t => (oc = .returned none ∧ va_P E.2.1 vwCl (wlN_ E τ) t.heap ∧ va_K E.2.1 vwCl (tys_ E) t) ∧ va_F (AN_ E) st t
def rmN_ (lv : Nat) (τ τ1 : Tn_) : Room := { frames := lv, cells := τ1.1 - τ.1, slots := slN_ τ1.1 - slN_ τ.1, locals := 64 * lv }
def MtN_ (l : Launch) (E : En_) (y : MethodName) (ws : List Cond) (lv : Nat) (f : Hn_) : Prop := ∀ as τ τ1, f as τ = some τ1 → τ1.1 ≤ 247 → Met l y ws (rmN_ lv τ τ1) (PcN_ E as τ) (QcN_ E τ1) (τ1.1 - τ.1) (slN_ τ1.1 - slN_ τ.1) (AN_ E)
theorem runN_ {p : Program} {e : Env} {s : State} {m : MethodId} {args : Array Value} {below : List Frame} {meth : Method} {c : Code} {H : Heap} {locs : List Loc} {Q : State → Prop} {ls : Array Slot} {st0 rest : List Value} {τ1 : Tn_} {av : Array Value} {cl sl mc ms : Nat} (hr : va_Run p l e R s m args below meth c H locs cl sl mc ms (F0 m pc ls st0) rest (QcN_ E τ1 av) (AN_ E)) (hS : va_S (AN_ E) s.heap H locs)
    (kk : ∀ (H1 : Heap) (locs1 : List Loc), va_P E.2.1 vwCl (wlN_ E τ1) H1 → va_S (AN_ E) s.heap H1 locs1 → W p l e R s m args below meth c H1 locs1 (cl + mc) (sl + ms) Q (F0 m (pc + 3) ls rest)) : W p l e R s m args below meth c H locs cl sl Q (F0 m pc ls st0) := by
  intro T hT X
  obtain ⟨v, st₀, t, T', L, h0, X', hL, e1, e2, ⟨⟨hv, hw, -⟩, hz, hk⟩, st⟩ := hr T hT X
  cases hv
  rw [h0] at hz hk
  obtain ⟨t2, a1, b1⟩ := kk T'.heap (locs ++ L) (by rw [e1]; exact hw)
    ⟨Nat.le_trans hS.1 (by rw [e1]; exact hz), fun q h1 h2 => by rw [e1, hk q (Nat.lt_of_lt_of_le h1 hS.1) h2]; exact hS.2.1 q h1 h2, fun q hq => by
      rcases List.mem_append.mp hq with h | h
      · exact hS.2.2 q h
      · exact hL q h⟩ T' rfl X'
  exact ⟨t2, st t2 a1, b1⟩
theorem XS_at {A : Nat → Prop} {s U : State} {H : Heap} {locs : List Loc} (h : XS_ A s s.heap) (hS : va_S A s.heap H locs) (hW : s.WarmedH U.vm) : XS_ A U H := by
  obtain ⟨h0, a, v, h1, h2⟩ := h
  exact ⟨h0.moved hW.alike, a, v, vk_R.warm hW h1, (h2.kept hS.2.1).moved hW.alike⟩
theorem preN_ {s : State} {H : Heap} {locs : List Loc} {as : List Value} {τ : Tn_} (hz : H.size = E.2.2.1 0 + τ.1) (hP : va_P E.2.1 vwCl (wlN_ E τ) H) (hK : va_K E.2.1 vwCl (tys_ E) s) (hXS : XS_ (AN_ E) s s.heap) (hS : va_S (AN_ E) s.heap H locs) : FrameBlind (PcN_ E as τ) ∧ ∀ U : State, U.heap = H → s.WarmedH U.vm → PcN_ E as τ (as.map (rn_ E.2.2.1)).toArray U := by
  refine ⟨fun a U g mk q => ?_, fun U hU hW => ⟨rfl, by rw [hU]; exact hz, by rw [hU]; exact hP, va_K.moved hW.alike hK, by rw [hU]; exact XS_at hXS hS hW⟩⟩
  obtain ⟨q0, q1, qP, qK, qO, x, v, qx, qX⟩ := q
  exact ⟨q0, q1, qP, va_K.moved (u := U) (U := U.calling g mk a) (Vm.Alike.refl U.vm) qK, qO.moved (u := U) (U := U.calling g mk a) (Vm.Alike.refl U.vm), x, v, vk_R.same (u := U) (U := U.calling g mk a) rfl qx, qX.moved (u := U) (U := U.calling g mk a) (Vm.Alike.refl U.vm)⟩
theorem callBN_ {c0 : Cond} {y : MethodName} {cy : ByteArray} {ny : Nat} {ry : Option FieldType} {np index lv : Nat} {s : State} {args : Array Value} {τ τ1 : Tn_} (hts : ∀ w ∈ (c0 :: G_ : List Cond), w.before args s = true) (hC : Cl_ y cy ny ry np) (hl : Cond.methodLink own index y ∈ G_) (hR : lv + 1 ≤ R.frames ∧ 64 * (lv + 1) ≤ R.locals) : CallB R s args own index y cy ny ry (.code y cy ny ry :: G_) (rmN_ lv τ τ1) (τ1.1 - τ.1) (slN_ τ1.1 - slN_ τ.1) np := by
  have up : ∀ {w}, w ∈ G_ → w ∈ (c0 :: G_ : List Cond) := fun h => List.mem_cons_of_mem _ h
  obtain ⟨h1, h2, h3, h4⟩ := hC
  refine callB_of np hts (wd_good h1) rfl rfl rfl (hts _ (up h2)) (hts _ (up hl)) h3 ⟨hR.1, ?_⟩
  have := hR.2
  show 8 + (ny + 11) + 64 * lv ≤ R.locals
  omega
def n_callI (f : Hn_) (na : Nat) : On_ := fun k pc lo st τ => match st.drop na with
  | .ref b :: r => if (r.map fun v => v.category).sum ≤ 8 ∧ na ≤ st.length then match f (.ref b :: (st.take na).reverse) τ with
    | some τ1 => if τ.1 ≤ τ1.1 then k (pc + 3) lo r τ1 else none
    | none => none
    else none
  | _ => none
theorem ns_callI {c0 : Cond} {y : MethodName} {cy : ByteArray} {ny : Nat} {np index lv : Nat} {f : Hn_} (hd : decode cc pc = .ok (.invokespecial index, 3)) (hM : MtN_ l E y (.code y cy ny none :: G_) lv f) (hC : Cl_ y cy ny none np) (hl0 : Cond.methodLink own index y ∈ G_) (hnm : y.name = "<init>") (hst : Cond.instanceMethod y ∈ G_) (hlv : lv + 1 ≤ R.frames ∧ 64 * (lv + 1) ≤ R.locals) : SnN_ l E own cc nL (c0 :: G_) R ini pc (n_callI f np) := by
  intro p e s m args below meth c n0 out ⟨hx, hb, hml, hown, hts, hK, hlk, ⟨hE, hKC, hA0, hXS⟩, hR⟩ hin Q k hrt hk lo st τ h
  unfold n_callI at h
  split at h
  · rename_i b r hdr
    split at h
    · rename_i hg
      split at h
      · rename_i τ1 hf
        split at h
        · rename_i hle
          have hk1 := hk _ _ _ _ h
          refine ⟨Nat.le_trans hle hk1.1, fun H locs ls cl sl hP hS hc hs hl => ?_⟩
          have ht : τ.1 ≤ 247 := by have := hk1.1; have := hR.1; omega
          refine W_sz (fun hsz => ?_)
          have hlo := sz_lo hE ht hA0 (by omega) hP hS
          have hHs : H.size = E.2.2.1 0 + τ.1 := by omega
          have hst0 : st = st.take np ++ .ref b :: r := by rw [← hdr, List.take_append_drop]
          have hpre := preN_ (as := .ref b :: (st.take np).reverse) hHs hP hK hXS hS
          have hsl := slN_le hle
          have hsl2 := slN_le hk1.1
          have hRun := va_runI (l := l) (m := m) (below := below) (meth := meth) (H := H) (locs := locs) (cells := cl) (slots := sl) (e := e) (b := E.2.2.1 b) (As := (st.take np).reverse.map (rn_ E.2.2.1)) (rest := r.map (rn_ E.2.2.1)) (g := F0 m pc ls (st.map (rn_ E.2.2.1))) (index := index) (own := own) ⟨hx, hb, hml, hown, hts⟩ (hM (.ref b :: (st.take np).reverse) τ τ1 hf (Nat.le_trans hk1.1 hR.1)) ⟨callBN_ hts hC hl0 hlv, hnm, hts _ (List.mem_cons_of_mem _ hst)⟩ hpre rfl (by rw [List.length_map, List.length_reverse, List.length_take]; omega) (hl.2.1) (by rw [← List.map_reverse, List.reverse_reverse]; show st.map _ = (st.take np).map _ ++ (Value.ref b :: r).map (rn_ E.2.2.1); rw [← List.map_append, ← hst0]) (by rw [rn_sum]; show 2 * 0 + _ ≤ 8; omega) hd ⟨by have := hk1.1; have := hR.2.1; omega, by have := hR.2.2; omega⟩
          refine runN_ hRun hS (fun H1 locs1 hP1 hS1 => ?_)
          exact hk1.2 H1 locs1 ls _ _ hP1 hS1 (by omega) (by omega) hl
        · cases h
      · cases h
    · cases h
  · cases h
def n_callV (ci : Nat) (f : Hn_) (na : Nat) : On_ := fun k pc lo st τ => match st.drop na with
  | .ref b :: r => if ((KC.1 b).1 = ci ∧ b < τ.1) ∧ (r.map fun v => v.category).sum ≤ 8 ∧ na ≤ st.length then match f (.ref b :: (st.take na).reverse) τ with
    | some τ1 => if τ.1 ≤ τ1.1 then k (pc + 3) lo r τ1 else none
    | none => none
    else none
  | _ => none
theorem ns_callV {c0 : Cond} {y : MethodName} {cy : ByteArray} {ny : Nat} {ci np index lv : Nat} {f : Hn_} (hd : decode cc pc = .ok (.invokevirtual index, 3)) (hM : MtN_ l E y (.code y cy ny none :: G_) lv f) (hC : Cl_ y cy ny none np) (hl0 : Cond.methodLink own index y ∈ G_) (hst : Cond.instanceMethod y ∈ G_) (hse : Cond.selects y.cls y y ∈ G_) (hci : ci < 13) (hcl : cR_ ci = y.cls) (hlv : lv + 1 ≤ R.frames ∧ 64 * (lv + 1) ≤ R.locals) : SnN_ l E own cc nL (c0 :: G_) R ini pc (n_callV ci f np) := by
  intro p e s m args below meth c n0 out ⟨hx, hb, hml, hown, hts, hK, hlk, ⟨hE, hKC, hA0, hXS⟩, hR⟩ hin Q k hrt hk lo st τ h
  unfold n_callV at h
  split at h
  · rename_i b r hdr
    split at h
    · rename_i hg
      split at h
      · rename_i τ1 hf
        split at h
        · rename_i hle
          have hk1 := hk _ _ _ _ h
          refine ⟨Nat.le_trans hle hk1.1, fun H locs ls cl sl hP hS hc hs hl => ?_⟩
          have ht : τ.1 ≤ 247 := by have := hk1.1; have := hR.1; omega
          refine W_sz (fun hsz => ?_)
          have hlo := sz_lo hE ht hA0 (by omega) hP hS
          have hHs : H.size = E.2.2.1 0 + τ.1 := by omega
          have hst0 : st = st.take np ++ .ref b :: r := by rw [← hdr, List.take_append_drop]
          have hpre := preN_ (as := .ref b :: (st.take np).reverse) hHs hP hK hXS hS
          have hsl := slN_le hle
          have hsl2 := slN_le hk1.1
          have hrc := va_recv hK hP (c_cl ci hci) ((wlN_get hg.1.2).trans (by rw [enN_obj (by rw [hKC]; exact hg.1.1) hci]))
          rw [show (cR_ ci, cT_ ci, cN_ ci).1 = y.cls from hcl] at hrc
          have hRun := va_runV (l := l) (m := m) (below := below) (meth := meth) (H := H) (locs := locs) (cells := cl) (slots := sl) (e := e) (b := E.2.2.1 b) (As := (st.take np).reverse.map (rn_ E.2.2.1)) (rest := r.map (rn_ E.2.2.1)) (g := F0 m pc ls (st.map (rn_ E.2.2.1))) (index := index) (own := own) (C := y.cls) ⟨hx, hb, hml, hown, hts⟩ (hM (.ref b :: (st.take np).reverse) τ τ1 hf (Nat.le_trans hk1.1 hR.1)) ⟨callBN_ hts hC hl0 hlv, hts _ (List.mem_cons_of_mem _ hst), hts _ (List.mem_cons_of_mem _ hse)⟩ ⟨hpre.1, hrc, hpre.2⟩ rfl (by rw [List.length_map, List.length_reverse, List.length_take]; omega) (hl.2.1) (by rw [← List.map_reverse, List.reverse_reverse]; show st.map _ = (st.take np).map _ ++ (Value.ref b :: r).map (rn_ E.2.2.1); rw [← List.map_append, ← hst0]) (by rw [rn_sum]; show 2 * 0 + _ ≤ 8; omega) hd ⟨by have := hk1.1; have := hR.2.1; omega, by have := hR.2.2; omega⟩
          refine runN_ hRun hS (fun H1 locs1 hP1 hS1 => ?_)
          exact hk1.2 H1 locs1 ls _ _ hP1 hS1 (by omega) (by omega) hl
        · cases h
      · cases h
    · cases h
  · cases h
/-- ldc of the constant, and its length -/
def n_len : On_ := fun k pc lo st τ => if (st.map fun v => v.category).sum ≤ 8 then k (pc + 5) lo (.int 98 :: st) τ else none
theorem ns_len {c0 : Cond} {pc2 : Nat} (hd : decode cc pc = .ok (.ldc 19, 2)) (hp : pc + 2 = pc2) (hd2 : decode cc pc2 = .ok (.invokevirtual 21, 3)) (hlv : 5 ≤ R.frames ∧ 320 ≤ R.locals) : SnN_ l E RX8 cc nL (c0 :: G_) R ini pc n_len := by
  intro p e s m args below meth c n0 out ⟨hx, hb, hml, hown, hts, hK, hlk, ⟨hE, hKC, hA0, hXS⟩, hR⟩ hin Q k hrt hk lo st τ h
  subst hp
  unfold n_len at h
  split at h
  · rename_i hg
    have hk1 := hk _ _ _ _ h
    refine ⟨hk1.1, fun H locs ls cl sl hP hS hc hs hl => ?_⟩
    obtain ⟨-, a, v, x1, x2⟩ := hXS
    have hX := (x2.kept hS.2.1).narrow (B := NoA_) (fun _ h => h.elim)
    have hp := preJ_ (av := [.ref a]) hX XT_al XT_ca
    refine va_ldcS hx hb hown x1 hd ?_
    have hRun := va_runV (l := l) (m := m) (below := below) (meth := meth) (H := H) (locs := locs) (cells := cl) (slots := sl) (e := e) (R := R) (b := a) (As := []) (rest := st.map (rn_ E.2.2.1)) (g := F0 m (pc + 2) ls (.ref a :: st.map (rn_ E.2.2.1))) (index := 21) (C := RJ0) ⟨hx, hb, hml, hown, hts⟩ (cJ_length l a v) ⟨callB_ hts clJ_length (G_1 (i := 40) rfl rfl) ⟨by omega, by omega⟩, hts _ (G_w (G_1 (i := 41) rfl rfl)), hts _ (G_w (G_1 (i := 42) rfl rfl))⟩ ⟨hp.1, XT_rc hX, hp.2⟩ rfl rfl hl.2.1 rfl (by rw [rn_sum]; show 2 * 0 + _ ≤ 8; omega) hd2 ⟨by have := hk1.1; have := hR.2.1; omega, by have := slN_le hk1.1; have := hR.2.2; omega⟩
    refine runJ_ hRun hS (fun H1 locs1 h1 h2 hS1 => ?_)
    exact hk1.2 H1 locs1 ls cl sl (hP.kept (fun k q hk => h1 q.1 (hP k q hk).lt)) hS1 hc hs hl
  · cases h
/-- ldc of the constant, and its char at the local 3 -/
def n_chr : On_ := fun k pc lo st τ => match lo[(3 : Nat)]? with
  | some (some (.int x)) => if (st.map fun v => v.category).sum ≤ 8 ∧ vpin_ x 98 = true then k (pc + 6) lo (.int (bS_.getD x.toNatClampNeg 0) :: st) τ else none
  | _ => none
theorem ns_chr {c0 : Cond} {pc2 pc3 : Nat} (hd : decode cc pc = .ok (.ldc 19, 2)) (hp2 : pc + 2 = pc2) (hd2 : decode cc pc2 = .ok (.iload_n 3, 1)) (hp3 : pc2 + 1 = pc3) (hd3 : decode cc pc3 = .ok (.invokevirtual 27, 3)) (hlv : 5 ≤ R.frames ∧ 320 ≤ R.locals) : SnN_ l E RX8 cc nL (c0 :: G_) R ini pc n_chr := by
  intro p e s m args below meth c n0 out ⟨hx, hb, hml, hown, hts, hK, hlk, ⟨hE, hKC, hA0, hXS⟩, hR⟩ hin Q k hrt hk lo st τ h
  subst hp2
  subst hp3
  unfold n_chr at h
  split at h
  · rename_i x hx0
    split at h
    · rename_i hg
      have hk1 := hk _ _ _ _ h
      refine ⟨hk1.1, fun H locs ls cl sl hP hS hc hs hl => ?_⟩
      obtain ⟨-, a, v, x1, x2⟩ := hXS
      have hX := (x2.kept hS.2.1).narrow (B := NoA_) (fun _ h => h.elim)
      have hpos : ¬ x < 0 := fun z => (vpin_t hg.2) (Or.inl z)
      have hlt : x.toNatClampNeg < 98 := vpin_lt hg.2
      have hxi : x = nI x.toNatClampNeg := by
        obtain ⟨i, hi, rfl⟩ := nI_of hpos
        rw [nI_clamp hi]
      have hp := preJ_ (av := [.ref a, .int (nI x.toNatClampNeg)]) hX XT_al XT_ca
      refine va_ldcS hx hb hown x1 hd ?_
      refine lv_iload_n hx hb hd2 rfl (hl.2.2.2 _ _ hx0) ?_
      show W p l e R s m args below meth c H locs cl sl Q (F0 m (pc + 2 + 1) ls (.int x :: .ref a :: st.map (rn_ E.2.2.1)))
      have hRun := va_runV (l := l) (m := m) (below := below) (meth := meth) (H := H) (locs := locs) (cells := cl) (slots := sl) (e := e) (R := R) (b := a) (As := [.int (nI x.toNatClampNeg)]) (rest := st.map (rn_ E.2.2.1)) (g := F0 m (pc + 2 + 1) ls (.int x :: .ref a :: st.map (rn_ E.2.2.1))) (index := 27) (C := RJ0) ⟨hx, hb, hml, hown, hts⟩ (cJ_charAt l a v hlt) ⟨callB_ hts clJ_charAt (G_1 (i := 50) rfl rfl) ⟨by omega, by omega⟩, hts _ (G_w (G_1 (i := 51) rfl rfl)), hts _ (G_w (G_1 (i := 52) rfl rfl))⟩ ⟨hp.1, XT_rc hX, hp.2⟩ rfl rfl hl.2.1 (by rw [← hxi]; rfl) (by rw [rn_sum]; show 2 * 0 + _ ≤ 8; have := hg.1; omega) hd3 ⟨by have := hk1.1; have := hR.2.1; omega, by have := slN_le hk1.1; have := hR.2.2; omega⟩
      refine runJ_ hRun hS (fun H1 locs1 h1 h2 hS1 => ?_)
      exact hk1.2 H1 locs1 ls cl sl (hP.kept (fun k q hk => h1 q.1 (hP k q hk).lt)) hS1 hc hs hl
    · cases h
  · cases h
end NCALL
/-- what a constructor does, by running it -/
def hnF_ (P : List (Nat × On_)) (nL fuel : Nat) : Hn_ := fun as τ => if as.all (fun v => v.category == 1) && decide (as.length ≤ nL) then evN_ P fuel 0 (lo0_ nL as) [] τ else none
theorem hl_0 {ad : Nat → Nat} {as : List Value} {nL : Nat} (hg : as.all (fun v => v.category == 1) = true ∧ as.length ≤ nL) {ls : Array Slot} (hl : lv_has ls nL (lv_args 0 (as.map (rn_ ad)))) : hl_ ad ls nL (lo0_ nL as) := by
  refine ⟨?_, hl.1, hl.2.1, fun i v hv => ?_⟩
  · unfold lo0_
    rw [List.length_append, List.length_map, List.length_replicate]
    omega
  · have hv2 : as[i]? = some v := by
      unfold lo0_ at hv
      rw [List.getElem?_append] at hv
      split at hv
      · rw [List.getElem?_map] at hv
        cases hq : as[i]? with
        | none => rw [hq] at hv; cases hv
        | some w => rw [hq] at hv; cases hv; rfl
      · rw [List.getElem?_replicate] at hv
        split at hv <;> cases hv
    have hm := lvargs_1 (as.map (rn_ ad)) 0 (by rw [rn_all]; exact hg.1) i (rn_ ad v) (by rw [List.getElem?_map, hv2]; rfl)
    rw [Nat.zero_add] at hm
    exact hl.2.2 _ hm
theorem metN_ {l : Launch} {E : En_} (hE : EX_ E) (hKC : E.2.2.2.1 = KC) {y : MethodName} {cc : ByteArray} {nL lv fuel : Nat} {ini : Bool} {P : List (Nat × On_)} (hy : plainName y.cls = true) (hini : ini = true → y.name = "<init>") (h : ∀ R : Room, (lv ≤ R.frames ∧ 64 * lv ≤ R.locals) → ∀ pc o, P.lookup pc = some o → SnN_ l E y.cls cc nL (.code y cc nL none :: G_) R ini pc o) : MtN_ l E y (.code y cc nL none :: G_) lv (hnF_ P nL fuel) := by
  intro as τ τ1 hf h247
  unfold hnF_ at hf
  split at hf
  · rename_i hg
    simp only [Bool.and_eq_true, decide_eq_true_eq] at hg
    refine Met.ofW (cc := cc) (maxL := nL) (ret := none) hy rfl ?_
    intro p e s m args below meth c s₁ B hml hv
    obtain ⟨rfl, hsz, hP, hK, hXS⟩ := hv
    have X : FxN_ p (rmN_ lv τ τ1) s m (as.map (rn_ E.2.2.1)).toArray meth c E y.cls cc nL (.code y cc nL none :: G_) τ.1 τ1.1 := ⟨B.exec, B.bytes, hml, findClass_of_methodNamed B.named, atoms_spec (ws := .code y cc nL none :: G_) B.pre, hK, B.notSynchronized, ⟨hE, hKC, hsz, hXS⟩, h247, by show τ1.1 ≤ τ1.1 - τ.1 + τ.1; omega, by show slN_ τ1.1 ≤ slN_ τ1.1 - slN_ τ.1 + slN_ τ.1; omega⟩
    have hl := lv_entry (as.map (rn_ E.2.2.1)) (n := nL) (by rw [lgsl_1 _ (by rw [rn_all]; exact hg.1), List.length_map]; exact hg.2)
    rw [lg_entry_eq]
    have hr := B.returns
    have key := evN_snd (e := e) (below := below) (h (rmN_ lv τ τ1) ⟨Nat.le_refl _, Nat.le_refl _⟩) X (fun hi => by rw [(name_of_methodNamed B.named B.method).1]; exact hini hi) (Q := MQ below (QcN_ E τ1) (as.map (rn_ E.2.2.1)).toArray s (τ1.1 - τ.1) (slN_ τ1.1 - slN_ τ.1) (AN_ E)) (fun H locs ls pc cl sl hP1 hS1 hc hs hd => ?_) fuel 0 (lo0_ nL as) [] τ hf
    · exact key.2 s.heap [] _ 0 0 hP va_S.rf (by omega) (by omega) (hl_0 hg hl)
    · have e1 : τ1.1 - τ.1 = cl := by omega
      have e2 : slN_ τ1.1 - slN_ τ.1 = sl := by omega
      rw [e1, e2]
      exact W.vret B.exec B.bytes hr (fun t ht hW => ⟨⟨rfl, by rw [ht]; exact hP1, va_K.moved hW.alike hK⟩, hS1.F ht⟩) hS1.2.2 hd B.notSynchronized
  · cases hf
