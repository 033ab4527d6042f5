section CALLS
variable {l : Launch} {E : En_} {own : String} {cc : ByteArray} {nL : Nat} {ret : Option FieldType} {ws : List Cond} {R : Room} {pc : Nat}
/-- a run of a callee, back in the caller -/
theorem run_ {p : Program} {e : Env} {s : State} {m : MethodId} {args : Array Value} {below : List Frame} {meth : Method} {c : Code} {H H0 : Heap} {locs : List Loc} {Q : State → Prop} {ls : Array Slot} {st0 rest : List Value} {out1 : Out_} {A0 A1 : Nat → Prop} {av : Array Value} {cl sl : Nat} (hr : va_Run p l e R s m args below meth c H locs cl sl 0 0 (F0 m pc ls st0) rest (Qc_ E out1 A1 av) A1) (hS : va_S A0 H0 H locs) (hA : ∀ q, q < H.size → A1 q → A0 q) (hA2 : ∀ q, A1 q → A0 q)
    (kk : ∀ (H1 : Heap) (locs1 : List Loc), va_P E.2.1 vwCl (wl_ E out1.2) H1 → va_S A0 H0 H1 locs1 → W p l e R s m args below meth c H1 locs1 cl sl Q (F0 m (pc + 3) ls ((out1.1.map (rn_ E.2.2.1)).toList ++ rest))) : W p l e R s m args below meth c H locs cl sl Q (F0 m pc ls st0) := by
  intro T hT X
  obtain ⟨v, st₀, t, T', L, h0, X', hL, e1, e2, ⟨⟨hv, hw⟩, hz, hk⟩, st⟩ := hr T hT X
  cases hv
  rw [h0] at hz hk
  obtain ⟨t2, a1, b1⟩ := kk T'.heap (locs ++ L) (by rw [e1]; exact hw.1)
    ⟨Nat.le_trans hS.1 (by rw [e1]; exact hz), fun q h1 h2 => by rw [e1, hk q (Nat.lt_of_lt_of_le h1 hS.1) (fun z => h2 (hA q (Nat.lt_of_lt_of_le h1 hS.1) z))]; exact hS.2.1 q h1 h2, fun q hq => by
      rcases List.mem_append.mp hq with h | h
      · exact hS.2.2 q h
      · exact hA2 _ (hL q h)⟩ T' rfl X'
  exact ⟨t2, st t2 a1, b1⟩
theorem pre_ {s : State} {H : Heap} {σ : St_} {av : List Value} (hP : va_P E.2.1 vwCl (wl_ E σ) H) (hK : va_K E.2.1 vwCl (tys_ E) s) : FrameBlind (va_Pc av (fun U => U.heap.size = H.size ∧ WP_ E σ U)) ∧ ∀ U : State, U.heap = H → s.WarmedH U.vm → va_Pc av (fun U => U.heap.size = H.size ∧ WP_ E σ U) av.toArray U := by
  refine ⟨fun a U g mk q => ?_, fun U hU hW => ⟨rfl, by rw [hU], by rw [hU]; exact hP, va_K.moved hW.alike hK⟩⟩
  obtain ⟨q0, q1, qP, qK⟩ := q
  exact ⟨q0, q1, qP, va_K.moved (u := U) (U := U.calling g mk a) (Vm.Alike.refl U.vm) qK⟩
/-- the words of a contract, out of the caller's -/
def Wd_ (c0 : Cond) (y : MethodName) (cy : ByteArray) (ny : Nat) (ry : Option FieldType) : List Cond := .code y cy ny ry :: G_
theorem wd_good {c0 : Cond} {y' : MethodName} {cy' : ByteArray} {ny' : Nat} {ry' : Option FieldType} (h : Cond.code y' cy' ny' ry' ∈ G_) : GoodIn (c0 :: G_) (.code y' cy' ny' ry' :: G_) := by
  intro w hw
  have hg : w ∈ G_ := by
    rcases List.mem_cons.mp hw with rfl | h1
    · exact h
    · exact h1
  exact ⟨List.mem_cons_of_mem _ hg, G_good hg⟩
/-- what a call needs to know of its callee, once for all -/
def Cl_ (y : MethodName) (cy : ByteArray) (ny : Nat) (ry : Option FieldType) (np : Nat) : Prop := Cond.code y cy ny ry ∈ G_ ∧ Cond.initialized y.cls ∈ G_ ∧ (y.cls ≠ "java/lang/invoke/MethodHandle" ∧ y.cls ≠ "java/lang/invoke/VarHandle" ∧ (parseMethodDescriptor y.desc).map (fun d => d.parameters.length) = some np) ∧ ny ≤ 45
theorem callB_ {c0 : Cond} {y : MethodName} {cy : ByteArray} {ny : Nat} {ry : Option FieldType} {np index lv : Nat} {s : State} {args : Array Value} (hts : ∀ w ∈ (c0 :: G_ : List Cond), w.before args s = true) (hC : Cl_ y cy ny ry np) (hl : Cond.methodLink own index y ∈ G_) (hR : lv + 1 ≤ R.frames ∧ 64 * (lv + 1) ≤ R.locals) : CallB R s args own index y cy ny ry (.code y cy ny ry :: G_) (rm_ lv) 0 0 np := by
  have up : ∀ {w}, w ∈ G_ → w ∈ (c0 :: G_ : List Cond) := fun h => List.mem_cons_of_mem _ h
  obtain ⟨h1, h2, h3, h4⟩ := hC
  refine callB_of np hts (wd_good h1) rfl rfl rfl (hts _ (up h2)) (hts _ (up hl)) h3 ⟨hR.1, ?_⟩
  have := hR.2
  show 8 + (ny + 11) + 64 * lv ≤ R.locals
  omega
theorem rm_lt {lv lv0 : Nat} (h : lv < lv0) : lv + 1 ≤ (rm_ lv0).frames ∧ 64 * (lv + 1) ≤ (rm_ lv0).locals := ⟨by show lv + 1 ≤ lv0; omega, by show 64 * (lv + 1) ≤ 64 * lv0; omega⟩
theorem take_rev (l : List Value) (n : Nat) : l = (l.take n).reverse.reverse ++ l.drop n := by rw [List.reverse_reverse, List.take_append_drop]
/-- a static call of f with na arguments -/
def o_callS (f : Fn_) (na : Nat) : Op_ := fun k pc lo st σ => if na ≤ st.length ∧ ((st.drop na).map fun v => v.category).sum ≤ 8 then match f (st.take na).reverse σ with
    | some (rv, σ1) => k (pc + 3) lo (rv.toList ++ st.drop na) σ1
    | none => none
  else none
theorem ol_map (ad : Nat → Nat) (o : Option Value) (r : List Value) : (o.map (rn_ ad)).toList ++ r.map (rn_ ad) = (o.toList ++ r).map (rn_ ad) := by cases o <;> rfl
theorem s_callS {c0 : Cond} {y : MethodName} {cy : ByteArray} {ny : Nat} {ry : Option FieldType} {np index lv : Nat} {f : Fn_} (hd : decode cc pc = .ok (.invokestatic index, 3)) (hM : Good_ l E y (.code y cy ny ry :: G_) (rm_ lv) f) (hC : Cl_ y cy ny ry np) (hl : Cond.methodLink own index y ∈ G_) (hst : Cond.static y ∈ G_) (hlv : lv + 1 ≤ R.frames ∧ 64 * (lv + 1) ≤ R.locals) : Snd_ l E own cc nL ret (c0 :: G_) R pc (o_callS f np) := by
  refine ⟨?_, ?_⟩
  · intro k k1 hkk pc lo st σ out
    unfold o_callS
    repeat' split
    all_goals first | exact hkk _ _ _ _ _ | exact id | (intro h; cases h; done) | (simp_all; done)
  intro p e s m args below meth c ⟨hx, hb, hml, hown, hts, hK, hr, hlk, hE⟩ cl sl Q hcs k out hrt hk lo st σ h
  unfold o_callS at h
  split at h
  · rename_i hg
    split at h
    · rename_i rv σ1 hf
      intro H locs ls hP hS hlo
      have hR := va_runS (l := l) (m := m) (below := below) (meth := meth) (H := H) (locs := locs) (cells := cl) (slots := sl) (e := e) (As := (st.take np).reverse.map (rn_ E.2.2.1)) (rest := (st.drop np).map (rn_ E.2.2.1)) (g := F0 m pc ls (st.map (rn_ E.2.2.1))) (index := index) (own := own) ⟨hx, hb, hml, hown, hts⟩ (hM H.size (st.take np).reverse σ (rv, σ1) hf) ⟨callB_ hts hC hl hlv, hts _ (List.mem_cons_of_mem _ hst)⟩ (pre_ hP hK) rfl (by rw [List.length_map, List.length_reverse, List.length_take]; omega) (hlo.2.1) (by rw [← List.map_reverse, List.reverse_reverse, ← List.map_append, List.take_append_drop]) (by rw [rn_sum]; show 2 * 0 + _ ≤ 8; omega) hd hcs
      refine run_ hR hS (fun q _ h => ?_) (fun q h => ?_) (fun H1 locs1 hP1 hS1 => ?_)
      · rcases h with h | h
        · exact Or.inl h
        · exact Or.inr (Nat.le_trans hS.1 h)
      · rcases h with h | h
        · exact Or.inl h
        · exact Or.inr (Nat.le_trans hS.1 h)
      · rw [ol_map]
        exact hk _ _ _ _ h H1 locs1 ls hP1 hS1 hlo
    · cases h
  · cases h
/-- a call of f on an object of the kind ci with na arguments beside it -/
def o_callV (K : Sh_) (ci : Nat) (f : Fn_) (na : Nat) : Op_ := fun k pc lo st σ => match st.drop na with
  | .ref b :: r => if (K.1 b).1 = ci ∧ (r.map fun v => v.category).sum ≤ 8 then match f (.ref b :: (st.take na).reverse) σ with
    | some (rv, σ1) => k (pc + 3) lo (rv.toList ++ r) σ1
    | none => none
    else none
  | _ => none
theorem s_callV {c0 : Cond} {y : MethodName} {cy : ByteArray} {ny : Nat} {ry : Option FieldType} {ci np index lv : Nat} {f : Fn_} (hd : decode cc pc = .ok (.invokevirtual index, 3)) (hM : Good_ l E y (.code y cy ny ry :: G_) (rm_ lv) f) (hC : Cl_ y cy ny ry np) (hl : Cond.methodLink own index y ∈ G_) (hst : Cond.instanceMethod y ∈ G_) (hse : Cond.selects y.cls y y ∈ G_) (hci : ci < 13) (hcl : cR_ ci = y.cls) (hlv : lv + 1 ≤ R.frames ∧ 64 * (lv + 1) ≤ R.locals) : Snd_ l E own cc nL ret (c0 :: G_) R pc (o_callV E.2.2.2.1 ci f np) := by
  refine ⟨?_, ?_⟩
  · intro k k1 hkk pc lo st σ out
    unfold o_callV
    repeat' split
    all_goals first | exact hkk _ _ _ _ _ | exact id | (intro h; cases h; done) | (simp_all; done)
  intro p e s m args below meth c ⟨hx, hb, hml, hown, hts, hK, hr, hlk, hE⟩ cl sl Q hcs k out hrt hk lo st σ h
  unfold o_callV at h
  split at h
  · rename_i b r hdr
    split at h
    · rename_i hg
      split at h
      · rename_i rv σ1 hf
        intro H locs ls hP hS hlo
        have hq1 := k_lt hE (o := b) (by omega)
        have hlen : np ≤ st.length := by
          rcases Nat.lt_or_ge st.length np with z | z
          · rw [List.drop_eq_nil_of_le (by omega)] at hdr
            cases hdr
          · exact z
        have hst0 : st = st.take np ++ .ref b :: r := by rw [← hdr, List.take_append_drop]
        have hrc := va_recv hK hP (c_cl ci hci) ((wl_get hq1).trans (by rw [ent_obj hg.1 hci]))
        rw [show (cR_ ci, cT_ ci, cN_ ci).1 = y.cls from hcl] at hrc
        have hpre := pre_ (av := Value.ref (E.2.2.1 b) :: (st.take np).reverse.map (rn_ E.2.2.1)) hP hK
        have hR := va_runV (l := l) (m := m) (below := below) (meth := meth) (H := H) (locs := locs) (cells := cl) (slots := sl) (e := e) (b := E.2.2.1 b) (As := (st.take np).reverse.map (rn_ E.2.2.1)) (rest := r.map (rn_ E.2.2.1)) (g := F0 m pc ls (st.map (rn_ E.2.2.1))) (index := index) (own := own) (C := y.cls) ⟨hx, hb, hml, hown, hts⟩ (hM H.size (.ref b :: (st.take np).reverse) σ (rv, σ1) hf) ⟨callB_ hts hC hl hlv, hts _ (List.mem_cons_of_mem _ hst), hts _ (List.mem_cons_of_mem _ hse)⟩ ⟨hpre.1, hrc, hpre.2⟩ rfl (by rw [List.length_map, List.length_reverse, List.length_take]; omega) (hlo.2.1) (by rw [← List.map_reverse, List.reverse_reverse]; show st.map _ = (st.take np).map _ ++ (Value.ref b :: r).map (rn_ E.2.2.1); rw [← List.map_append, ← hst0]) (by rw [rn_sum]; show 2 * 0 + _ ≤ 8; omega) hd hcs
        refine run_ hR hS (fun q _ h => ?_) (fun q h => ?_) (fun H1 locs1 hP1 hS1 => ?_)
        · rcases h with h | h
          · exact Or.inl h
          · exact Or.inr (Nat.le_trans hS.1 h)
        · rcases h with h | h
          · exact Or.inl h
          · exact Or.inr (Nat.le_trans hS.1 h)
        · rw [ol_map]
          exact hk _ _ _ _ h H1 locs1 ls hP1 hS1 hlo
      · cases h
    · cases h
  · cases h
/-- System.arraycopy of ints -/
def o_copy (K : Sh_) : Op_ := fun k pc lo st σ => match st with
  | .int n :: .int dp :: .ref b :: .int sp :: .ref a :: r => if ((K.1 a).1 = 14 ∧ (K.1 b).1 = 14) ∧ (¬ sp < 0 ∧ ¬ dp < 0 ∧ ¬ n < 0) ∧ sp.toNatClampNeg + n.toNatClampNeg ≤ (K.1 a).2 ∧ dp.toNatClampNeg + n.toNatClampNeg ≤ (K.1 b).2 ∧ (r.map fun v => v.category).sum ≤ 8 then k (pc + 3) lo r (fun q j => if q = b then va_cpy (σ.1 a) (σ.1 b) sp.toNatClampNeg dp.toNatClampNeg n.toNatClampNeg j else σ.1 q j, σ.2) else none
  | _ => none
theorem s_copy {index : Nat} (hd : decode cc pc = .ok (.invokestatic index, 3)) (hl : Cond.methodLink own index arraycopyName ∈ ws) (hn : Cond.native arraycopyName ∈ ws) (hst : Cond.static arraycopyName ∈ ws) (hi : Cond.initialized "java/lang/System" ∈ ws) (hlv : 1 ≤ R.frames ∧ 64 ≤ R.locals) : Snd_ l E own cc nL ret ws R pc (o_copy E.2.2.2.1) := by
  refine ⟨?_, ?_⟩
  · intro k k1 hkk pc lo st σ out
    unfold o_copy
    repeat' split
    all_goals first | exact hkk _ _ _ _ _ | exact id | (intro h; cases h; done) | (simp_all; done)
  intro p e s m args below meth c ⟨hx, hb, hml, hown, hts, hK, hr, hlk, hE⟩ cl sl Q hcs k out hrt hk lo st σ h
  unfold o_copy at h
  split at h
  · rename_i n dp b sp a r
    split at h
    · rename_i hg
      obtain ⟨⟨ka, kb⟩, ⟨h1, h2, h3⟩, h4, h5, h6⟩ := hg
      have ha1 := k_lt hE (o := a) (by omega)
      have hb1 := k_lt hE (o := b) (by omega)
      intro H locs ls hP hS hlo
      have hnf : nativeFrameWords "java/lang/System" "arraycopy" 5 + 11 ≤ 56 := by decide
      refine va_copyi (ty := .int) (A := A_ E s.heap.size) hx hb (by rw [hml, hlo.2.1]) hown (hts _ hl) (hts _ hn) (hts _ hst) (hts _ hi) hK hP (wl_D hE σ _) hS a b 1 1 ((wl_get ha1).trans (by rw [ent_int ka (by omega)])) ((wl_get hb1).trans (by rw [ent_int kb (by omega)])) rfl rfl rfl h1 h2 h3 h4 h5 (fun _ _ => rfl) hlv.1 (by rw [rn_sum]; have := hlv.2; omega) hd (fun H1 locs1 hP1 _ hS1 => ?_)
      have he : ent_ E (fun q j => if q = b then va_cpy (σ.1 a) (σ.1 b) sp.toNatClampNeg dp.toNatClampNeg n.toNatClampNeg j else σ.1 q j, σ.2) b = .inl (E.1 14, (E.2.2.2.1.1 b).2, .inl (va_cpy (σ.1 a) (σ.1 b) sp.toNatClampNeg dp.toNatClampNeg n.toNatClampNeg)) := by
        rw [ent_int kb (by omega)]
        simp
      rw [wl_set (σ := σ) hb1 he (fun z hz => ent_congr (by funext j; simp [hz]) rfl rfl)] at hP1
      exact hk _ _ _ _ h H1 locs1 ls hP1 hS1 hlo
    · cases h
  · cases h
def o_max : Op_ := fun k pc lo st σ => match st with
  | .int y :: .int x :: r => if (r.map fun v => v.category).sum ≤ 8 then k (pc + 3) lo (.int (if x < y then y else x) :: r) σ else none
  | _ => none
theorem s_max {index : Nat} (hd : decode cc pc = .ok (.invokestatic index, 3)) (hl : Cond.methodLink own index Lib.Math.max.name ∈ ws) (hst : Cond.static Lib.Math.max.name ∈ ws) (hi : Cond.initialized "java/lang/Math" ∈ ws) (hco : Cond.code Lib.Math.max.name Lib.Math.max.code 2 (some .int) ∈ ws) (hlv : 1 ≤ R.frames ∧ 64 ≤ R.locals) : Snd_ l E own cc nL ret ws R pc o_max := by
  refine ⟨?_, ?_⟩
  · intro k k1 hkk pc lo st σ out
    unfold o_max
    repeat' split
    all_goals first | exact hkk _ _ _ _ _ | exact id | (intro h; cases h; done) | (simp_all; done)
  intro p e s m args below meth c ⟨hx, hb, hml, hown, hts, hK, hr, hlk, hE⟩ cl sl Q hcs k out hrt hk lo st σ h
  unfold o_max at h
  split at h
  · split at h
    · rename_i hg
      exact fun H locs ls hP hS hlo => va_mmax hx hb (by rw [hml, hlo.2.1]) hown (hts _ hl) (hts _ hst) (hts _ hi) (hts _ hco) hlv.1 (by rw [rn_sum]; have := hlv.2; omega) hcs.1 hcs.2 hd (hk _ _ _ _ h H locs ls hP hS hlo)
    · cases h
  · cases h
def o_min : Op_ := fun k pc lo st σ => match st with
  | .int y :: .int x :: r => if (r.map fun v => v.category).sum ≤ 8 then k (pc + 3) lo (.int (if y < x then y else x) :: r) σ else none
  | _ => none
theorem s_min {index : Nat} (hd : decode cc pc = .ok (.invokestatic index, 3)) (hl : Cond.methodLink own index Lib.Math.min.name ∈ ws) (hst : Cond.static Lib.Math.min.name ∈ ws) (hi : Cond.initialized "java/lang/Math" ∈ ws) (hco : Cond.code Lib.Math.min.name Lib.Math.min.code 2 (some .int) ∈ ws) (hlv : 1 ≤ R.frames ∧ 64 ≤ R.locals) : Snd_ l E own cc nL ret ws R pc o_min := by
  refine ⟨?_, ?_⟩
  · intro k k1 hkk pc lo st σ out
    unfold o_min
    repeat' split
    all_goals first | exact hkk _ _ _ _ _ | exact id | (intro h; cases h; done) | (simp_all; done)
  intro p e s m args below meth c ⟨hx, hb, hml, hown, hts, hK, hr, hlk, hE⟩ cl sl Q hcs k out hrt hk lo st σ h
  unfold o_min at h
  split at h
  · split at h
    · rename_i hg
      exact fun H locs ls hP hS hlo => va_mmin hx hb (by rw [hml, hlo.2.1]) hown (hts _ hl) (hts _ hst) (hts _ hi) (hts _ hco) hlv.1 (by rw [rn_sum]; have := hlv.2; omega) hcs.1 hcs.2 hd (hk _ _ _ _ h H locs ls hP hS hlo)
    · cases h
  · cases h
def All_ (φ : Nat → Op_ → Prop) : List (Nat × Op_) → Prop
  | [] => True
  | q :: t => φ q.1 q.2 ∧ All_ φ t
theorem all_c {φ : Nat → Op_ → Prop} {i : Nat} {o : Op_} {t : List (Nat × Op_)} (h : φ i o) (ht : All_ φ t) : All_ φ ((i, o) :: t) := ⟨h, ht⟩
theorem all_n {φ : Nat → Op_ → Prop} : All_ φ [] := trivial
theorem all_get {φ : Nat → Op_ → Prop} : ∀ {P : List (Nat × Op_)}, All_ φ P → ∀ {j : Nat} {o : Op_}, P.lookup j = some o → φ j o
  | [], _, j, o, h => by simp at h
  | (i, q) :: t, ha, j, o, h => by
    rw [List.lookup_cons] at h
    by_cases c : j == i
    · simp only [c] at h
      cases h
      rw [eq_of_beq c]
      exact ha.1
    · simp only [c] at h
      exact all_get ha.2 h
theorem good_all {E : En_} (hE : EOK_ E) {y : MethodName} {cy : ByteArray} {ny : Nat} {ry : Option FieldType} {lv : Nat} {P : List (Nat × Op_)} (hy : plainName y.cls = true) (h : All_ (Snd_ l E y.cls cy ny ry (.code y cy ny ry :: G_) (rm_ lv)) P) : Good_ l E y (.code y cy ny ry :: G_) (rm_ lv) (fn_ P ny) :=
  good_of hE hy ⟨rfl, rfl⟩ (fun pc o ho => all_get h ho)
theorem all_mon {l : Launch} {E : En_} {own : String} {cc : ByteArray} {nL : Nat} {ret : Option FieldType} {ws : List Cond} {R : Room} {P : List (Nat × Op_)} (h : All_ (Snd_ l E own cc nL ret ws R) P) : ∀ pc o, P.lookup pc = some o → Mon_ o := fun _ _ ho => (all_get h ho).1
theorem good_0 {E : En_} {y : MethodName} {ws : List Cond} {rm : Room} : Good_ l E y ws rm (fun _ _ => none) := fun _ _ _ _ h => by cases h
theorem G_w {c0 w : Cond} (h : w ∈ G_) : w ∈ c0 :: G_ := List.mem_cons_of_mem _ h
end CALLS
