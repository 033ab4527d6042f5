/-! the String constant of the class Scan: its length, its chars -/
def bS_ : List Int32 := [99, 104, 97, 112, 32, 111, 110, 32, 109, 117, 115, 116, 32, 119, 104, 111, 32, 115, 107, 105, 112, 115, 32, 115, 112, 101, 101, 100, 32, 97, 103, 97, 105, 110, 32, 114, 101, 97, 100, 115, 32, 116, 101, 108, 108, 115, 32, 116, 111, 32, 97, 108, 108, 32, 111, 114, 32, 97, 110, 100, 32, 110, 111, 116, 32, 114, 101, 97, 100, 32, 116, 111, 108, 100, 32, 107, 110, 111, 119, 115, 32, 116, 111, 116, 97, 108, 32, 108, 101, 102, 116, 32, 99, 111, 117, 110, 116, 32]
def tS_ : String := "chap on must who skips speed again reads tells to all or and not read told knows total left count "
def XT_ (A : Nat → Prop) (a v : Nat) (U : State) (H : Heap) : Prop := va_O "java/lang/String" a A U H ∧ va_OF "java/lang/String" "coder" "B" (.int 0) a A U H ∧ va_OF "java/lang/String" "value" "[B" (.ref v) a A U H ∧ va_T .byte v 98 (fun j => .int (bS_.getD j 0)) A U H ∧ va_Z "java/lang/String" "COMPACT_STRINGS" "Z" (.int 1) A U H ∧ va_Zq "jdk/internal/util/Preconditions" "SIOOBE_FORMATTER" "Ljava/util/function/BiFunction;" A U H
theorem XT_.narrow {A B : Nat → Prop} {a v : Nat} {U : State} {H : Heap} (h : XT_ A a v U H) (hAB : ∀ q, B q → A q) : XT_ B a v U H := ⟨h.1.narrow hAB, h.2.1.narrow hAB, h.2.2.1.narrow hAB, h.2.2.2.1.narrow hAB, h.2.2.2.2.1.narrow hAB, h.2.2.2.2.2.narrow hAB⟩
theorem XT_.kept {A : Nat → Prop} {a v : Nat} {U : State} {H H1 : Heap} (h : XT_ A a v U H) (hq : ∀ a : Nat, a < H.size → ¬ A a → H1[a]? = H[a]?) : XT_ A a v U H1 := ⟨h.1.kept hq, h.2.1.kept hq, h.2.2.1.kept hq, h.2.2.2.1.kept hq, h.2.2.2.2.1.kept hq, h.2.2.2.2.2.kept hq⟩
theorem XT_.moved {A : Nat → Prop} {a v : Nat} {u U : State} {H : Heap} (hvm : u.vm.Alike U.vm) (h : XT_ A a v u H) : XT_ A a v U H := ⟨va_O.moved hvm h.1, va_OF.moved hvm h.2.1, va_OF.moved hvm h.2.2.1, va_T.moved hvm h.2.2.2.1, va_Z.moved hvm h.2.2.2.2.1, va_Zq.moved hvm h.2.2.2.2.2⟩
/-- the constant, and what its methods look at -/
def XO_ (U : State) : Prop := (Cond.arrayOver (.array .int)).before #[] U = true ∧ va_AO "NineReaders$Book" U ∧ va_AO "NineReaders$Plan" U ∧ va_AO "NineReaders$Sentence" U
theorem XO_.moved {u U : State} (hvm : u.vm.Alike U.vm) (h : XO_ u) : XO_ U := ⟨over_moved hvm h.1, h.2.1.moved hvm, h.2.2.1.moved hvm, h.2.2.2.moved hvm⟩
def XS_ (A : Nat → Prop) (U : State) (H : Heap) : Prop := XO_ U ∧ ∃ a v : Nat, vk_R RX8 19 tS_ a U ∧ XT_ A a v U H
def NoA_ : Nat → Prop := fun _ => False
def QJ_ (out : Option Value) : Array Value → State → Outcome → State → Prop := fun _ st oc t => oc = .returned out ∧ va_F NoA_ st t
theorem mJ_ {l : Launch} {y : MethodName} {cc : ByteArray} {nL lv : Nat} {ret : Option FieldType} {out : Option Value} {as : List Value} {X : State → Prop} (hy : plainName y.cls = true) (hg : (lg_sl as).length ≤ nL) (body : ∀ (p : Program) (e : Env) (s : State) (m : MethodId) (below : List Frame) (meth : Method) (c : Code) (ls : Array Slot), p.tables.exec = Jvm.exec → c.code = cc → c.maxLocals = nL → s.vm.findClass y.cls = some m.cls → (∀ w ∈ (.code y cc nL ret :: G_ : List Cond), w.before as.toArray s = true) → X s → meth.sig.returnType = ret → meth.locks = false → lv_has ls nL (lv_args 0 as) → W p l e (rm_ lv) s m as.toArray below meth c s.heap [] 0 0 (MQ below (QJ_ out) as.toArray s 0 0 NoA_) (F0 m 0 ls [])) : Met l y (.code y cc nL ret :: G_) (rm_ lv) (va_Pc as X) (QJ_ out) 0 0 NoA_ := by
  refine Met.ofW (cc := cc) (maxL := nL) (ret := ret) hy rfl ?_
  intro p e s m args below meth c s₁ B hml hv
  obtain ⟨rfl, hX⟩ := hv
  have hl := lv_entry as (n := nL) hg
  rw [lg_entry_eq]
  exact body p e s m below meth c _ B.exec B.bytes hml (findClass_of_methodNamed B.named) (atoms_spec (ws := .code y cc nL ret :: G_) B.pre) hX B.returns B.notSynchronized hl
theorem runJ_ {l : Launch} {R : Room} {p : Program} {e : Env} {s : State} {m : MethodId} {args : Array Value} {below : List Frame} {meth : Method} {c : Code} {H : Heap} {locs : List Loc} {Q : State → Prop} {ls : Array Slot} {pc : Nat} {st0 rest : List Value} {rv : Option Value} {av : Array Value} {cl sl : Nat} {A : Nat → Prop} (hr : va_Run p l e R s m args below meth c H locs cl sl 0 0 (F0 m pc ls st0) rest (QJ_ rv av) NoA_) (hS : va_S A s.heap H locs)
    (kk : ∀ (H1 : Heap) (locs1 : List Loc), (∀ q : Nat, q < H.size → H1[q]? = H[q]?) → H.size ≤ H1.size → va_S A s.heap H1 locs1 → W p l e R s m args below meth c H1 locs1 cl sl Q (F0 m (pc + 3) ls (rv.toList ++ rest))) : W p l e R s m args below meth c H locs cl sl Q (F0 m pc ls st0) := by
  intro T hT X
  obtain ⟨v, st₀, t, T', L, h0, X', hL, e1, e2, ⟨hv, hz, hk⟩, st⟩ := hr T hT X
  cases hv
  rw [h0] at hz hk
  obtain ⟨t2, a1, b1⟩ := kk T'.heap (locs ++ L) (fun q hq => by rw [e1]; exact hk q hq (fun z => z)) (by rw [e1]; exact hz)
    ⟨Nat.le_trans hS.1 (by rw [e1]; exact hz), fun q h1 h2 => by rw [e1, hk q (Nat.lt_of_lt_of_le h1 hS.1) (fun z => z)]; exact hS.2.1 q h1 h2, fun q hq => by
      rcases List.mem_append.mp hq with h | h
      · exact hS.2.2 q h
      · exact (hL q h).elim⟩ T' rfl X'
  exact ⟨t2, st t2 a1, b1⟩
theorem preJ_ {s : State} {H : Heap} {av : List Value} {X : State → Heap → Prop} (hX : X s H) (hm : ∀ u U : State, u.vm.Alike U.vm → X u H → X U H) (hc : ∀ (U : State) (g : JFrame) (mk : MethodId) (a : Array Value) (H : Heap), X U H → X (U.calling g mk a) H) : FrameBlind (va_Pc av (fun U => X U U.heap)) ∧ ∀ U : State, U.heap = H → s.WarmedH U.vm → va_Pc av (fun U => X U U.heap) av.toArray U := by
  refine ⟨fun a U g mk q => ⟨q.1, hc U g mk a _ q.2⟩, fun U hU hW => ⟨rfl, ?_⟩⟩
  show X U U.heap
  rw [hU]
  exact hm s U hW.alike hX
theorem clJ_coder : Cl_ yJ0_coder_7d493 cJ0_coder_7d493 1 (some .byte) 0 := ⟨G_1 (i := 47) rfl rfl, G_1 (i := 3) rfl rfl, ⟨by decide +kernel, by decide +kernel, by decide +kernel⟩, by decide⟩
theorem clJ_length : Cl_ yJ0_length_8abf5 cJ0_length_8abf5 1 (some .int) 0 := ⟨G_1 (i := 43) rfl rfl, G_1 (i := 3) rfl rfl, ⟨by decide +kernel, by decide +kernel, by decide +kernel⟩, by decide⟩
theorem clJ_charAt : Cl_ yJ0_charAt_5068e cJ0_charAt_5068e 2 (some .char) 1 := ⟨G_1 (i := 53) rfl rfl, G_1 (i := 3) rfl rfl, ⟨by decide +kernel, by decide +kernel, by decide +kernel⟩, by decide⟩
theorem clJ_isLatin1 : Cl_ yJ0_isLatin1_aae02 cJ0_isLatin1_aae02 1 (some .boolean) 0 := ⟨G_1 (i := 57) rfl rfl, G_1 (i := 3) rfl rfl, ⟨by decide +kernel, by decide +kernel, by decide +kernel⟩, by decide⟩
theorem clJ_charAt1 : Cl_ yJ1_charAt_3b067 cJ1_charAt_3b067 2 (some .char) 2 := ⟨G_1 (i := 60) rfl rfl, G_1 (i := 4) rfl rfl, ⟨by decide +kernel, by decide +kernel, by decide +kernel⟩, by decide⟩
theorem clJ_check : Cl_ yJ0_checkIndex_df160 cJ0_checkIndex_df160 2 none 2 := ⟨G_1 (i := 63) rfl rfl, G_1 (i := 3) rfl rfl, ⟨by decide +kernel, by decide +kernel, by decide +kernel⟩, by decide⟩
theorem clJ_check3 : Cl_ yJ3_checkIndex_8e157 cJ3_checkIndex_8e157 3 (some .int) 3 := ⟨G_1 (i := 68) rfl rfl, G_1 (i := 5) rfl rfl, ⟨by decide +kernel, by decide +kernel, by decide +kernel⟩, by decide⟩
abbrev fv_val : Cond := .fieldLink RJ0 9 "java/lang/String" "value" "[B"
abbrev fv_cod : Cond := .fieldLink RJ0 15 "java/lang/String" "coder" "B"
abbrev fv_cmp : Cond := .fieldLink RJ0 38 "java/lang/String" "COMPACT_STRINGS" "Z"
abbrev fv_fmt : Cond := .fieldLink RJ0 1053 "jdk/internal/util/Preconditions" "SIOOBE_FORMATTER" "Ljava/util/function/BiFunction;"
theorem fi_val : fv_val ∈ G_ := G_9 (i := 85) rfl rfl
theorem fi_cod : fv_cod ∈ G_ := G_9 (i := 86) rfl rfl
theorem fi_cmp : fv_cmp ∈ G_ := G_1 (i := 48) rfl rfl
theorem fi_fmt : fv_fmt ∈ G_ := G_1 (i := 64) rfl rfl
/-- coder() -/
theorem cJ_coder (l : Launch) (a v : Nat) : Met l yJ0_coder_7d493 (.code yJ0_coder_7d493 cJ0_coder_7d493 1 (some .byte) :: G_) (rm_ 0) (va_Pc [.ref a] (fun U => XT_ NoA_ a v U U.heap)) (QJ_ (some (.int 0))) 0 0 NoA_ := by
  refine mJ_ (by decide +kernel) (Nat.le_refl _) ?_
  intro p e s m below meth c ls hx hb hml hown hts ⟨x1, x2, x3, x4, x5, x6⟩ hr hlk hl
  refine va_gets hx hb x5 va_S.rf hown (hts _ (G_w fi_cmp)) (fun _ h => h) (by decide +kernel) ?_
  refine lv_if_eq (off := 10) (tgt := 13) hx hb (by decide +kernel) (by decide) (fun z => absurd z (by decide)) (fun _ => ?_)
  refine lv_aload_n (i := 0) (k := 0) (x := a) hx hb (by decide +kernel) rfl (lv_at hl 0 rfl) ?_
  refine vk_getf hx hb x2 va_S.rf hown (hts _ (G_w fi_cod)) (fun _ h => h) (by decide +kernel) ?_
  refine lv_goto (off := 4) (tgt := 14) hx hb (by decide +kernel) (by decide) ?_
  exact W.zret hx hb hr (by decide) (fun t ht hW => ⟨rfl, va_S.rf.F ht⟩) (fun q h => by cases h) (by decide +kernel) hlk
/-- isLatin1() -/
theorem cJ_isLatin1 (l : Launch) (a v : Nat) : Met l yJ0_isLatin1_aae02 (.code yJ0_isLatin1_aae02 cJ0_isLatin1_aae02 1 (some .boolean) :: G_) (rm_ 0) (va_Pc [.ref a] (fun U => XT_ NoA_ a v U U.heap)) (QJ_ (some (.int 1))) 0 0 NoA_ := by
  refine mJ_ (by decide +kernel) (Nat.le_refl _) ?_
  intro p e s m below meth c ls hx hb hml hown hts ⟨x1, x2, x3, x4, x5, x6⟩ hr hlk hl
  refine va_gets hx hb x5 va_S.rf hown (hts _ (G_w fi_cmp)) (fun _ h => h) (by decide +kernel) ?_
  refine lv_if_eq (off := 14) (tgt := 17) hx hb (by decide +kernel) (by decide) (fun z => absurd z (by decide)) (fun _ => ?_)
  refine lv_aload_n (i := 0) (k := 0) (x := a) hx hb (by decide +kernel) rfl (lv_at hl 0 rfl) ?_
  refine vk_getf hx hb x2 va_S.rf hown (hts _ (G_w fi_cod)) (fun _ h => h) (by decide +kernel) ?_
  refine lv_if_ne (off := 7) (tgt := 17) hx hb (by decide +kernel) (by decide) (fun z => absurd rfl z) (fun _ => ?_)
  refine lv_iconst (n := 1) (v := 1) hx hb (by decide +kernel) (by decide) ?_
  refine lv_goto (off := 4) (tgt := 18) hx hb (by decide +kernel) (by decide) ?_
  exact W.zret hx hb hr (by decide) (fun t ht hW => ⟨rfl, va_S.rf.F ht⟩) (fun q h => by cases h) (by decide +kernel) hlk
/-- Preconditions.checkIndex in range -/
theorem cJ_check3 (l : Launch) {i n : Nat} (hi : i < n) (hn : n < 2 ^ 31) (f : Value) (hf : f.category = 1) : Met l yJ3_checkIndex_8e157 (.code yJ3_checkIndex_8e157 cJ3_checkIndex_8e157 3 (some .int) :: G_) (rm_ 0) (va_Pc [.int (nI i), .int (nI n), f] (fun _ => True)) (QJ_ (some (.int (nI i)))) 0 0 NoA_ := by
  refine mJ_ (by decide +kernel) (by rw [lgsl_1 _ (by simp [hf]; exact ⟨rfl, rfl⟩)]; exact Nat.le_refl _) ?_
  intro p e s m below meth c ls hx hb hml hown hts _ hr hlk hl
  refine lv_iload_n (i := 0) (k := 0) (x := nI i) hx hb (by decide +kernel) rfl (lv_at hl 0 rfl) ?_
  refine lv_if_lt (off := 8) (tgt := 9) hx hb (by decide +kernel) (by decide) (fun z => absurd z (nI_pos (by omega))) (fun _ => ?_)
  refine lv_iload_n (i := 0) (k := 0) (x := nI i) hx hb (by decide +kernel) rfl (lv_at hl 0 rfl) ?_
  refine lv_iload_n (i := 1) (k := 1) (x := nI n) hx hb (by decide +kernel) rfl (lv_at hl 1 rfl) ?_
  refine lv_icmp_lt (off := 10) (tgt := 16) hx hb (by decide +kernel) (by decide) (fun _ => ?_) (fun z => absurd (nI_lt hi hn) z)
  refine lv_iload_n (i := 0) (k := 0) (x := nI i) hx hb (by decide +kernel) rfl (lv_at hl 0 rfl) ?_
  exact W.iret hx hb hr (fun t ht hW => ⟨rfl, va_S.rf.F ht⟩) (fun q h => by cases h) (by decide +kernel) hlk
/-- String.checkIndex in range -/
theorem cJ_check (l : Launch) {i n : Nat} (hi : i < n) (hn : n < 2 ^ 31) : Met l yJ0_checkIndex_df160 (.code yJ0_checkIndex_df160 cJ0_checkIndex_df160 2 none :: G_) (rm_ 1) (va_Pc [.int (nI i), .int (nI n)] (fun U => va_Zq "jdk/internal/util/Preconditions" "SIOOBE_FORMATTER" "Ljava/util/function/BiFunction;" NoA_ U U.heap)) (QJ_ none) 0 0 NoA_ := by
  refine mJ_ (by decide +kernel) (Nat.le_refl _) ?_
  intro p e s m below meth c ls hx hb hml hown hts hZ hr hlk hl
  have key : ∀ f : Value, f.category = 1 → va_Z "jdk/internal/util/Preconditions" "SIOOBE_FORMATTER" "Ljava/util/function/BiFunction;" f NoA_ s s.heap → W p l e (rm_ 1) s m [.int (nI i), .int (nI n)].toArray below meth c s.heap [] 0 0 (MQ below (QJ_ none) [.int (nI i), .int (nI n)].toArray s 0 0 NoA_) (F0 m 0 ls []) := by
    intro f hf hZ
    refine lv_iload_n (i := 0) (k := 0) (x := nI i) hx hb (by decide +kernel) rfl (lv_at hl 0 rfl) ?_
    refine lv_iload_n (i := 1) (k := 1) (x := nI n) hx hb (by decide +kernel) rfl (lv_at hl 1 rfl) ?_
    refine va_gets hx hb hZ va_S.rf hown (hts _ (G_w fi_fmt)) (fun _ h => h) (by decide +kernel) ?_
    have hR := va_runS (l := l) (m := m) (below := below) (meth := meth) (H := s.heap) (locs := []) (cells := 0) (slots := 0) (e := e) (R := rm_ 1) (As := [.int (nI i), .int (nI n), f]) (rest := []) (g := F0 m 5 ls [f, .int (nI n), .int (nI i)]) (index := 1059) ⟨hx, hb, hml, hown, hts⟩ (cJ_check3 l hi hn f hf) ⟨callB_ hts clJ_check3 (G_1 (i := 66) rfl rfl) (rm_lt (by decide)), hts _ (G_w (G_1 (i := 67) rfl rfl))⟩ (preJ_ (X := fun _ _ => True) trivial (fun _ _ _ h => h) (fun _ _ _ _ _ h => h)) rfl rfl hl.1 rfl (Nat.le_of_ble_eq_true rfl) (show decode cJ0_checkIndex_df160 5 = .ok (.invokestatic 1059, 3) by decide +kernel) ⟨Nat.le_refl _, Nat.le_refl _⟩
    refine runJ_ hR (A := NoA_) va_S.rf (fun H1 locs1 h1 h2 hS1 => ?_)
    refine lv_pop (va := .int (nI i)) hx hb (by decide +kernel) rfl ?_
    exact W.vret hx hb hr (fun t ht hW => ⟨rfl, hS1.F ht⟩) hS1.2.2 (by decide +kernel) hlk
  rcases hZ with h | ⟨t, h⟩
  · exact key .null rfl h
  · exact key (.ref t) rfl h
theorem bS_all : ∀ j, j < 98 → ((bS_.getD j 0 &&& 255).toUInt32 % 65536).toInt32 = bS_.getD j 0 ∧ narrow .char (.int (bS_.getD j 0)) = .int (bS_.getD j 0) := by decide +kernel
/-- StringLatin1.charAt -/
theorem cJ_charAt1 (l : Launch) (a v : Nat) {i : Nat} (hi : i < 98) : Met l yJ1_charAt_3b067 (.code yJ1_charAt_3b067 cJ1_charAt_3b067 2 (some .char) :: G_) (rm_ 2) (va_Pc [.ref v, .int (nI i)] (fun U => XT_ NoA_ a v U U.heap)) (QJ_ (some (.int (bS_.getD i 0)))) 0 0 NoA_ := by
  refine mJ_ (by decide +kernel) (Nat.le_refl _) ?_
  intro p e s m below meth c ls hx hb hml hown hts ⟨x1, x2, x3, x4, x5, x6⟩ hr hlk hl
  refine lv_iload_n (i := 1) (k := 1) (x := nI i) hx hb (by decide +kernel) rfl (lv_at hl 1 rfl) ?_
  refine lv_aload_n (i := 0) (k := 0) (x := v) hx hb (by decide +kernel) rfl (lv_at hl 0 rfl) ?_
  refine va_tlen (v := nI 98) hx hb x4 va_S.rf rfl (by decide +kernel) ?_
  have hR := va_runS (l := l) (m := m) (below := below) (meth := meth) (H := s.heap) (locs := []) (cells := 0) (slots := 0) (e := e) (R := rm_ 2) (As := [.int (nI i), .int (nI 98)]) (rest := []) (g := F0 m 3 ls [.int (nI 98), .int (nI i)]) (index := 9) ⟨hx, hb, hml, hown, hts⟩ (cJ_check l hi (by decide)) ⟨callB_ hts clJ_check (G_1 (i := 61) rfl rfl) (rm_lt (by decide)), hts _ (G_w (G_1 (i := 62) rfl rfl))⟩ (preJ_ (X := fun U H => va_Zq "jdk/internal/util/Preconditions" "SIOOBE_FORMATTER" "Ljava/util/function/BiFunction;" NoA_ U H) x6 (fun _ _ h q => va_Zq.moved h q) (fun U g mk a H q => va_Zq.moved (u := U) (U := U.calling g mk a) (Vm.Alike.refl U.vm) q)) rfl rfl hl.1 rfl (Nat.le_of_ble_eq_true rfl) (show decode cJ1_charAt_3b067 3 = .ok (.invokestatic 9, 3) by decide +kernel) ⟨Nat.le_refl _, Nat.le_refl _⟩
  refine runJ_ hR (A := NoA_) va_S.rf (fun H1 locs1 h1 h2 hS1 => ?_)
  refine lv_aload_n (i := 0) (k := 0) (x := v) hx hb (by decide +kernel) rfl (lv_at hl 0 rfl) ?_
  refine lv_iload_n (i := 1) (k := 1) (x := nI i) hx hb (by decide +kernel) rfl (lv_at hl 1 rfl) ?_
  refine va_tb (v := .int (bS_.getD i 0)) hx hb x4 hS1 (vp_in_nI hi (by decide)) (by rw [nI_clamp (by omega)]) (by decide +kernel) ?_
  refine lv_sipush (n := 255) (v := 255) hx hb (by decide +kernel) (by decide) ?_
  refine lv_iand hx hb (by decide +kernel) ?_
  refine lv_i2c (v := bS_.getD i 0) hx hb (by decide +kernel) (bS_all i hi).1 ?_
  exact W.zret hx hb hr (bS_all i hi).2 (fun t ht hW => ⟨rfl, hS1.F ht⟩) hS1.2.2 (by decide +kernel) hlk
theorem XT_al {a v : Nat} {H : Heap} : ∀ u U : State, u.vm.Alike U.vm → XT_ NoA_ a v u H → XT_ NoA_ a v U H := fun _ _ h q => q.moved h
theorem XT_ca {a v : Nat} : ∀ (U : State) (g : JFrame) (mk : MethodId) (x : Array Value) (H : Heap), XT_ NoA_ a v U H → XT_ NoA_ a v (U.calling g mk x) H := fun U g mk x _ q => q.moved (u := U) (U := U.calling g mk x) (Vm.Alike.refl U.vm)
theorem XT_rc {a v : Nat} {s : State} {H : Heap} (h : XT_ NoA_ a v s H) : ∃ cell : Cell, H[a]? = some cell ∧ cell.vm.isStatics = false ∧ s.vm.findClass RJ0 = some cell.cls := by
  obtain ⟨cell, h1, h2, h3, -⟩ := h.1
  exact ⟨cell, h1, h2, h3⟩
/-- String.length() -/
theorem cJ_length (l : Launch) (a v : Nat) : Met l yJ0_length_8abf5 (.code yJ0_length_8abf5 cJ0_length_8abf5 1 (some .int) :: G_) (rm_ 1) (va_Pc [.ref a] (fun U => XT_ NoA_ a v U U.heap)) (QJ_ (some (.int 98))) 0 0 NoA_ := by
  refine mJ_ (by decide +kernel) (Nat.le_refl _) ?_
  intro p e s m below meth c ls hx hb hml hown hts hX hr hlk hl
  have ⟨x1, x2, x3, x4, x5, x6⟩ := hX
  refine lv_aload_n (i := 0) (k := 0) (x := a) hx hb (by decide +kernel) rfl (lv_at hl 0 rfl) ?_
  refine vk_getf hx hb x3 va_S.rf hown (hts _ (G_w fi_val)) (fun _ h => h) (by decide +kernel) ?_
  refine va_tlen (v := 98) hx hb x4 va_S.rf rfl (by decide +kernel) ?_
  refine lv_aload_n (i := 0) (k := 0) (x := a) hx hb (by decide +kernel) rfl (lv_at hl 0 rfl) ?_
  have hp := preJ_ (av := [.ref a]) hX XT_al XT_ca
  have hR := va_runV (l := l) (m := m) (below := below) (meth := meth) (H := s.heap) (locs := []) (cells := 0) (slots := 0) (e := e) (R := rm_ 1) (b := a) (As := []) (rest := [.int 98]) (g := F0 m 6 ls [.ref a, .int 98]) (index := 335) (C := RJ0) ⟨hx, hb, hml, hown, hts⟩ (cJ_coder l a v) ⟨callB_ hts clJ_coder (G_1 (i := 44) rfl rfl) (rm_lt (by decide)), hts _ (G_w (G_1 (i := 45) rfl rfl)), hts _ (G_w (G_1 (i := 46) rfl rfl))⟩ ⟨hp.1, XT_rc hX, hp.2⟩ rfl rfl hl.1 rfl (Nat.le_of_ble_eq_true rfl) (show decode cJ0_length_8abf5 6 = .ok (.invokevirtual 335, 3) by decide +kernel) ⟨Nat.le_refl _, Nat.le_refl _⟩
  refine runJ_ hR (A := NoA_) va_S.rf (fun H1 locs1 h1 h2 hS1 => ?_)
  refine lv_ishr hx hb (by decide +kernel) ?_
  exact W.iret (v := 98) hx hb hr (fun t ht hW => ⟨rfl, hS1.F ht⟩) hS1.2.2 (by decide +kernel) hlk
/-- String.charAt(i) -/
theorem cJ_charAt (l : Launch) (a v : Nat) {i : Nat} (hi : i < 98) : Met l yJ0_charAt_5068e (.code yJ0_charAt_5068e cJ0_charAt_5068e 2 (some .char) :: G_) (rm_ 3) (va_Pc [.ref a, .int (nI i)] (fun U => XT_ NoA_ a v U U.heap)) (QJ_ (some (.int (bS_.getD i 0)))) 0 0 NoA_ := by
  refine mJ_ (by decide +kernel) (Nat.le_refl _) ?_
  intro p e s m below meth c ls hx hb hml hown hts hX hr hlk hl
  have ⟨x1, x2, x3, x4, x5, x6⟩ := hX
  refine lv_aload_n (i := 0) (k := 0) (x := a) hx hb (by decide +kernel) rfl (lv_at hl 0 rfl) ?_
  have hp := preJ_ (av := [.ref a]) hX XT_al XT_ca
  have hR := va_runV (l := l) (m := m) (below := below) (meth := meth) (H := s.heap) (locs := []) (cells := 0) (slots := 0) (e := e) (R := rm_ 3) (b := a) (As := []) (rest := []) (g := F0 m 1 ls [.ref a]) (index := 492) (C := RJ0) ⟨hx, hb, hml, hown, hts⟩ (cJ_isLatin1 l a v) ⟨callB_ hts clJ_isLatin1 (G_1 (i := 54) rfl rfl) (rm_lt (by decide)), hts _ (G_w (G_1 (i := 55) rfl rfl)), hts _ (G_w (G_1 (i := 56) rfl rfl))⟩ ⟨hp.1, XT_rc hX, hp.2⟩ rfl rfl hl.1 rfl (Nat.le_of_ble_eq_true rfl) (show decode cJ0_charAt_5068e 1 = .ok (.invokevirtual 492, 3) by decide +kernel) ⟨Nat.le_refl _, Nat.le_refl _⟩
  refine runJ_ hR (A := NoA_) va_S.rf (fun H1 locs1 h1 h2 hS1 => ?_)
  refine lv_if_eq (off := 12) (tgt := 16) hx hb (by decide +kernel) (by decide) (fun z => absurd z (by decide)) (fun _ => ?_)
  refine lv_aload_n (i := 0) (k := 0) (x := a) hx hb (by decide +kernel) rfl (lv_at hl 0 rfl) ?_
  refine vk_getf hx hb x3 hS1 hown (hts _ (G_w fi_val)) (fun _ h => h) (by decide +kernel) ?_
  refine lv_iload_n (i := 1) (k := 1) (x := nI i) hx hb (by decide +kernel) rfl (lv_at hl 1 rfl) ?_
  have hX1 := hX.kept (H1 := H1) (fun q hq _ => h1 q hq)
  have hR2 := va_runS (l := l) (m := m) (below := below) (meth := meth) (H := H1) (locs := locs1) (cells := 0) (slots := 0) (e := e) (R := rm_ 3) (As := [.ref v, .int (nI i)]) (rest := []) (g := F0 m 12 ls [.int (nI i), .ref v]) (index := 495) ⟨hx, hb, hml, hown, hts⟩ (cJ_charAt1 l a v hi) ⟨callB_ hts clJ_charAt1 (G_1 (i := 58) rfl rfl) (rm_lt (by decide)), hts _ (G_w (G_1 (i := 59) rfl rfl))⟩ (preJ_ hX1 XT_al XT_ca) rfl rfl hl.1 rfl (Nat.le_of_ble_eq_true rfl) (show decode cJ0_charAt_5068e 12 = .ok (.invokestatic 495, 3) by decide +kernel) ⟨Nat.le_refl _, Nat.le_refl _⟩
  refine runJ_ hR2 (A := NoA_) hS1 (fun H2 locs2 g1 g2 hS2 => ?_)
  exact W.zret hx hb hr (bS_all i hi).2 (fun t ht hW => ⟨rfl, hS2.F ht⟩) hS2.2.2 (by decide +kernel) hlk
