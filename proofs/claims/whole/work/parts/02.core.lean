/-! the memory of a world by names: ints, longs, references; a name's kind; the address of a name -/
abbrev St_ : Type := (Nat → Nat → Int32) × (Nat → Nat → Int64) × (Nat → Nat → Option Nat)
abbrev Lo_ : Type := List (Option Value)
abbrev Out_ : Type := Option Value × St_
abbrev Ct_ : Type := Nat → Lo_ → List Value → St_ → Option Out_
abbrev Op_ : Type := Ct_ → Nat → Lo_ → List Value → St_ → Option Out_
abbrev Fn_ : Type := List Value → St_ → Option Out_
/-- kinds of names; what a name refers to and always will -/
abbrev Sh_ : Type := (Nat → Nat × Nat) × (Nat → Nat → Option Nat)
def u2_ {α : Type} (f : Nat → Nat → α) (o i : Nat) (x : α) : Nat → Nat → α := fun a j => if a = o ∧ j = i then x else f a j
/-- array classes by kind, the classes' tables, addresses of names, kinds, how many names -/
abbrev En_ : Type := (Nat → ClassId) × va_G × (Nat → Nat) × Sh_ × Nat
def rn_ (ad : Nat → Nat) (v : Value) : Value := match v with
  | .ref q => .ref (ad q)
  | v => v
theorem rn_cat (ad : Nat → Nat) (v : Value) : (rn_ ad v).category = v.category := by cases v <;> rfl
theorem rn_sum (ad : Nat → Nat) (l : List Value) : ((l.map (rn_ ad)).map fun v => v.category).sum = (l.map fun v => v.category).sum := by
  induction l with
  | nil => rfl
  | cons v t ih => simp only [List.map_cons, List.sum_cons, ih, rn_cat]
def cR_ (ci : Nat) : String := match ci with
  | 0 => RX0
  | 1 => RX1
  | 2 => RX2
  | 3 => RX3
  | 4 => RX4
  | 5 => RX5
  | 6 => RX6
  | 7 => RX7
  | 8 => RX8
  | 9 => RX9
  | 10 => RX10
  | 11 => RX11
  | _ => RX12
def cT_ (ci : Nat) : u_T := match ci with
  | 0 => TX0
  | 1 => TX1
  | 2 => TX2
  | 3 => TX3
  | 4 => TX4
  | 5 => TX5
  | 6 => TX6
  | 7 => TX7
  | 8 => TX8
  | 9 => TX9
  | 10 => TX10
  | 11 => TX11
  | _ => TX12
def cY_ (ci : Nat) : Nat → FieldType := match ci with
  | 0 => tyX0
  | 1 => tyX1
  | 2 => tyX2
  | 3 => tyX3
  | 4 => tyX4
  | 5 => tyX5
  | 6 => tyX6
  | 7 => tyX7
  | 8 => tyX8
  | 9 => tyX9
  | 10 => tyX10
  | 11 => tyX11
  | _ => tyX12
def cN_ (ci : Nat) : Nat := match ci with
  | 0 => 18
  | 1 => 10
  | 2 => 5
  | 3 => 7
  | 4 => 5
  | 5 => 10
  | 6 => 5
  | 7 => 7
  | 8 => 11
  | 9 => 6
  | 10 => 10
  | 11 => 20
  | _ => 63
theorem lt13_ {P : Nat → Prop} (h : P 0 ∧ P 1 ∧ P 2 ∧ P 3 ∧ P 4 ∧ P 5 ∧ P 6 ∧ P 7 ∧ P 8 ∧ P 9 ∧ P 10 ∧ P 11 ∧ P 12) : ∀ i, i < 13 → P i := by
  intro i hi
  obtain ⟨h0, h1, h2, h3, h4, h5, h6, h7, h8, h9, h10, h11, h12⟩ := h
  rcases (show i = 0 ∨ i = 1 ∨ i = 2 ∨ i = 3 ∨ i = 4 ∨ i = 5 ∨ i = 6 ∨ i = 7 ∨ i = 8 ∨ i = 9 ∨ i = 10 ∨ i = 11 ∨ i = 12 by omega) with rfl | rfl | rfl | rfl | rfl | rfl | rfl | rfl | rfl | rfl | rfl | rfl | rfl <;> assumption
theorem c_cl : ∀ i, i < 13 → vwCl[i]? = some (cR_ i, cT_ i, cN_ i) := lt13_ ⟨rfl, rfl, rfl, rfl, rfl, rfl, rfl, rfl, rfl, rfl, rfl, rfl, rfl⟩
theorem c_ty : ∀ i, i < 13 → ∀ k, k < cN_ i → parseFieldDescriptor (cT_ i k).2.2.1 = some (cY_ i k) := lt13_ ⟨tyX0_ok, tyX1_ok, tyX2_ok, tyX3_ok, tyX4_ok, tyX5_ok, tyX6_ok, tyX7_ok, tyX8_ok, tyX9_ok, tyX10_ok, tyX11_ok, tyX12_ok⟩
theorem c_nm : ∀ i, i < 13 → ∀ a, a < cN_ i → ∀ b, b < cN_ i → a ≠ b → (cT_ i a).2.1 ≠ (cT_ i b).2.1 := lt13_ ⟨nmX0, nmX1, nmX2, nmX3, nmX4, nmX5, nmX6, nmX7, nmX8, nmX9, nmX10, nmX11, nmX12⟩
def fv_ (E : En_) (ci o : Nat) (σ : St_) (i : Nat) : Value := match cY_ ci i with
  | .long => .long (σ.2.1 o i)
  | .object _ => va_rf ((if (cT_ ci i).2.2.2 then E.2.2.2.1.2 o i else σ.2.2 o i).map E.2.2.1)
  | .array _ => va_rf ((if (cT_ ci i).2.2.2 then E.2.2.2.1.2 o i else σ.2.2 o i).map E.2.2.1)
  | _ => .int (σ.1 o i)
def ent_ (E : En_) (σ : St_) (o : Nat) : va_E :=
  if (E.2.2.2.1.1 o).1 < 13 then .inr ((E.2.2.2.1.1 o).1, (List.range (cN_ (E.2.2.2.1.1 o).1)).map (fv_ E (E.2.2.2.1.1 o).1 o σ))
  else if (E.2.2.2.1.1 o).1 = 15 then .inl (E.1 15, (E.2.2.2.1.1 o).2, .inr (.inl (σ.2.1 o)))
  else if (E.2.2.2.1.1 o).1 < 17 then .inl (E.1 (E.2.2.2.1.1 o).1, (E.2.2.2.1.1 o).2, .inl (σ.1 o))
  else .inl (E.1 (E.2.2.2.1.1 o).1, (E.2.2.2.1.1 o).2, .inr (.inr (.inr (.inr (fun i => (E.2.2.2.1.2 o i).map E.2.2.1)))))
def wl_ (E : En_) (σ : St_) : va_W := (List.range E.2.2.2.2).map (fun o => (E.2.2.1 o, ent_ E σ o))
def tys_ (E : En_) : List (ClassId × FieldType) := [(E.1 13, .byte), (E.1 14, .int), (E.1 15, .long), (E.1 16, .boolean), (E.1 17, .object "NineReaders$Book"), (E.1 18, .object "NineReaders$Plan"), (E.1 19, .object "NineReaders$Sentence"), (E.1 20, .array .int)]
def EOK_ (E : En_) : Prop := (∀ i j, i < E.2.2.2.2 → j < E.2.2.2.2 → E.2.2.1 i = E.2.2.1 j → i = j) ∧ ∀ o, E.2.2.2.2 ≤ o → 21 ≤ (E.2.2.2.1.1 o).1
def A_ (E : En_) (sz : Nat) : Nat → Prop := fun q => (∃ o, o < E.2.2.2.2 ∧ q = E.2.2.1 o) ∨ sz ≤ q
theorem wl_get {E : En_} {σ : St_} {o : Nat} (h : o < E.2.2.2.2) : (wl_ E σ)[o]? = some (E.2.2.1 o, ent_ E σ o) := by
  simp [wl_, List.getElem?_map, List.getElem?_range h]
theorem wl_len (E : En_) (σ : St_) : (wl_ E σ).length = E.2.2.2.2 := by simp [wl_]
theorem wl_set {E : En_} {σ σ' : St_} {o : Nat} {e : va_E} (h : o < E.2.2.2.2) (he : ent_ E σ' o = e) (hn : ∀ q, q ≠ o → ent_ E σ' q = ent_ E σ q) : (wl_ E σ).set o (E.2.2.1 o, e) = wl_ E σ' := by
  apply List.ext_getElem?
  intro i
  rw [List.getElem?_set, wl_len]
  by_cases c : o = i
  · subst c
    rw [if_pos rfl, if_pos h, wl_get h, he]
  · rw [if_neg c]
    by_cases hi : i < E.2.2.2.2
    · rw [wl_get hi, wl_get hi, hn i (fun z => c z.symm)]
    · rw [List.getElem?_eq_none (by rw [wl_len]; omega), List.getElem?_eq_none (by rw [wl_len]; omega)]
theorem wl_D {E : En_} (hE : EOK_ E) (σ : St_) (sz : Nat) : va_D (A_ E sz) (wl_ E σ) := by
  have key : ∀ (i : Nat) (q : Nat × va_E), (wl_ E σ)[i]? = some q → i < E.2.2.2.2 ∧ q.1 = E.2.2.1 i := by
    intro i q h
    have hi : i < E.2.2.2.2 := by
      have := (List.getElem?_eq_some_iff.mp h).1
      rwa [wl_len] at this
    rw [wl_get hi] at h
    cases h
    exact ⟨hi, rfl⟩
  refine ⟨fun i j p q h1 h2 h3 => ?_, fun k q h => ?_⟩
  · obtain ⟨a1, a2⟩ := key i p h1
    obtain ⟨b1, b2⟩ := key j q h2
    exact hE.1 i j a1 b1 (by rw [← a2, ← b2]; exact h3)
  · obtain ⟨a1, a2⟩ := key k q h
    exact Or.inl ⟨k, a1, a2⟩
theorem k_lt {E : En_} (hE : EOK_ E) {o : Nat} (h : (E.2.2.2.1.1 o).1 < 21) : o < E.2.2.2.2 := by
  rcases Nat.lt_or_ge o E.2.2.2.2 with h1 | h1
  · exact h1
  · have := hE.2 o h1
    omega
/-! locals by place -/
def hl_ (ad : Nat → Nat) (ls : Array Slot) (n : Nat) (lo : Lo_) : Prop := lo.length = n ∧ ls.size = n ∧ lv_wf ls ∧ ∀ (i : Nat) (v : Value), lo[i]? = some (some v) → ls[i]? = some (.val (rn_ ad v))
def pl_ (ad : Nat → Nat) (lo : Lo_) : List (Nat × Value) := (List.range lo.length).filterMap (fun i => match lo[i]? with | some (some v) => some (i, rn_ ad v) | _ => none)
theorem pl_mem {ad : Nat → Nat} {lo : Lo_} {q : Nat × Value} : q ∈ pl_ ad lo ↔ ∃ v, lo[q.1]? = some (some v) ∧ q.2 = rn_ ad v := by
  unfold pl_
  rw [List.mem_filterMap]
  constructor
  · rintro ⟨i, -, h⟩
    split at h
    · rename_i v hv
      cases h
      exact ⟨v, hv, rfl⟩
    · cases h
  · rintro ⟨v, h1, h2⟩
    refine ⟨q.1, List.mem_range.mpr (List.getElem?_eq_some_iff.mp h1).1, ?_⟩
    rw [h1]
    simp [← h2]
theorem hl_has {ad : Nat → Nat} {ls : Array Slot} {n : Nat} {lo : Lo_} (h : hl_ ad ls n lo) : lv_has ls n (pl_ ad lo) :=
  ⟨h.2.1, h.2.2.1, fun q hq => by
    obtain ⟨v, h1, h2⟩ := pl_mem.mp hq
    rw [h2]
    exact h.2.2.2 _ _ h1⟩
def okS_ (lo : Lo_) (i : Nat) : Bool := match i with
  | 0 => true
  | j + 1 => match lo[j]? with
    | some (some (.long _)) => false
    | some (some (.double _)) => false
    | _ => true
theorem okS_c {lo : Lo_} {i : Nat} (h : okS_ lo i = true) {j : Nat} {v : Value} (hj : j + 1 = i) (hv : lo[j]? = some (some v)) : ¬ v.category = 2 := by
  subst hj
  unfold okS_ at h
  dsimp only at h
  rw [hv] at h
  cases v <;> first | (intro z; cases z; done) | (cases h; done)
theorem hl_st1 {ad : Nat → Nat} {ls : Array Slot} {n : Nat} {lo : Lo_} {i : Nat} {w : Value} (h0 : lo.length = n) (ho : okS_ lo i = true) (h : lv_has ls n ((i, rn_ ad w) :: (pl_ ad lo).filter (fun q => !(q.1 == i) && !(q.1 + 1 == i && q.2.category == 2)))) : hl_ ad ls n (lo.set i (some w)) := by
  refine ⟨by rw [List.length_set]; exact h0, h.1, h.2.1, fun j v hv => ?_⟩
  rw [List.getElem?_set] at hv
  by_cases c : i = j
  · rw [if_pos c] at hv
    split at hv
    · cases hv
      subst c
      exact h.2.2 _ List.mem_cons_self
    · cases hv
  · rw [if_neg c] at hv
    refine h.2.2 (j, rn_ ad v) (List.mem_cons_of_mem _ (List.mem_filter.mpr ⟨pl_mem.mpr ⟨v, hv, rfl⟩, ?_⟩))
    have c1 : ¬ j = i := fun z => c z.symm
    by_cases d : j + 1 = i
    · have := okS_c ho d hv
      simp [c1, rn_cat, this]
    · simp [c1, d]
theorem hl_st2 {ad : Nat → Nat} {ls : Array Slot} {n : Nat} {lo : Lo_} {i : Nat} {w : Value} (h0 : lo.length = n) (ho : okS_ lo i = true) (h : lv_has ls n ((i, rn_ ad w) :: (pl_ ad lo).filter (fun q => !(q.1 == i) && (!(q.1 == i + 1) && !(q.1 + 1 == i && q.2.category == 2))))) : hl_ ad ls n ((lo.set i (some w)).set (i + 1) none) := by
  refine ⟨by rw [List.length_set, List.length_set]; exact h0, h.1, h.2.1, fun j v hv => ?_⟩
  rw [List.getElem?_set] at hv
  by_cases c0 : i + 1 = j
  · rw [if_pos c0] at hv
    split at hv <;> cases hv
  · rw [if_neg c0, List.getElem?_set] at hv
    by_cases c : i = j
    · rw [if_pos c] at hv
      split at hv
      · cases hv
        subst c
        exact h.2.2 _ List.mem_cons_self
      · cases hv
    · rw [if_neg c] at hv
      refine h.2.2 (j, rn_ ad v) (List.mem_cons_of_mem _ (List.mem_filter.mpr ⟨pl_mem.mpr ⟨v, hv, rfl⟩, ?_⟩))
      have c1 : ¬ j = i := fun z => c z.symm
      have c2 : ¬ j = i + 1 := fun z => c0 z.symm
      by_cases d : j + 1 = i
      · have := okS_c ho d hv
        simp [c1, c2, rn_cat, this]
      · simp [c1, c2, d]
def clr_ (ds : List Nat) (lo : Lo_) : Lo_ := ds.foldl (fun l i => l.set i none) lo
theorem hl_clr {ad : Nat → Nat} {ls : Array Slot} {n : Nat} {ds : List Nat} : ∀ {lo : Lo_}, hl_ ad ls n lo → hl_ ad ls n (clr_ ds lo) := by
  induction ds with
  | nil => exact fun h => h
  | cons d t ih =>
    intro lo h
    refine ih (lo := lo.set d none) ⟨by rw [List.length_set]; exact h.1, h.2.1, h.2.2.1, fun i v hv => ?_⟩
    rw [List.getElem?_set] at hv
    by_cases c : d = i
    · rw [if_pos c] at hv
      split at hv <;> cases hv
    · rw [if_neg c] at hv
      exact h.2.2.2 i v hv
/-! contracts -/
def WP_ (E : En_) (σ : St_) (U : State) : Prop := va_P E.2.1 vwCl (wl_ E σ) U.heap ∧ va_K E.2.1 vwCl (tys_ E) U
def Qc_ (E : En_) (out : Out_) (A : Nat → Prop) : Array Value → State → Outcome → State → Prop := fun _ st oc t => (oc = .returned (out.1.map (rn_ E.2.2.1)) ∧ WP_ E out.2 t) ∧ va_F A st t
def Good_ (l : Launch) (E : En_) (y : MethodName) (ws : List Cond) (rm : Room) (f : Fn_) : Prop := ∀ (sz : Nat) (as : List Value) (σ : St_) (out : Out_), f as σ = some out → Met l y ws rm (va_Pc (as.map (rn_ E.2.2.1)) (fun U => U.heap.size = sz ∧ WP_ E σ U)) (Qc_ E out (A_ E sz)) 0 0 (A_ E sz)
def rm_ (lv : Nat) : Room := { frames := lv, cells := 0, slots := 0, locals := 64 * lv }
section CORE
variable (p : Program) (l : Launch) (e : Env) (R : Room) (s : State) (m : MethodId) (args : Array Value) (below : List Frame) (meth : Method) (c : Code) (E : En_) (own : String) (cc : ByteArray) (nL : Nat) (ret : Option FieldType) (ws : List Cond)
def GW_ (cl sl : Nat) (Q : State → Prop) (pc : Nat) (lo : Lo_) (st : List Value) (σ : St_) : Prop := ∀ (H : Heap) (locs : List Loc) (ls : Array Slot), va_P E.2.1 vwCl (wl_ E σ) H → va_S (A_ E s.heap.size) s.heap H locs → hl_ E.2.2.1 ls nL lo → W p l e R s m args below meth c H locs cl sl Q (F0 m pc ls (st.map (rn_ E.2.2.1)))
/-- the end of the method, with out, is as wanted -/
def Rt_ (cl sl : Nat) (Q : State → Prop) (out : Out_) : Prop := ∀ (H : Heap) (locs : List Loc) (ls : Array Slot) (pc : Nat), va_P E.2.1 vwCl (wl_ E out.2) H → va_S (A_ E s.heap.size) s.heap H locs →
  (∀ v, out.1 = some (.int v) → decode cc pc = .ok (.ireturn, 1) → (ret = some .int ∨ (ret = some .boolean ∧ (v = 0 ∨ v = 1))) → W p l e R s m args below meth c H locs cl sl Q (F0 m pc ls [.int v])) ∧
  (∀ v, out.1 = some (.long v) → decode cc pc = .ok (.lreturn, 1) → ret = some .long → W p l e R s m args below meth c H locs cl sl Q (F0 m pc ls [.long v])) ∧
  (out.1 = none → decode cc pc = .ok (.return_, 1) → ret = none → W p l e R s m args below meth c H locs cl sl Q (F0 m pc ls []))
def Fx_ : Prop := p.tables.exec = Jvm.exec ∧ c.code = cc ∧ c.maxLocals = nL ∧ s.vm.findClass own = some m.cls ∧ (∀ w ∈ ws, w.before args s = true) ∧ va_K E.2.1 vwCl (tys_ E) s ∧ meth.sig.returnType = ret ∧ meth.locks = false ∧ EOK_ E
end CORE
/-- the operation at pc does what the machine does there -/
def Mon_ (o : Op_) : Prop := ∀ (k k' : Ct_), (∀ pc lo st σ out, k pc lo st σ = some out → k' pc lo st σ = some out) → ∀ pc lo st σ out, o k pc lo st σ = some out → o k' pc lo st σ = some out
def Snd_ (l : Launch) (E : En_) (own : String) (cc : ByteArray) (nL : Nat) (ret : Option FieldType) (ws : List Cond) (R : Room) (pc : Nat) (o : Op_) : Prop := Mon_ o ∧ ∀ (p : Program) (e : Env) (s : State) (m : MethodId) (args : Array Value) (below : List Frame) (meth : Method) (c : Code), Fx_ p s m args meth c E own cc nL ret ws → ∀ (cl sl : Nat) (Q : State → Prop), (cl ≤ R.cells ∧ sl ≤ R.slots) → ∀ (k : Ct_) (out : Out_), Rt_ p l e R s m args below meth c E cc ret cl sl Q out → (∀ pc lo st σ, k pc lo st σ = some out → GW_ p l e R s m args below meth c E nL cl sl Q pc lo st σ) → ∀ lo st σ, o k pc lo st σ = some out → GW_ p l e R s m args below meth c E nL cl sl Q pc lo st σ
def ev_ (P : List (Nat × Op_)) : Nat → Ct_
  | 0 => fun _ _ _ _ => none
  | n + 1 => fun pc lo st σ => match P.lookup pc with
    | some o => o (ev_ P n) pc lo st σ
    | none => none
theorem ev_snd {l : Launch} {E : En_} {own : String} {cc : ByteArray} {nL : Nat} {ret : Option FieldType} {ws : List Cond} {R : Room} {P : List (Nat × Op_)} (h : ∀ pc o, P.lookup pc = some o → Snd_ l E own cc nL ret ws R pc o) {p : Program} {e : Env} {s : State} {m : MethodId} {args : Array Value} {below : List Frame} {meth : Method} {c : Code} (X : Fx_ p s m args meth c E own cc nL ret ws) {cl sl : Nat} {Q : State → Prop} (hcs : cl ≤ R.cells ∧ sl ≤ R.slots) (out : Out_) (hrt : Rt_ p l e R s m args below meth c E cc ret cl sl Q out) : ∀ n pc lo st σ, ev_ P n pc lo st σ = some out → GW_ p l e R s m args below meth c E nL cl sl Q pc lo st σ := by
  intro n
  induction n with
  | zero => intro pc lo st σ h; cases h
  | succ n ih =>
    intro pc lo st σ h1
    unfold ev_ at h1
    split at h1
    · rename_i o ho
      exact (h pc o ho).2 p e s m args below meth c X cl sl Q hcs _ out hrt ih lo st σ h1
    · cases h1
def lo0_ (nL : Nat) (as : List Value) : Lo_ := as.map some ++ List.replicate (nL - as.length) none
def Ev_ (P : List (Nat × Op_)) (pc : Nat) (lo : Lo_) (st : List Value) (σ : St_) (out : Out_) : Prop := ∃ n, ev_ P n pc lo st σ = some out
theorem ev_mono {P : List (Nat × Op_)} (h : ∀ pc o, P.lookup pc = some o → Mon_ o) : ∀ n m, n ≤ m → ∀ pc lo st σ out, ev_ P n pc lo st σ = some out → ev_ P m pc lo st σ = some out := by
  intro n
  induction n with
  | zero => intro m _ pc lo st σ out h; cases h
  | succ n ih =>
    intro m hm pc lo st σ out h1
    obtain ⟨m', rfl⟩ : ∃ m', m = m' + 1 := ⟨m - 1, by omega⟩
    unfold ev_ at h1 ⊢
    cases ho : P.lookup pc with
    | none => rw [ho] at h1; cases h1
    | some o =>
      rw [ho] at h1
      exact h pc o ho _ _ (fun pc lo st σ out h2 => ih m' (by omega) pc lo st σ out h2) pc lo st σ out h1
theorem ev_one {P : List (Nat × Op_)} (h : ∀ pc o, P.lookup pc = some o → Mon_ o) {pc : Nat} {lo : Lo_} {st : List Value} {σ : St_} {out out' : Out_} (h1 : Ev_ P pc lo st σ out) (h2 : Ev_ P pc lo st σ out') : out = out' := by
  obtain ⟨n, h1⟩ := h1
  obtain ⟨m, h2⟩ := h2
  have a1 := ev_mono h n (n + m) (by omega) _ _ _ _ _ h1
  have a2 := ev_mono h m (n + m) (by omega) _ _ _ _ _ h2
  rw [a1] at a2
  cases a2
  rfl
noncomputable def fn_ (P : List (Nat × Op_)) (nL : Nat) : Fn_ := fun as σ => if as.all (fun v => v.category == 1) && decide (as.length ≤ nL) then @dite _ (∃ out, Ev_ P 0 (lo0_ nL as) [] σ out) (Classical.propDecidable _) (fun h => some h.choose) (fun _ => none) else none
theorem fn_ev {P : List (Nat × Op_)} {nL : Nat} {as : List Value} {σ : St_} {out : Out_} (h : fn_ P nL as σ = some out) : (as.all (fun v => v.category == 1) = true ∧ as.length ≤ nL) ∧ Ev_ P 0 (lo0_ nL as) [] σ out := by
  unfold fn_ at h
  split at h
  · rename_i hg
    simp only [Bool.and_eq_true, decide_eq_true_eq] at hg
    refine ⟨hg, ?_⟩
    split at h
    · rename_i hh
      cases h
      exact hh.choose_spec
    · cases h
  · cases h
theorem fn_eq {P : List (Nat × Op_)} (hm : ∀ pc o, P.lookup pc = some o → Mon_ o) {nL : Nat} {as : List Value} {σ : St_} {out : Out_} (hg : (as.all (fun v => v.category == 1) && decide (as.length ≤ nL)) = true) (h : Ev_ P 0 (lo0_ nL as) [] σ out) : fn_ P nL as σ = some out := by
  unfold fn_
  rw [if_pos hg]
  have hh : ∃ out, Ev_ P 0 (lo0_ nL as) [] σ out := ⟨out, h⟩
  rw [dif_pos hh]
  exact congrArg some (ev_one hm hh.choose_spec h)
theorem lvargs_1 : ∀ (as : List Value) (i : Nat), as.all (fun v => v.category == 1) = true → ∀ (j : Nat) (v : Value), as[j]? = some v → (i + j, v) ∈ lv_args i as
  | [], _, _, j, v, h => by simp at h
  | w :: t, i, ha, j, v, h => by
    simp only [List.all_cons, Bool.and_eq_true, beq_iff_eq] at ha
    unfold lv_args
    rw [if_neg (by omega)]
    cases j with
    | zero =>
      simp only [List.getElem?_cons_zero] at h
      cases h
      exact List.mem_cons_self
    | succ j =>
      simp only [List.getElem?_cons_succ] at h
      have := lvargs_1 t (i + 1) ha.2 j v h
      rw [show i + (j + 1) = i + 1 + j by omega]
      exact List.mem_cons_of_mem _ this
theorem lgsl_1 : ∀ (as : List Value), as.all (fun v => v.category == 1) = true → (lg_sl as).length = as.length
  | [], _ => rfl
  | w :: t, ha => by
    simp only [List.all_cons, Bool.and_eq_true, beq_iff_eq] at ha
    have := lgsl_1 t ha.2
    unfold lg_sl at this ⊢
    rw [List.flatMap_cons, List.length_append, this, if_neg (by omega)]
    simp [Nat.add_comm]
theorem rn_all (ad : Nat → Nat) (as : List Value) : (as.map (rn_ ad)).all (fun v => v.category == 1) = as.all (fun v => v.category == 1) := by
  induction as with
  | nil => rfl
  | cons v t ih => simp only [List.map_cons, List.all_cons, ih, rn_cat]
/-- a program whose operations are sound is a contract -/
theorem good_of {l : Launch} {E : En_} (hE : EOK_ E) {y : MethodName} {cc : ByteArray} {nL : Nat} {ret : Option FieldType} {ws : List Cond} {R : Room} {P : List (Nat × Op_)} (hy : plainName y.cls = true) (hR : R.cells = 0 ∧ R.slots = 0) (h : ∀ pc o, P.lookup pc = some o → Snd_ l E y.cls cc nL ret (.code y cc nL ret :: ws) R pc o) : Good_ l E y (.code y cc nL ret :: ws) R (fn_ P nL) := by
  intro sz as σ out hf
  obtain ⟨hg, n, hf⟩ := fn_ev hf
  refine Met.ofW (cc := cc) (maxL := nL) (ret := ret) hy rfl ?_
  intro p e s m args below meth c s₁ B hml hv
  obtain ⟨rfl, hsz, hP, hK⟩ := hv
  subst hsz
  have X : Fx_ p s m (as.map (rn_ E.2.2.1)).toArray meth c E y.cls cc nL ret (.code y cc nL ret :: ws) := ⟨B.exec, B.bytes, hml, findClass_of_methodNamed B.named, atoms_spec (ws := .code y cc nL ret :: ws) B.pre, hK, B.returns, B.notSynchronized, hE⟩
  have hl := lv_entry (as.map (rn_ E.2.2.1)) (n := nL) (by rw [lgsl_1 _ (by rw [rn_all]; exact hg.1), List.length_map]; exact hg.2)
  rw [lg_entry_eq]
  refine ev_snd h X (cl := 0) (sl := 0) ⟨Nat.zero_le _, Nat.zero_le _⟩ out ?_ n 0 (lo0_ nL as) [] σ hf s.heap [] _ hP va_S.rf ⟨?_, hl.1, hl.2.1, fun i v hv => ?_⟩
  · intro H locs ls pc hP1 hS1
    have hr := B.returns
    refine ⟨fun v hv hd hrt => ?_, fun v hv hd hrt => ?_, fun hv hd hrt => ?_⟩
    · rcases hrt with hrt | ⟨hrt, hvv⟩
      · exact W.iret B.exec B.bytes (hr.trans hrt) (fun t ht hW => ⟨⟨by rw [hv]; rfl, by rw [ht]; exact hP1, va_K.moved hW.alike hK⟩, hS1.F ht⟩) hS1.2.2 hd B.notSynchronized
      · exact W.zret B.exec B.bytes (hr.trans hrt) (by rcases hvv with rfl | rfl <;> decide) (fun t ht hW => ⟨⟨by rw [hv]; rfl, by rw [ht]; exact hP1, va_K.moved hW.alike hK⟩, hS1.F ht⟩) hS1.2.2 hd B.notSynchronized
    · exact W.lret B.exec B.bytes (hr.trans hrt) (fun t ht hW => ⟨⟨by rw [hv]; rfl, by rw [ht]; exact hP1, va_K.moved hW.alike hK⟩, hS1.F ht⟩) hS1.2.2 hd B.notSynchronized
    · exact W.vret B.exec B.bytes (hr.trans hrt) (fun t ht hW => ⟨⟨by rw [hv]; rfl, by rw [ht]; exact hP1, va_K.moved hW.alike hK⟩, hS1.F ht⟩) hS1.2.2 hd B.notSynchronized
  · unfold lo0_
    rw [List.length_append, List.length_map, List.length_replicate]
    omega
  · have hv2 : as[i]? = some v := by
      unfold lo0_ at hv
      rw [List.getElem?_append] at hv
      split at hv
      · rw [List.getElem?_map] at hv
        cases hq : as[i]? with
        | none => rw [hq] at hv; cases hv
        | some w => rw [hq] at hv; cases hv; rfl
      · rw [List.getElem?_replicate] at hv
        split at hv <;> cases hv
    have hm := lvargs_1 (as.map (rn_ E.2.2.1)) 0 (by rw [rn_all]; exact hg.1) i (rn_ E.2.2.1 v) (by rw [List.getElem?_map, hv2]; rfl)
    rw [Nat.zero_add] at hm
    exact hl.2.2 _ hm
