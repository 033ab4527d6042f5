/-! a growing world: names come one behind another; every reference is in the state -/
abbrev Tn_ : Type := Nat × St_
abbrev Cn_ : Type := Nat → Lo_ → List Value → Tn_ → Option Tn_
abbrev On_ : Type := Cn_ → Nat → Lo_ → List Value → Tn_ → Option Tn_
abbrev Hn_ : Type := List Value → Tn_ → Option Tn_
def fvN_ (E : En_) (ci o : Nat) (σ : St_) (i : Nat) : Value := match cY_ ci i with
  | .long => .long (σ.2.1 o i)
  | .object _ => va_rf ((σ.2.2 o i).map E.2.2.1)
  | .array _ => va_rf ((σ.2.2 o i).map E.2.2.1)
  | _ => .int (σ.1 o i)
def enN_ (E : En_) (σ : St_) (o : Nat) : va_E :=
  if (E.2.2.2.1.1 o).1 < 13 then .inr ((E.2.2.2.1.1 o).1, (List.range (cN_ (E.2.2.2.1.1 o).1)).map (fvN_ E (E.2.2.2.1.1 o).1 o σ))
  else if (E.2.2.2.1.1 o).1 = 15 then .inl (E.1 15, (E.2.2.2.1.1 o).2, .inr (.inl (σ.2.1 o)))
  else if (E.2.2.2.1.1 o).1 < 17 then .inl (E.1 (E.2.2.2.1.1 o).1, (E.2.2.2.1.1 o).2, .inl (σ.1 o))
  else .inl (E.1 (E.2.2.2.1.1 o).1, (E.2.2.2.1.1 o).2, .inr (.inr (.inr (.inr (fun i => (σ.2.2 o i).map E.2.2.1)))))
def wlN_ (E : En_) (τ : Tn_) : va_W := (List.range τ.1).map (fun o => (E.2.2.1 o, enN_ E τ.2 o))
def EX_ (E : En_) : Prop := ∀ o, o < 247 → E.2.2.1 o = E.2.2.1 0 + o
def AN_ (E : En_) : Nat → Prop := fun q => E.2.2.1 0 ≤ q
def zr_ (σ : St_) (n : Nat) : St_ := (fun a j => if a = n then 0 else σ.1 a j, fun a j => if a = n then 0 else σ.2.1 a j, fun a j => if a = n then none else σ.2.2 a j)
def sz_ (o : Nat) : Nat := if (KC.1 o).1 < 13 then cN_ (KC.1 o).1 else (KC.1 o).2
def slN_ : Nat → Nat
  | 0 => 0
  | n + 1 => slN_ n + sz_ n
theorem slN_le {a b : Nat} (h : a ≤ b) : slN_ a ≤ slN_ b := by
  induction h with
  | refl => exact Nat.le_refl _
  | step _ ih => exact Nat.le_trans ih (Nat.le_add_right _ _)
theorem wlN_get {E : En_} {τ : Tn_} {o : Nat} (h : o < τ.1) : (wlN_ E τ)[o]? = some (E.2.2.1 o, enN_ E τ.2 o) := by
  simp [wlN_, List.getElem?_map, List.getElem?_range h]
theorem wlN_len (E : En_) (τ : Tn_) : (wlN_ E τ).length = τ.1 := by simp [wlN_]
theorem wlN_set {E : En_} {n : Nat} {σ σ' : St_} {o : Nat} {e : va_E} (h : o < n) (he : enN_ E σ' o = e) (hn : ∀ q, q ≠ o → enN_ E σ' q = enN_ E σ q) : (wlN_ E (n, σ)).set o (E.2.2.1 o, e) = wlN_ E (n, σ') := by
  apply List.ext_getElem?
  intro i
  rw [List.getElem?_set, wlN_len]
  by_cases c : o = i
  · subst c
    rw [if_pos rfl, if_pos h, wlN_get (τ := (n, σ')) h, he]
  · rw [if_neg c]
    by_cases hi : i < n
    · rw [wlN_get (τ := (n, σ)) hi, wlN_get (τ := (n, σ')) hi, hn i (fun z => c z.symm)]
    · rw [List.getElem?_eq_none (by rw [wlN_len]; exact Nat.le_of_not_lt hi), List.getElem?_eq_none (by rw [wlN_len]; exact Nat.le_of_not_lt hi)]
theorem wlN_push {E : En_} {n : Nat} {σ σ' : St_} (h : ∀ o, o < n → enN_ E σ' o = enN_ E σ o) : wlN_ E (n + 1, σ') = wlN_ E (n, σ) ++ [(E.2.2.1 n, enN_ E σ' n)] := by
  unfold wlN_
  rw [List.range_succ, List.map_append]
  congr 1
  exact List.map_congr_left (fun o ho => by rw [h o (List.mem_range.mp ho)])
theorem wlN_D {E : En_} (hE : EX_ E) {τ : Tn_} (hn : τ.1 ≤ 247) : va_D (AN_ E) (wlN_ E τ) := by
  have key : ∀ (i : Nat) (q : Nat × va_E), (wlN_ E τ)[i]? = some q → i < τ.1 ∧ q.1 = E.2.2.1 0 + i := by
    intro i q h
    have hi : i < τ.1 := by
      have := (List.getElem?_eq_some_iff.mp h).1
      rwa [wlN_len] at this
    rw [wlN_get hi] at h
    cases h
    exact ⟨hi, hE i (by omega)⟩
  refine ⟨fun i j p q h1 h2 h3 => ?_, fun k q h => ?_⟩
  · obtain ⟨a1, a2⟩ := key i p h1
    obtain ⟨b1, b2⟩ := key j q h2
    omega
  · obtain ⟨a1, a2⟩ := key k q h
    show E.2.2.1 0 ≤ q.1
    omega
theorem fvN_congr {E : En_} {ci o : Nat} {σ σ' : St_} (h1 : σ'.1 o = σ.1 o) (h2 : σ'.2.1 o = σ.2.1 o) (h3 : σ'.2.2 o = σ.2.2 o) : fvN_ E ci o σ' = fvN_ E ci o σ := by
  funext i
  unfold fvN_
  rw [h1, h2, h3]
theorem enN_congr {E : En_} {o : Nat} {σ σ' : St_} (h1 : σ'.1 o = σ.1 o) (h2 : σ'.2.1 o = σ.2.1 o) (h3 : σ'.2.2 o = σ.2.2 o) : enN_ E σ' o = enN_ E σ o := by
  unfold enN_
  rw [fvN_congr h1 h2 h3, h1, h2, h3]
theorem enN_zr {E : En_} {σ : St_} {n o : Nat} (h : o ≠ n) : enN_ E (zr_ σ n) o = enN_ E σ o := enN_congr (by funext j; simp [zr_, h]) (by funext j; simp [zr_, h]) (by funext j; simp [zr_, h])
theorem enN_nI {E : En_} {σ : St_} {o i q : Nat} {x : Int32} (h : q ≠ o) : enN_ E (sI_ σ o i x) q = enN_ E σ q := enN_congr (u2_row _ _ _ _ h) rfl rfl
theorem enN_nR {E : En_} {σ : St_} {o i q : Nat} {x : Option Nat} (h : q ≠ o) : enN_ E (sR_ σ o i x) q = enN_ E σ q := enN_congr rfl rfl (u2_row _ _ _ _ h)
theorem enN_obj {E : En_} {σ : St_} {o ci : Nat} (h : (E.2.2.2.1.1 o).1 = ci) (hc : ci < 13) : enN_ E σ o = .inr (ci, (List.range (cN_ ci)).map (fvN_ E ci o σ)) := by
  unfold enN_
  rw [h, if_pos hc]
theorem enN_int {E : En_} {σ : St_} {o ci : Nat} (h : (E.2.2.2.1.1 o).1 = ci) (hc : ci = 13 ∨ ci = 14 ∨ ci = 16) : enN_ E σ o = .inl (E.1 ci, (E.2.2.2.1.1 o).2, .inl (σ.1 o)) := by
  unfold enN_
  rw [h, if_neg (by omega), if_neg (by omega), if_pos (by omega)]
theorem enN_long {E : En_} {σ : St_} {o : Nat} (h : (E.2.2.2.1.1 o).1 = 15) : enN_ E σ o = .inl (E.1 15, (E.2.2.2.1.1 o).2, .inr (.inl (σ.2.1 o))) := by
  unfold enN_
  rw [h, if_neg (by omega), if_pos rfl]
theorem enN_ref {E : En_} {σ : St_} {o ci : Nat} (h : (E.2.2.2.1.1 o).1 = ci) (hc : 17 ≤ ci) : enN_ E σ o = .inl (E.1 ci, (E.2.2.2.1.1 o).2, .inr (.inr (.inr (.inr (fun i => (σ.2.2 o i).map E.2.2.1))))) := by
  unfold enN_
  rw [h, if_neg (by omega), if_neg (by omega), if_neg (by omega)]
theorem fvN_I {E : En_} {ci o k : Nat} {σ : St_} (h : isI_ (cY_ ci k) = true) : fvN_ E ci o σ k = .int (σ.1 o k) := by
  unfold fvN_
  cases hc : cY_ ci k <;> rw [hc] at h <;> first | rfl | (cases h; done)
theorem fvN_R {E : En_} {ci o k : Nat} {σ : St_} (h : isR_ (cY_ ci k) = true) : fvN_ E ci o σ k = va_rf ((σ.2.2 o k).map E.2.2.1) := by
  unfold fvN_
  cases hc : cY_ ci k <;> rw [hc] at h <;> first | rfl | (cases h; done)
theorem fvN_get {E : En_} {ci o k : Nat} {σ : St_} (hk : k < cN_ ci) : ((List.range (cN_ ci)).map (fvN_ E ci o σ))[k]? = some (fvN_ E ci o σ k) := by
  rw [List.getElem?_map, List.getElem?_range hk]; rfl
theorem fvN_nI {E : En_} {ci o k j : Nat} {σ : St_} {x : Int32} (h : j ≠ k) : fvN_ E ci o (sI_ σ o k x) j = fvN_ E ci o σ j := by
  unfold fvN_ sI_
  dsimp only
  rw [u2_col _ _ _ _ h]
theorem fvN_nR {E : En_} {ci o k j : Nat} {σ : St_} {x : Option Nat} (h : j ≠ k) : fvN_ E ci o (sR_ σ o k x) j = fvN_ E ci o σ j := by
  unfold fvN_ sR_
  dsimp only
  rw [u2_col _ _ _ _ h]
def okT_ (t : FieldType) : Bool := match t with
  | .float => false
  | .double => false
  | _ => true
theorem okT_all : ∀ i, i < 13 → ∀ j, j < cN_ i → okT_ (cY_ i j) = true := by decide +kernel
theorem fvN_0 {E : En_} {ci o j : Nat} {σ : St_} (hc : ci < 13) (hj : j < cN_ ci) (h1 : σ.1 o j = 0) (h2 : σ.2.1 o j = 0) (h3 : σ.2.2 o j = none) : defaultValue (cY_ ci j) = fvN_ E ci o σ j := by
  have h := okT_all ci hc j hj
  unfold fvN_
  rw [h1, h2, h3]
  cases hc : cY_ ci j <;> rw [hc] at h <;> first | rfl | (cases h; done)
section GROW
variable (p : Program) (l : Launch) (e : Env) (R : Room) (s : State) (m : MethodId) (args : Array Value) (below : List Frame) (meth : Method) (c : Code) (E : En_) (own : String) (cc : ByteArray) (nL : Nat) (ws : List Cond) (n0 : Nat)
def GN_ (Q : State → Prop) (pc : Nat) (lo : Lo_) (st : List Value) (τ : Tn_) : Prop := ∀ (H : Heap) (locs : List Loc) (ls : Array Slot) (cl sl : Nat), va_P E.2.1 vwCl (wlN_ E τ) H → va_S (AN_ E) s.heap H locs → cl + n0 = τ.1 → sl + slN_ n0 = slN_ τ.1 → hl_ E.2.2.1 ls nL lo → W p l e R s m args below meth c H locs cl sl Q (F0 m pc ls (st.map (rn_ E.2.2.1)))
def RtN_ (Q : State → Prop) (τ : Tn_) : Prop := ∀ (H : Heap) (locs : List Loc) (ls : Array Slot) (pc : Nat) (cl sl : Nat), va_P E.2.1 vwCl (wlN_ E τ) H → va_S (AN_ E) s.heap H locs → cl + n0 = τ.1 → sl + slN_ n0 = slN_ τ.1 → decode cc pc = .ok (.return_, 1) → W p l e R s m args below meth c H locs cl sl Q (F0 m pc ls [])
def FxN_ (top : Nat) : Prop := p.tables.exec = Jvm.exec ∧ c.code = cc ∧ c.maxLocals = nL ∧ s.vm.findClass own = some m.cls ∧ (∀ w ∈ ws, w.before args s = true) ∧ va_K E.2.1 vwCl (tys_ E) s ∧ meth.locks = false ∧ (EX_ E ∧ E.2.2.2.1 = KC ∧ s.heap.size = E.2.2.1 0 + n0 ∧ XS_ (AN_ E) s s.heap) ∧ (top ≤ 247 ∧ top ≤ R.cells + n0 ∧ slN_ top ≤ R.slots + slN_ n0)
end GROW
/-- ini: the method is a constructor -/
def SnN_ (l : Launch) (E : En_) (own : String) (cc : ByteArray) (nL : Nat) (ws : List Cond) (R : Room) (ini : Bool) (pc : Nat) (o : On_) : Prop := ∀ (p : Program) (e : Env) (s : State) (m : MethodId) (args : Array Value) (below : List Frame) (meth : Method) (c : Code) (n0 : Nat) (out : Tn_), FxN_ p R s m args meth c E own cc nL ws n0 out.1 → (ini = true → meth.name = "<init>") → ∀ (Q : State → Prop) (k : Cn_), RtN_ p l e R s m args below meth c E cc n0 Q out → (∀ pc lo st τ, k pc lo st τ = some out → τ.1 ≤ out.1 ∧ GN_ p l e R s m args below meth c E nL n0 Q pc lo st τ) → ∀ lo st τ, o k pc lo st τ = some out → τ.1 ≤ out.1 ∧ GN_ p l e R s m args below meth c E nL n0 Q pc lo st τ
def evN_ (P : List (Nat × On_)) : Nat → Cn_
  | 0 => fun _ _ _ _ => none
  | n + 1 => fun pc lo st τ => match P.lookup pc with
    | some o => o (evN_ P n) pc lo st τ
    | none => none
/-- n steps, then k -/
def stN_ (P : List (Nat × On_)) (k : Cn_) : Nat → Cn_
  | 0 => k
  | n + 1 => fun pc lo st τ => match P.lookup pc with
    | some o => o (stN_ P k n) pc lo st τ
    | none => none
theorem stN_snd {l : Launch} {E : En_} {own : String} {cc : ByteArray} {nL : Nat} {ws : List Cond} {R : Room} {ini : Bool} {P : List (Nat × On_)} (h : ∀ pc o, P.lookup pc = some o → SnN_ l E own cc nL ws R ini pc o) {p : Program} {e : Env} {s : State} {m : MethodId} {args : Array Value} {below : List Frame} {meth : Method} {c : Code} {n0 : Nat} {out : Tn_} (X : FxN_ p R s m args meth c E own cc nL ws n0 out.1) (hin : ini = true → meth.name = "<init>") {Q : State → Prop} (hrt : RtN_ p l e R s m args below meth c E cc n0 Q out) {k : Cn_} (hk : ∀ pc lo st τ, k pc lo st τ = some out → τ.1 ≤ out.1 ∧ GN_ p l e R s m args below meth c E nL n0 Q pc lo st τ) : ∀ n pc lo st τ, stN_ P k n pc lo st τ = some out → τ.1 ≤ out.1 ∧ GN_ p l e R s m args below meth c E nL n0 Q pc lo st τ := by
  intro n
  induction n with
  | zero => exact hk
  | succ n ih =>
    intro pc lo st τ h1
    unfold stN_ at h1
    split at h1
    · rename_i o ho
      exact h pc o ho p e s m args below meth c n0 out X hin Q _ hrt ih lo st τ h1
    · cases h1
theorem evN_st (P : List (Nat × On_)) : ∀ n, evN_ P n = stN_ P (fun _ _ _ _ => none) n
  | 0 => rfl
  | n + 1 => by
    show (fun pc lo st τ => match P.lookup pc with | some o => o (evN_ P n) pc lo st τ | none => none) = _
    rw [evN_st P n]
    rfl
theorem evN_snd {l : Launch} {E : En_} {own : String} {cc : ByteArray} {nL : Nat} {ws : List Cond} {R : Room} {ini : Bool} {P : List (Nat × On_)} (h : ∀ pc o, P.lookup pc = some o → SnN_ l E own cc nL ws R ini pc o) {p : Program} {e : Env} {s : State} {m : MethodId} {args : Array Value} {below : List Frame} {meth : Method} {c : Code} {n0 : Nat} {out : Tn_} (X : FxN_ p R s m args meth c E own cc nL ws n0 out.1) (hin : ini = true → meth.name = "<init>") {Q : State → Prop} (hrt : RtN_ p l e R s m args below meth c E cc n0 Q out) (n pc : Nat) (lo : Lo_) (st : List Value) (τ : Tn_) (h1 : evN_ P n pc lo st τ = some out) : τ.1 ≤ out.1 ∧ GN_ p l e R s m args below meth c E nL n0 Q pc lo st τ := by
  rw [evN_st] at h1
  exact stN_snd h X hin hrt (fun pc lo st τ z => by cases z) n pc lo st τ h1
/-- how many cells there are -/
theorem W_sz {p : Program} {l : Launch} {e : Env} {R : Room} {s : State} {m : MethodId} {args : Array Value} {below : List Frame} {meth : Method} {c : Code} {H : Heap} {locs : List Loc} {cl sl : Nat} {Q : State → Prop} {g : JFrame} (k : H.size ≤ s.heap.size + cl → W p l e R s m args below meth c H locs cl sl Q g) : W p l e R s m args below meth c H locs cl sl Q g := fun T hT X => k (by rw [← hT]; exact X.same.2.2.1) T hT X
theorem sz_lo {E : En_} {s : State} {H : Heap} {locs : List Loc} {τ : Tn_} {n0 : Nat} (hE : EX_ E) (ht : τ.1 ≤ 247) (hA0 : s.heap.size = E.2.2.1 0 + n0) (h0 : n0 ≤ τ.1) (hP : va_P E.2.1 vwCl (wlN_ E τ) H) (hS : va_S (AN_ E) s.heap H locs) : E.2.2.1 0 + τ.1 ≤ H.size := by
  by_cases h : n0 = τ.1
  · have := hS.1
    omega
  · have h1 : τ.1 - 1 < τ.1 := by omega
    have h2 := (hP _ _ (wlN_get (E := E) h1)).lt
    have h3 := hE (τ.1 - 1) (by omega)
    have h2 : E.2.2.1 (τ.1 - 1) < H.size := h2
    omega
section NOPS
variable {l : Launch} {E : En_} {own : String} {cc : ByteArray} {nL : Nat} {ws : List Cond} {R : Room} {ini : Bool} {pc : Nat}
def n_ic (v : Int32) (n : Nat) : On_ := fun k pc lo st τ => k (pc + n) lo (.int v :: st) τ
theorem ns_iconst {n : Int} {v : Int32} (hd : decode cc pc = .ok (.iconst n, 1)) (hv : Int32.ofInt n = v) : SnN_ l E own cc nL ws R ini pc (n_ic v 1) := by
  intro p e s m args below meth c n0 out ⟨hx, hb, hml, hown, hts, hK, hlk, ⟨hE, hKC, hA0, hXS⟩, hR⟩ hin Q k hrt hk lo st τ h
  exact ⟨(hk _ _ _ _ h).1, fun H locs ls cl sl hP hS hc hs hl => lv_iconst hx hb hd hv ((hk _ _ _ _ h).2 H locs ls cl sl hP hS hc hs hl)⟩
theorem ns_bipush {n : Int} {v : Int32} (hd : decode cc pc = .ok (.bipush n, 2)) (hv : (Int8.ofInt n).toInt32 = v) : SnN_ l E own cc nL ws R ini pc (n_ic v 2) := by
  intro p e s m args below meth c n0 out ⟨hx, hb, hml, hown, hts, hK, hlk, ⟨hE, hKC, hA0, hXS⟩, hR⟩ hin Q k hrt hk lo st τ h
  exact ⟨(hk _ _ _ _ h).1, fun H locs ls cl sl hP hS hc hs hl => lv_bipush hx hb hd hv ((hk _ _ _ _ h).2 H locs ls cl sl hP hS hc hs hl)⟩
theorem ns_sipush {n : Int} {v : Int32} (hd : decode cc pc = .ok (.sipush n, 3)) (hv : (Int16.ofInt n).toInt32 = v) : SnN_ l E own cc nL ws R ini pc (n_ic v 3) := by
  intro p e s m args below meth c n0 out ⟨hx, hb, hml, hown, hts, hK, hlk, ⟨hE, hKC, hA0, hXS⟩, hR⟩ hin Q k hrt hk lo st τ h
  exact ⟨(hk _ _ _ _ h).1, fun H locs ls cl sl hP hS hc hs hl => lv_sipush hx hb hd hv ((hk _ _ _ _ h).2 H locs ls cl sl hP hS hc hs hl)⟩
def n_ild (i n : Nat) : On_ := fun k pc lo st τ => match lo[i]? with
  | some (some (.int x)) => k (pc + n) lo (.int x :: st) τ
  | _ => none
theorem ns_ild_n {q : Fin 4} {i : Nat} (hd : decode cc pc = .ok (.iload_n q, 1)) (hi : (q : Nat) = i) : SnN_ l E own cc nL ws R ini pc (n_ild i 1) := by
  intro p e s m args below meth c n0 out ⟨hx, hb, hml, hown, hts, hK, hlk, ⟨hE, hKC, hA0, hXS⟩, hR⟩ hin Q k hrt hk lo st τ h
  unfold n_ild at h
  split at h
  · rename_i x hx0
    exact ⟨(hk _ _ _ _ h).1, fun H locs ls cl sl hP hS hc hs hl => lv_iload_n hx hb hd hi (hl.2.2.2 _ _ hx0) ((hk _ _ _ _ h).2 H locs ls cl sl hP hS hc hs hl)⟩
  · cases h
theorem ns_ild {i : Nat} (hd : decode cc pc = .ok (.iload i, 2)) : SnN_ l E own cc nL ws R ini pc (n_ild i 2) := by
  intro p e s m args below meth c n0 out ⟨hx, hb, hml, hown, hts, hK, hlk, ⟨hE, hKC, hA0, hXS⟩, hR⟩ hin Q k hrt hk lo st τ h
  unfold n_ild at h
  split at h
  · rename_i x hx0
    exact ⟨(hk _ _ _ _ h).1, fun H locs ls cl sl hP hS hc hs hl => lv_iload hx hb hd (hl.2.2.2 _ _ hx0) ((hk _ _ _ _ h).2 H locs ls cl sl hP hS hc hs hl)⟩
  · cases h
def n_ald (i n : Nat) : On_ := fun k pc lo st τ => match lo[i]? with
  | some (some (.ref x)) => k (pc + n) lo (.ref x :: st) τ
  | _ => none
theorem ns_ald_n {q : Fin 4} {i : Nat} (hd : decode cc pc = .ok (.aload_n q, 1)) (hi : (q : Nat) = i) : SnN_ l E own cc nL ws R ini pc (n_ald i 1) := by
  intro p e s m args below meth c n0 out ⟨hx, hb, hml, hown, hts, hK, hlk, ⟨hE, hKC, hA0, hXS⟩, hR⟩ hin Q k hrt hk lo st τ h
  unfold n_ald at h
  split at h
  · rename_i x hx0
    exact ⟨(hk _ _ _ _ h).1, fun H locs ls cl sl hP hS hc hs hl => lv_aload_n hx hb hd hi (hl.2.2.2 _ _ hx0) ((hk _ _ _ _ h).2 H locs ls cl sl hP hS hc hs hl)⟩
  · cases h
def n_ist (i n : Nat) : On_ := fun k pc lo st τ => match st with
  | .int x :: r => if okS_ lo i && decide (i < lo.length) then k (pc + n) (lo.set i (some (.int x))) r τ else none
  | _ => none
theorem ns_ist_n {q : Fin 4} {i : Nat} (hd : decode cc pc = .ok (.istore_n q, 1)) (hi : (q : Nat) = i) : SnN_ l E own cc nL ws R ini pc (n_ist i 1) := by
  intro p e s m args below meth c n0 out ⟨hx, hb, hml, hown, hts, hK, hlk, ⟨hE, hKC, hA0, hXS⟩, hR⟩ hin Q k hrt hk lo st τ h
  unfold n_ist at h
  split at h
  · rename_i x r
    split at h
    · rename_i hg
      simp only [Bool.and_eq_true, decide_eq_true_eq] at hg
      exact ⟨(hk _ _ _ _ h).1, fun H locs ls cl sl hP hS hc hs hl => lv_istore_n hx hb hd hi (hl_has hl) (by rw [← hl.1]; exact hg.2) rfl (fun ls1 hl1 => (hk _ _ _ _ h).2 H locs ls1 cl sl hP hS hc hs (hl_st1 (w := .int x) hl.1 hg.1 hl1))⟩
    · cases h
  · cases h
theorem ns_ist {i : Nat} (hd : decode cc pc = .ok (.istore i, 2)) : SnN_ l E own cc nL ws R ini pc (n_ist i 2) := by
  intro p e s m args below meth c n0 out ⟨hx, hb, hml, hown, hts, hK, hlk, ⟨hE, hKC, hA0, hXS⟩, hR⟩ hin Q k hrt hk lo st τ h
  unfold n_ist at h
  split at h
  · rename_i x r
    split at h
    · rename_i hg
      simp only [Bool.and_eq_true, decide_eq_true_eq] at hg
      exact ⟨(hk _ _ _ _ h).1, fun H locs ls cl sl hP hS hc hs hl => lv_istore hx hb hd (hl_has hl) (by rw [← hl.1]; exact hg.2) rfl (fun ls1 hl1 => (hk _ _ _ _ h).2 H locs ls1 cl sl hP hS hc hs (hl_st1 (w := .int x) hl.1 hg.1 hl1))⟩
    · cases h
  · cases h
def n_ast (i n : Nat) : On_ := fun k pc lo st τ => match st with
  | .ref x :: r => if okS_ lo i && decide (i < lo.length) then k (pc + n) (lo.set i (some (.ref x))) r τ else none
  | _ => none
theorem ns_ast_n {q : Fin 4} {i : Nat} (hd : decode cc pc = .ok (.astore_n q, 1)) (hi : (q : Nat) = i) : SnN_ l E own cc nL ws R ini pc (n_ast i 1) := by
  intro p e s m args below meth c n0 out ⟨hx, hb, hml, hown, hts, hK, hlk, ⟨hE, hKC, hA0, hXS⟩, hR⟩ hin Q k hrt hk lo st τ h
  unfold n_ast at h
  split at h
  · rename_i x r
    split at h
    · rename_i hg
      simp only [Bool.and_eq_true, decide_eq_true_eq] at hg
      exact ⟨(hk _ _ _ _ h).1, fun H locs ls cl sl hP hS hc hs hl => lv_astore_n hx hb hd hi (hl_has hl) (by rw [← hl.1]; exact hg.2) rfl (fun ls1 hl1 => (hk _ _ _ _ h).2 H locs ls1 cl sl hP hS hc hs (hl_st1 (w := .ref x) hl.1 hg.1 hl1))⟩
    · cases h
  · cases h
def n_inc (i : Nat) (v : Int32) : On_ := fun k pc lo st τ => match lo[i]? with
  | some (some (.int x)) => if okS_ lo i then k (pc + 3) (lo.set i (some (.int (x + v)))) st τ else none
  | _ => none
theorem ns_inc {i : Nat} {n : Int} {v : Int32} (hd : decode cc pc = .ok (.iinc i n, 3)) (hv : Int32.ofInt n = v) : SnN_ l E own cc nL ws R ini pc (n_inc i v) := by
  intro p e s m args below meth c n0 out ⟨hx, hb, hml, hown, hts, hK, hlk, ⟨hE, hKC, hA0, hXS⟩, hR⟩ hin Q k hrt hk lo st τ h
  unfold n_inc at h
  split at h
  · rename_i x hx0
    split at h
    · rename_i hg
      refine ⟨(hk _ _ _ _ h).1, fun H locs ls cl sl hP hS hc hs hl => ?_⟩
      have hm : (i, Value.int x) ∈ pl_ E.2.2.1 lo := pl_mem.mpr ⟨_, hx0, rfl⟩
      obtain ⟨q, hq⟩ := List.getElem?_of_mem hm
      exact lv_iinc hx hb hd (hl_has hl) hq (by rw [hv]) (by rw [← hl.1]; exact (List.getElem?_eq_some_iff.mp hx0).1) rfl (fun ls1 hl1 => (hk _ _ _ _ h).2 H locs ls1 cl sl hP hS hc hs (hl_st1 (w := .int (x + v)) hl.1 hg hl1))
    · cases h
  · cases h
def n_isub : On_ := fun k pc lo st τ => match st with
  | .int y :: .int x :: r => k (pc + 1) lo (.int (x - y) :: r) τ
  | _ => none
theorem ns_isub (hd : decode cc pc = .ok (.isub, 1)) : SnN_ l E own cc nL ws R ini pc (n_isub) := by
  intro p e s m args below meth c n0 out ⟨hx, hb, hml, hown, hts, hK, hlk, ⟨hE, hKC, hA0, hXS⟩, hR⟩ hin Q k hrt hk lo st τ h
  unfold n_isub at h
  split at h
  · exact ⟨(hk _ _ _ _ h).1, fun H locs ls cl sl hP hS hc hs hl => lv_isub hx hb hd ((hk _ _ _ _ h).2 H locs ls cl sl hP hS hc hs hl)⟩
  · cases h
def n_iadd : On_ := fun k pc lo st τ => match st with
  | .int y :: .int x :: r => k (pc + 1) lo (.int (x + y) :: r) τ
  | _ => none
theorem ns_iadd (hd : decode cc pc = .ok (.iadd, 1)) : SnN_ l E own cc nL ws R ini pc (n_iadd) := by
  intro p e s m args below meth c n0 out ⟨hx, hb, hml, hown, hts, hK, hlk, ⟨hE, hKC, hA0, hXS⟩, hR⟩ hin Q k hrt hk lo st τ h
  unfold n_iadd at h
  split at h
  · exact ⟨(hk _ _ _ _ h).1, fun H locs ls cl sl hP hS hc hs hl => lv_iadd hx hb hd ((hk _ _ _ _ h).2 H locs ls cl sl hP hS hc hs hl)⟩
  · cases h
def n_ior : On_ := fun k pc lo st τ => match st with
  | .int y :: .int x :: r => k (pc + 1) lo (.int (x ||| y) :: r) τ
  | _ => none
theorem ns_ior (hd : decode cc pc = .ok (.ior, 1)) : SnN_ l E own cc nL ws R ini pc (n_ior) := by
  intro p e s m args below meth c n0 out ⟨hx, hb, hml, hown, hts, hK, hlk, ⟨hE, hKC, hA0, hXS⟩, hR⟩ hin Q k hrt hk lo st τ h
  unfold n_ior at h
  split at h
  · exact ⟨(hk _ _ _ _ h).1, fun H locs ls cl sl hP hS hc hs hl => lv_ior hx hb hd ((hk _ _ _ _ h).2 H locs ls cl sl hP hS hc hs hl)⟩
  · cases h
def n_ishl : On_ := fun k pc lo st τ => match st with
  | .int y :: .int x :: r => k (pc + 1) lo (.int (x <<< (y &&& 31)) :: r) τ
  | _ => none
theorem ns_ishl (hd : decode cc pc = .ok (.ishl, 1)) : SnN_ l E own cc nL ws R ini pc (n_ishl) := by
  intro p e s m args below meth c n0 out ⟨hx, hb, hml, hown, hts, hK, hlk, ⟨hE, hKC, hA0, hXS⟩, hR⟩ hin Q k hrt hk lo st τ h
  unfold n_ishl at h
  split at h
  · exact ⟨(hk _ _ _ _ h).1, fun H locs ls cl sl hP hS hc hs hl => lv_ishl hx hb hd ((hk _ _ _ _ h).2 H locs ls cl sl hP hS hc hs hl)⟩
  · cases h
def n_dup : On_ := fun k pc lo st τ => match st with
  | v :: r => if v.category = 1 then k (pc + 1) lo (v :: v :: r) τ else none
  | _ => none
theorem ns_dup (hd : decode cc pc = .ok (.dup, 1)) : SnN_ l E own cc nL ws R ini pc (n_dup) := by
  intro p e s m args below meth c n0 out ⟨hx, hb, hml, hown, hts, hK, hlk, ⟨hE, hKC, hA0, hXS⟩, hR⟩ hin Q k hrt hk lo st τ h
  unfold n_dup at h
  split at h
  · split at h
    · rename_i hg
      exact ⟨(hk _ _ _ _ h).1, fun H locs ls cl sl hP hS hc hs hl => lv_dup hx hb hd (by rw [rn_cat]; exact hg) ((hk _ _ _ _ h).2 H locs ls cl sl hP hS hc hs hl)⟩
    · cases h
  · cases h
def n_cmpge (t : Nat) : On_ := fun k pc lo st τ => match st with
  | .int y :: .int x :: r => if y ≤ x then k t lo r τ else k (pc + 3) lo r τ
  | _ => none
theorem ns_cmpge {off : Int} {t : Nat} (hd : decode cc pc = .ok (.if_icmp .ge off, 3)) (ht : (pc : Int) + off = (t : Int)) : SnN_ l E own cc nL ws R ini pc (n_cmpge t) := by
  intro p e s m args below meth c n0 out ⟨hx, hb, hml, hown, hts, hK, hlk, ⟨hE, hKC, hA0, hXS⟩, hR⟩ hin Q k hrt hk lo st τ h
  unfold n_cmpge at h
  split at h
  · rename_i y x r
    by_cases hc0 : y ≤ x
    · rw [if_pos hc0] at h
      exact ⟨(hk _ _ _ _ h).1, fun H locs ls cl sl hP hS hc hs hl => lv_icmp_ge hx hb hd ht (fun _ => (hk _ _ _ _ h).2 H locs ls cl sl hP hS hc hs hl) (fun z => absurd hc0 z)⟩
    · rw [if_neg hc0] at h
      exact ⟨(hk _ _ _ _ h).1, fun H locs ls cl sl hP hS hc hs hl => lv_icmp_ge hx hb hd ht (fun z => absurd z hc0) (fun _ => (hk _ _ _ _ h).2 H locs ls cl sl hP hS hc hs hl)⟩
  · cases h
def n_cmpne (t : Nat) : On_ := fun k pc lo st τ => match st with
  | .int y :: .int x :: r => if x = y then k (pc + 3) lo r τ else k t lo r τ
  | _ => none
theorem ns_cmpne {off : Int} {t : Nat} (hd : decode cc pc = .ok (.if_icmp .ne off, 3)) (ht : (pc : Int) + off = (t : Int)) : SnN_ l E own cc nL ws R ini pc (n_cmpne t) := by
  intro p e s m args below meth c n0 out ⟨hx, hb, hml, hown, hts, hK, hlk, ⟨hE, hKC, hA0, hXS⟩, hR⟩ hin Q k hrt hk lo st τ h
  unfold n_cmpne at h
  split at h
  · rename_i y x r
    by_cases hc0 : x = y
    · rw [if_pos hc0] at h
      exact ⟨(hk _ _ _ _ h).1, fun H locs ls cl sl hP hS hc hs hl => lv_icmp_ne hx hb hd ht (fun z => absurd hc0 z) (fun _ => (hk _ _ _ _ h).2 H locs ls cl sl hP hS hc hs hl)⟩
    · rw [if_neg hc0] at h
      exact ⟨(hk _ _ _ _ h).1, fun H locs ls cl sl hP hS hc hs hl => lv_icmp_ne hx hb hd ht (fun _ => (hk _ _ _ _ h).2 H locs ls cl sl hP hS hc hs hl) (fun z => absurd z hc0)⟩
  · cases h
def n_goto (t : Nat) : On_ := fun k _ lo st τ => k t lo st τ
theorem ns_goto {off : Int} {t : Nat} (hd : decode cc pc = .ok (.goto off, 3)) (ht : (pc : Int) + off = (t : Int)) : SnN_ l E own cc nL ws R ini pc (n_goto t) := by
  intro p e s m args below meth c n0 out ⟨hx, hb, hml, hown, hts, hK, hlk, ⟨hE, hKC, hA0, hXS⟩, hR⟩ hin Q k hrt hk lo st τ h
  exact ⟨(hk _ _ _ _ h).1, fun H locs ls cl sl hP hS hc hs hl => lv_goto hx hb hd ht ((hk _ _ _ _ h).2 H locs ls cl sl hP hS hc hs hl)⟩
def n_ret : On_ := fun _ _ _ st τ => match st with
  | [] => some τ
  | _ => none
theorem ns_ret (hd : decode cc pc = .ok (.return_, 1)) : SnN_ l E own cc nL ws R ini pc (n_ret) := by
  intro p e s m args below meth c n0 out ⟨hx, hb, hml, hown, hts, hK, hlk, ⟨hE, hKC, hA0, hXS⟩, hR⟩ hin Q k hrt hk lo st τ h
  unfold n_ret at h
  split at h
  · cases h
    exact ⟨Nat.le_refl _, fun H locs ls cl sl hP hS hc hs hl => hrt H locs ls pc cl sl hP hS hc hs hd⟩
  · cases h
end NOPS
