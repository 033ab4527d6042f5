/-! which half of the names a method of either half may change: generic over programs -/
def cla_ (q : Nat) : Bool := decide (q < 219)
def hkv_ (b : Bool) (l : List Value) : Prop := ∀ q, Value.ref q ∈ l → cla_ q = b
def hkl_ (b : Bool) (lo : Lo_) : Prop := ∀ (i q : Nat), lo[i]? = some (some (Value.ref q)) → cla_ q = b
def RO_ (σ : St_) : Prop := ∀ o i z, σ.2.2 o i = some z → cla_ z = cla_ o
def Fm_ (b : Bool) (σ σ' : St_) : Prop := ∀ o, cla_ o ≠ b → σ'.1 o = σ.1 o ∧ σ'.2.1 o = σ.2.1 o ∧ σ'.2.2 o = σ.2.2 o
def Rsp_ (b : Bool) (k : Ct_) : Prop := ∀ pc lo st σ out, hkl_ b lo → hkv_ b st → RO_ σ → k pc lo st σ = some out → hkv_ b out.1.toList ∧ RO_ out.2 ∧ Fm_ b σ out.2
def Loc_ (o : Op_) : Prop := ∀ b k, Rsp_ b k → Rsp_ b (o k)
def RspF_ (f : Fn_) : Prop := ∀ b as σ out, hkv_ b as → RO_ σ → f as σ = some out → hkv_ b out.1.toList ∧ RO_ out.2 ∧ Fm_ b σ out.2
theorem Fm_rf {b : Bool} {σ : St_} : Fm_ b σ σ := fun _ _ => ⟨rfl, rfl, rfl⟩
theorem Fm_tr {b : Bool} {σ σ1 σ2 : St_} (h1 : Fm_ b σ σ1) (h2 : Fm_ b σ1 σ2) : Fm_ b σ σ2 := fun o ho => ⟨(h2 o ho).1.trans (h1 o ho).1, (h2 o ho).2.1.trans (h1 o ho).2.1, (h2 o ho).2.2.trans (h1 o ho).2.2⟩
theorem hkv_n {b : Bool} : hkv_ b [] := fun q h => by cases h
theorem hkv_i {b : Bool} {x : Int32} {r : List Value} (h : hkv_ b r) : hkv_ b (.int x :: r) := fun q hq => by
  rcases List.mem_cons.mp hq with e | e
  · cases e
  · exact h q e
theorem hkv_l {b : Bool} {x : Int64} {r : List Value} (h : hkv_ b r) : hkv_ b (.long x :: r) := fun q hq => by
  rcases List.mem_cons.mp hq with e | e
  · cases e
  · exact h q e
theorem hkv_r {b : Bool} {z : Nat} {r : List Value} (hz : cla_ z = b) (h : hkv_ b r) : hkv_ b (.ref z :: r) := fun q hq => by
  rcases List.mem_cons.mp hq with e | e
  · cases e; exact hz
  · exact h q e
theorem hkv_t {b : Bool} {v : Value} {r : List Value} (h : hkv_ b (v :: r)) : hkv_ b r := fun q hq => h q (List.mem_cons_of_mem _ hq)
theorem hkv_d {b : Bool} {v : Value} {r r' : List Value} (h : hkv_ b (v :: r)) (h' : hkv_ b r') : hkv_ b (v :: r') := fun q hq => by
  rcases List.mem_cons.mp hq with e | e
  · exact h q (by rw [e]; exact List.mem_cons_self)
  · exact h' q e
theorem hkv_h {b : Bool} {z : Nat} {r : List Value} (h : hkv_ b (.ref z :: r)) : cla_ z = b := h z List.mem_cons_self
theorem hkv_s {b : Bool} {l l' : List Value} (h : hkv_ b l) (hs : ∀ v, v ∈ l' → v ∈ l) : hkv_ b l' := fun q hq => h q (hs _ hq)
theorem hkv_a {b : Bool} {l l' : List Value} (h : hkv_ b l) (h' : hkv_ b l') : hkv_ b (l ++ l') := fun q hq => by
  rcases List.mem_append.mp hq with e | e
  · exact h q e
  · exact h' q e
theorem hkl_i {b : Bool} {lo : Lo_} {i : Nat} {x : Int32} (h : hkl_ b lo) : hkl_ b (lo.set i (some (.int x))) := fun j q hq => by
  rw [List.getElem?_set] at hq
  split at hq
  · split at hq <;> cases hq
  · exact h j q hq
theorem hkl_l {b : Bool} {lo : Lo_} {i : Nat} {x : Int64} (h : hkl_ b lo) : hkl_ b (lo.set i (some (.long x))) := fun j q hq => by
  rw [List.getElem?_set] at hq
  split at hq
  · split at hq <;> cases hq
  · exact h j q hq
theorem hkl_n {b : Bool} {lo : Lo_} {i : Nat} (h : hkl_ b lo) : hkl_ b (lo.set i none) := fun j q hq => by
  rw [List.getElem?_set] at hq
  split at hq
  · split at hq <;> cases hq
  · exact h j q hq
theorem hkl_r {b : Bool} {lo : Lo_} {i z : Nat} (hz : cla_ z = b) (h : hkl_ b lo) : hkl_ b (lo.set i (some (.ref z))) := fun j q hq => by
  rw [List.getElem?_set] at hq
  split at hq
  · split at hq
    · cases hq; exact hz
    · cases hq
  · exact h j q hq
theorem hkl_c {b : Bool} : ∀ (ds : List Nat) {lo : Lo_}, hkl_ b lo → hkl_ b (clr_ ds lo)
  | [], lo, h => h
  | d :: t, lo, h => hkl_c t (lo := lo.set d none) (hkl_n h)
theorem Fm_I {b : Bool} {σ : St_} {q i : Nat} {x : Int32} (h : cla_ q = b) : Fm_ b σ (sI_ σ q i x) := fun o ho => ⟨u2_row _ _ _ _ (fun e => ho (by rw [e]; exact h)), rfl, rfl⟩
theorem Fm_J {b : Bool} {σ : St_} {q i : Nat} {x : Int64} (h : cla_ q = b) : Fm_ b σ (sJ_ σ q i x) := fun o ho => ⟨rfl, u2_row _ _ _ _ (fun e => ho (by rw [e]; exact h)), rfl⟩
theorem Fm_R {b : Bool} {σ : St_} {q i : Nat} {x : Option Nat} (h : cla_ q = b) : Fm_ b σ (sR_ σ q i x) := fun o ho => ⟨rfl, rfl, u2_row _ _ _ _ (fun e => ho (by rw [e]; exact h))⟩
theorem RO_I {σ : St_} {q i : Nat} {x : Int32} (h : RO_ σ) : RO_ (sI_ σ q i x) := h
theorem RO_J {σ : St_} {q i : Nat} {x : Int64} (h : RO_ σ) : RO_ (sJ_ σ q i x) := h
theorem RO_1 {σ : St_} {f : Nat → Nat → Int32} (h : RO_ σ) : RO_ (f, σ.2) := h
theorem RO_R {b : Bool} {σ : St_} {q i z : Nat} (h : RO_ σ) (hz : cla_ z = b) (hq : cla_ q = b) : RO_ (sR_ σ q i (some z)) := fun o j y hy => by
  unfold sR_ u2_ at hy
  dsimp only at hy
  split at hy
  · rename_i e
    cases hy
    rw [e.1, hz, hq]
  · exact h o j y hy
/-- the fixed references stay in their half -/
theorem KC_half : ∀ o i z, KC.2 o i = some z → cla_ z = cla_ o := by
  have key : (List.range 247).all (fun o => (kcR.getD o []).all (fun x => match x with | none => true | some z => cla_ z == cla_ o)) = true := by decide +kernel
  intro o i z h
  have h : (kcR.getD o []).getD i none = some z := h
  have ho : o < 247 := by
    rcases Nat.lt_or_ge o 247 with c | c
    · exact c
    · exfalso
      rw [List.getD_eq_getElem?_getD (l := kcR), List.getElem?_eq_none (by rw [show kcR.length = 247 by decide +kernel]; exact c)] at h
      simp at h
  have h1 := List.all_eq_true.mp key o (List.mem_range.mpr ho)
  have h2 : some z ∈ kcR.getD o [] := by
    rw [List.getD_eq_getElem?_getD] at h
    cases hx : (kcR.getD o [])[i]? with
    | none => rw [hx] at h; cases h
    | some y =>
      rw [hx] at h
      have h : y = some z := h
      subst h
      exact List.mem_of_getElem? hx
  have h3 := List.all_eq_true.mp h1 _ h2
  exact beq_iff_eq.mp h3
theorem l_x : Loc_ o_x := fun b k hk pc lo st σ out h1 h2 h3 h => by cases h
theorem l_ic {v : Int32} {n : Nat} : Loc_ (o_ic v n) := fun b k hk pc lo st σ out h1 h2 h3 h => hk _ _ _ _ _ h1 (hkv_i h2) h3 h
theorem l_lc {v : Int64} {n : Nat} : Loc_ (o_lc v n) := fun b k hk pc lo st σ out h1 h2 h3 h => hk _ _ _ _ _ h1 (hkv_l h2) h3 h
theorem l_goto {t : Nat} : Loc_ (o_goto t) := fun b k hk pc lo st σ out h1 h2 h3 h => hk _ _ _ _ _ h1 h2 h3 h
theorem l_aft {ds : List Nat} {o : Op_} (ho : Loc_ o) : Loc_ (o_aft ds o) := fun b k hk pc lo st σ out h1 h2 h3 h => ho b _ (fun pc' lo' st' σ' out' g1 g2 g3 g => hk _ _ _ _ _ (hkl_c ds g1) g2 g3 g) pc lo st σ out h1 h2 h3 h
theorem l_ild {i n : Nat} : Loc_ (o_ild i n) := by
  intro b k hk pc lo st σ out h1 h2 h3 h
  unfold o_ild at h
  split at h
  · skip
    exact hk _ _ _ _ _ h1 (hkv_i h2) h3 h
  · cases h
theorem l_lld {i n : Nat} : Loc_ (o_lld i n) := by
  intro b k hk pc lo st σ out h1 h2 h3 h
  unfold o_lld at h
  split at h
  · skip
    exact hk _ _ _ _ _ h1 (hkv_l h2) h3 h
  · cases h
theorem l_ald {i n : Nat} : Loc_ (o_ald i n) := by
  intro b k hk pc lo st σ out h1 h2 h3 h
  unfold o_ald at h
  split at h
  · rename_i x hx
    exact hk _ _ _ _ _ h1 (hkv_r (h1 _ _ hx) h2) h3 h
  · cases h
theorem l_ist {i n : Nat} : Loc_ (o_ist i n) := by
  intro b k hk pc lo st σ out h1 h2 h3 h
  unfold o_ist at h
  split at h
  · skip
    split at h
    · skip
      exact hk _ _ _ _ _ (hkl_i h1) (hkv_t h2) h3 h
    · cases h
  · cases h
theorem l_ast {i n : Nat} : Loc_ (o_ast i n) := by
  intro b k hk pc lo st σ out h1 h2 h3 h
  unfold o_ast at h
  split at h
  · skip
    split at h
    · skip
      exact hk _ _ _ _ _ (hkl_r (hkv_h h2) h1) (hkv_t h2) h3 h
    · cases h
  · cases h
theorem l_lst {i n : Nat} : Loc_ (o_lst i n) := by
  intro b k hk pc lo st σ out h1 h2 h3 h
  unfold o_lst at h
  split at h
  · skip
    split at h
    · skip
      exact hk _ _ _ _ _ (hkl_n (hkl_l h1)) (hkv_t h2) h3 h
    · cases h
  · cases h
theorem l_inc {i : Nat} {v : Int32} : Loc_ (o_inc i v) := by
  intro b k hk pc lo st σ out h1 h2 h3 h
  unfold o_inc at h
  split at h
  · skip
    split at h
    · skip
      exact hk _ _ _ _ _ (hkl_i h1) h2 h3 h
    · cases h
  · cases h
theorem l_iadd : Loc_ (o_iadd) := by
  intro b k hk pc lo st σ out h1 h2 h3 h
  unfold o_iadd at h
  split at h
  · skip
    exact hk _ _ _ _ _ h1 (hkv_i (hkv_t (hkv_t h2))) h3 h
  · cases h
theorem l_isub : Loc_ (o_isub) := by
  intro b k hk pc lo st σ out h1 h2 h3 h
  unfold o_isub at h
  split at h
  · skip
    exact hk _ _ _ _ _ h1 (hkv_i (hkv_t (hkv_t h2))) h3 h
  · cases h
theorem l_imul : Loc_ (o_imul) := by
  intro b k hk pc lo st σ out h1 h2 h3 h
  unfold o_imul at h
  split at h
  · skip
    exact hk _ _ _ _ _ h1 (hkv_i (hkv_t (hkv_t h2))) h3 h
  · cases h
theorem l_iand : Loc_ (o_iand) := by
  intro b k hk pc lo st σ out h1 h2 h3 h
  unfold o_iand at h
  split at h
  · skip
    exact hk _ _ _ _ _ h1 (hkv_i (hkv_t (hkv_t h2))) h3 h
  · cases h
theorem l_ior : Loc_ (o_ior) := by
  intro b k hk pc lo st σ out h1 h2 h3 h
  unfold o_ior at h
  split at h
  · skip
    exact hk _ _ _ _ _ h1 (hkv_i (hkv_t (hkv_t h2))) h3 h
  · cases h
theorem l_ixor : Loc_ (o_ixor) := by
  intro b k hk pc lo st σ out h1 h2 h3 h
  unfold o_ixor at h
  split at h
  · skip
    exact hk _ _ _ _ _ h1 (hkv_i (hkv_t (hkv_t h2))) h3 h
  · cases h
theorem l_ishl : Loc_ (o_ishl) := by
  intro b k hk pc lo st σ out h1 h2 h3 h
  unfold o_ishl at h
  split at h
  · skip
    exact hk _ _ _ _ _ h1 (hkv_i (hkv_t (hkv_t h2))) h3 h
  · cases h
theorem l_ishr : Loc_ (o_ishr) := by
  intro b k hk pc lo st σ out h1 h2 h3 h
  unfold o_ishr at h
  split at h
  · skip
    exact hk _ _ _ _ _ h1 (hkv_i (hkv_t (hkv_t h2))) h3 h
  · cases h
theorem l_iushr : Loc_ (o_iushr) := by
  intro b k hk pc lo st σ out h1 h2 h3 h
  unfold o_iushr at h
  split at h
  · skip
    exact hk _ _ _ _ _ h1 (hkv_i (hkv_t (hkv_t h2))) h3 h
  · cases h
theorem l_idiv : Loc_ (o_idiv) := by
  intro b k hk pc lo st σ out h1 h2 h3 h
  unfold o_idiv at h
  split at h
  · split at h
    · cases h
    · exact hk _ _ _ _ _ h1 (hkv_i (hkv_t (hkv_t h2))) h3 h
  · cases h
theorem l_irem : Loc_ (o_irem) := by
  intro b k hk pc lo st σ out h1 h2 h3 h
  unfold o_irem at h
  split at h
  · split at h
    · cases h
    · exact hk _ _ _ _ _ h1 (hkv_i (hkv_t (hkv_t h2))) h3 h
  · cases h
theorem l_ladd : Loc_ (o_ladd) := by
  intro b k hk pc lo st σ out h1 h2 h3 h
  unfold o_ladd at h
  split at h
  · skip
    exact hk _ _ _ _ _ h1 (hkv_l (hkv_t (hkv_t h2))) h3 h
  · cases h
theorem l_lsub : Loc_ (o_lsub) := by
  intro b k hk pc lo st σ out h1 h2 h3 h
  unfold o_lsub at h
  split at h
  · skip
    exact hk _ _ _ _ _ h1 (hkv_l (hkv_t (hkv_t h2))) h3 h
  · cases h
theorem l_lmul : Loc_ (o_lmul) := by
  intro b k hk pc lo st σ out h1 h2 h3 h
  unfold o_lmul at h
  split at h
  · skip
    exact hk _ _ _ _ _ h1 (hkv_l (hkv_t (hkv_t h2))) h3 h
  · cases h
theorem l_ldiv : Loc_ (o_ldiv) := by
  intro b k hk pc lo st σ out h1 h2 h3 h
  unfold o_ldiv at h
  split at h
  · split at h
    · cases h
    · exact hk _ _ _ _ _ h1 (hkv_l (hkv_t (hkv_t h2))) h3 h
  · cases h
theorem l_lcmp : Loc_ (o_lcmp) := by
  intro b k hk pc lo st σ out h1 h2 h3 h
  unfold o_lcmp at h
  split at h
  · skip
    exact hk _ _ _ _ _ h1 (hkv_i (hkv_t (hkv_t h2))) h3 h
  · cases h
theorem l_ineg : Loc_ (o_ineg) := by
  intro b k hk pc lo st σ out h1 h2 h3 h
  unfold o_ineg at h
  split at h
  · skip
    exact hk _ _ _ _ _ h1 (hkv_i (hkv_t h2)) h3 h
  · cases h
theorem l_l2i : Loc_ (o_l2i) := by
  intro b k hk pc lo st σ out h1 h2 h3 h
  unfold o_l2i at h
  split at h
  · skip
    exact hk _ _ _ _ _ h1 (hkv_i (hkv_t h2)) h3 h
  · cases h
theorem l_i2b : Loc_ (o_i2b) := by
  intro b k hk pc lo st σ out h1 h2 h3 h
  unfold o_i2b at h
  split at h
  · skip
    exact hk _ _ _ _ _ h1 (hkv_i (hkv_t h2)) h3 h
  · cases h
theorem l_i2l : Loc_ (o_i2l) := by
  intro b k hk pc lo st σ out h1 h2 h3 h
  unfold o_i2l at h
  split at h
  · skip
    exact hk _ _ _ _ _ h1 (hkv_l (hkv_t h2)) h3 h
  · cases h
theorem l_dup : Loc_ (o_dup) := by
  intro b k hk pc lo st σ out h1 h2 h3 h
  unfold o_dup at h
  split at h
  · skip
    split at h
    · skip
      exact hk _ _ _ _ _ h1 (hkv_d h2 h2) h3 h
    · cases h
  · cases h
theorem l_pop : Loc_ (o_pop) := by
  intro b k hk pc lo st σ out h1 h2 h3 h
  unfold o_pop at h
  split at h
  · skip
    split at h
    · skip
      exact hk _ _ _ _ _ h1 (hkv_t h2) h3 h
    · cases h
  · cases h
theorem l_dup2 : Loc_ (o_dup2) := by
  intro b k hk pc lo st σ out h1 h2 h3 h
  unfold o_dup2 at h
  split at h
  · skip
    split at h
    · skip
      exact hk _ _ _ _ _ h1 (hkv_d h2 (hkv_d (hkv_t h2) h2)) h3 h
    · cases h
  · cases h
theorem l_ifeq {t : Nat} : Loc_ (o_ifeq t) := by
  intro b k hk pc lo st σ out h1 h2 h3 h
  unfold o_ifeq at h
  split at h
  · split at h
    · exact hk _ _ _ _ _ h1 (hkv_t h2) h3 h
    · exact hk _ _ _ _ _ h1 (hkv_t h2) h3 h
  · cases h
theorem l_cmpeq {t : Nat} : Loc_ (o_cmpeq t) := by
  intro b k hk pc lo st σ out h1 h2 h3 h
  unfold o_cmpeq at h
  split at h
  · split at h
    · exact hk _ _ _ _ _ h1 (hkv_t (hkv_t h2)) h3 h
    · exact hk _ _ _ _ _ h1 (hkv_t (hkv_t h2)) h3 h
  · cases h
theorem l_ifne {t : Nat} : Loc_ (o_ifne t) := by
  intro b k hk pc lo st σ out h1 h2 h3 h
  unfold o_ifne at h
  split at h
  · split at h
    · exact hk _ _ _ _ _ h1 (hkv_t h2) h3 h
    · exact hk _ _ _ _ _ h1 (hkv_t h2) h3 h
  · cases h
theorem l_cmpne {t : Nat} : Loc_ (o_cmpne t) := by
  intro b k hk pc lo st σ out h1 h2 h3 h
  unfold o_cmpne at h
  split at h
  · split at h
    · exact hk _ _ _ _ _ h1 (hkv_t (hkv_t h2)) h3 h
    · exact hk _ _ _ _ _ h1 (hkv_t (hkv_t h2)) h3 h
  · cases h
theorem l_iflt {t : Nat} : Loc_ (o_iflt t) := by
  intro b k hk pc lo st σ out h1 h2 h3 h
  unfold o_iflt at h
  split at h
  · split at h
    · exact hk _ _ _ _ _ h1 (hkv_t h2) h3 h
    · exact hk _ _ _ _ _ h1 (hkv_t h2) h3 h
  · cases h
theorem l_cmplt {t : Nat} : Loc_ (o_cmplt t) := by
  intro b k hk pc lo st σ out h1 h2 h3 h
  unfold o_cmplt at h
  split at h
  · split at h
    · exact hk _ _ _ _ _ h1 (hkv_t (hkv_t h2)) h3 h
    · exact hk _ _ _ _ _ h1 (hkv_t (hkv_t h2)) h3 h
  · cases h
theorem l_ifge {t : Nat} : Loc_ (o_ifge t) := by
  intro b k hk pc lo st σ out h1 h2 h3 h
  unfold o_ifge at h
  split at h
  · split at h
    · exact hk _ _ _ _ _ h1 (hkv_t h2) h3 h
    · exact hk _ _ _ _ _ h1 (hkv_t h2) h3 h
  · cases h
theorem l_cmpge {t : Nat} : Loc_ (o_cmpge t) := by
  intro b k hk pc lo st σ out h1 h2 h3 h
  unfold o_cmpge at h
  split at h
  · split at h
    · exact hk _ _ _ _ _ h1 (hkv_t (hkv_t h2)) h3 h
    · exact hk _ _ _ _ _ h1 (hkv_t (hkv_t h2)) h3 h
  · cases h
theorem l_ifgt {t : Nat} : Loc_ (o_ifgt t) := by
  intro b k hk pc lo st σ out h1 h2 h3 h
  unfold o_ifgt at h
  split at h
  · split at h
    · exact hk _ _ _ _ _ h1 (hkv_t h2) h3 h
    · exact hk _ _ _ _ _ h1 (hkv_t h2) h3 h
  · cases h
theorem l_cmpgt {t : Nat} : Loc_ (o_cmpgt t) := by
  intro b k hk pc lo st σ out h1 h2 h3 h
  unfold o_cmpgt at h
  split at h
  · split at h
    · exact hk _ _ _ _ _ h1 (hkv_t (hkv_t h2)) h3 h
    · exact hk _ _ _ _ _ h1 (hkv_t (hkv_t h2)) h3 h
  · cases h
theorem l_ifle {t : Nat} : Loc_ (o_ifle t) := by
  intro b k hk pc lo st σ out h1 h2 h3 h
  unfold o_ifle at h
  split at h
  · split at h
    · exact hk _ _ _ _ _ h1 (hkv_t h2) h3 h
    · exact hk _ _ _ _ _ h1 (hkv_t h2) h3 h
  · cases h
theorem l_cmple {t : Nat} : Loc_ (o_cmple t) := by
  intro b k hk pc lo st σ out h1 h2 h3 h
  unfold o_cmple at h
  split at h
  · split at h
    · exact hk _ _ _ _ _ h1 (hkv_t (hkv_t h2)) h3 h
    · exact hk _ _ _ _ _ h1 (hkv_t (hkv_t h2)) h3 h
  · cases h
theorem l_tsw {x y : Int} {d : Nat} {ts : List Nat} : Loc_ (o_tsw x y d ts) := by
  intro b k hk pc lo st σ out h1 h2 h3 h
  unfold o_tsw at h
  split at h
  · split at h
    · exact hk _ _ _ _ _ h1 (hkv_t h2) h3 h
    · split at h
      · exact hk _ _ _ _ _ h1 (hkv_t h2) h3 h
      · cases h
  · cases h
theorem l_lsw {df : Int} {ps : List (Int × Int)} : Loc_ (o_lsw df ps) := by
  intro b k hk pc lo st σ out h1 h2 h3 h
  unfold o_lsw at h
  split at h
  · skip
    split at h
    · skip
      exact hk _ _ _ _ _ h1 (hkv_t h2) h3 h
    · cases h
  · cases h
theorem l_iret : Loc_ (o_iret) := by
  intro b k hk pc lo st σ out h1 h2 h3 h
  unfold o_iret at h
  split at h
  · cases h; exact ⟨hkv_i hkv_n, h3, Fm_rf⟩
  · cases h
theorem l_lret : Loc_ (o_lret) := by
  intro b k hk pc lo st σ out h1 h2 h3 h
  unfold o_lret at h
  split at h
  · cases h; exact ⟨hkv_l hkv_n, h3, Fm_rf⟩
  · cases h
theorem l_zret : Loc_ (o_zret) := by
  intro b k hk pc lo st σ out h1 h2 h3 h
  unfold o_zret at h
  split at h
  · split at h
    · cases h; exact ⟨hkv_i hkv_n, h3, Fm_rf⟩
    · cases h
  · cases h
theorem l_vret : Loc_ (o_vret) := by
  intro b k hk pc lo st σ out h1 h2 h3 h
  unfold o_vret at h
  split at h
  · cases h; exact ⟨hkv_n, h3, Fm_rf⟩
  · cases h
theorem l_gI {ci f : Nat} : Loc_ (o_gI KC ci f) := by
  intro b k hk pc lo st σ out h1 h2 h3 h
  unfold o_gI at h
  split at h
  · skip
    split at h
    · skip
      exact hk _ _ _ _ _ h1 (hkv_i (hkv_t h2)) h3 h
    · cases h
  · cases h
theorem l_gJ {ci f : Nat} : Loc_ (o_gJ KC ci f) := by
  intro b k hk pc lo st σ out h1 h2 h3 h
  unfold o_gJ at h
  split at h
  · skip
    split at h
    · skip
      exact hk _ _ _ _ _ h1 (hkv_l (hkv_t h2)) h3 h
    · cases h
  · cases h
theorem l_gR {ci f : Nat} : Loc_ (o_gR KC ci f) := by
  intro b k hk pc lo st σ out h1 h2 h3 h
  unfold o_gR at h
  split at h
  · split at h
    · split at h
      · rename_i hz
        exact hk _ _ _ _ _ h1 (hkv_r ((h3 _ _ _ hz).trans (hkv_h h2)) (hkv_t h2)) h3 h
      · cases h
    · cases h
  · cases h
theorem l_gF {ci f : Nat} : Loc_ (o_gF KC ci f) := by
  intro b k hk pc lo st σ out h1 h2 h3 h
  unfold o_gF at h
  split at h
  · split at h
    · split at h
      · rename_i hz
        exact hk _ _ _ _ _ h1 (hkv_r ((KC_half _ _ _ hz).trans (hkv_h h2)) (hkv_t h2)) h3 h
      · cases h
    · cases h
  · cases h
theorem l_pI {ci f : Nat} : Loc_ (o_pI KC ci f) := by
  intro b k hk pc lo st σ out h1 h2 h3 h
  unfold o_pI at h
  split at h
  · skip
    split at h
    · skip
      exact (hk _ _ _ _ _ h1 (hkv_t (hkv_t h2)) (RO_I h3) h).imp id (fun q => ⟨q.1, Fm_tr (Fm_I (hkv_h (hkv_t h2))) q.2⟩)
    · cases h
  · cases h
theorem l_pZ {ci f : Nat} : Loc_ (o_pZ KC ci f) := by
  intro b k hk pc lo st σ out h1 h2 h3 h
  unfold o_pZ at h
  split at h
  · skip
    split at h
    · skip
      exact (hk _ _ _ _ _ h1 (hkv_t (hkv_t h2)) (RO_I h3) h).imp id (fun q => ⟨q.1, Fm_tr (Fm_I (hkv_h (hkv_t h2))) q.2⟩)
    · cases h
  · cases h
theorem l_pJ {ci f : Nat} : Loc_ (o_pJ KC ci f) := by
  intro b k hk pc lo st σ out h1 h2 h3 h
  unfold o_pJ at h
  split at h
  · skip
    split at h
    · skip
      exact (hk _ _ _ _ _ h1 (hkv_t (hkv_t h2)) (RO_J h3) h).imp id (fun q => ⟨q.1, Fm_tr (Fm_J (hkv_h (hkv_t h2))) q.2⟩)
    · cases h
  · cases h
theorem l_pR {ci f : Nat} : Loc_ (o_pR KC ci f) := by
  intro b k hk pc lo st σ out h1 h2 h3 h
  unfold o_pR at h
  split at h
  · skip
    split at h
    · skip
      exact (hk _ _ _ _ _ h1 (hkv_t (hkv_t h2)) (RO_R h3 (hkv_h h2) (hkv_h (hkv_t h2))) h).imp id (fun q => ⟨q.1, Fm_tr (Fm_R (hkv_h (hkv_t h2))) q.2⟩)
    · cases h
  · cases h
theorem l_iald : Loc_ (o_iald KC) := by
  intro b k hk pc lo st σ out h1 h2 h3 h
  unfold o_iald at h
  split at h
  · skip
    split at h
    · skip
      exact hk _ _ _ _ _ h1 (hkv_i (hkv_t (hkv_t h2))) h3 h
    · cases h
  · cases h
theorem l_bald : Loc_ (o_bald KC) := by
  intro b k hk pc lo st σ out h1 h2 h3 h
  unfold o_bald at h
  split at h
  · skip
    split at h
    · skip
      exact hk _ _ _ _ _ h1 (hkv_i (hkv_t (hkv_t h2))) h3 h
    · cases h
  · cases h
theorem l_zald : Loc_ (o_zald KC) := by
  intro b k hk pc lo st σ out h1 h2 h3 h
  unfold o_zald at h
  split at h
  · skip
    split at h
    · skip
      exact hk _ _ _ _ _ h1 (hkv_i (hkv_t (hkv_t h2))) h3 h
    · cases h
  · cases h
theorem l_lald : Loc_ (o_lald KC) := by
  intro b k hk pc lo st σ out h1 h2 h3 h
  unfold o_lald at h
  split at h
  · skip
    split at h
    · skip
      exact hk _ _ _ _ _ h1 (hkv_l (hkv_t (hkv_t h2))) h3 h
    · cases h
  · cases h
theorem l_iast : Loc_ (o_iast KC) := by
  intro b k hk pc lo st σ out h1 h2 h3 h
  unfold o_iast at h
  split at h
  · skip
    split at h
    · skip
      exact (hk _ _ _ _ _ h1 (hkv_t (hkv_t (hkv_t h2))) (RO_I h3) h).imp id (fun q => ⟨q.1, Fm_tr (Fm_I (hkv_h (hkv_t (hkv_t h2)))) q.2⟩)
    · cases h
  · cases h
theorem l_bast : Loc_ (o_bast KC) := by
  intro b k hk pc lo st σ out h1 h2 h3 h
  unfold o_bast at h
  split at h
  · skip
    split at h
    · skip
      exact (hk _ _ _ _ _ h1 (hkv_t (hkv_t (hkv_t h2))) (RO_I h3) h).imp id (fun q => ⟨q.1, Fm_tr (Fm_I (hkv_h (hkv_t (hkv_t h2)))) q.2⟩)
    · cases h
  · cases h
theorem l_zast : Loc_ (o_zast KC) := by
  intro b k hk pc lo st σ out h1 h2 h3 h
  unfold o_zast at h
  split at h
  · skip
    split at h
    · skip
      exact (hk _ _ _ _ _ h1 (hkv_t (hkv_t (hkv_t h2))) (RO_I h3) h).imp id (fun q => ⟨q.1, Fm_tr (Fm_I (hkv_h (hkv_t (hkv_t h2)))) q.2⟩)
    · cases h
  · cases h
theorem l_last : Loc_ (o_last KC) := by
  intro b k hk pc lo st σ out h1 h2 h3 h
  unfold o_last at h
  split at h
  · skip
    split at h
    · skip
      exact (hk _ _ _ _ _ h1 (hkv_t (hkv_t (hkv_t h2))) (RO_J h3) h).imp id (fun q => ⟨q.1, Fm_tr (Fm_J (hkv_h (hkv_t (hkv_t h2)))) q.2⟩)
    · cases h
  · cases h
theorem l_alen : Loc_ (o_alen KC) := by
  intro b k hk pc lo st σ out h1 h2 h3 h
  unfold o_alen at h
  split at h
  · skip
    split at h
    · skip
      exact hk _ _ _ _ _ h1 (hkv_i (hkv_t h2)) h3 h
    · cases h
  · cases h
theorem l_aald : Loc_ (o_aald KC) := by
  intro b k hk pc lo st σ out h1 h2 h3 h
  unfold o_aald at h
  split at h
  · split at h
    · split at h
      · rename_i hz
        exact hk _ _ _ _ _ h1 (hkv_r ((KC_half _ _ _ hz).trans (hkv_h (hkv_t h2))) (hkv_t (hkv_t h2))) h3 h
      · cases h
    · cases h
  · cases h
theorem l_callS {f : Fn_} {na : Nat} (hf : RspF_ f)  : Loc_ (o_callS f na) := by
  intro b k hk pc lo st σ out h1 h2 h3 h
  unfold o_callS at h
  split at h
  · split at h
    · rename_i hfe
      obtain ⟨a1, a2, a3⟩ := hf b _ _ _ (hkv_s h2 (fun v hv => List.mem_of_mem_take (List.mem_reverse.mp hv))) h3 hfe
      obtain ⟨b1, b2, b3⟩ := hk _ _ _ _ _ h1 (hkv_a a1 (hkv_s h2 (fun v hv => List.mem_of_mem_drop hv))) a2 h
      exact ⟨b1, b2, Fm_tr a3 b3⟩
    · cases h
  · cases h
theorem l_callV {ci : Nat} {f : Fn_} {na : Nat} (hf : RspF_ f)  : Loc_ (o_callV KC ci f na) := by
  intro b k hk pc lo st σ out h1 h2 h3 h
  unfold o_callV at h
  split at h
  · rename_i hd
    have hd2 := hkv_s h2 (fun v hv => List.mem_of_mem_drop (i := na) hv)
    rw [hd] at hd2
    split at h
    · split at h
      · rename_i hfe
        obtain ⟨a1, a2, a3⟩ := hf b _ _ _ (hkv_d hd2 (hkv_s h2 (fun v hv => List.mem_of_mem_take (List.mem_reverse.mp hv)))) h3 hfe
        obtain ⟨b1, b2, b3⟩ := hk _ _ _ _ _ h1 (hkv_a a1 (hkv_t hd2)) a2 h
        exact ⟨b1, b2, Fm_tr a3 b3⟩
      · cases h
    · cases h
  · cases h
theorem l_copy : Loc_ (o_copy KC) := by
  intro b k hk pc lo st σ out h1 h2 h3 h
  unfold o_copy at h
  split at h
  · split at h
    · obtain ⟨q1, q2, q3⟩ := hk _ _ _ _ _ h1 (hkv_t (hkv_t (hkv_t (hkv_t (hkv_t h2))))) (RO_1 h3) h
      refine ⟨q1, q2, Fm_tr (fun o ho => ?_) q3⟩
      refine ⟨?_, rfl, rfl⟩
      funext j
      dsimp only
      rw [if_neg (fun e => ho (by rw [e]; exact hkv_h (hkv_t (hkv_t h2))))]
    · cases h
  · cases h
theorem l_max : Loc_ (o_max) := by
  intro b k hk pc lo st σ out h1 h2 h3 h
  unfold o_max at h
  split at h
  · skip
    split at h
    · skip
      exact hk _ _ _ _ _ h1 (hkv_i (hkv_t (hkv_t h2))) h3 h
    · cases h
  · cases h
theorem l_min : Loc_ (o_min) := by
  intro b k hk pc lo st σ out h1 h2 h3 h
  unfold o_min at h
  split at h
  · skip
    split at h
    · skip
      exact hk _ _ _ _ _ h1 (hkv_i (hkv_t (hkv_t h2))) h3 h
    · cases h
  · cases h
theorem rsp_ev {P : List (Nat × Op_)} (h : All_ (fun _ o => Loc_ o) P) (b : Bool) : ∀ n, Rsp_ b (ev_ P n) := by
  intro n
  induction n with
  | zero => intro pc lo st σ out h1 h2 h3 hh; cases hh
  | succ n ih =>
    intro pc lo st σ out h1 h2 h3 hh
    unfold ev_ at hh
    split at hh
    · rename_i o ho
      exact all_get h ho b _ ih pc lo st σ out h1 h2 h3 hh
    · cases hh
theorem rsp_fn {P : List (Nat × Op_)} {nL : Nat} (h : All_ (fun _ o => Loc_ o) P) : RspF_ (fn_ P nL) := by
  intro b as σ out h1 h2 hf
  obtain ⟨-, n, hn⟩ := fn_ev hf
  refine rsp_ev h b n 0 _ _ _ _ (fun i q hq => ?_) hkv_n h2 hn
  unfold lo0_ at hq
  rw [List.getElem?_append] at hq
  split at hq
  · rw [List.getElem?_map] at hq
    cases ha : as[i]? with
    | none => rw [ha] at hq; cases hq
    | some v =>
      rw [ha] at hq
      have hq : some v = some (Value.ref q) := Option.some.inj hq
      cases hq
      exact h1 q (List.mem_of_getElem? ha)
  · rw [List.getElem?_replicate] at hq
    split at hq <;> cases hq
theorem rsp_0 : RspF_ (fun _ _ => none) := fun b as σ out h1 h2 h => by cases h
