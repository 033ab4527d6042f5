theorem u2_same {α : Type} (f : Nat → Nat → α) (o i : Nat) (x : α) : u2_ f o i x o i = x := by simp [u2_]
theorem u2_row {α : Type} (f : Nat → Nat → α) (o i : Nat) (x : α) {q : Nat} (h : q ≠ o) : u2_ f o i x q = f q := by
  funext j
  simp [u2_, h]
theorem u2_col {α : Type} (f : Nat → Nat → α) (o i : Nat) (x : α) {j : Nat} (h : j ≠ i) : u2_ f o i x o j = f o j := by simp [u2_, h]
theorem fv_congr {E : En_} {ci o : Nat} {σ σ' : St_} (h1 : σ'.1 o = σ.1 o) (h2 : σ'.2.1 o = σ.2.1 o) (h3 : σ'.2.2 o = σ.2.2 o) : fv_ E ci o σ' = fv_ E ci o σ := by
  funext i
  unfold fv_
  rw [h1, h2, h3]
theorem ent_congr {E : En_} {o : Nat} {σ σ' : St_} (h1 : σ'.1 o = σ.1 o) (h2 : σ'.2.1 o = σ.2.1 o) (h3 : σ'.2.2 o = σ.2.2 o) : ent_ E σ' o = ent_ E σ o := by
  unfold ent_
  rw [fv_congr h1 h2 h3, h1, h2]
theorem ent_obj {E : En_} {σ : St_} {o ci : Nat} (h : (E.2.2.2.1.1 o).1 = ci) (hc : ci < 13) : ent_ E σ o = .inr (ci, (List.range (cN_ ci)).map (fv_ E ci o σ)) := by
  unfold ent_
  rw [h, if_pos hc]
theorem ent_int {E : En_} {σ : St_} {o ci : Nat} (h : (E.2.2.2.1.1 o).1 = ci) (hc : ci = 13 ∨ ci = 14 ∨ ci = 16) : ent_ E σ o = .inl (E.1 ci, (E.2.2.2.1.1 o).2, .inl (σ.1 o)) := by
  unfold ent_
  rw [h, if_neg (by omega), if_neg (by omega), if_pos (by omega)]
theorem ent_long {E : En_} {σ : St_} {o : Nat} (h : (E.2.2.2.1.1 o).1 = 15) : ent_ E σ o = .inl (E.1 15, (E.2.2.2.1.1 o).2, .inr (.inl (σ.2.1 o))) := by
  unfold ent_
  rw [h, if_neg (by omega), if_pos rfl]
theorem ent_ref {E : En_} {σ : St_} {o ci : Nat} (h : (E.2.2.2.1.1 o).1 = ci) (hc : 17 ≤ ci) : ent_ E σ o = .inl (E.1 ci, (E.2.2.2.1.1 o).2, .inr (.inr (.inr (.inr (fun i => (E.2.2.2.1.2 o i).map E.2.2.1))))) := by
  unfold ent_
  rw [h, if_neg (by omega), if_neg (by omega), if_neg (by omega)]
theorem range_set {α : Type} {n k : Nat} {f g : Nat → α} (h : ∀ j, j ≠ k → g j = f j) : ((List.range n).map f).set k (g k) = (List.range n).map g := by
  apply List.ext_getElem?
  intro i
  rw [List.getElem?_set, List.length_map, List.length_range, List.getElem?_map, List.getElem?_map]
  by_cases c : k = i
  · subst c
    rw [if_pos rfl]
    by_cases hk : k < n
    · rw [if_pos hk, List.getElem?_range hk]; rfl
    · rw [if_neg hk, List.getElem?_eq_none (by rw [List.length_range]; omega)]; rfl
  · rw [if_neg c]
    by_cases hi : i < n
    · rw [List.getElem?_range hi]
      exact congrArg some (h i (fun z => c z.symm)).symm
    · rw [List.getElem?_eq_none (by rw [List.length_range]; omega)]; rfl
def sI_ (σ : St_) (o i : Nat) (x : Int32) : St_ := (u2_ σ.1 o i x, σ.2)
def sJ_ (σ : St_) (o i : Nat) (x : Int64) : St_ := (σ.1, u2_ σ.2.1 o i x, σ.2.2)
def sR_ (σ : St_) (o i : Nat) (x : Option Nat) : St_ := (σ.1, σ.2.1, u2_ σ.2.2 o i x)
theorem ent_nI {E : En_} {σ : St_} {o i q : Nat} {x : Int32} (h : q ≠ o) : ent_ E (sI_ σ o i x) q = ent_ E σ q := ent_congr (u2_row _ _ _ _ h) rfl rfl
theorem ent_nJ {E : En_} {σ : St_} {o i q : Nat} {x : Int64} (h : q ≠ o) : ent_ E (sJ_ σ o i x) q = ent_ E σ q := ent_congr rfl (u2_row _ _ _ _ h) rfl
theorem ent_nR {E : En_} {σ : St_} {o i q : Nat} {x : Option Nat} (h : q ≠ o) : ent_ E (sR_ σ o i x) q = ent_ E σ q := ent_congr rfl rfl (u2_row _ _ _ _ h)
theorem row_I {σ : St_} {o i : Nat} {x : Int32} : (sI_ σ o i x).1 o = upd (σ.1 o) i x := by
  funext j
  by_cases c : j = i <;> simp [sI_, u2_, upd, c]
theorem row_J {σ : St_} {o i : Nat} {x : Int64} : (sJ_ σ o i x).2.1 o = vp_updL (σ.2.1 o) i x := by
  funext j
  by_cases c : j = i <;> simp [sJ_, u2_, vp_updL, c]
def isI_ (t : FieldType) : Bool := match t with
  | .long => false
  | .object _ => false
  | .array _ => false
  | _ => true
def isR_ (t : FieldType) : Bool := match t with
  | .object _ => true
  | .array _ => true
  | _ => false
theorem fv_I {E : En_} {ci o k : Nat} {σ : St_} (h : isI_ (cY_ ci k) = true) : fv_ E ci o σ k = .int (σ.1 o k) := by
  unfold fv_
  cases hc : cY_ ci k <;> rw [hc] at h <;> first | rfl | (cases h; done)
theorem fv_J {E : En_} {ci o k : Nat} {σ : St_} (h : cY_ ci k = .long) : fv_ E ci o σ k = .long (σ.2.1 o k) := by
  unfold fv_
  rw [h]
theorem fv_R {E : En_} {ci o k : Nat} {σ : St_} (h : isR_ (cY_ ci k) = true) (hf : (cT_ ci k).2.2.2 = false) : fv_ E ci o σ k = va_rf ((σ.2.2 o k).map E.2.2.1) := by
  unfold fv_
  rw [hf]
  cases hc : cY_ ci k <;> rw [hc] at h <;> first | rfl | (cases h; done)
theorem fv_F {E : En_} {ci o k : Nat} {σ : St_} (h : isR_ (cY_ ci k) = true) (hf : (cT_ ci k).2.2.2 = true) : fv_ E ci o σ k = va_rf ((E.2.2.2.1.2 o k).map E.2.2.1) := by
  unfold fv_
  rw [hf]
  cases hc : cY_ ci k <;> rw [hc] at h <;> first | rfl | (cases h; done)
theorem fv_get {E : En_} {ci o k : Nat} {σ : St_} (hk : k < cN_ ci) : ((List.range (cN_ ci)).map (fv_ E ci o σ))[k]? = some (fv_ E ci o σ k) := by
  rw [List.getElem?_map, List.getElem?_range hk]; rfl
theorem fv_nI {E : En_} {ci o k j : Nat} {σ : St_} {x : Int32} (h : j ≠ k) : fv_ E ci o (sI_ σ o k x) j = fv_ E ci o σ j := by
  unfold fv_ sI_
  dsimp only
  rw [u2_col _ _ _ _ h]
theorem fv_nJ {E : En_} {ci o k j : Nat} {σ : St_} {x : Int64} (h : j ≠ k) : fv_ E ci o (sJ_ σ o k x) j = fv_ E ci o σ j := by
  unfold fv_ sJ_
  dsimp only
  rw [u2_col _ _ _ _ h]
theorem fv_nR {E : En_} {ci o k j : Nat} {σ : St_} {x : Option Nat} (h : j ≠ k) : fv_ E ci o (sR_ σ o k x) j = fv_ E ci o σ j := by
  unfold fv_ sR_
  dsimp only
  rw [u2_col _ _ _ _ h]
section HEAP
variable {l : Launch} {E : En_} {own : String} {cc : ByteArray} {nL : Nat} {ret : Option FieldType} {ws : List Cond} {R : Room} {pc : Nat}
def o_gI (K : Sh_) (ci f : Nat) : Op_ := fun k pc lo st σ => match st with
  | .ref q :: r => if (K.1 q).1 = ci then k (pc + 3) lo (.int (σ.1 q f) :: r) σ else none
  | _ => none
theorem s_gI {ci f index : Nat} (hd : decode cc pc = .ok (.getfield index, 3)) (hc : ci < 13) (hf : f < cN_ ci) (hty : isI_ (cY_ ci f) = true) (hin : ∀ w ∈ u_ws (cR_ ci) (cT_ ci) (cN_ ci), w ∈ ws) (hw : Cond.fieldLink own index (cT_ ci f).1 (cT_ ci f).2.1 (cT_ ci f).2.2.1 ∈ ws) : Snd_ l E own cc nL ret ws R pc (o_gI E.2.2.2.1 ci f) := by
  refine ⟨?_, ?_⟩
  · intro k k1 hkk pc lo st σ out
    unfold o_gI
    repeat' split
    all_goals first | exact hkk _ _ _ _ _ | exact id | (intro h; cases h; done) | (simp_all; done)
  intro p e s m args below meth c ⟨hx, hb, hml, hown, hts, hK, hr, hlk, hE⟩ cl sl Q hcs k out hrt hk lo st σ h
  unfold o_gI at h
  split at h
  · rename_i q r
    split at h
    · rename_i hq
      have hq1 := k_lt hE (o := q) (by omega)
      intro H locs ls hP hS hl
      exact va_get (D := E.2.1) (ci := ci) (C := cR_ ci) (T := cT_ ci) (N := cN_ ci) (v := .int (σ.1 q f)) hx hb hts hin hown hK hP q ((wl_get hq1).trans (by rw [ent_obj hq hc])) (c_cl ci hc) f hf (hts _ hw) (fun _ h9 => h9) ((fv_get hf).trans (by rw [fv_I hty])) hd (hk _ _ _ _ h H locs ls hP hS hl)
    · cases h
  · cases h
def o_gJ (K : Sh_) (ci f : Nat) : Op_ := fun k pc lo st σ => match st with
  | .ref q :: r => if (K.1 q).1 = ci then k (pc + 3) lo (.long (σ.2.1 q f) :: r) σ else none
  | _ => none
theorem s_gJ {ci f index : Nat} (hd : decode cc pc = .ok (.getfield index, 3)) (hc : ci < 13) (hf : f < cN_ ci) (hty : cY_ ci f = .long) (hin : ∀ w ∈ u_ws (cR_ ci) (cT_ ci) (cN_ ci), w ∈ ws) (hw : Cond.fieldLink own index (cT_ ci f).1 (cT_ ci f).2.1 (cT_ ci f).2.2.1 ∈ ws) : Snd_ l E own cc nL ret ws R pc (o_gJ E.2.2.2.1 ci f) := by
  refine ⟨?_, ?_⟩
  · intro k k1 hkk pc lo st σ out
    unfold o_gJ
    repeat' split
    all_goals first | exact hkk _ _ _ _ _ | exact id | (intro h; cases h; done) | (simp_all; done)
  intro p e s m args below meth c ⟨hx, hb, hml, hown, hts, hK, hr, hlk, hE⟩ cl sl Q hcs k out hrt hk lo st σ h
  unfold o_gJ at h
  split at h
  · rename_i q r
    split at h
    · rename_i hq
      have hq1 := k_lt hE (o := q) (by omega)
      intro H locs ls hP hS hl
      exact va_get (D := E.2.1) (ci := ci) (C := cR_ ci) (T := cT_ ci) (N := cN_ ci) (v := .long (σ.2.1 q f)) hx hb hts hin hown hK hP q ((wl_get hq1).trans (by rw [ent_obj hq hc])) (c_cl ci hc) f hf (hts _ hw) (fun _ h9 => h9) ((fv_get hf).trans (by rw [fv_J hty])) hd (hk _ _ _ _ h H locs ls hP hS hl)
    · cases h
  · cases h
def o_gR (K : Sh_) (ci f : Nat) : Op_ := fun k pc lo st σ => match st with
  | .ref q :: r => if (K.1 q).1 = ci then match σ.2.2 q f with
    | some z => k (pc + 3) lo (.ref z :: r) σ
    | none => none else none
  | _ => none
theorem s_gR {ci f index : Nat} (hd : decode cc pc = .ok (.getfield index, 3)) (hc : ci < 13) (hf : f < cN_ ci) (hty : isR_ (cY_ ci f) = true) (hfi : (cT_ ci f).2.2.2 = false) (hin : ∀ w ∈ u_ws (cR_ ci) (cT_ ci) (cN_ ci), w ∈ ws) (hw : Cond.fieldLink own index (cT_ ci f).1 (cT_ ci f).2.1 (cT_ ci f).2.2.1 ∈ ws) : Snd_ l E own cc nL ret ws R pc (o_gR E.2.2.2.1 ci f) := by
  refine ⟨?_, ?_⟩
  · intro k k1 hkk pc lo st σ out
    unfold o_gR
    repeat' split
    all_goals first | exact hkk _ _ _ _ _ | exact id | (intro h; cases h; done) | (simp_all; done)
  intro p e s m args below meth c ⟨hx, hb, hml, hown, hts, hK, hr, hlk, hE⟩ cl sl Q hcs k out hrt hk lo st σ h
  unfold o_gR at h
  split at h
  · rename_i q r
    split at h
    · rename_i hq
      split at h
      · rename_i z hz
        have hq1 := k_lt hE (o := q) (by omega)
        intro H locs ls hP hS hl
        exact va_get (D := E.2.1) (ci := ci) (C := cR_ ci) (T := cT_ ci) (N := cN_ ci) (v := .ref (E.2.2.1 z)) hx hb hts hin hown hK hP q ((wl_get hq1).trans (by rw [ent_obj hq hc])) (c_cl ci hc) f hf (hts _ hw) (fun _ h9 => h9) ((fv_get hf).trans (by rw [fv_R hty hfi, hz]; rfl)) hd (hk _ _ _ _ h H locs ls hP hS hl)
      · cases h
    · cases h
  · cases h
def o_gF (K : Sh_) (ci f : Nat) : Op_ := fun k pc lo st σ => match st with
  | .ref q :: r => if (K.1 q).1 = ci then match K.2 q f with
    | some z => k (pc + 3) lo (.ref z :: r) σ
    | none => none else none
  | _ => none
theorem s_gF {ci f index : Nat} (hd : decode cc pc = .ok (.getfield index, 3)) (hc : ci < 13) (hf : f < cN_ ci) (hty : isR_ (cY_ ci f) = true) (hfi : (cT_ ci f).2.2.2 = true) (hin : ∀ w ∈ u_ws (cR_ ci) (cT_ ci) (cN_ ci), w ∈ ws) (hw : Cond.fieldLink own index (cT_ ci f).1 (cT_ ci f).2.1 (cT_ ci f).2.2.1 ∈ ws) : Snd_ l E own cc nL ret ws R pc (o_gF E.2.2.2.1 ci f) := by
  refine ⟨?_, ?_⟩
  · intro k k1 hkk pc lo st σ out
    unfold o_gF
    repeat' split
    all_goals first | exact hkk _ _ _ _ _ | exact id | (intro h; cases h; done) | (simp_all; done)
  intro p e s m args below meth c ⟨hx, hb, hml, hown, hts, hK, hr, hlk, hE⟩ cl sl Q hcs k out hrt hk lo st σ h
  unfold o_gF at h
  split at h
  · rename_i q r
    split at h
    · rename_i hq
      split at h
      · rename_i z hz
        have hq1 := k_lt hE (o := q) (by omega)
        intro H locs ls hP hS hl
        exact va_get (D := E.2.1) (ci := ci) (C := cR_ ci) (T := cT_ ci) (N := cN_ ci) (v := .ref (E.2.2.1 z)) hx hb hts hin hown hK hP q ((wl_get hq1).trans (by rw [ent_obj hq hc])) (c_cl ci hc) f hf (hts _ hw) (fun _ h9 => h9) ((fv_get hf).trans (by rw [fv_F hty hfi, hz]; rfl)) hd (hk _ _ _ _ h H locs ls hP hS hl)
      · cases h
    · cases h
  · cases h
def o_pI (K : Sh_) (ci f : Nat) : Op_ := fun k pc lo st σ => match st with
  | .int x :: .ref q :: r => if (K.1 q).1 = ci then k (pc + 3) lo r (sI_ σ q f x) else none
  | _ => none
theorem s_pI {ci f index : Nat} (hd : decode cc pc = .ok (.putfield index, 3)) (hc : ci < 13) (hf : f < cN_ ci) (hty : cY_ ci f = .int) (hfin : (cT_ ci f).2.2.2 = false) (hin : ∀ w ∈ u_ws (cR_ ci) (cT_ ci) (cN_ ci), w ∈ ws) (hw : Cond.fieldLink own index (cT_ ci f).1 (cT_ ci f).2.1 (cT_ ci f).2.2.1 ∈ ws) : Snd_ l E own cc nL ret ws R pc (o_pI E.2.2.2.1 ci f) := by
  refine ⟨?_, ?_⟩
  · intro k k1 hkk pc lo st σ out
    unfold o_pI
    repeat' split
    all_goals first | exact hkk _ _ _ _ _ | exact id | (intro h; cases h; done) | (simp_all; done)
  intro p e s m args below meth c ⟨hx, hb, hml, hown, hts, hK, hr, hlk, hE⟩ cl sl Q hcs k out hrt hk lo st σ h
  unfold o_pI at h
  split at h
  · rename_i x q r
    split at h
    · rename_i hq
      have hq1 := k_lt hE (o := q) (by omega)
      intro H locs ls hP hS hl
      refine va_put (D := E.2.1) (ci := ci) (C := cR_ ci) (T := cT_ ci) (N := cN_ ci) (v := .int x) (A := A_ E s.heap.size) hx hb hts hin (cY_ ci) (c_ty ci hc) (c_nm ci hc) hown hK hP (wl_D hE σ _) hS q ((wl_get hq1).trans (by rw [ent_obj hq hc])) (c_cl ci hc) f hf (hts _ hw) (fun _ h9 => h9) hfin (c_ty ci hc f hf) (by rw [hty]; rfl) (by rw [hty]; rfl) (by rw [List.length_map, List.length_range]; exact hf) hd (fun H1 locs1 hP1 _ hS1 => ?_)
      have he : ent_ E (sI_ σ q f x) q = .inr (ci, ((List.range (cN_ ci)).map (fv_ E ci q σ)).set f (.int x)) := by
        rw [ent_obj hq hc, ← range_set (f := fv_ E ci q σ) (g := fv_ E ci q (sI_ σ q f x)) (k := f) (fun j hj => fv_nI hj)]
        exact congrArg (fun v => Sum.inr (ci, ((List.range (cN_ ci)).map (fv_ E ci q σ)).set f v)) ((fv_I (by rw [hty]; rfl)).trans (by simp [sI_, sJ_, sR_, u2_, va_rf]))
      rw [wl_set hq1 he (fun z hz => ent_nI hz)] at hP1
      exact hk _ _ _ _ h H1 locs1 ls hP1 hS1 hl
    · cases h
  · cases h
def o_pZ (K : Sh_) (ci f : Nat) : Op_ := fun k pc lo st σ => match st with
  | .int x :: .ref q :: r => if (K.1 q).1 = ci ∧ (x = 0 ∨ x = 1) then k (pc + 3) lo r (sI_ σ q f x) else none
  | _ => none
theorem s_pZ {ci f index : Nat} (hd : decode cc pc = .ok (.putfield index, 3)) (hc : ci < 13) (hf : f < cN_ ci) (hty : cY_ ci f = .boolean) (hfin : (cT_ ci f).2.2.2 = false) (hin : ∀ w ∈ u_ws (cR_ ci) (cT_ ci) (cN_ ci), w ∈ ws) (hw : Cond.fieldLink own index (cT_ ci f).1 (cT_ ci f).2.1 (cT_ ci f).2.2.1 ∈ ws) : Snd_ l E own cc nL ret ws R pc (o_pZ E.2.2.2.1 ci f) := by
  refine ⟨?_, ?_⟩
  · intro k k1 hkk pc lo st σ out
    unfold o_pZ
    repeat' split
    all_goals first | exact hkk _ _ _ _ _ | exact id | (intro h; cases h; done) | (simp_all; done)
  intro p e s m args below meth c ⟨hx, hb, hml, hown, hts, hK, hr, hlk, hE⟩ cl sl Q hcs k out hrt hk lo st σ h
  unfold o_pZ at h
  split at h
  · rename_i x q r
    split at h
    · rename_i hq
      have hq1 := k_lt hE (o := q) (by omega)
      intro H locs ls hP hS hl
      refine va_put (D := E.2.1) (ci := ci) (C := cR_ ci) (T := cT_ ci) (N := cN_ ci) (v := .int x) (A := A_ E s.heap.size) hx hb hts hin (cY_ ci) (c_ty ci hc) (c_nm ci hc) hown hK hP (wl_D hE σ _) hS q ((wl_get hq1).trans (by rw [ent_obj hq.1 hc])) (c_cl ci hc) f hf (hts _ hw) (fun _ h9 => h9) hfin (c_ty ci hc f hf) (by rw [hty]; rcases hq.2 with rfl | rfl <;> decide) (by rw [hty]; rcases hq.2 with rfl | rfl <;> decide) (by rw [List.length_map, List.length_range]; exact hf) hd (fun H1 locs1 hP1 _ hS1 => ?_)
      have he : ent_ E (sI_ σ q f x) q = .inr (ci, ((List.range (cN_ ci)).map (fv_ E ci q σ)).set f (.int x)) := by
        rw [ent_obj hq.1 hc, ← range_set (f := fv_ E ci q σ) (g := fv_ E ci q (sI_ σ q f x)) (k := f) (fun j hj => fv_nI hj)]
        exact congrArg (fun v => Sum.inr (ci, ((List.range (cN_ ci)).map (fv_ E ci q σ)).set f v)) ((fv_I (by rw [hty]; rfl)).trans (by simp [sI_, sJ_, sR_, u2_, va_rf]))
      rw [wl_set hq1 he (fun z hz => ent_nI hz)] at hP1
      exact hk _ _ _ _ h H1 locs1 ls hP1 hS1 hl
    · cases h
  · cases h
def o_pJ (K : Sh_) (ci f : Nat) : Op_ := fun k pc lo st σ => match st with
  | .long x :: .ref q :: r => if (K.1 q).1 = ci then k (pc + 3) lo r (sJ_ σ q f x) else none
  | _ => none
theorem s_pJ {ci f index : Nat} (hd : decode cc pc = .ok (.putfield index, 3)) (hc : ci < 13) (hf : f < cN_ ci) (hty : cY_ ci f = .long) (hfin : (cT_ ci f).2.2.2 = false) (hin : ∀ w ∈ u_ws (cR_ ci) (cT_ ci) (cN_ ci), w ∈ ws) (hw : Cond.fieldLink own index (cT_ ci f).1 (cT_ ci f).2.1 (cT_ ci f).2.2.1 ∈ ws) : Snd_ l E own cc nL ret ws R pc (o_pJ E.2.2.2.1 ci f) := by
  refine ⟨?_, ?_⟩
  · intro k k1 hkk pc lo st σ out
    unfold o_pJ
    repeat' split
    all_goals first | exact hkk _ _ _ _ _ | exact id | (intro h; cases h; done) | (simp_all; done)
  intro p e s m args below meth c ⟨hx, hb, hml, hown, hts, hK, hr, hlk, hE⟩ cl sl Q hcs k out hrt hk lo st σ h
  unfold o_pJ at h
  split at h
  · rename_i x q r
    split at h
    · rename_i hq
      have hq1 := k_lt hE (o := q) (by omega)
      intro H locs ls hP hS hl
      refine va_put (D := E.2.1) (ci := ci) (C := cR_ ci) (T := cT_ ci) (N := cN_ ci) (v := .long x) (A := A_ E s.heap.size) hx hb hts hin (cY_ ci) (c_ty ci hc) (c_nm ci hc) hown hK hP (wl_D hE σ _) hS q ((wl_get hq1).trans (by rw [ent_obj hq hc])) (c_cl ci hc) f hf (hts _ hw) (fun _ h9 => h9) hfin (c_ty ci hc f hf) (by rw [hty]; rfl) (by rw [hty]; rfl) (by rw [List.length_map, List.length_range]; exact hf) hd (fun H1 locs1 hP1 _ hS1 => ?_)
      have he : ent_ E (sJ_ σ q f x) q = .inr (ci, ((List.range (cN_ ci)).map (fv_ E ci q σ)).set f (.long x)) := by
        rw [ent_obj hq hc, ← range_set (f := fv_ E ci q σ) (g := fv_ E ci q (sJ_ σ q f x)) (k := f) (fun j hj => fv_nJ hj)]
        exact congrArg (fun v => Sum.inr (ci, ((List.range (cN_ ci)).map (fv_ E ci q σ)).set f v)) ((fv_J hty).trans (by simp [sI_, sJ_, sR_, u2_, va_rf]))
      rw [wl_set hq1 he (fun z hz => ent_nJ hz)] at hP1
      exact hk _ _ _ _ h H1 locs1 ls hP1 hS1 hl
    · cases h
  · cases h
def o_pR (K : Sh_) (ci f : Nat) : Op_ := fun k pc lo st σ => match st with
  | .ref x :: .ref q :: r => if (K.1 q).1 = ci then k (pc + 3) lo r (sR_ σ q f (some x)) else none
  | _ => none
theorem s_pR {ci f index : Nat} (hd : decode cc pc = .ok (.putfield index, 3)) (hc : ci < 13) (hf : f < cN_ ci) (hty : isR_ (cY_ ci f) = true) (hfin : (cT_ ci f).2.2.2 = false) (hin : ∀ w ∈ u_ws (cR_ ci) (cT_ ci) (cN_ ci), w ∈ ws) (hw : Cond.fieldLink own index (cT_ ci f).1 (cT_ ci f).2.1 (cT_ ci f).2.2.1 ∈ ws) : Snd_ l E own cc nL ret ws R pc (o_pR E.2.2.2.1 ci f) := by
  refine ⟨?_, ?_⟩
  · intro k k1 hkk pc lo st σ out
    unfold o_pR
    repeat' split
    all_goals first | exact hkk _ _ _ _ _ | exact id | (intro h; cases h; done) | (simp_all; done)
  intro p e s m args below meth c ⟨hx, hb, hml, hown, hts, hK, hr, hlk, hE⟩ cl sl Q hcs k out hrt hk lo st σ h
  unfold o_pR at h
  split at h
  · rename_i x q r
    split at h
    · rename_i hq
      have hq1 := k_lt hE (o := q) (by omega)
      intro H locs ls hP hS hl
      refine va_put (D := E.2.1) (ci := ci) (C := cR_ ci) (T := cT_ ci) (N := cN_ ci) (v := .ref (E.2.2.1 x)) (A := A_ E s.heap.size) hx hb hts hin (cY_ ci) (c_ty ci hc) (c_nm ci hc) hown hK hP (wl_D hE σ _) hS q ((wl_get hq1).trans (by rw [ent_obj hq hc])) (c_cl ci hc) f hf (hts _ hw) (fun _ h9 => h9) hfin (c_ty ci hc f hf) (by cases hc9 : cY_ ci f <;> rw [hc9] at hty <;> first | rfl | (cases hty; done)) (by cases hc9 : cY_ ci f <;> rw [hc9] at hty <;> first | rfl | (cases hty; done)) (by rw [List.length_map, List.length_range]; exact hf) hd (fun H1 locs1 hP1 _ hS1 => ?_)
      have he : ent_ E (sR_ σ q f (some x)) q = .inr (ci, ((List.range (cN_ ci)).map (fv_ E ci q σ)).set f (.ref (E.2.2.1 x))) := by
        rw [ent_obj hq hc, ← range_set (f := fv_ E ci q σ) (g := fv_ E ci q (sR_ σ q f (some x))) (k := f) (fun j hj => fv_nR hj)]
        exact congrArg (fun v => Sum.inr (ci, ((List.range (cN_ ci)).map (fv_ E ci q σ)).set f v)) ((fv_R hty hfin).trans (by simp [sI_, sJ_, sR_, u2_, va_rf]))
      rw [wl_set hq1 he (fun z hz => ent_nR hz)] at hP1
      exact hk _ _ _ _ h H1 locs1 ls hP1 hS1 hl
    · cases h
  · cases h
/-- the index is in range -/
def vpin_ (i : Int32) (n : Nat) : Bool := decide (¬ (i < 0 ∨ n ≤ i.toNatClampNeg))
theorem vpin_t {i : Int32} {n : Nat} (h : vpin_ i n = true) : vp_in i n := (of_decide_eq_true h : ¬ (i < 0 ∨ n ≤ i.toNatClampNeg))
def o_iald (K : Sh_) : Op_ := fun k pc lo st σ => match st with
  | .int i :: .ref q :: r => if (K.1 q).1 = 14 ∧ vpin_ i (K.1 q).2 = true then k (pc + 1) lo (.int (σ.1 q i.toNatClampNeg) :: r) σ else none
  | _ => none
theorem s_iald (hd : decode cc pc = .ok (.iaload, 1)) : Snd_ l E own cc nL ret ws R pc (o_iald E.2.2.2.1) := by
  refine ⟨?_, ?_⟩
  · intro k k1 hkk pc lo st σ out
    unfold o_iald
    repeat' split
    all_goals first | exact hkk _ _ _ _ _ | exact id | (intro h; cases h; done) | (simp_all; done)
  intro p e s m args below meth c ⟨hx, hb, hml, hown, hts, hK, hr, hlk, hE⟩ cl sl Q hcs k out hrt hk lo st σ h
  unfold o_iald at h
  split at h
  · rename_i i q r
    split at h
    · rename_i hq
      have hq1 := k_lt hE (o := q) (by omega)
      intro H locs ls hP hS hl
      exact va_iald hx hb hK hP q 1 ((wl_get hq1).trans (by rw [ent_int hq.1 (by omega)])) rfl (vpin_t hq.2) hd (hk _ _ _ _ h H locs ls hP hS hl)
    · cases h
  · cases h
def o_bald (K : Sh_) : Op_ := fun k pc lo st σ => match st with
  | .int i :: .ref q :: r => if (K.1 q).1 = 13 ∧ vpin_ i (K.1 q).2 = true then k (pc + 1) lo (.int (σ.1 q i.toNatClampNeg) :: r) σ else none
  | _ => none
theorem s_bald (hd : decode cc pc = .ok (.baload, 1)) : Snd_ l E own cc nL ret ws R pc (o_bald E.2.2.2.1) := by
  refine ⟨?_, ?_⟩
  · intro k k1 hkk pc lo st σ out
    unfold o_bald
    repeat' split
    all_goals first | exact hkk _ _ _ _ _ | exact id | (intro h; cases h; done) | (simp_all; done)
  intro p e s m args below meth c ⟨hx, hb, hml, hown, hts, hK, hr, hlk, hE⟩ cl sl Q hcs k out hrt hk lo st σ h
  unfold o_bald at h
  split at h
  · rename_i i q r
    split at h
    · rename_i hq
      have hq1 := k_lt hE (o := q) (by omega)
      intro H locs ls hP hS hl
      exact va_bald hx hb hK hP q 0 ((wl_get hq1).trans (by rw [ent_int hq.1 (by omega)])) rfl (vpin_t hq.2) hd (hk _ _ _ _ h H locs ls hP hS hl)
    · cases h
  · cases h
def o_zald (K : Sh_) : Op_ := fun k pc lo st σ => match st with
  | .int i :: .ref q :: r => if (K.1 q).1 = 16 ∧ vpin_ i (K.1 q).2 = true then k (pc + 1) lo (.int (σ.1 q i.toNatClampNeg) :: r) σ else none
  | _ => none
theorem s_zald (hd : decode cc pc = .ok (.baload, 1)) : Snd_ l E own cc nL ret ws R pc (o_zald E.2.2.2.1) := by
  refine ⟨?_, ?_⟩
  · intro k k1 hkk pc lo st σ out
    unfold o_zald
    repeat' split
    all_goals first | exact hkk _ _ _ _ _ | exact id | (intro h; cases h; done) | (simp_all; done)
  intro p e s m args below meth c ⟨hx, hb, hml, hown, hts, hK, hr, hlk, hE⟩ cl sl Q hcs k out hrt hk lo st σ h
  unfold o_zald at h
  split at h
  · rename_i i q r
    split at h
    · rename_i hq
      have hq1 := k_lt hE (o := q) (by omega)
      intro H locs ls hP hS hl
      exact va_zald hx hb hK hP q 3 ((wl_get hq1).trans (by rw [ent_int hq.1 (by omega)])) rfl (vpin_t hq.2) hd (hk _ _ _ _ h H locs ls hP hS hl)
    · cases h
  · cases h
def o_lald (K : Sh_) : Op_ := fun k pc lo st σ => match st with
  | .int i :: .ref q :: r => if (K.1 q).1 = 15 ∧ vpin_ i (K.1 q).2 = true then k (pc + 1) lo (.long (σ.2.1 q i.toNatClampNeg) :: r) σ else none
  | _ => none
theorem s_lald (hd : decode cc pc = .ok (.laload, 1)) : Snd_ l E own cc nL ret ws R pc (o_lald E.2.2.2.1) := by
  refine ⟨?_, ?_⟩
  · intro k k1 hkk pc lo st σ out
    unfold o_lald
    repeat' split
    all_goals first | exact hkk _ _ _ _ _ | exact id | (intro h; cases h; done) | (simp_all; done)
  intro p e s m args below meth c ⟨hx, hb, hml, hown, hts, hK, hr, hlk, hE⟩ cl sl Q hcs k out hrt hk lo st σ h
  unfold o_lald at h
  split at h
  · rename_i i q r
    split at h
    · rename_i hq
      have hq1 := k_lt hE (o := q) (by omega)
      intro H locs ls hP hS hl
      exact va_lald hx hb hK hP q 2 ((wl_get hq1).trans (by rw [ent_long hq.1])) rfl (vpin_t hq.2) hd (hk _ _ _ _ h H locs ls hP hS hl)
    · cases h
  · cases h
def o_iast (K : Sh_) : Op_ := fun k pc lo st σ => match st with
  | .int x :: .int i :: .ref q :: r => if (K.1 q).1 = 14 ∧ vpin_ i (K.1 q).2 = true then k (pc + 1) lo r (sI_ σ q i.toNatClampNeg x) else none
  | _ => none
theorem s_iast (hd : decode cc pc = .ok (.iastore, 1)) : Snd_ l E own cc nL ret ws R pc (o_iast E.2.2.2.1) := by
  refine ⟨?_, ?_⟩
  · intro k k1 hkk pc lo st σ out
    unfold o_iast
    repeat' split
    all_goals first | exact hkk _ _ _ _ _ | exact id | (intro h; cases h; done) | (simp_all; done)
  intro p e s m args below meth c ⟨hx, hb, hml, hown, hts, hK, hr, hlk, hE⟩ cl sl Q hcs k out hrt hk lo st σ h
  unfold o_iast at h
  split at h
  · rename_i x i q r
    split at h
    · rename_i hq
      have hq1 := k_lt hE (o := q) (by omega)
      intro H locs ls hP hS hl
      refine va_iast (A := A_ E s.heap.size) hx hb hK hP (wl_D hE σ _) hS q 1 ((wl_get hq1).trans (by rw [ent_int hq.1 (by omega)])) rfl (vpin_t hq.2) hd (fun H1 locs1 hP1 _ hS1 => ?_)
      rw [wl_set (σ' := sI_ σ q i.toNatClampNeg x) hq1 (by rw [ent_int hq.1 (by omega), row_I]) (fun z hz => ent_nI hz)] at hP1
      exact hk _ _ _ _ h H1 locs1 ls hP1 hS1 hl
    · cases h
  · cases h
def o_bast (K : Sh_) : Op_ := fun k pc lo st σ => match st with
  | .int x :: .int i :: .ref q :: r => if (K.1 q).1 = 13 ∧ vpin_ i (K.1 q).2 = true then k (pc + 1) lo r (sI_ σ q i.toNatClampNeg (vp_nar .byte x)) else none
  | _ => none
theorem s_bast (hd : decode cc pc = .ok (.bastore, 1)) : Snd_ l E own cc nL ret ws R pc (o_bast E.2.2.2.1) := by
  refine ⟨?_, ?_⟩
  · intro k k1 hkk pc lo st σ out
    unfold o_bast
    repeat' split
    all_goals first | exact hkk _ _ _ _ _ | exact id | (intro h; cases h; done) | (simp_all; done)
  intro p e s m args below meth c ⟨hx, hb, hml, hown, hts, hK, hr, hlk, hE⟩ cl sl Q hcs k out hrt hk lo st σ h
  unfold o_bast at h
  split at h
  · rename_i x i q r
    split at h
    · rename_i hq
      have hq1 := k_lt hE (o := q) (by omega)
      intro H locs ls hP hS hl
      refine va_bast (A := A_ E s.heap.size) hx hb hK hP (wl_D hE σ _) hS q 0 ((wl_get hq1).trans (by rw [ent_int hq.1 (by omega)])) rfl (vpin_t hq.2) hd (fun H1 locs1 hP1 _ hS1 => ?_)
      rw [wl_set (σ' := sI_ σ q i.toNatClampNeg (vp_nar .byte x)) hq1 (by rw [ent_int hq.1 (by omega), row_I]) (fun z hz => ent_nI hz)] at hP1
      exact hk _ _ _ _ h H1 locs1 ls hP1 hS1 hl
    · cases h
  · cases h
def o_zast (K : Sh_) : Op_ := fun k pc lo st σ => match st with
  | .int x :: .int i :: .ref q :: r => if (K.1 q).1 = 16 ∧ vpin_ i (K.1 q).2 = true then k (pc + 1) lo r (sI_ σ q i.toNatClampNeg (vp_nar .boolean x)) else none
  | _ => none
theorem s_zast (hd : decode cc pc = .ok (.bastore, 1)) : Snd_ l E own cc nL ret ws R pc (o_zast E.2.2.2.1) := by
  refine ⟨?_, ?_⟩
  · intro k k1 hkk pc lo st σ out
    unfold o_zast
    repeat' split
    all_goals first | exact hkk _ _ _ _ _ | exact id | (intro h; cases h; done) | (simp_all; done)
  intro p e s m args below meth c ⟨hx, hb, hml, hown, hts, hK, hr, hlk, hE⟩ cl sl Q hcs k out hrt hk lo st σ h
  unfold o_zast at h
  split at h
  · rename_i x i q r
    split at h
    · rename_i hq
      have hq1 := k_lt hE (o := q) (by omega)
      intro H locs ls hP hS hl
      refine va_zast (A := A_ E s.heap.size) hx hb hK hP (wl_D hE σ _) hS q 3 ((wl_get hq1).trans (by rw [ent_int hq.1 (by omega)])) rfl (vpin_t hq.2) hd (fun H1 locs1 hP1 _ hS1 => ?_)
      rw [wl_set (σ' := sI_ σ q i.toNatClampNeg (vp_nar .boolean x)) hq1 (by rw [ent_int hq.1 (by omega), row_I]) (fun z hz => ent_nI hz)] at hP1
      exact hk _ _ _ _ h H1 locs1 ls hP1 hS1 hl
    · cases h
  · cases h
def o_last (K : Sh_) : Op_ := fun k pc lo st σ => match st with
  | .long x :: .int i :: .ref q :: r => if (K.1 q).1 = 15 ∧ vpin_ i (K.1 q).2 = true then k (pc + 1) lo r (sJ_ σ q i.toNatClampNeg x) else none
  | _ => none
theorem s_last (hd : decode cc pc = .ok (.lastore, 1)) : Snd_ l E own cc nL ret ws R pc (o_last E.2.2.2.1) := by
  refine ⟨?_, ?_⟩
  · intro k k1 hkk pc lo st σ out
    unfold o_last
    repeat' split
    all_goals first | exact hkk _ _ _ _ _ | exact id | (intro h; cases h; done) | (simp_all; done)
  intro p e s m args below meth c ⟨hx, hb, hml, hown, hts, hK, hr, hlk, hE⟩ cl sl Q hcs k out hrt hk lo st σ h
  unfold o_last at h
  split at h
  · rename_i x i q r
    split at h
    · rename_i hq
      have hq1 := k_lt hE (o := q) (by omega)
      intro H locs ls hP hS hl
      refine va_last (A := A_ E s.heap.size) hx hb hK hP (wl_D hE σ _) hS q 2 ((wl_get hq1).trans (by rw [ent_long hq.1])) rfl (vpin_t hq.2) hd (fun H1 locs1 hP1 _ hS1 => ?_)
      rw [wl_set (σ' := sJ_ σ q i.toNatClampNeg x) hq1 (by rw [ent_long hq.1, row_J]) (fun z hz => ent_nJ hz)] at hP1
      exact hk _ _ _ _ h H1 locs1 ls hP1 hS1 hl
    · cases h
  · cases h
def o_alen (K : Sh_) : Op_ := fun k pc lo st σ => match st with
  | .ref q :: r => if (K.1 q).1 = 14 then k (pc + 1) lo (.int (Int32.ofNat (K.1 q).2) :: r) σ else none
  | _ => none
theorem s_alen (hd : decode cc pc = .ok (.arraylength, 1)) : Snd_ l E own cc nL ret ws R pc (o_alen E.2.2.2.1) := by
  refine ⟨?_, ?_⟩
  · intro k k1 hkk pc lo st σ out
    unfold o_alen
    repeat' split
    all_goals first | exact hkk _ _ _ _ _ | exact id | (intro h; cases h; done) | (simp_all; done)
  intro p e s m args below meth c ⟨hx, hb, hml, hown, hts, hK, hr, hlk, hE⟩ cl sl Q hcs k out hrt hk lo st σ h
  unfold o_alen at h
  split at h
  · rename_i q r
    split at h
    · rename_i hq
      have hq1 := k_lt hE (o := q) (by omega)
      intro H locs ls hP hS hl
      exact va_alen (ty := .int) (x := ((E.2.2.2.1.1 q).2, .inl (σ.1 q))) hx hb hK hP q 1 ((wl_get hq1).trans (by rw [ent_int hq (by omega)])) rfl rfl hd (hk _ _ _ _ h H locs ls hP hS hl)
    · cases h
  · cases h
def o_aald (K : Sh_) : Op_ := fun k pc lo st σ => match st with
  | .int i :: .ref q :: r => if (17 ≤ (K.1 q).1 ∧ (K.1 q).1 ≤ 20) ∧ vpin_ i (K.1 q).2 = true then match K.2 q i.toNatClampNeg with
    | some z => k (pc + 1) lo (.ref z :: r) σ
    | none => none else none
  | _ => none
theorem s_aald (hd : decode cc pc = .ok (.aaload, 1)) : Snd_ l E own cc nL ret ws R pc (o_aald E.2.2.2.1) := by
  refine ⟨?_, ?_⟩
  · intro k k1 hkk pc lo st σ out
    unfold o_aald
    repeat' split
    all_goals first | exact hkk _ _ _ _ _ | exact id | (intro h; cases h; done) | (simp_all; done)
  intro p e s m args below meth c ⟨hx, hb, hml, hown, hts, hK, hr, hlk, hE⟩ cl sl Q hcs k out hrt hk lo st σ h
  unfold o_aald at h
  split at h
  · rename_i i q r
    split at h
    · rename_i hq
      split at h
      · rename_i z hz
        have hq1 := k_lt hE (o := q) (by omega)
        intro H locs ls hP hS hl
        have hz2 : va_rf ((E.2.2.2.1.2 q i.toNatClampNeg).map E.2.2.1) = .ref (E.2.2.1 z) := by rw [hz]; rfl
        have kk := hk _ _ _ _ h H locs ls hP hS hl
        rcases (show (E.2.2.2.1.1 q).1 = 17 ∨ (E.2.2.2.1.1 q).1 = 18 ∨ (E.2.2.2.1.1 q).1 = 19 ∨ (E.2.2.2.1.1 q).1 = 20 by omega) with g | g | g | g
        · refine va_aldq hx hb hK hP q 4 ((wl_get hq1).trans (by rw [ent_ref g (by omega)])) rfl (vpin_t hq.2) hd ?_
          rw [hz2]
          exact kk
        · refine va_aldq hx hb hK hP q 5 ((wl_get hq1).trans (by rw [ent_ref g (by omega)])) rfl (vpin_t hq.2) hd ?_
          rw [hz2]
          exact kk
        · refine va_aldq hx hb hK hP q 6 ((wl_get hq1).trans (by rw [ent_ref g (by omega)])) rfl (vpin_t hq.2) hd ?_
          rw [hz2]
          exact kk
        · have hin := vpin_t hq.2
          have hlt : i.toNatClampNeg < (E.2.2.2.1.1 q).2 := Nat.not_le.mp fun q => hin (Or.inr q)
          have ha : (wl_ E σ)[q]? = some (E.2.2.1 q, .inl (E.1 20, (E.2.2.2.1.1 q).2, .inr (.inr (.inr (.inr (fun i => (E.2.2.2.1.2 q i).map E.2.2.1)))))) := (wl_get hq1).trans (by rw [ent_ref g (by omega)])
          have ht : (tys_ E)[7]? = some (E.1 20, .array .int) := rfl
          exact W.aald (v := .ref (E.2.2.1 z)) (ty := .array .int) hx hb (hP q _ ha) ((hK.2 7 _ ht).1 _ (fun j => va_rf ((E.2.2.2.1.2 q j).map E.2.2.1))) rfl (fun q => by cases q) (by show ¬ (i < 0 ∨ (arrV _ _ _).slots.size ≤ _); rw [arrV_size]; exact hin) (by show (arrV _ _ _).slots[_]? = _; rw [arrV_read _ _ hlt, hz2]) rfl rfl hd kk
      · cases h
    · cases h
  · cases h
end HEAP
