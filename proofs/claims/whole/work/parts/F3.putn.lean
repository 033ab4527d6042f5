section NPUT
variable {l : Launch} {E : En_} {own : String} {cc : ByteArray} {nL : Nat} {ws : List Cond} {R : Room} {ini : Bool} {pc : Nat}
def n_pI (ci f : Nat) : On_ := fun k pc lo st τ => match st with
  | .int x :: .ref q :: r => if ((KC.1 q).1 = ci ∧ q < τ.1) ∧ True then k (pc + 3) lo r (τ.1, sI_ τ.2 q f x) else none
  | _ => none
theorem ns_pI {ci f index : Nat} (hd : decode cc pc = .ok (.putfield index, 3)) (hci : ci < 13) (hf : f < cN_ ci) (hty : cY_ ci f = .int) (hfin : (cT_ ci f).2.2.2 = false) (hws : ∀ w ∈ u_ws (cR_ ci) (cT_ ci) (cN_ ci), w ∈ ws) (hw : Cond.fieldLink own index (cT_ ci f).1 (cT_ ci f).2.1 (cT_ ci f).2.2.1 ∈ ws) : SnN_ l E own cc nL ws R ini pc (n_pI ci f) := by
  intro p e s m args below meth c n0 out ⟨hx, hb, hml, hown, hts, hK, hlk, ⟨hE, hKC, hA0, hXS⟩, hR⟩ hin Q k hrt hk lo st τ h
  obtain ⟨n, σ⟩ := τ
  unfold n_pI at h
  dsimp only at h
  split at h
  · rename_i x q r
    split at h
    · rename_i hq
      have hk1 := hk _ _ _ _ h
      refine ⟨hk1.1, fun H locs ls cl sl hP hS hc hs hl => ?_⟩
      have ht : n ≤ 247 := Nat.le_trans hk1.1 hR.1
      have hkd : (E.2.2.2.1.1 q).1 = ci := by rw [hKC]; exact hq.1.1
      refine va_put (D := E.2.1) (ci := ci) (C := cR_ ci) (T := cT_ ci) (N := cN_ ci) (v := .int x) (A := AN_ E) hx hb hts hws (cY_ ci) (c_ty ci hci) (c_nm ci hci) hown hK hP (wlN_D hE ht) hS q ((wlN_get (τ := (n, σ)) hq.1.2).trans (by rw [enN_obj hkd hci])) (c_cl ci hci) f hf (hts _ hw) (fun _ h9 => h9) hfin (c_ty ci hci f hf) (by rw [hty]; rfl) (by rw [hty]; rfl) (by rw [List.length_map, List.length_range]; exact hf) hd (fun H1 locs1 hP1 _ hS1 => ?_)
      have he : enN_ E (sI_ σ q f x) q = .inr (ci, ((List.range (cN_ ci)).map (fvN_ E ci q σ)).set f (.int x)) := by
        rw [enN_obj hkd hci, ← range_set (f := fvN_ E ci q σ) (g := fvN_ E ci q (sI_ σ q f x)) (k := f) (fun j hj => fvN_nI hj)]
        exact congrArg (fun v => Sum.inr (ci, ((List.range (cN_ ci)).map (fvN_ E ci q σ)).set f v)) ((fvN_I (by rw [hty]; rfl)).trans (by simp [sI_, u2_]))
      rw [wlN_set (σ := σ) hq.1.2 he (fun z hz => enN_nI hz)] at hP1
      exact hk1.2 H1 locs1 ls cl sl hP1 hS1 hc hs hl
    · cases h
  · cases h
def n_pZ (ci f : Nat) : On_ := fun k pc lo st τ => match st with
  | .int x :: .ref q :: r => if ((KC.1 q).1 = ci ∧ q < τ.1) ∧ (x = 0 ∨ x = 1) then k (pc + 3) lo r (τ.1, sI_ τ.2 q f x) else none
  | _ => none
theorem ns_pZ {ci f index : Nat} (hd : decode cc pc = .ok (.putfield index, 3)) (hci : ci < 13) (hf : f < cN_ ci) (hty : cY_ ci f = .boolean) (hfin : (cT_ ci f).2.2.2 = false) (hws : ∀ w ∈ u_ws (cR_ ci) (cT_ ci) (cN_ ci), w ∈ ws) (hw : Cond.fieldLink own index (cT_ ci f).1 (cT_ ci f).2.1 (cT_ ci f).2.2.1 ∈ ws) : SnN_ l E own cc nL ws R ini pc (n_pZ ci f) := by
  intro p e s m args below meth c n0 out ⟨hx, hb, hml, hown, hts, hK, hlk, ⟨hE, hKC, hA0, hXS⟩, hR⟩ hin Q k hrt hk lo st τ h
  obtain ⟨n, σ⟩ := τ
  unfold n_pZ at h
  dsimp only at h
  split at h
  · rename_i x q r
    split at h
    · rename_i hq
      have hk1 := hk _ _ _ _ h
      refine ⟨hk1.1, fun H locs ls cl sl hP hS hc hs hl => ?_⟩
      have ht : n ≤ 247 := Nat.le_trans hk1.1 hR.1
      have hkd : (E.2.2.2.1.1 q).1 = ci := by rw [hKC]; exact hq.1.1
      refine va_put (D := E.2.1) (ci := ci) (C := cR_ ci) (T := cT_ ci) (N := cN_ ci) (v := .int x) (A := AN_ E) hx hb hts hws (cY_ ci) (c_ty ci hci) (c_nm ci hci) hown hK hP (wlN_D hE ht) hS q ((wlN_get (τ := (n, σ)) hq.1.2).trans (by rw [enN_obj hkd hci])) (c_cl ci hci) f hf (hts _ hw) (fun _ h9 => h9) hfin (c_ty ci hci f hf) (by rw [hty]; rcases hq.2 with rfl | rfl <;> decide) (by rw [hty]; rcases hq.2 with rfl | rfl <;> decide) (by rw [List.length_map, List.length_range]; exact hf) hd (fun H1 locs1 hP1 _ hS1 => ?_)
      have he : enN_ E (sI_ σ q f x) q = .inr (ci, ((List.range (cN_ ci)).map (fvN_ E ci q σ)).set f (.int x)) := by
        rw [enN_obj hkd hci, ← range_set (f := fvN_ E ci q σ) (g := fvN_ E ci q (sI_ σ q f x)) (k := f) (fun j hj => fvN_nI hj)]
        exact congrArg (fun v => Sum.inr (ci, ((List.range (cN_ ci)).map (fvN_ E ci q σ)).set f v)) ((fvN_I (by rw [hty]; rfl)).trans (by simp [sI_, u2_]))
      rw [wlN_set (σ := σ) hq.1.2 he (fun z hz => enN_nI hz)] at hP1
      exact hk1.2 H1 locs1 ls cl sl hP1 hS1 hc hs hl
    · cases h
  · cases h
def n_pR (ci f : Nat) : On_ := fun k pc lo st τ => match st with
  | .ref x :: .ref q :: r => if ((KC.1 q).1 = ci ∧ q < τ.1) ∧ True then k (pc + 3) lo r (τ.1, sR_ τ.2 q f (some x)) else none
  | _ => none
theorem ns_pR {ci f index : Nat} (hd : decode cc pc = .ok (.putfield index, 3)) (hci : ci < 13) (hf : f < cN_ ci) (hty : isR_ (cY_ ci f) = true) (hfin : (cT_ ci f).2.2.2 = false) (hws : ∀ w ∈ u_ws (cR_ ci) (cT_ ci) (cN_ ci), w ∈ ws) (hw : Cond.fieldLink own index (cT_ ci f).1 (cT_ ci f).2.1 (cT_ ci f).2.2.1 ∈ ws) : SnN_ l E own cc nL ws R ini pc (n_pR ci f) := by
  intro p e s m args below meth c n0 out ⟨hx, hb, hml, hown, hts, hK, hlk, ⟨hE, hKC, hA0, hXS⟩, hR⟩ hin Q k hrt hk lo st τ h
  obtain ⟨n, σ⟩ := τ
  unfold n_pR at h
  dsimp only at h
  split at h
  · rename_i x q r
    split at h
    · rename_i hq
      have hk1 := hk _ _ _ _ h
      refine ⟨hk1.1, fun H locs ls cl sl hP hS hc hs hl => ?_⟩
      have ht : n ≤ 247 := Nat.le_trans hk1.1 hR.1
      have hkd : (E.2.2.2.1.1 q).1 = ci := by rw [hKC]; exact hq.1.1
      refine va_put (D := E.2.1) (ci := ci) (C := cR_ ci) (T := cT_ ci) (N := cN_ ci) (v := .ref (E.2.2.1 x)) (A := AN_ E) hx hb hts hws (cY_ ci) (c_ty ci hci) (c_nm ci hci) hown hK hP (wlN_D hE ht) hS q ((wlN_get (τ := (n, σ)) hq.1.2).trans (by rw [enN_obj hkd hci])) (c_cl ci hci) f hf (hts _ hw) (fun _ h9 => h9) hfin (c_ty ci hci f hf) (by cases hc9 : cY_ ci f <;> rw [hc9] at hty <;> first | rfl | (cases hty; done)) (by cases hc9 : cY_ ci f <;> rw [hc9] at hty <;> first | rfl | (cases hty; done)) (by rw [List.length_map, List.length_range]; exact hf) hd (fun H1 locs1 hP1 _ hS1 => ?_)
      have he : enN_ E (sR_ σ q f (some x)) q = .inr (ci, ((List.range (cN_ ci)).map (fvN_ E ci q σ)).set f (.ref (E.2.2.1 x))) := by
        rw [enN_obj hkd hci, ← range_set (f := fvN_ E ci q σ) (g := fvN_ E ci q (sR_ σ q f (some x))) (k := f) (fun j hj => fvN_nR hj)]
        exact congrArg (fun v => Sum.inr (ci, ((List.range (cN_ ci)).map (fvN_ E ci q σ)).set f v)) ((fvN_R hty).trans (by simp [sR_, u2_, va_rf]))
      rw [wlN_set (σ := σ) hq.1.2 he (fun z hz => enN_nR hz)] at hP1
      exact hk1.2 H1 locs1 ls cl sl hP1 hS1 hc hs hl
    · cases h
  · cases h
def n_pF (ci f : Nat) : On_ := fun k pc lo st τ => match st with
  | .ref x :: .ref q :: r => if ((KC.1 q).1 = ci ∧ q < τ.1) ∧ True then k (pc + 3) lo r (τ.1, sR_ τ.2 q f (some x)) else none
  | _ => none
theorem ns_pF {ci f index : Nat} (hd : decode cc pc = .ok (.putfield index, 3)) (hci : ci < 13) (hf : f < cN_ ci) (hty : isR_ (cY_ ci f) = true) (hfin : (cT_ ci f).2.2.2 = true) (hdc : (cT_ ci f).1 = own) (hws : ∀ w ∈ u_ws (cR_ ci) (cT_ ci) (cN_ ci), w ∈ ws) (hw : Cond.fieldLink own index (cT_ ci f).1 (cT_ ci f).2.1 (cT_ ci f).2.2.1 ∈ ws) : SnN_ l E own cc nL ws R true pc (n_pF ci f) := by
  intro p e s m args below meth c n0 out ⟨hx, hb, hml, hown, hts, hK, hlk, ⟨hE, hKC, hA0, hXS⟩, hR⟩ hin Q k hrt hk lo st τ h
  obtain ⟨n, σ⟩ := τ
  unfold n_pF at h
  dsimp only at h
  split at h
  · rename_i x q r
    split at h
    · rename_i hq
      have hk1 := hk _ _ _ _ h
      refine ⟨hk1.1, fun H locs ls cl sl hP hS hc hs hl => ?_⟩
      have ht : n ≤ 247 := Nat.le_trans hk1.1 hR.1
      have hkd : (E.2.2.2.1.1 q).1 = ci := by rw [hKC]; exact hq.1.1
      refine va_putF (D := E.2.1) (ci := ci) (C := cR_ ci) (T := cT_ ci) (N := cN_ ci) (v := .ref (E.2.2.1 x)) (A := AN_ E) hx hb hts hws (cY_ ci) (c_ty ci hci) (c_nm ci hci) hown hK hP (wlN_D hE ht) hS q ((wlN_get (τ := (n, σ)) hq.1.2).trans (by rw [enN_obj hkd hci])) (c_cl ci hci) f hf (hts _ hw) (fun _ h9 => h9) hfin (hin rfl) hdc (c_ty ci hci f hf) (by cases hc9 : cY_ ci f <;> rw [hc9] at hty <;> first | rfl | (cases hty; done)) (by cases hc9 : cY_ ci f <;> rw [hc9] at hty <;> first | rfl | (cases hty; done)) (by rw [List.length_map, List.length_range]; exact hf) hd (fun H1 locs1 hP1 _ hS1 => ?_)
      have he : enN_ E (sR_ σ q f (some x)) q = .inr (ci, ((List.range (cN_ ci)).map (fvN_ E ci q σ)).set f (.ref (E.2.2.1 x))) := by
        rw [enN_obj hkd hci, ← range_set (f := fvN_ E ci q σ) (g := fvN_ E ci q (sR_ σ q f (some x))) (k := f) (fun j hj => fvN_nR hj)]
        exact congrArg (fun v => Sum.inr (ci, ((List.range (cN_ ci)).map (fvN_ E ci q σ)).set f v)) ((fvN_R hty).trans (by simp [sR_, u2_, va_rf]))
      rw [wlN_set (σ := σ) hq.1.2 he (fun z hz => enN_nR hz)] at hP1
      exact hk1.2 H1 locs1 ls cl sl hP1 hS1 hc hs hl
    · cases h
  · cases h
def n_gR (ci f : Nat) : On_ := fun k pc lo st τ => match st with
  | .ref q :: r => if (KC.1 q).1 = ci ∧ q < τ.1 then match τ.2.2.2 q f with
    | some z => k (pc + 3) lo (.ref z :: r) τ
    | none => none else none
  | _ => none
theorem ns_gR {ci f index : Nat} (hd : decode cc pc = .ok (.getfield index, 3)) (hci : ci < 13) (hf : f < cN_ ci) (hty : isR_ (cY_ ci f) = true) (hws : ∀ w ∈ u_ws (cR_ ci) (cT_ ci) (cN_ ci), w ∈ ws) (hw : Cond.fieldLink own index (cT_ ci f).1 (cT_ ci f).2.1 (cT_ ci f).2.2.1 ∈ ws) : SnN_ l E own cc nL ws R ini pc (n_gR ci f) := by
  intro p e s m args below meth c n0 out ⟨hx, hb, hml, hown, hts, hK, hlk, ⟨hE, hKC, hA0, hXS⟩, hR⟩ hin Q k hrt hk lo st τ h
  obtain ⟨n, σ⟩ := τ
  unfold n_gR at h
  dsimp only at h
  split at h
  · rename_i q r
    split at h
    · rename_i hq
      split at h
      · rename_i z hz
        have hk1 := hk _ _ _ _ h
        refine ⟨hk1.1, fun H locs ls cl sl hP hS hc hs hl => ?_⟩
        have hkd : (E.2.2.2.1.1 q).1 = ci := by rw [hKC]; exact hq.1
        exact va_get (D := E.2.1) (ci := ci) (C := cR_ ci) (T := cT_ ci) (N := cN_ ci) (v := .ref (E.2.2.1 z)) hx hb hts hws hown hK hP q ((wlN_get (τ := (n, σ)) hq.2).trans (by rw [enN_obj hkd hci])) (c_cl ci hci) f hf (hts _ hw) (fun _ h9 => h9) ((fvN_get hf).trans (by rw [fvN_R hty, hz]; rfl)) hd (hk1.2 H locs ls cl sl hP hS hc hs hl)
      · cases h
    · cases h
  · cases h
def n_iast : On_ := fun k pc lo st τ => match st with
  | .int x :: .int i :: .ref q :: r => if ((KC.1 q).1 = 14 ∧ vpin_ i (KC.1 q).2 = true) ∧ q < τ.1 then k (pc + 1) lo r (τ.1, sI_ τ.2 q i.toNatClampNeg x) else none
  | _ => none
theorem ns_iast (hd : decode cc pc = .ok (.iastore, 1)) : SnN_ l E own cc nL ws R ini pc n_iast := by
  intro p e s m args below meth c n0 out ⟨hx, hb, hml, hown, hts, hK, hlk, ⟨hE, hKC, hA0, hXS⟩, hR⟩ hin Q k hrt hk lo st τ h
  obtain ⟨n, σ⟩ := τ
  unfold n_iast at h
  dsimp only at h
  split at h
  · rename_i x i q r
    split at h
    · rename_i hq
      have hk1 := hk _ _ _ _ h
      refine ⟨hk1.1, fun H locs ls cl sl hP hS hc hs hl => ?_⟩
      have ht : n ≤ 247 := Nat.le_trans hk1.1 hR.1
      have hkd : (E.2.2.2.1.1 q).1 = 14 := by rw [hKC]; exact hq.1.1
      have hln : (E.2.2.2.1.1 q).2 = (KC.1 q).2 := by rw [hKC]
      refine va_iast (A := AN_ E) hx hb hK hP (wlN_D hE ht) hS q 1 ((wlN_get (τ := (n, σ)) hq.2).trans (by rw [enN_int hkd (by omega), hln])) rfl (vpin_t hq.1.2) hd (fun H1 locs1 hP1 _ hS1 => ?_)
      rw [wlN_set (σ := σ) (σ' := sI_ σ q i.toNatClampNeg x) hq.2 (by rw [enN_int hkd (by omega), row_I, hln]) (fun z hz => enN_nI hz)] at hP1
      exact hk1.2 H1 locs1 ls cl sl hP1 hS1 hc hs hl
    · cases h
  · cases h
theorem row_R {σ : St_} {o i : Nat} {x : Option Nat} : (sR_ σ o i x).2.2 o = va_up (σ.2.2 o) i x := by
  funext j
  by_cases c : j = i <;> simp [sR_, u2_, va_up, c]
theorem map_up {α β : Type} (g : α → β) (f : Nat → Option α) (i : Nat) (x : α) : (fun j => (va_up f i (some x) j).map g) = va_up (fun j => (f j).map g) i (some (g x)) := by
  funext j
  by_cases c : j = i <;> simp [va_up, c]
def n_aast (ka kz : Nat) : On_ := fun k pc lo st τ => match st with
  | .ref z :: .int i :: .ref q :: r => if ((KC.1 q).1 = ka ∧ vpin_ i (KC.1 q).2 = true) ∧ q < τ.1 ∧ (KC.1 z).1 = kz ∧ z < τ.1 then k (pc + 1) lo r (τ.1, sR_ τ.2 q i.toNatClampNeg (some z)) else none
  | _ => none
theorem ns_aast_17 (hd : decode cc pc = .ok (.aastore, 1)) : SnN_ l E own cc nL ws R ini pc (n_aast 17 0) := by
  intro p e s m args below meth c n0 out ⟨hx, hb, hml, hown, hts, hK, hlk, ⟨hE, hKC, hA0, hXS⟩, hR⟩ hin Q k hrt hk lo st τ h
  obtain ⟨n, σ⟩ := τ
  unfold n_aast at h
  dsimp only at h
  split at h
  · rename_i z i q r
    split at h
    · rename_i hq
      have hk1 := hk _ _ _ _ h
      refine ⟨hk1.1, fun H locs ls cl sl hP hS hc hs hl => ?_⟩
      have ht : n ≤ 247 := Nat.le_trans hk1.1 hR.1
      have hkd : (E.2.2.2.1.1 q).1 = 17 := by rw [hKC]; exact hq.1.1
      have hkz : (E.2.2.2.1.1 z).1 = 0 := by rw [hKC]; exact hq.2.2.1
      have hln : (E.2.2.2.1.1 q).2 = (KC.1 q).2 := by rw [hKC]
      refine va_astq (A := AN_ E) hx hb hK hP (wlN_D hE ht) hS q 4 z 0 ((wlN_get (τ := (n, σ)) hq.2.1).trans (by rw [enN_ref hkd (by omega), hln])) rfl ((wlN_get (τ := (n, σ)) hq.2.2.2).trans (by rw [enN_obj hkz (by omega)])) (c_cl 0 (by omega)) (vpin_t hq.1.2) hd (fun H1 locs1 hP1 _ hS1 => ?_)
      rw [wlN_set (σ := σ) (σ' := sR_ σ q i.toNatClampNeg (some z)) hq.2.1 (by rw [enN_ref hkd (by omega), row_R, map_up, hln]) (fun y hy => enN_nR hy)] at hP1
      exact hk1.2 H1 locs1 ls cl sl hP1 hS1 hc hs hl
    · cases h
  · cases h
theorem ns_aast_18 (hd : decode cc pc = .ok (.aastore, 1)) : SnN_ l E own cc nL ws R ini pc (n_aast 18 6) := by
  intro p e s m args below meth c n0 out ⟨hx, hb, hml, hown, hts, hK, hlk, ⟨hE, hKC, hA0, hXS⟩, hR⟩ hin Q k hrt hk lo st τ h
  obtain ⟨n, σ⟩ := τ
  unfold n_aast at h
  dsimp only at h
  split at h
  · rename_i z i q r
    split at h
    · rename_i hq
      have hk1 := hk _ _ _ _ h
      refine ⟨hk1.1, fun H locs ls cl sl hP hS hc hs hl => ?_⟩
      have ht : n ≤ 247 := Nat.le_trans hk1.1 hR.1
      have hkd : (E.2.2.2.1.1 q).1 = 18 := by rw [hKC]; exact hq.1.1
      have hkz : (E.2.2.2.1.1 z).1 = 6 := by rw [hKC]; exact hq.2.2.1
      have hln : (E.2.2.2.1.1 q).2 = (KC.1 q).2 := by rw [hKC]
      refine va_astq (A := AN_ E) hx hb hK hP (wlN_D hE ht) hS q 5 z 6 ((wlN_get (τ := (n, σ)) hq.2.1).trans (by rw [enN_ref hkd (by omega), hln])) rfl ((wlN_get (τ := (n, σ)) hq.2.2.2).trans (by rw [enN_obj hkz (by omega)])) (c_cl 6 (by omega)) (vpin_t hq.1.2) hd (fun H1 locs1 hP1 _ hS1 => ?_)
      rw [wlN_set (σ := σ) (σ' := sR_ σ q i.toNatClampNeg (some z)) hq.2.1 (by rw [enN_ref hkd (by omega), row_R, map_up, hln]) (fun y hy => enN_nR hy)] at hP1
      exact hk1.2 H1 locs1 ls cl sl hP1 hS1 hc hs hl
    · cases h
  · cases h
theorem ns_aast_19 (hd : decode cc pc = .ok (.aastore, 1)) : SnN_ l E own cc nL ws R ini pc (n_aast 19 9) := by
  intro p e s m args below meth c n0 out ⟨hx, hb, hml, hown, hts, hK, hlk, ⟨hE, hKC, hA0, hXS⟩, hR⟩ hin Q k hrt hk lo st τ h
  obtain ⟨n, σ⟩ := τ
  unfold n_aast at h
  dsimp only at h
  split at h
  · rename_i z i q r
    split at h
    · rename_i hq
      have hk1 := hk _ _ _ _ h
      refine ⟨hk1.1, fun H locs ls cl sl hP hS hc hs hl => ?_⟩
      have ht : n ≤ 247 := Nat.le_trans hk1.1 hR.1
      have hkd : (E.2.2.2.1.1 q).1 = 19 := by rw [hKC]; exact hq.1.1
      have hkz : (E.2.2.2.1.1 z).1 = 9 := by rw [hKC]; exact hq.2.2.1
      have hln : (E.2.2.2.1.1 q).2 = (KC.1 q).2 := by rw [hKC]
      refine va_astq (A := AN_ E) hx hb hK hP (wlN_D hE ht) hS q 6 z 9 ((wlN_get (τ := (n, σ)) hq.2.1).trans (by rw [enN_ref hkd (by omega), hln])) rfl ((wlN_get (τ := (n, σ)) hq.2.2.2).trans (by rw [enN_obj hkz (by omega)])) (c_cl 9 (by omega)) (vpin_t hq.1.2) hd (fun H1 locs1 hP1 _ hS1 => ?_)
      rw [wlN_set (σ := σ) (σ' := sR_ σ q i.toNatClampNeg (some z)) hq.2.1 (by rw [enN_ref hkd (by omega), row_R, map_up, hln]) (fun y hy => enN_nR hy)] at hP1
      exact hk1.2 H1 locs1 ls cl sl hP1 hS1 hc hs hl
    · cases h
  · cases h
def n_anew (ki : Nat) : On_ := fun k pc lo st τ => match st with
  | .int x :: r => if (KC.1 τ.1).1 = ki ∧ τ.1 < 247 ∧ (¬ x < 0 ∧ x.toNatClampNeg = (KC.1 τ.1).2) ∧ (KC.1 τ.1).2 ≤ 100000 then k (pc + 3) lo (.ref τ.1 :: r) (τ.1 + 1, zr_ τ.2 τ.1) else none
  | _ => none
theorem ns_anew_17 {index : Nat} (hd : decode cc pc = .ok (.anewarray index, 3)) (hcl : Cond.classLink own index "NineReaders$Book" ∈ ws) : SnN_ l E own cc nL ws R ini pc (n_anew 17) := by
  intro p e s m args below meth c n0 out ⟨hx, hb, hml, hown, hts, hK, hlk, ⟨hE, hKC, hA0, hXS⟩, hR⟩ hin Q k hrt hk lo st τ h
  obtain ⟨n, σ⟩ := τ
  unfold n_anew at h
  dsimp only at h
  split at h
  · rename_i x r
    split at h
    · rename_i hq
      have hk1 := hk _ _ _ _ h
      have h1 : n + 1 ≤ out.1 := hk1.1
      refine ⟨Nat.le_of_succ_le h1, fun H locs ls cl sl hP hS hc hs hl => ?_⟩
      have ht : n < 247 := hq.2.1
      have hkd : (E.2.2.2.1.1 n).1 = 17 := by rw [hKC]; exact hq.1
      have hln : (E.2.2.2.1.1 n).2 = (KC.1 n).2 := by rw [hKC]
      have hbig : (KC.1 n).2 ≤ 100000 := hq.2.2.2
      have hlen : x.toNatClampNeg = (KC.1 n).2 := hq.2.2.1.2
      have hc : cl + n0 = n := hc
      refine W_sz (fun hsz => ?_)
      have hlo := sz_lo (τ := (n, σ)) hE (Nat.le_of_lt ht) hA0 (by show n0 ≤ n; omega) hP hS
      have hlo : E.2.2.1 0 + n ≤ H.size := hlo
      have hadn := hE n ht
      have hHs : H.size = E.2.2.1 n := by omega
      refine W.anew (g := F0 m pc ls _) hx hb hown (hts _ hcl) (va_AO.use hXS.1.2.1) rfl hd rfl hq.2.2.1.1 (by omega) (rm_c hc h1 hR.2.1) (by rw [hlen]; exact rm_s hs (sz_arr hq.1 (by omega)) h1 hR.2.2) (fun cA kA comp a1 a2 a3 a4 => ?_)
      have hcA : cA = E.1 17 := by
        obtain ⟨_, _, _, _, _, q4⟩ := (hK.2 4 (E.1 17, .object "NineReaders$Book") rfl).2
        exact Option.some.inj (a1.symm.trans q4)
      subst hcA
      rw [hlen, hHs]
      have hk2 := hk1.2 (H.push { cls := E.1 17, slots := Array.replicate (KC.1 n).2 .null, vm := .none }) locs ls (cl + 1) (sl + (KC.1 n).2) (by
        rw [wlN_push (fun o ho => enN_zr (Nat.ne_of_lt ho))]
        refine (hP.kept (fun j y hy => ?_)).app (fun j y hy => ?_)
        · have := (hP j y hy).lt
          rw [Array.getElem?_push, if_neg (Nat.ne_of_lt this)]
        · have hz : j < 1 := (List.getElem?_eq_some_iff.mp hy).1
          rw [show j = 0 by omega] at hy
          cases hy
          have e1 : enN_ E (zr_ σ n) n = .inl (E.1 17, (KC.1 n).2, .inr (.inr (.inr (.inr (fun i => ((zr_ σ n).2.2 n i).map E.2.2.1))))) := by rw [enN_ref hkd (by omega), hln]
          rw [e1]
          show (H.push _)[E.2.2.1 n]? = some (vp_cell _ _)
          rw [← hHs, arrV_new, vp_cell_q, Array.getElem?_push_size]
          congr 2
          funext i
          simp [zr_, va_rf]) ⟨Nat.le_trans hS.1 (by simp), fun q h2 h3 => by
        rw [Array.getElem?_push, if_neg (Nat.ne_of_lt (Nat.lt_of_lt_of_le h2 hS.1))]
        exact hS.2.1 q h2 h3, hS.2.2⟩ (by show cl + 1 + n0 = n + 1; omega) (by
        show sl + (KC.1 n).2 + slN_ n0 = slN_ n + sz_ n
        rw [sz_arr hq.1 (by omega)]
        have hs : sl + slN_ n0 = slN_ n := hs
        omega) hl
      exact hk2
    · cases h
  · cases h
theorem ns_anew_18 {index : Nat} (hd : decode cc pc = .ok (.anewarray index, 3)) (hcl : Cond.classLink own index "NineReaders$Plan" ∈ ws) : SnN_ l E own cc nL ws R ini pc (n_anew 18) := by
  intro p e s m args below meth c n0 out ⟨hx, hb, hml, hown, hts, hK, hlk, ⟨hE, hKC, hA0, hXS⟩, hR⟩ hin Q k hrt hk lo st τ h
  obtain ⟨n, σ⟩ := τ
  unfold n_anew at h
  dsimp only at h
  split at h
  · rename_i x r
    split at h
    · rename_i hq
      have hk1 := hk _ _ _ _ h
      have h1 : n + 1 ≤ out.1 := hk1.1
      refine ⟨Nat.le_of_succ_le h1, fun H locs ls cl sl hP hS hc hs hl => ?_⟩
      have ht : n < 247 := hq.2.1
      have hkd : (E.2.2.2.1.1 n).1 = 18 := by rw [hKC]; exact hq.1
      have hln : (E.2.2.2.1.1 n).2 = (KC.1 n).2 := by rw [hKC]
      have hbig : (KC.1 n).2 ≤ 100000 := hq.2.2.2
      have hlen : x.toNatClampNeg = (KC.1 n).2 := hq.2.2.1.2
      have hc : cl + n0 = n := hc
      refine W_sz (fun hsz => ?_)
      have hlo := sz_lo (τ := (n, σ)) hE (Nat.le_of_lt ht) hA0 (by show n0 ≤ n; omega) hP hS
      have hlo : E.2.2.1 0 + n ≤ H.size := hlo
      have hadn := hE n ht
      have hHs : H.size = E.2.2.1 n := by omega
      refine W.anew (g := F0 m pc ls _) hx hb hown (hts _ hcl) (va_AO.use hXS.1.2.2.1) rfl hd rfl hq.2.2.1.1 (by omega) (rm_c hc h1 hR.2.1) (by rw [hlen]; exact rm_s hs (sz_arr hq.1 (by omega)) h1 hR.2.2) (fun cA kA comp a1 a2 a3 a4 => ?_)
      have hcA : cA = E.1 18 := by
        obtain ⟨_, _, _, _, _, q4⟩ := (hK.2 5 (E.1 18, .object "NineReaders$Plan") rfl).2
        exact Option.some.inj (a1.symm.trans q4)
      subst hcA
      rw [hlen, hHs]
      have hk2 := hk1.2 (H.push { cls := E.1 18, slots := Array.replicate (KC.1 n).2 .null, vm := .none }) locs ls (cl + 1) (sl + (KC.1 n).2) (by
        rw [wlN_push (fun o ho => enN_zr (Nat.ne_of_lt ho))]
        refine (hP.kept (fun j y hy => ?_)).app (fun j y hy => ?_)
        · have := (hP j y hy).lt
          rw [Array.getElem?_push, if_neg (Nat.ne_of_lt this)]
        · have hz : j < 1 := (List.getElem?_eq_some_iff.mp hy).1
          rw [show j = 0 by omega] at hy
          cases hy
          have e1 : enN_ E (zr_ σ n) n = .inl (E.1 18, (KC.1 n).2, .inr (.inr (.inr (.inr (fun i => ((zr_ σ n).2.2 n i).map E.2.2.1))))) := by rw [enN_ref hkd (by omega), hln]
          rw [e1]
          show (H.push _)[E.2.2.1 n]? = some (vp_cell _ _)
          rw [← hHs, arrV_new, vp_cell_q, Array.getElem?_push_size]
          congr 2
          funext i
          simp [zr_, va_rf]) ⟨Nat.le_trans hS.1 (by simp), fun q h2 h3 => by
        rw [Array.getElem?_push, if_neg (Nat.ne_of_lt (Nat.lt_of_lt_of_le h2 hS.1))]
        exact hS.2.1 q h2 h3, hS.2.2⟩ (by show cl + 1 + n0 = n + 1; omega) (by
        show sl + (KC.1 n).2 + slN_ n0 = slN_ n + sz_ n
        rw [sz_arr hq.1 (by omega)]
        have hs : sl + slN_ n0 = slN_ n := hs
        omega) hl
      exact hk2
    · cases h
  · cases h
theorem ns_anew_19 {index : Nat} (hd : decode cc pc = .ok (.anewarray index, 3)) (hcl : Cond.classLink own index "NineReaders$Sentence" ∈ ws) : SnN_ l E own cc nL ws R ini pc (n_anew 19) := by
  intro p e s m args below meth c n0 out ⟨hx, hb, hml, hown, hts, hK, hlk, ⟨hE, hKC, hA0, hXS⟩, hR⟩ hin Q k hrt hk lo st τ h
  obtain ⟨n, σ⟩ := τ
  unfold n_anew at h
  dsimp only at h
  split at h
  · rename_i x r
    split at h
    · rename_i hq
      have hk1 := hk _ _ _ _ h
      have h1 : n + 1 ≤ out.1 := hk1.1
      refine ⟨Nat.le_of_succ_le h1, fun H locs ls cl sl hP hS hc hs hl => ?_⟩
      have ht : n < 247 := hq.2.1
      have hkd : (E.2.2.2.1.1 n).1 = 19 := by rw [hKC]; exact hq.1
      have hln : (E.2.2.2.1.1 n).2 = (KC.1 n).2 := by rw [hKC]
      have hbig : (KC.1 n).2 ≤ 100000 := hq.2.2.2
      have hlen : x.toNatClampNeg = (KC.1 n).2 := hq.2.2.1.2
      have hc : cl + n0 = n := hc
      refine W_sz (fun hsz => ?_)
      have hlo := sz_lo (τ := (n, σ)) hE (Nat.le_of_lt ht) hA0 (by show n0 ≤ n; omega) hP hS
      have hlo : E.2.2.1 0 + n ≤ H.size := hlo
      have hadn := hE n ht
      have hHs : H.size = E.2.2.1 n := by omega
      refine W.anew (g := F0 m pc ls _) hx hb hown (hts _ hcl) (va_AO.use hXS.1.2.2.2) rfl hd rfl hq.2.2.1.1 (by omega) (rm_c hc h1 hR.2.1) (by rw [hlen]; exact rm_s hs (sz_arr hq.1 (by omega)) h1 hR.2.2) (fun cA kA comp a1 a2 a3 a4 => ?_)
      have hcA : cA = E.1 19 := by
        obtain ⟨_, _, _, _, _, q4⟩ := (hK.2 6 (E.1 19, .object "NineReaders$Sentence") rfl).2
        exact Option.some.inj (a1.symm.trans q4)
      subst hcA
      rw [hlen, hHs]
      have hk2 := hk1.2 (H.push { cls := E.1 19, slots := Array.replicate (KC.1 n).2 .null, vm := .none }) locs ls (cl + 1) (sl + (KC.1 n).2) (by
        rw [wlN_push (fun o ho => enN_zr (Nat.ne_of_lt ho))]
        refine (hP.kept (fun j y hy => ?_)).app (fun j y hy => ?_)
        · have := (hP j y hy).lt
          rw [Array.getElem?_push, if_neg (Nat.ne_of_lt this)]
        · have hz : j < 1 := (List.getElem?_eq_some_iff.mp hy).1
          rw [show j = 0 by omega] at hy
          cases hy
          have e1 : enN_ E (zr_ σ n) n = .inl (E.1 19, (KC.1 n).2, .inr (.inr (.inr (.inr (fun i => ((zr_ σ n).2.2 n i).map E.2.2.1))))) := by rw [enN_ref hkd (by omega), hln]
          rw [e1]
          show (H.push _)[E.2.2.1 n]? = some (vp_cell _ _)
          rw [← hHs, arrV_new, vp_cell_q, Array.getElem?_push_size]
          congr 2
          funext i
          simp [zr_, va_rf]) ⟨Nat.le_trans hS.1 (by simp), fun q h2 h3 => by
        rw [Array.getElem?_push, if_neg (Nat.ne_of_lt (Nat.lt_of_lt_of_le h2 hS.1))]
        exact hS.2.1 q h2 h3, hS.2.2⟩ (by show cl + 1 + n0 = n + 1; omega) (by
        show sl + (KC.1 n).2 + slN_ n0 = slN_ n + sz_ n
        rw [sz_arr hq.1 (by omega)]
        have hs : sl + slN_ n0 = slN_ n := hs
        omega) hl
      exact hk2
    · cases h
  · cases h
end NPUT
