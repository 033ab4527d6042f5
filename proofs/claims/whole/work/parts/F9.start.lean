/-! the first state -/
def ze_ (o i : Nat) : Bool := decide (o = 3) || (decide (o = 4 ∨ o = 32 ∨ o = 143 ∨ o = 181) && decide (i = 14 ∨ i = 15)) || (decide (o = 80 ∨ o = 86 ∨ o = 93) && decide (i = 4)) || (decide (o = 105 ∨ o = 133) && decide (i = 2)) || (decide (o = 219) && decide (i = 47 ∨ i = 56))
def I0_ (σ : St_) : Prop := (∀ o i, ze_ o i = false → σ.1 o i = 0) ∧ (∀ o i, σ.2.1 o i = 0) ∧ (∀ o i, 64 ≤ i → σ.2.2 o i = none) ∧ RO_ σ
def sz0_ : St_ := (fun _ _ => 0, fun _ _ => 0, fun _ _ => none)
theorem i0_z : I0_ sz0_ := ⟨fun _ _ _ => rfl, fun _ _ => rfl, fun _ _ _ => rfl, fun _ _ _ h => by cases h⟩
theorem i0_zr {σ : St_} {n : Nat} (h : I0_ σ) : I0_ (zr_ σ n) := by
  obtain ⟨h1, h2, h3, h4⟩ := h
  refine ⟨fun o i z => ?_, fun o i => ?_, fun o i z => ?_, fun o i z hz => ?_⟩
  · show (if o = n then 0 else σ.1 o i) = 0
    split
    · rfl
    · exact h1 o i z
  · show (if o = n then 0 else σ.2.1 o i) = 0
    split
    · rfl
    · exact h2 o i
  · show (if o = n then none else σ.2.2 o i) = none
    split
    · rfl
    · exact h3 o i z
  · have hz : (if o = n then none else σ.2.2 o i) = some z := hz
    split at hz
    · cases hz
    · exact h4 o i z hz
theorem i0_gz {σ : St_} {n r : Nat} (h : I0_ σ) (hr : n + r < 219 ∧ r ≤ 64) : I0_ (gz_ σ n r) := by
  obtain ⟨h1, h2, h3, h4⟩ := h
  refine ⟨fun o i z => ?_, fun o i => ?_, fun o i z => ?_, fun o i z hz => ?_⟩
  · show (if n ≤ o ∧ o ≤ n + r then 0 else σ.1 o i) = 0
    split
    · rfl
    · exact h1 o i z
  · show (if n ≤ o ∧ o ≤ n + r then 0 else σ.2.1 o i) = 0
    split
    · rfl
    · exact h2 o i
  · show (if n ≤ o ∧ o ≤ n + r then (if o = n ∧ i < r then some (n + 1 + i) else none) else σ.2.2 o i) = none
    split
    · rw [if_neg (by omega)]
    · exact h3 o i z
  · have hz : (if n ≤ o ∧ o ≤ n + r then (if o = n ∧ i < r then some (n + 1 + i) else none) else σ.2.2 o i) = some z := hz
    split at hz
    · split at hz
      · cases hz
        have e1 : cla_ (n + 1 + i) = true := by unfold cla_; exact decide_eq_true (by omega)
        have e2 : cla_ o = true := by unfold cla_; exact decide_eq_true (by omega)
        rw [e1, e2]
      · cases hz
    · exact h4 o i z hz
theorem i0_I {σ : St_} {o i : Nat} {v : Int32} (h : I0_ σ) (hv : ze_ o i = true ∨ v = 0) : I0_ (sI_ σ o i v) := by
  obtain ⟨h1, h2, h3, h4⟩ := h
  refine ⟨fun a j z => ?_, h2, h3, h4⟩
  show (if a = o ∧ j = i then v else σ.1 a j) = 0
  split
  · rename_i c
    rcases hv with hv | hv
    · rw [c.1, c.2, hv] at z
      cases z
    · exact hv
  · exact h1 a j z
theorem i0_R {σ : St_} {o i z : Nat} (h : I0_ σ) (hi : i < 64) (hc : cla_ z = cla_ o) : I0_ (sR_ σ o i (some z)) := by
  obtain ⟨h1, h2, h3, h4⟩ := h
  refine ⟨h1, h2, fun a j q => ?_, fun a j y hy => ?_⟩
  · show (if a = o ∧ j = i then some z else σ.2.2 a j) = none
    rw [if_neg (by omega)]
    exact h3 a j q
  · have hy : (if a = o ∧ j = i then some z else σ.2.2 a j) = some y := hy
    split at hy
    · rename_i c
      cases hy
      rw [c.1, hc]
    · exact h4 a j y hy
set_option maxRecDepth 100000 in
theorem i0_sx_X0_4 {σ : St_} (h : I0_ σ) : I0_ (sx_X0_4 σ) := by
  unfold sx_X0_4
  exact (i0_I (i0_I (i0_I (i0_I (i0_I (i0_I (i0_I (i0_R (i0_zr (i0_R (i0_zr (i0_R (i0_zr (i0_R (i0_zr (i0_R (i0_zr (i0_R (i0_zr (i0_R (i0_gz (i0_R (i0_zr (i0_R (i0_zr (i0_R (i0_zr (i0_R (i0_zr h) (by decide) (by decide))) (by decide) (by decide))) (by decide) (by decide))) (by decide) (by decide)) (by decide)) (by decide) (by decide))) (by decide) (by decide))) (by decide) (by decide))) (by decide) (by decide))) (by decide) (by decide))) (by decide) (by decide))) (by decide) (by decide)) (Or.inr rfl)) (Or.inr rfl)) (Or.inr rfl)) (Or.inl rfl)) (Or.inl rfl)) (Or.inr rfl)) (Or.inr rfl))
set_option maxRecDepth 100000 in
theorem i0_sx_X0_32 {σ : St_} (h : I0_ σ) : I0_ (sx_X0_32 σ) := by
  unfold sx_X0_32
  exact (i0_I (i0_I (i0_I (i0_I (i0_I (i0_I (i0_I (i0_R (i0_zr (i0_R (i0_zr (i0_R (i0_zr (i0_R (i0_zr (i0_R (i0_zr (i0_R (i0_zr (i0_R (i0_gz (i0_R (i0_zr (i0_R (i0_zr (i0_R (i0_zr (i0_R (i0_zr h) (by decide) (by decide))) (by decide) (by decide))) (by decide) (by decide))) (by decide) (by decide)) (by decide)) (by decide) (by decide))) (by decide) (by decide))) (by decide) (by decide))) (by decide) (by decide))) (by decide) (by decide))) (by decide) (by decide))) (by decide) (by decide)) (Or.inr rfl)) (Or.inr rfl)) (Or.inr rfl)) (Or.inl rfl)) (Or.inl rfl)) (Or.inr rfl)) (Or.inr rfl))
set_option maxRecDepth 100000 in
theorem i0_sx_X6_60 {σ : St_} (h : I0_ σ) : I0_ (sx_X6_60 σ) := by
  unfold sx_X6_60
  exact (i0_I (i0_R (i0_zr (i0_R (i0_zr (i0_R (i0_zr (i0_R (i0_zr h) (by decide) (by decide))) (by decide) (by decide))) (by decide) (by decide))) (by decide) (by decide)) (Or.inr rfl))
set_option maxRecDepth 100000 in
theorem i0_sx_X6_65 {σ : St_} (h : I0_ σ) : I0_ (sx_X6_65 σ) := by
  unfold sx_X6_65
  exact (i0_I (i0_R (i0_zr (i0_R (i0_zr (i0_R (i0_zr (i0_R (i0_zr h) (by decide) (by decide))) (by decide) (by decide))) (by decide) (by decide))) (by decide) (by decide)) (Or.inr rfl))
set_option maxRecDepth 100000 in
theorem i0_sx_X9_70 {σ : St_} (h : I0_ σ) : I0_ (sx_X9_70 σ) := by
  unfold sx_X9_70
  exact (i0_I (i0_I (i0_R (i0_zr (i0_R (i0_zr (i0_R (i0_zr (i0_R (i0_zr h) (by decide) (by decide))) (by decide) (by decide))) (by decide) (by decide))) (by decide) (by decide)) (Or.inr rfl)) (Or.inr rfl))
set_option maxRecDepth 100000 in
theorem i0_sx_X9_75 {σ : St_} (h : I0_ σ) : I0_ (sx_X9_75 σ) := by
  unfold sx_X9_75
  exact (i0_I (i0_I (i0_R (i0_zr (i0_R (i0_zr (i0_R (i0_zr (i0_R (i0_zr h) (by decide) (by decide))) (by decide) (by decide))) (by decide) (by decide))) (by decide) (by decide)) (Or.inr rfl)) (Or.inr rfl))
set_option maxRecDepth 100000 in
theorem i0_sx_X5_80 {σ : St_} (h : I0_ σ) : I0_ (sx_X5_80 σ) := by
  unfold sx_X5_80
  exact (i0_R (i0_I (i0_R (i0_zr (i0_R (i0_zr (i0_R (i0_zr (i0_R (i0_zr h) (by decide) (by decide))) (by decide) (by decide))) (by decide) (by decide))) (by decide) (by decide)) (Or.inl rfl)) (by decide) (by decide))
set_option maxRecDepth 100000 in
theorem i0_sx_X4_85 {σ : St_} (h : I0_ σ) : I0_ (sx_X4_85 σ) := by
  unfold sx_X4_85
  exact (i0_R (i0_R (i0_R (i0_zr (i0_R (i0_R (i0_I (i0_R (i0_zr (i0_R (i0_zr (i0_R (i0_zr (i0_R (i0_zr (i0_zr h)) (by decide) (by decide))) (by decide) (by decide))) (by decide) (by decide))) (by decide) (by decide)) (Or.inl rfl)) (by decide) (by decide)) (by decide) (by decide))) (by decide) (by decide)) (by decide) (by decide)) (by decide) (by decide))
set_option maxRecDepth 100000 in
theorem i0_sx_X3_92 {σ : St_} (h : I0_ σ) : I0_ (sx_X3_92 σ) := by
  unfold sx_X3_92
  exact (i0_R (i0_zr (i0_R (i0_R (i0_I (i0_R (i0_zr (i0_R (i0_zr (i0_R (i0_zr (i0_R (i0_zr (i0_zr h)) (by decide) (by decide))) (by decide) (by decide))) (by decide) (by decide))) (by decide) (by decide)) (Or.inl rfl)) (by decide) (by decide)) (by decide) (by decide))) (by decide) (by decide))
set_option maxRecDepth 100000 in
theorem i0_sx_X10_99 {σ : St_} (h : I0_ σ) : I0_ (sx_X10_99 σ) := by
  unfold sx_X10_99
  exact (i0_R (i0_R (i0_zr (i0_R (i0_zr (i0_R (i0_zr (i0_R (i0_zr (i0_R (i0_zr h) (by decide) (by decide))) (by decide) (by decide))) (by decide) (by decide))) (by decide) (by decide))) (by decide) (by decide)) (by decide) (by decide))
set_option maxRecDepth 100000 in
theorem i0_sx_X2_105 {σ : St_} (h : I0_ σ) : I0_ (sx_X2_105 σ) := by
  unfold sx_X2_105
  exact (i0_R (i0_gz (i0_R (i0_gz (i0_I (i0_I (i0_R (i0_zr h) (by decide) (by decide)) (Or.inr rfl)) (Or.inl rfl)) (by decide)) (by decide) (by decide)) (by decide)) (by decide) (by decide))
set_option maxRecDepth 100000 in
theorem i0_sx_X7_129 {σ : St_} (h : I0_ σ) : I0_ (sx_X7_129 σ) := by
  unfold sx_X7_129
  exact (i0_R (i0_R (i0_zr (i0_R (i0_zr (i0_I (i0_R (i0_zr h) (by decide) (by decide)) (Or.inr rfl))) (by decide) (by decide))) (by decide) (by decide)) (by decide) (by decide))
set_option maxRecDepth 100000 in
theorem i0_sx_X1_133 {σ : St_} (h : I0_ σ) : I0_ (sx_X1_133 σ) := by
  unfold sx_X1_133
  exact (i0_R (i0_R (i0_zr (i0_R (i0_zr (i0_R (i0_zr (i0_R (i0_zr (i0_R (i0_zr (i0_I h (Or.inl rfl))) (by decide) (by decide))) (by decide) (by decide))) (by decide) (by decide))) (by decide) (by decide))) (by decide) (by decide)) (by decide) (by decide))
set_option maxRecDepth 100000 in
theorem i0_sx_X0_143 {σ : St_} (h : I0_ σ) : I0_ (sx_X0_143 σ) := by
  unfold sx_X0_143
  exact (i0_I (i0_I (i0_I (i0_I (i0_I (i0_I (i0_I (i0_R (i0_zr (i0_R (i0_zr (i0_R (i0_zr (i0_R (i0_zr (i0_R (i0_zr (i0_R (i0_zr (i0_R (i0_gz (i0_R (i0_zr (i0_R (i0_zr (i0_R (i0_zr (i0_R (i0_zr h) (by decide) (by decide))) (by decide) (by decide))) (by decide) (by decide))) (by decide) (by decide)) (by decide)) (by decide) (by decide))) (by decide) (by decide))) (by decide) (by decide))) (by decide) (by decide))) (by decide) (by decide))) (by decide) (by decide))) (by decide) (by decide)) (Or.inr rfl)) (Or.inr rfl)) (Or.inr rfl)) (Or.inl rfl)) (Or.inl rfl)) (Or.inr rfl)) (Or.inr rfl))
set_option maxRecDepth 100000 in
theorem i0_sx_X6_171 {σ : St_} (h : I0_ σ) : I0_ (sx_X6_171 σ) := by
  unfold sx_X6_171
  exact (i0_I (i0_R (i0_zr (i0_R (i0_zr (i0_R (i0_zr (i0_R (i0_zr h) (by decide) (by decide))) (by decide) (by decide))) (by decide) (by decide))) (by decide) (by decide)) (Or.inr rfl))
set_option maxRecDepth 100000 in
theorem i0_sx_X9_176 {σ : St_} (h : I0_ σ) : I0_ (sx_X9_176 σ) := by
  unfold sx_X9_176
  exact (i0_I (i0_I (i0_R (i0_zr (i0_R (i0_zr (i0_R (i0_zr (i0_R (i0_zr h) (by decide) (by decide))) (by decide) (by decide))) (by decide) (by decide))) (by decide) (by decide)) (Or.inr rfl)) (Or.inr rfl))
set_option maxRecDepth 100000 in
theorem i0_sx_X0_181 {σ : St_} (h : I0_ σ) : I0_ (sx_X0_181 σ) := by
  unfold sx_X0_181
  exact (i0_I (i0_I (i0_I (i0_I (i0_I (i0_I (i0_I (i0_R (i0_zr (i0_R (i0_zr (i0_R (i0_zr (i0_R (i0_zr (i0_R (i0_zr (i0_R (i0_zr (i0_R (i0_gz (i0_R (i0_zr (i0_R (i0_zr (i0_R (i0_zr (i0_R (i0_zr h) (by decide) (by decide))) (by decide) (by decide))) (by decide) (by decide))) (by decide) (by decide)) (by decide)) (by decide) (by decide))) (by decide) (by decide))) (by decide) (by decide))) (by decide) (by decide))) (by decide) (by decide))) (by decide) (by decide))) (by decide) (by decide)) (Or.inr rfl)) (Or.inr rfl)) (Or.inr rfl)) (Or.inl rfl)) (Or.inl rfl)) (Or.inr rfl)) (Or.inr rfl))
set_option maxRecDepth 100000 in
theorem i0_sx_X6_209 {σ : St_} (h : I0_ σ) : I0_ (sx_X6_209 σ) := by
  unfold sx_X6_209
  exact (i0_I (i0_R (i0_zr (i0_R (i0_zr (i0_R (i0_zr (i0_R (i0_zr h) (by decide) (by decide))) (by decide) (by decide))) (by decide) (by decide))) (by decide) (by decide)) (Or.inr rfl))
set_option maxRecDepth 100000 in
theorem i0_sx_X9_214 {σ : St_} (h : I0_ σ) : I0_ (sx_X9_214 σ) := by
  unfold sx_X9_214
  exact (i0_I (i0_I (i0_R (i0_zr (i0_R (i0_zr (i0_R (i0_zr (i0_R (i0_zr h) (by decide) (by decide))) (by decide) (by decide))) (by decide) (by decide))) (by decide) (by decide)) (Or.inr rfl)) (Or.inr rfl))
set_option maxRecDepth 100000 in
theorem i0_sx_X12 {σ : St_} (h : I0_ σ) : I0_ (sx_X12 σ) := by
  unfold sx_X12
  exact (i0_R (i0_zr (i0_I (i0_R (i0_zr (i0_R (i0_zr (i0_R (i0_zr (i0_R (i0_zr (i0_R (i0_zr (i0_I (i0_R (i0_zr (i0_R (i0_zr (i0_R (i0_zr (i0_R (i0_zr (i0_R (i0_zr (i0_R (i0_zr (i0_R (i0_zr (i0_R (i0_zr (i0_R (i0_zr (i0_R (i0_zr (i0_R (i0_zr (i0_R (i0_zr (i0_R (i0_zr (i0_R (i0_zr (i0_R (i0_zr (i0_R (i0_zr (i0_R (i0_zr (i0_R (i0_zr (i0_R (i0_zr (i0_R (i0_zr h) (by decide) (by decide))) (by decide) (by decide))) (by decide) (by decide))) (by decide) (by decide))) (by decide) (by decide))) (by decide) (by decide))) (by decide) (by decide))) (by decide) (by decide))) (by decide) (by decide))) (by decide) (by decide))) (by decide) (by decide))) (by decide) (by decide))) (by decide) (by decide))) (by decide) (by decide))) (by decide) (by decide))) (by decide) (by decide))) (by decide) (by decide))) (by decide) (by decide))) (by decide) (by decide))) (by decide) (by decide)) (Or.inl rfl))) (by decide) (by decide))) (by decide) (by decide))) (by decide) (by decide))) (by decide) (by decide))) (by decide) (by decide)) (Or.inl rfl))) (by decide) (by decide))
set_option maxRecDepth 100000 in
theorem i0_sx_X8_1 {σ : St_} (h : I0_ σ) : I0_ (sx_X8_1 σ) := by
  unfold sx_X8_1
  exact (i0_I (i0_I (i0_I (i0_I (i0_I (i0_I (i0_I (i0_I (i0_I (i0_I (i0_I (i0_I (i0_I (i0_I (i0_I (i0_I (i0_I (i0_I (i0_I (i0_I (i0_R (i0_zr (i0_R (i0_zr h) (by decide) (by decide))) (by decide) (by decide)) (Or.inl rfl)) (Or.inl rfl)) (Or.inl rfl)) (Or.inl rfl)) (Or.inl rfl)) (Or.inl rfl)) (Or.inl rfl)) (Or.inl rfl)) (Or.inl rfl)) (Or.inl rfl)) (Or.inl rfl)) (Or.inl rfl)) (Or.inl rfl)) (Or.inl rfl)) (Or.inl rfl)) (Or.inl rfl)) (Or.inl rfl)) (Or.inl rfl)) (Or.inl rfl)) (Or.inl rfl))
set_option maxRecDepth 100000 in
theorem i0_sx_X11 {σ : St_} (h : I0_ σ) : I0_ (sx_X11 σ) := by
  unfold sx_X11
  exact (i0_I (i0_I (i0_R (i0_sx_X9_214 (i0_zr (i0_R (i0_sx_X6_209 (i0_zr (i0_R (i0_sx_X0_181 (i0_zr (i0_R (i0_sx_X9_176 (i0_zr (i0_R (i0_sx_X6_171 (i0_zr (i0_R (i0_sx_X0_143 (i0_zr (i0_R (i0_zr (i0_R (i0_zr (i0_R (i0_zr (i0_R (i0_zr (i0_R (i0_sx_X1_133 (i0_zr (i0_R (i0_sx_X7_129 (i0_zr (i0_R (i0_sx_X2_105 (i0_zr (i0_R (i0_sx_X10_99 (i0_zr (i0_R (i0_sx_X3_92 (i0_zr (i0_R (i0_sx_X4_85 (i0_zr (i0_R (i0_sx_X5_80 (i0_zr (i0_R (i0_sx_X9_75 (i0_zr (i0_R (i0_sx_X9_70 (i0_zr (i0_R (i0_sx_X6_65 (i0_zr (i0_R (i0_sx_X6_60 (i0_zr (i0_R (i0_sx_X0_32 (i0_zr (i0_R (i0_sx_X0_4 (i0_zr (i0_R (i0_sx_X8_1 (i0_zr h)) (by decide) (by decide)))) (by decide) (by decide)))) (by decide) (by decide)))) (by decide) (by decide)))) (by decide) (by decide)))) (by decide) (by decide)))) (by decide) (by decide)))) (by decide) (by decide)))) (by decide) (by decide)))) (by decide) (by decide)))) (by decide) (by decide)))) (by decide) (by decide)))) (by decide) (by decide)))) (by decide) (by decide))) (by decide) (by decide))) (by decide) (by decide))) (by decide) (by decide))) (by decide) (by decide)))) (by decide) (by decide)))) (by decide) (by decide)))) (by decide) (by decide)))) (by decide) (by decide)))) (by decide) (by decide)))) (by decide) (by decide)) (Or.inr rfl)) (Or.inr rfl))
def st0_ : St_ := zr_ (sx_X12 (zr_ (sx_X11 (zr_ sz0_ 0)) 219)) 246
theorem i0_st0 : I0_ st0_ := i0_zr (i0_sx_X12 (i0_zr (i0_sx_X11 (i0_zr i0_z))))
def chk0_ (o : Nat) : Bool := if (KC.1 o).1 < 13 then (List.range (cN_ (KC.1 o).1)).all (fun i => !(cT_ (KC.1 o).1 i).2.2.2 || decide (st0_.2.2 o i = KC.2 o i)) else if (KC.1 o).1 < 17 then true else (List.range 64).all (fun i => decide (st0_.2.2 o i = KC.2 o i))
theorem chk0_ok : (List.range 247).all chk0_ = true := by decide +kernel
theorem kcR_64 : (List.range 247).all (fun o => decide ((kcR.getD o []).length ≤ 64)) = true := by decide +kernel
theorem KC_64 {o i : Nat} (ho : o < 247) (hi : 64 ≤ i) : KC.2 o i = none := by
  have h := List.all_eq_true.mp kcR_64 o (List.mem_range.mpr ho)
  simp only [decide_eq_true_eq] at h
  show (kcR.getD o []).getD i none = none
  rw [List.getD_eq_getElem?_getD, List.getElem?_eq_none (by omega)]
  rfl
theorem st0_en {E : En_} (hK : E.2.2.2.1 = KC) {o : Nat} (ho : o < 247) : enN_ E st0_ o = ent_ E st0_ o := by
  have h := List.all_eq_true.mp chk0_ok o (List.mem_range.mpr ho)
  unfold chk0_ at h
  unfold enN_ ent_
  rw [hK]
  by_cases c1 : (KC.1 o).1 < 13
  · rw [if_pos c1] at h
    rw [if_pos c1, if_pos c1]
    congr 2
    refine List.map_congr_left (fun i hi => ?_)
    have h2 := List.all_eq_true.mp h i hi
    unfold fvN_ fv_
    rw [hK]
    cases hf : (cT_ (KC.1 o).1 i).2.2.2 with
    | false =>
      simp only [Bool.false_eq_true, if_false]
      generalize cY_ (KC.1 o).1 i = ty
      cases ty <;> rfl
    | true =>
      rw [hf] at h2
      have h2 : decide (st0_.2.2 o i = KC.2 o i) = true := h2
      rw [of_decide_eq_true h2]
      simp only [if_true]
      generalize cY_ (KC.1 o).1 i = ty
      cases ty <;> rfl
  · rw [if_neg c1] at h
    rw [if_neg c1, if_neg c1]
    by_cases c2 : (KC.1 o).1 < 17
    · rw [if_pos c2, if_pos c2]
    · rw [if_neg c2] at h
      have e : ∀ i, st0_.2.2 o i = KC.2 o i := by
        intro i
        by_cases hi : i < 64
        · exact of_decide_eq_true (List.all_eq_true.mp h i (List.mem_range.mpr hi))
        · rw [i0_st0.2.2.1 o i (by omega), KC_64 ho (by omega)]
      simp only [e]
theorem st0_wl {E : En_} (hK : E.2.2.2.1 = KC) (hn : E.2.2.2.2 = 247) : wlN_ E (247, st0_) = wl_ E st0_ := by
  unfold wlN_ wl_
  rw [hn]
  exact List.map_congr_left (fun o ho => by rw [st0_en hK (List.mem_range.mp ho)])
theorem st0_words : (List.range 20).all (fun j => decide (st0_.1 3 j = W_ j)) = true := by decide +kernel
def Bz0_ (i j : Nat) : Nat := if i = 0 then (if j = 2 then 20 else if j = 3 then 8 else 0) else 0
theorem st0_ly : ly_ st0_ = sI_ (sI_ (sI_ (sI_ st0_ 219 0 (nI 0)) 219 21 1) 221 2 20) 221 3 8 := by
  unfold ly_ lay_
  rw [if_pos]
  exact i0_st0.1 219 21 (by decide)
theorem st0_1 {o i : Nat} (h : ze_ o i = false) (h1 : ¬ (o = 219 ∧ i = 0) ∧ ¬ (o = 219 ∧ i = 21) ∧ ¬ (o = 221 ∧ i = 2) ∧ ¬ (o = 221 ∧ i = 3)) : (ly_ st0_).1 o i = 0 := by
  rw [st0_ly, sI_at, if_neg h1.2.2.2, sI_at, if_neg h1.2.2.1, sI_at, if_neg h1.2.1, sI_at, if_neg h1.1]
  exact i0_st0.1 o i h
theorem st0_GI : GI_ st0_ := by
  have Z : ∀ o i, ze_ o i = false → st0_.1 o i = nI 0 := i0_st0.1
  have M : ∀ o i, ze_ o i = false → ¬ (o = 219 ∧ i = 0) ∧ ¬ (o = 219 ∧ i = 21) ∧ ¬ (o = 221 ∧ i = 2) ∧ ¬ (o = 221 ∧ i = 3) → (ly_ st0_).1 o i = nI 0 := fun o i h1 h2 => st0_1 h1 h2
  have bb : BO_ Bz0_ := ⟨⟨by decide, by decide, by decide, by decide, by decide⟩, fun c hc => absurd hc (Nat.not_lt_zero c), fun c hc => absurd hc (Nat.not_lt_zero c)⟩
  have m47 : (ly_ st0_).1 219 47 = st0_.1 219 47 := by rw [st0_ly]; rfl
  have m56 : (ly_ st0_).1 219 56 = st0_.1 219 56 := by rw [st0_ly]; rfl
  refine ⟨⟨4, 32, 60, 65, 70, 75, Bz0_, fun _ _ => 0, 0, 0, fun _ => 0, ⟨⟨Or.inl ⟨rfl, rfl⟩, Or.inl ⟨rfl, rfl⟩, Or.inl ⟨rfl, rfl⟩⟩, by decide +kernel, by decide +kernel, by decide +kernel, by decide +kernel, by decide +kernel, by decide +kernel⟩, ?_, ?_, ?_, ?_⟩, i0_st0.2.2.2⟩
  · refine ⟨⟨Or.inl rfl, by unfold isP; omega, by decide +kernel, by decide +kernel⟩, ⟨⟨⟨Z _ _ (by decide), Z _ _ (by decide), by decide +kernel, by decide +kernel⟩, fun c hc => absurd hc (Nat.not_lt_zero c), fun c hc => absurd hc (Nat.not_lt_zero c)⟩, ⟨Z _ _ (by decide), fun i hi => absurd hi (Nat.not_lt_zero i)⟩, Or.inl (Z _ _ (by decide))⟩, ⟨⟨⟨M _ _ (by decide) (by decide), M _ _ (by decide) (by decide), ?_, ?_⟩, fun c hc => absurd hc (Nat.not_lt_zero c), fun c hc => absurd hc (Nat.not_lt_zero c)⟩, bb⟩, ⟨M _ _ (by decide) (by decide), fun i hi => absurd hi (Nat.not_lt_zero i)⟩, ⟨by omega, fun i hi => absurd hi (Nat.not_lt_zero i)⟩⟩
    · rw [st0_ly]; rfl
    · rw [st0_ly]; rfl
  · exact Or.inl ⟨Z _ _ (by decide), Z _ _ (by decide), M _ _ (by decide) (by decide)⟩
  · exact ⟨⟨by omega, fun i => by show (0 : Nat) < 256; decide⟩, ⟨Z _ _ (by decide), fun i => Z _ _ (by simp [ze_])⟩, M _ _ (by decide) (by decide), fun i => M _ _ (by simp [ze_]) (by omega)⟩
  · refine ⟨fun j hj => of_decide_eq_true (List.all_eq_true.mp st0_words j (List.mem_range.mpr hj)), ?_, ⟨?_, ?_⟩, ?_, ⟨0, by omega, Z _ _ (by decide), M _ _ (by decide) (by decide), fun i hi => absurd hi (Nat.not_lt_zero i)⟩, ⟨0, by omega, Z _ _ (by decide), M _ _ (by decide) (by decide), fun i hi => absurd hi (Nat.not_lt_zero i)⟩, ⟨0, by omega, Z _ _ (by decide), M _ _ (by decide) (by decide), fun i hi => absurd hi (Nat.not_lt_zero i)⟩, ?_, ?_, fun x _ => ⟨0, by omega, Z _ _ (by simp [ze_])⟩⟩
    · exact (Z _ _ (by decide)).trans (M _ _ (by decide) (by decide)).symm
    · exact Or.inl ⟨Z _ _ (by decide), M _ _ (by decide) (by decide)⟩
    · exact Or.inl ⟨Z _ _ (by decide), M _ _ (by decide) (by decide)⟩
    · exact (Z _ _ (by decide)).trans (M _ _ (by decide) (by decide)).symm
    · unfold RN_
      rw [m47]
      decide +kernel
    · unfold RQ_
      rw [m56]
      decide +kernel
