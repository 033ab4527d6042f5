/-! the relation of the two whole states -/
/-- what lay makes of a state, thrown put back -/
def lay_ (μ : St_) : St_ := if μ.1 219 21 = 0 then sI_ (sI_ (sI_ μ 219 21 1) 221 2 20) 221 3 8 else μ
def ly_ (μ : St_) : St_ := lay_ (sI_ μ 219 0 (nI 0))
theorem m_lay0 (μ : St_) : f_X12_lay KC [.ref 219] μ = some (none, lay_ μ) := by
  refine z_X12_lay (e_X12_lay_0 ?_)
  unfold lay_
  refine br_c (fun z => ⟨by decide, by decide, ?_⟩) (fun z => ?_)
  · rw [if_pos z]
    rfl
  · rw [if_neg z]
theorem LY_ly (μ : St_) : LY_ μ (ly_ μ) := m_lay0 _
/-- the other row-wise frame: rows, and cells of rows -/
def rrC (F : Nat → Prop) (o i : Nat) : Prop := o = 3 ∨ (¬ F 1 ∧ o = 1 ∧ i = 9) ∨ (¬ F 9 ∧ 142 ≤ o ∧ o ≤ 218) ∨ (¬ F 2 ∧ o = 0 ∧ i = 19) ∨ (¬ F 3 ∧ ((o = 105 ∧ i = 1) ∨ o = 106)) ∨ (¬ F 4 ∧ ((o = 99 ∧ i = 1) ∨ o = 100)) ∨ (¬ F 5 ∧ ((o = 129 ∧ i = 1) ∨ o = 130)) ∨ (¬ F 6 ∧ o = 105 ∧ i = 2) ∨ (¬ F 7 ∧ o = 133 ∧ i = 2) ∨ (¬ F 8 ∧ o = 91)
def rrM (F : Nat → Prop) (o i : Nat) : Prop := (¬ F 1 ∧ o = 219 ∧ i = 10) ∨ (¬ F 9 ∧ (o = 223 ∨ o = 227)) ∨ (¬ F 2 ∧ o = 219 ∧ i = 31) ∨ (¬ F 3 ∧ ((o = 219 ∧ i = 44) ∨ o = 238)) ∨ (¬ F 4 ∧ ((o = 219 ∧ i = 40) ∨ o = 236)) ∨ (¬ F 5 ∧ ((o = 219 ∧ i = 53) ∨ o = 241)) ∨ (¬ F 6 ∧ o = 219 ∧ i = 47) ∨ (¬ F 7 ∧ o = 219 ∧ i = 56)
def R91_ (σ : St_) : Prop := ∀ x, x < 16 → ∃ y, y < 16 ∧ σ.1 91 x = nI y
def RR_ (σ μ : St_) : Prop := (∀ j, j < 20 → σ.1 3 j = W_ j) ∧ σ.1 1 9 = μ.1 219 10 ∧ (KE_ σ μ 0 ∧ KE_ σ μ 1) ∧ σ.1 0 19 = μ.1 219 31 ∧ RC_ σ μ ∧ RB_ σ μ ∧ RH_ σ μ ∧ RN_ σ μ ∧ RQ_ σ μ ∧ R91_ σ
theorem RR_k {σ μ σ' μ' : St_} (F : Nat → Prop) (h : RR_ σ μ) (hc : ∀ o i, rrC F o i → σ'.1 o i = σ.1 o i) (hm : ∀ o i, rrM F o i → μ'.1 o i = μ.1 o i) (hj : ¬ F 9 → ∀ i, μ'.2.1 226 i = μ.2.1 226 i) (n1 : F 1 → σ'.1 1 9 = μ'.1 219 10) (n2 : F 2 → σ'.1 0 19 = μ'.1 219 31) (n3 : F 3 → RC_ σ' μ') (n4 : F 4 → RB_ σ' μ') (n5 : F 5 → RH_ σ' μ') (n6 : F 6 → RN_ σ' μ') (n7 : F 7 → RQ_ σ' μ') (n8 : F 8 → R91_ σ') (n9 : F 9 → KE_ σ' μ' 0 ∧ KE_ σ' μ' 1) : RR_ σ' μ' := by
  obtain ⟨a0, a1, ⟨a9, a9'⟩, a2, a3, a4, a5, a6, a7, a8⟩ := h
  refine ⟨fun j hj => by rw [hc 3 j (Or.inl rfl)]; exact a0 j hj, ?_, ?_, ?_, ?_, ?_, ?_, ?_, ?_, ?_⟩
  · by_cases e : F 1
    · exact n1 e
    · rw [hc 1 9 (by unfold rrC; simp [e]), hm 219 10 (by unfold rrM; simp [e])]
      exact a1
  · by_cases e : F 9
    · exact n9 e
    · have kc : ∀ o, 142 ≤ o → o ≤ 218 → σ'.1 o = σ.1 o := fun o o1 o2 => by
        funext i
        exact hc o i (by unfold rrC; simp [e, o1, o2])
      have km : ∀ o i, (o = 223 ∨ o = 227) → μ'.1 o i = μ.1 o i := fun o i ho => hm o i (by unfold rrM; simp [e, ho])
      exact ⟨KE_cg (by omega) a9 (fun o o1 o2 => kc o (by omega) (by omega)) (by rw [kc 142 (by omega) (by omega)]) (fun i _ => km _ _ (Or.inl rfl)) (fun i _ => hj e _) (km _ _ (Or.inr rfl)), KE_cg (by omega) a9' (fun o o1 o2 => kc o (by omega) (by omega)) (by rw [kc 142 (by omega) (by omega)]) (fun i _ => km _ _ (Or.inl rfl)) (fun i _ => hj e _) (km _ _ (Or.inr rfl))⟩
  · by_cases e : F 2
    · exact n2 e
    · rw [hc 0 19 (by unfold rrC; simp [e]), hm 219 31 (by unfold rrM; simp [e])]
      exact a2
  · by_cases e : F 3
    · exact n3 e
    · obtain ⟨N, q1, q2, q3, q4⟩ := a3
      exact ⟨N, q1, by rw [hc 105 1 (by unfold rrC; simp [e])]; exact q2, by rw [hm 219 44 (by unfold rrM; simp [e])]; exact q3, fun i hi => by rw [hc 106 i (by unfold rrC; simp [e]), hm 238 i (by unfold rrM; simp [e])]; exact q4 i hi⟩
  · by_cases e : F 4
    · exact n4 e
    · obtain ⟨N, q1, q2, q3, q4⟩ := a4
      exact ⟨N, q1, by rw [hc 99 1 (by unfold rrC; simp [e])]; exact q2, by rw [hm 219 40 (by unfold rrM; simp [e])]; exact q3, fun i hi => by rw [hc 100 i (by unfold rrC; simp [e]), hm 236 i (by unfold rrM; simp [e])]; exact q4 i hi⟩
  · by_cases e : F 5
    · exact n5 e
    · obtain ⟨N, q1, q2, q3, q4⟩ := a5
      exact ⟨N, q1, by rw [hc 129 1 (by unfold rrC; simp [e])]; exact q2, by rw [hm 219 53 (by unfold rrM; simp [e])]; exact q3, fun i hi => by rw [hc 130 i (by unfold rrC; simp [e]), hm 241 i (by unfold rrM; simp [e])]; exact q4 i hi⟩
  · by_cases e : F 6
    · exact n6 e
    · unfold RN_
      rw [hc 105 2 (by unfold rrC; simp [e]), hm 219 47 (by unfold rrM; simp [e])]
      exact a6
  · by_cases e : F 7
    · exact n7 e
    · unfold RQ_
      rw [hc 133 2 (by unfold rrC; simp [e]), hm 219 56 (by unfold rrM; simp [e])]
      exact a7
  · by_cases e : F 8
    · exact n8 e
    · intro x hx
      rw [hc 91 x (by unfold rrC; simp [e])]
      exact a8 x hx
theorem TA_k {σ μ σ' μ' : St_} {n : Nat} {t : Nat → Nat} (h : TA_ σ μ n t) (h1 : σ'.1 1 2 = σ.1 1 2) (h2 : σ'.1 2 = σ.1 2) (h3 : μ'.1 219 2 = μ.1 219 2) (h4 : μ'.1 220 = μ.1 220) : TA_ σ' μ' n t := by
  obtain ⟨a1, ⟨a2, a3⟩, a4, a5⟩ := h
  exact ⟨a1, ⟨h1.trans a2, fun i => by rw [h2]; exact a3 i⟩, h3.trans a4, fun i => by rw [h4]; exact a5 i⟩
theorem SE_k {σ μ σ' μ' : St_} {s : Nat} {B : Nat → Nat → Nat} (h : SE_ σ μ s 221 0 B) (h1 : ∀ o, s ≤ o → o ≤ s + 4 → σ'.1 o = σ.1 o) (h2 : ∀ i, 800 ≤ i → μ'.1 221 i = μ.1 221 i) : SE_ σ' μ' s 221 0 B := by
  rcases h with ⟨e1, e0, e2⟩ | ⟨Q, V, N, O, D, n1, hv, hE, ⟨hpc, h5'⟩, m1, m2, m3⟩
  · exact Or.inl ⟨by rw [h1 s (by omega) (by omega)]; exact e1, by rw [h1 s (by omega) (by omega)]; exact e0, by rw [h2 _ (by omega)]; exact e2⟩
  · exact Or.inr ⟨Q, V, N, O, D, n1, hv, hE, ⟨PC_cg hpc h1, by rw [h1 s (by omega) (by omega)]; exact h5'⟩, by rw [h2 _ (by omega)]; exact m1, by rw [h2 _ (by omega)]; exact m2, fun j i hj hi => by rw [h2 _ (by omega)]; exact m3 j i hj hi⟩
/-- the RUN of now, if nothing that it looks at has changed -/
theorem RU_k {σ σ' : St_} {b a : Nat} {B P : Nat → Nat → Nat} (h : RU_ σ b B P a) (h1 : σ'.1 0 18 = σ.1 0 18) (h2 : σ'.2.2 80 9 = σ.2.2 80 9) (h3 : ∀ o, 81 ≤ o → o ≤ 84 → σ'.1 o = σ.1 o) (h4 : σ'.1 80 4 = σ.1 80 4) (h5 : σ'.1 80 5 = σ.1 80 5) : RU_ σ' b B P a := by
  rcases h with h | ⟨h, k1, k2, k3, k4⟩
  · exact Or.inl (h1.trans h)
  · exact Or.inr ⟨h1.trans h, h2.trans k1, CK_cg k2 (h3 81 (by omega) (by omega)) (h3 82 (by omega) (by omega)) (h3 83 (by omega) (by omega)) (h3 84 (by omega) (by omega)), h4.trans k3, h5.trans k4⟩
theorem NOW_k {σ μ σ' μ' : St_} {b p a : Nat} {B P : Nat → Nat → Nat} (h : NOW_ σ μ b p B P a) (r12 : σ'.2.2 0 12 = σ.2.2 0 12) (r14 : σ'.2.2 0 14 = σ.2.2 0 14) (hb : ∀ o, b ≤ o → o ≤ b + 27 → σ'.1 o = σ.1 o) (hp : ∀ o, p ≤ o → o ≤ p + 4 → σ'.1 o = σ.1 o) (hr : RU_ σ' b B P a) (hm : ∀ i, i < 800 → μ'.1 221 i = μ.1 221 i) (hj : ∀ i, μ'.2.1 224 i = μ.2.1 224 i) : NOW_ σ' μ' b p B P a := by
  obtain ⟨⟨a1, a2, a3, a4⟩, ⟨a5, a6, a7⟩, a8, a9, a10⟩ := h
  have hb16 := BO_c a8.2
  have ha := a10.1
  exact ⟨⟨a1, a2, r12.trans a3, r14.trans a4⟩, ⟨CB_row a1 a5 hb a8.2, PC_cg a6 hp, hr⟩, ⟨MB_cg a8.1 (fun i hi => hm _ (by unfold rM_ at hi; omega)) (fun i _ => hj _), a8.2⟩, ⟨by rw [hm _ (by omega)]; exact a9.1, fun i hi => by
    obtain ⟨q1, q2, q3, q4⟩ := a9.2 i hi
    exact ⟨by rw [hm _ (by omega)]; exact q1, by rw [hm _ (by omega)]; exact q2, by rw [hm _ (by omega)]; exact q3, by rw [hm _ (by omega)]; exact q4⟩⟩, a10⟩
/-- the objects that are of now, and the spare ones -/
def OB_ (σ : St_) (b b' p p' s s' : Nat) : Prop := ((b = 4 ∧ b' = 32 ∨ b = 32 ∧ b' = 4) ∧ (p = 60 ∧ p' = 65 ∨ p = 65 ∧ p' = 60) ∧ (s = 70 ∧ s' = 75 ∨ s = 75 ∧ s' = 70)) ∧ σ.2.2 0 12 = some b ∧ σ.2.2 0 13 = some b' ∧ σ.2.2 0 14 = some p ∧ σ.2.2 0 15 = some p' ∧ σ.2.2 0 16 = some s ∧ σ.2.2 0 17 = some s'
def Gp_ (σ μ : St_) (b b' p p' s s' : Nat) (B P : Nat → Nat → Nat) (a n : Nat) (t : Nat → Nat) : Prop := OB_ σ b b' p p' s s' ∧ NOW_ σ μ b p B P a ∧ SE_ σ μ s 221 0 B ∧ TA_ σ μ n t ∧ RR_ σ μ
def G_r (σ μ : St_) : Prop := ∃ b b' p p' s s' B P a n t, Gp_ σ μ b b' p p' s s' B P a n t
theorem OB_k {σ σ' : St_} {b b' p p' s s' : Nat} (h : OB_ σ b b' p p' s s') (hr : ∀ i, 12 ≤ i → i ≤ 17 → σ'.2.2 0 i = σ.2.2 0 i) : OB_ σ' b b' p p' s s' := by
  obtain ⟨a0, a1, a2, a3, a4, a5, a6⟩ := h
  exact ⟨a0, by rw [hr 12 (by omega) (by omega)]; exact a1, by rw [hr 13 (by omega) (by omega)]; exact a2, by rw [hr 14 (by omega) (by omega)]; exact a3, by rw [hr 15 (by omega) (by omega)]; exact a4, by rw [hr 16 (by omega) (by omega)]; exact a5, by rw [hr 17 (by omega) (by omega)]; exact a6⟩
theorem OB_is {σ : St_} {b b' p p' s s' : Nat} (h : OB_ σ b b' p p' s s') : (isB b ∧ isB b') ∧ (isP p ∧ isP p') ∧ (isS s ∧ isS s') ∧ (b < 143 ∧ p < 143 ∧ s < 143) := by
  unfold isB isP isS
  have := h.1
  omega
/-- only what the relation looks at counts on the reference's side -/
theorem Gp_m {σ μ μ' : St_} {b b' p p' s s' : Nat} {B P : Nat → Nat → Nat} {a n : Nat} {t : Nat → Nat} (h : Gp_ σ μ b b' p p' s s' B P a n t) (h1 : ∀ o i, ¬ (o = 219 ∧ i = 0) → μ'.1 o i = μ.1 o i) (h2 : μ'.2.1 = μ.2.1) : Gp_ σ μ' b b' p p' s s' B P a n t := by
  obtain ⟨a1, a2, a3, a4, a5⟩ := h
  have hr : RU_ σ b B P a := a2.2.1.2.2
  exact ⟨a1, NOW_k a2 rfl rfl (fun _ _ _ => rfl) (fun _ _ _ => rfl) hr (fun i _ => h1 _ _ (by omega)) (fun i => by rw [h2]), SE_k a3 (fun _ _ _ => rfl) (fun i _ => h1 _ _ (by omega)), TA_k a4 rfl rfl (h1 _ _ (by omega)) (by funext i; exact h1 _ _ (by omega)), RR_k (fun _ => False) a5 (fun _ _ _ => rfl) (fun o i hh => h1 o i (by unfold rrM at hh; simp only [not_false_eq_true, true_and] at hh; omega)) (fun _ i => by rw [h2]) (fun z => z.elim) (fun z => z.elim) (fun z => z.elim) (fun z => z.elim) (fun z => z.elim) (fun z => z.elim) (fun z => z.elim) (fun z => z.elim) (fun z => z.elim)⟩
/-- behind a call that has laid -/
theorem ly_laid {μ : St_} (h : ¬ μ.1 219 21 = 0) : ly_ μ = sI_ μ 219 0 (nI 0) := by
  unfold ly_ lay_
  rw [if_neg (by rw [sI_at, if_neg (by omega)]; exact h)]
theorem ly_21 (μ : St_) : ¬ (ly_ μ).1 219 21 = 0 := by
  unfold ly_ lay_
  by_cases h : (sI_ μ 219 0 (nI 0)).1 219 21 = 0
  · rw [if_pos h, sI_row _ _ _ _ (by decide), sI_row _ _ _ _ (by decide), sI_at, if_pos ⟨rfl, rfl⟩]
    decide
  · rw [if_neg h]
    exact h
theorem G_laid {σ μ : St_} (h : G_r σ μ) (h2 : ¬ μ.1 219 21 = 0) : G_r σ (ly_ μ) := by
  obtain ⟨b, b', p, p', s, s', B, P, a, n, t, h⟩ := h
  refine ⟨b, b', p, p', s, s', B, P, a, n, t, Gp_m h (fun o i ho => ?_) ?_⟩
  · rw [ly_laid h2, sI_at, if_neg ho]
  · rw [ly_laid h2]
    rfl
/-- a change that lay does not meet -/
theorem ly_at (μ : St_) (o i : Nat) : (ly_ μ).1 o i = if o = 219 ∧ i = 0 then nI 0 else if μ.1 219 21 = 0 ∧ (o = 219 ∧ i = 21) then 1 else if μ.1 219 21 = 0 ∧ (o = 221 ∧ i = 2) then 20 else if μ.1 219 21 = 0 ∧ (o = 221 ∧ i = 3) then 8 else μ.1 o i := by
  have e : (sI_ μ 219 0 (nI 0)).1 219 21 = μ.1 219 21 := by rw [sI_at, if_neg (by omega)]
  unfold ly_ lay_
  rw [e]
  by_cases h : μ.1 219 21 = 0
  · rw [if_pos h]
    simp only [sI_at, h, true_and]
    by_cases h1 : o = 219 ∧ i = 0
    · obtain ⟨rfl, rfl⟩ := h1
      simp
    · by_cases h2 : o = 219 ∧ i = 21
      · obtain ⟨rfl, rfl⟩ := h2
        simp
      · by_cases h3 : o = 221 ∧ i = 2
        · obtain ⟨rfl, rfl⟩ := h3
          simp
        · by_cases h4 : o = 221 ∧ i = 3
          · obtain ⟨rfl, rfl⟩ := h4
            simp
          · simp [h1, h2, h3, h4]
  · rw [if_neg h]
    simp only [sI_at, h, false_and, if_false]
theorem ly_2 (μ : St_) : (ly_ μ).2 = μ.2 := by
  unfold ly_ lay_
  split <;> rfl
theorem ly_same {μ μ' : St_} (h21 : μ'.1 219 21 = μ.1 219 21) {o i : Nat} (h : μ'.1 o i = μ.1 o i) : (ly_ μ').1 o i = (ly_ μ).1 o i := by
  rw [ly_at, ly_at, h21, h]
theorem ly_out (μ : St_) {o i : Nat} (h1 : ¬ (o = 219 ∧ (i = 0 ∨ i = 21))) (h2 : o ≠ 221) : (ly_ μ).1 o i = μ.1 o i := by
  rw [ly_at, if_neg (by omega), if_neg (by omega), if_neg (by omega), if_neg (by omega)]
