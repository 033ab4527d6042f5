/-! a step and a node more; a ONE that asks -/
def VN_ (μ : St_) (V : Nat → Nat → Nat) (N : Nat) : Prop := μ.1 219 59 = nI N ∧ ∀ i, i < N → μ.1 245 (4 * i) = nI (V i 0) ∧ μ.1 245 (4 * i + 1) = nI (V i 1) ∧ μ.1 245 (4 * i + 2) = nI (V i 2) ∧ μ.1 245 (4 * i + 3) = nI (V i 3)
def SI_ (σ μ : St_) (s b n : Nat) (t : Nat → Nat) (L κ pl e c : Nat) (B Q V : Nat → Nat → Nat) (N O w : Nat) : Prop := PR_ σ μ n t L κ pl e c ∧ (CB_ σ b B ∧ RX_ μ B) ∧ (PC_ σ s Q N ∧ σ.1 s 5 = nI O) ∧ VN_ μ V N ∧ μ.1 219 60 = nI O ∧ μ.1 219 61 = nI w
def QV_ (B : Nat → Nat → Nat) (q : Nat → Nat) : Prop := (15 ≤ q 0 ∧ q 0 ≤ 23) ∧ (18 ≤ q 0 → (q 0 ≤ 20 → q 1 < B 0 0) ∧ (20 ≤ q 0 → (q 2 = 60 ∨ q 2 = 61 ∨ q 2 = 62) ∧ q 3 ≤ 999))
def lc2_ (Q : Nat → Nat → Nat) (N : Nat) : Nat := fb_ct (fun j => decide (18 ≤ Q j 0)) N
section SA
variable {σ μ : St_} {s b n : Nat} {t : Nat → Nat} {L κ pl e c : Nat} {B Q V : Nat → Nat → Nat} {N O w : Nat}
theorem s_ge (hs : isS s) : 70 ≤ s := by unfold isS at hs; omega
theorem c_sadd {q0 q1 q2 q3 : Nat} (hs : isS s) (h : PC_ σ s Q N) (hN : N < 40) : ∃ σ', f_X9_add KC [.ref s, .int (nI q0), .int (nI q1), .int (nI q2), .int (nI q3)] σ = some (none, σ') ∧ PC_ σ' s (pu_ Q N q0 q1 q2 q3) (N + 1) ∧ fr_ [s, s + 1, s + 2, s + 3, s + 4] σ σ' ∧ σ'.1 s 5 = σ.1 s 5 := by
  have e1 : ∀ (x : St_) i y, (sI_ x (s + 1) i y).1 s = x.1 s := fun x i y => sI_row _ _ _ _ (by omega)
  have e2 : ∀ (x : St_) i y, (sI_ x (s + 2) i y).1 s = x.1 s := fun x i y => sI_row _ _ _ _ (by omega)
  have e3 : ∀ (x : St_) i y, (sI_ x (s + 3) i y).1 s = x.1 s := fun x i y => sI_row _ _ _ _ (by omega)
  have e4 : ∀ (x : St_) i y, (sI_ x (s + 4) i y).1 s = x.1 s := fun x i y => sI_row _ _ _ _ (by omega)
  have ne : ¬ 40 ≤ N := by omega
  have l40 : (40 : Int32) = nI 40 := rfl
  refine ⟨sI_ (sI_ (sI_ (sI_ (sI_ σ (s + 1) N (nI q0)) (s + 2) N (nI q1)) (s + 3) N (nI q2)) (s + 4) N (nI q3)) s 4 (nI (N + 1)), z_X9_add (e_X9_add_0 hs ?_), ⟨by simp [sI_at], fun i hi => ?_⟩, fr_tr (fr_sI (by simp)) (fr_tr (fr_sI (by simp)) (fr_tr (fr_sI (by simp)) (fr_tr (fr_sI (by simp)) (fr_sI (by simp))))), by simp [sI_at]⟩
  · simp (disch := first | assumption | omega) only [h.1, e1, e2, e3, e4, l40, ne, Option.some.injEq, Prod.mk.injEq, Value.int.injEq, exists_and_left, exists_eq_left', and_assoc, true_and, and_true, true_implies, false_implies, not_true_eq_false, not_false_eq_true, li_0, li_1, li_2, li_3, li_4, li_5, li_8, li_9, li_10, li_16, li_20, li_80, li_100, li_130, li_144, li_390, li_400, li_M, li_H, li_of, nI_add, pk_mul, cl_, vp_iff, nI_leI, nI_ltI, nI_eq, Nat.add_zero, Nat.zero_add, Nat.reduceEqDiff, Nat.reduceAdd, eq_self, reduceIte, Bool.false_eq_true, li_neg]
    (repeat' apply And.intro) <;> first | omega | rfl | assumption
  · by_cases e : i = N
    · subst e
      simp [sI_at, pu_]
    · have := h.2 i (by omega)
      simp [sI_at, pu_, e, this]
theorem m_lays {v0 v1 v2 v3 : Nat} (h : VN_ μ V N) (hN : N < 60) : ∃ μ', f_X12_lays KC [.ref 219, .int (nI v0), .int (nI v1), .int (nI v2), .int (nI v3)] μ = some (some (.int (nI N)), μ') ∧ VN_ μ' (pu_ V N v0 v1 v2 v3) (N + 1) ∧ fr_ [219, 245] μ μ' ∧ NF2_ [59] 219 μ μ' := by
  have e1 : ∀ (x : St_) i y, (sI_ x 245 i y).1 219 = x.1 219 := fun x i y => sI_row _ _ _ _ (by decide)
  have e5 : ∀ (x : St_) y, (sI_ x 219 59 y).1 219 59 = y := fun x y => by rw [sI_at, if_pos ⟨rfl, rfl⟩]
  refine ⟨sI_ (sI_ (sI_ (sI_ (sI_ μ 245 (4 * N) (nI v0)) 245 (4 * N + 1) (nI v1)) 245 (4 * N + 2) (nI v2)) 245 (4 * N + 3) (nI v3)) 219 59 (nI (N + 1)), z_X12_lays (e_X12_lays_0 ?_), ⟨by simp [sI_at], fun i hi => ?_⟩, fr_tr (fr_sI (by simp)) (fr_tr (fr_sI (by simp)) (fr_tr (fr_sI (by simp)) (fr_tr (fr_sI (by simp)) (fr_sI (by simp))))), fun g hg => ?_⟩
  · simp (disch := first | assumption | omega) only [h.1, e1, e5, pk_sub, Option.some.injEq, Prod.mk.injEq, Value.int.injEq, exists_and_left, exists_eq_left', and_assoc, true_and, and_true, true_implies, false_implies, not_true_eq_false, not_false_eq_true, li_0, li_1, li_2, li_3, li_4, li_5, li_8, li_9, li_10, li_16, li_20, li_80, li_100, li_130, li_144, li_390, li_400, li_M, li_H, li_of, nI_add, pk_mul, cl_, vp_iff, nI_leI, nI_ltI, nI_eq, Nat.add_zero, Nat.zero_add, Nat.reduceEqDiff, Nat.reduceAdd, eq_self, reduceIte, Bool.false_eq_true, li_neg]
    (repeat' apply And.intro) <;> first | omega | rfl | assumption
  · by_cases e : i = N
    · subst e
      simp [sI_at, pu_]
    · have := h.2 i (by omega)
      simp only [sI_at, pu_, e, if_false, show ¬ (245 = 219) by decide, false_and, true_and, show ¬ 4 * i = 4 * N by omega, show ¬ 4 * i = 4 * N + 1 by omega, show ¬ 4 * i = 4 * N + 2 by omega, show ¬ 4 * i = 4 * N + 3 by omega, show ¬ 4 * i + 1 = 4 * N by omega, show ¬ 4 * i + 1 = 4 * N + 1 by omega, show ¬ 4 * i + 1 = 4 * N + 2 by omega, show ¬ 4 * i + 1 = 4 * N + 3 by omega, show ¬ 4 * i + 2 = 4 * N by omega, show ¬ 4 * i + 2 = 4 * N + 1 by omega, show ¬ 4 * i + 2 = 4 * N + 2 by omega, show ¬ 4 * i + 2 = 4 * N + 3 by omega, show ¬ 4 * i + 3 = 4 * N by omega, show ¬ 4 * i + 3 = 4 * N + 1 by omega, show ¬ 4 * i + 3 = 4 * N + 2 by omega, show ¬ 4 * i + 3 = 4 * N + 3 by omega]
      exact this
  · simp only [List.mem_cons, List.not_mem_nil, or_false] at hg
    simp [sI_at, hg]
def sfl_ : List Nat := [59, 60, 61, 62]
theorem SI_SM {σ' μ' : St_} {κ' pl' e' c' : Nat} (hs : isS s) (hb : isB b) (h : SI_ σ μ s b n t L κ pl e c B Q V N O w) (hP : PR_ σ' μ' n t L κ' pl' e' c') (h1 : SF_ σ σ') (h2 : MF_ μ μ') : SI_ σ' μ' s b n t L κ' pl' e' c' B Q V N O w := by
  have gs := s_ge hs
  obtain ⟨-, ⟨a1, a2⟩, ⟨a3, a4⟩, a5, a6, a7⟩ := h
  exact ⟨hP, ⟨CB_SF hb a1 h1, RX_MF a2 h2⟩, ⟨PC_cg a3 (fun o o1 o2 => h1.1.1 o (by simp; omega)), by rw [h1.1.1 s (by simp; omega)]; exact a4⟩, ⟨by rw [h2.2 59 (by omega)]; exact a5.1, fun i hi => by rw [h2.1.1 245 (by decide)]; exact a5.2 i hi⟩, by rw [h2.2 60 (by omega)]; exact a6, by rw [h2.2 61 (by omega)]; exact a7⟩
/-- the top is told -/
theorem SI_62 (h : SI_ σ μ s b n t L κ pl e c B Q V N O w) (x : Int32) : SI_ σ (sI_ μ 219 62 x) s b n t L κ pl e c B Q V N O w := by
  obtain ⟨a0, ⟨a1, a2⟩, a34, a5, a6, a7⟩ := h
  exact ⟨PR_cg a0 (fun _ _ _ => rfl) rfl rfl (fun f h1 h2 => by rw [sI_at, if_neg (by omega)]) (sI_row _ _ _ _ (by decide)) rfl, ⟨a1, RX_sI a2 (by decide)⟩, a34, ⟨by rw [sI_at, if_neg (by omega)]; exact a5.1, fun i hi => by rw [sI_row _ _ _ _ (by decide)]; exact a5.2 i hi⟩, by rw [sI_at, if_neg (by omega)]; exact a6, by rw [sI_at, if_neg (by omega)]; exact a7⟩
theorem CM_62 (μ : St_) (x : Int32) : CM_ [245] [] sfl_ μ (sI_ μ 219 62 x) := ⟨fm_sI (by simp), fun f _ hf => by rw [sI_at, if_neg (fun z => hf (by rw [z.2]; decide))]⟩
theorem add2 {q0 q1 q2 q3 v0 v1 v2 v3 : Nat} (hs : isS s) (hb : isB b) (h : SI_ σ μ s b n t L κ pl e c B Q V N O w) (hN : N < 40) : ∃ σ' μ', f_X9_add KC [.ref s, .int (nI q0), .int (nI q1), .int (nI q2), .int (nI q3)] σ = some (none, σ') ∧ f_X12_lays KC [.ref 219, .int (nI v0), .int (nI v1), .int (nI v2), .int (nI v3)] μ = some (some (.int (nI N)), μ') ∧ SI_ σ' μ' s b n t L κ pl e c B (pu_ Q N q0 q1 q2 q3) (pu_ V N v0 v1 v2 v3) (N + 1) O w ∧ CT_ s (s + 4) σ σ' ∧ CM_ [245] [] sfl_ μ μ' ∧ NF_ σ μ σ' μ' := by
  have gs := s_ge hs
  have gb := isB_ge hb
  obtain ⟨a0, ⟨a1, a2⟩, ⟨a3, a4⟩, a5, a6, a7⟩ := h
  have hbs : ∀ o, b ≤ o → o ≤ b + 27 → ¬ (s ≤ o ∧ o ≤ s + 4) := fun o o1 o2 => by unfold isB at hb; unfold isS at hs; omega
  obtain ⟨σ', b1, b2, b3, b4⟩ := c_sadd (q0 := q0) (q1 := q1) (q2 := q2) (q3 := q3) hs a3 hN
  obtain ⟨μ', c1, c2, c3, c4⟩ := m_lays (v0 := v0) (v1 := v1) (v2 := v2) (v3 := v3) a5 (by omega)
  have row : ∀ o, ¬ (s ≤ o ∧ o ≤ s + 4) → σ'.1 o = σ.1 o := fun o ho => b3.1 o (by simp; omega)
  refine ⟨σ', μ', b1, c1, ⟨PR_cg a0 (fun f _ _ => by rw [row 1 (by omega)]) (row 2 (by omega)) (row 3 (by omega)) (fun f h1 h2 => c4 f (by simp; omega)) (c3.1 220 (by decide)) (by rw [c3.2]), ⟨CB_row hb a1 (fun o o1 o2 => row o (hbs o o1 o2)) a2.2, RX_fr a2 c3 (by decide)⟩, ⟨b2, b4.trans a4⟩, c2, by rw [c4 60 (by decide)]; exact a6, by rw [c4 61 (by decide)]; exact a7⟩, ⟨fun o _ h2 => row o h2, b3.2⟩, ⟨fr_fm (fr_mono c3 (by simp)), fun f _ hf => c4 f (fun z => hf (by simp at z; rw [z]; decide))⟩, ?_, c4 10 (by decide)⟩
  rw [row 1 (by omega)]
theorem lc2_pu {q0 q1 q2 q3 : Nat} : lc2_ (pu_ Q N q0 q1 q2 q3) (N + 1) = lc2_ Q N + if 18 ≤ q0 then 1 else 0 := by
  unfold lc2_
  rw [fb_ct_succ, fb_ct_cong (q := fun j => decide (18 ≤ Q j 0)) (fun k hk => by
    have : ¬ k = N := by omega
    simp [pu_, this])]
  simp [pu_]
theorem pu_lo {q0 q1 q2 q3 j : Nat} (h : j < N) : pu_ Q N q0 q1 q2 q3 j = Q j := by
  funext i
  unfold pu_
  rw [if_neg (by omega)]
theorem pu_at {q0 q1 q2 q3 : Nat} : pu_ Q N q0 q1 q2 q3 N 0 = q0 ∧ pu_ Q N q0 q1 q2 q3 N 1 = q1 ∧ pu_ Q N q0 q1 q2 q3 N 2 = q2 ∧ pu_ Q N q0 q1 q2 q3 N 3 = q3 := by simp [pu_]
/-- what has come of a piece: N steps before, N' behind it -/
def GR_ (Q Q' V V' : Nat → Nat → Nat) (N N' O O' : Nat) : Prop := (N < N' ∧ O < O' ∧ O' ≤ 20 ∧ N' + 2 * O + 1 ≤ N + 2 * O' ∧ lc2_ Q' N' + O ≤ lc2_ Q N + O') ∧ ∀ j, j < N → Q' j = Q j ∧ V' j = V j
def SRes_ (σ μ : St_) (s b n : Nat) (t : Nat → Nat) (L : Nat) (B Q V : Nat → Nat → Nat) (N O w w' : Nat) (T U : Out_ → Prop) : Prop :=
  (∃ σ' μ', T (some (.int 0), σ') ∧ U (some (.int 0), μ') ∧ FT_ σ' μ' ∧ CT_ s (s + 4) σ σ' ∧ CM_ [245] [] sfl_ μ μ') ∨
  (∃ Q' V' N' O' D κ' pl' e' c' σ' μ', (T (some (.int 1), σ') ∧ U (some (.int 1), μ')) ∧ SI_ σ' μ' s b n t L κ' pl' e' c' B Q' V' N' O' w' ∧ (∀ j, j < N' → QV_ B (Q' j)) ∧ GR_ Q Q' V V' N N' O O' ∧ (ES_ B Q' N (N' - N) D ∧ EN_ B V' N' (N' - 1) D) ∧ μ'.1 219 62 = nI (N' - 1) ∧ CT_ s (s + 4) σ σ' ∧ CM_ [245] [] sfl_ μ μ' ∧ NF_ σ μ σ' μ')
theorem SRes_cg {σ0 μ0 : St_} {T U T' U' : Out_ → Prop} {w' : Nat} (h : SRes_ σ μ s b n t L B Q V N O w w' T U) (hT : ∀ o, T o → T' o) (hU : ∀ o, U o → U' o) (f1 : CT_ s (s + 4) σ0 σ) (f2 : CM_ [245] [] sfl_ μ0 μ) (f3 : NF_ σ0 μ0 σ μ) : SRes_ σ0 μ0 s b n t L B Q V N O w w' T' U' := by
  rcases h with ⟨σ', μ', h1, h2, h3, h4, h5⟩ | ⟨Q', V', N', O', D, κ', pl', e', c', σ', μ', ⟨h1, h2⟩, h3, h4, h5, h6, h7, h8, h9, h10⟩
  · exact Or.inl ⟨σ', μ', hT _ h1, hU _ h2, h3, CT_tr f1 h4, CM_tr f2 h5⟩
  · exact Or.inr ⟨Q', V', N', O', D, κ', pl', e', c', σ', μ', ⟨hT _ h1, hU _ h2⟩, h3, h4, h5, h6, h7, CT_tr f1 h8, CM_tr f2 h9, h10.1.trans f3.1, h10.2.trans f3.2⟩
/-- a leaf is laid: behind O + 1 ONES, of which the last is this -/
theorem leaf_end {kd d sg y v0 v1 v2 v3 : Nat} {T U : Out_ → Prop} {σ0 μ0 : St_} (hs : isS s) (hb : isB b) (h : SI_ σ μ s b n t L κ pl e c B Q V N (O + 1) w) (hq : ∀ j, j < N → QV_ B (Q j)) (hN : N ≤ 2 * O) (hO : O + 1 ≤ 20) (hv : QV_ B (fun i => if i = 0 then kd else if i = 1 then d else if i = 2 then sg else y)) (hkd : 18 ≤ kd) (hl : NL_ B (pu_ V N v0 v1 v2 v3) N (lf_ B kd d sg y)) (f1 : CT_ s (s + 4) σ0 σ) (f2 : CM_ [245] [] sfl_ μ0 μ) (f3 : NF_ σ0 μ0 σ μ)
    (hT : ∀ σ', f_X9_add KC [.ref s, .int (nI kd), .int (nI d), .int (nI sg), .int (nI y)] σ = some (none, σ') → T (some (.int 1), σ')) (hU : ∀ μ', f_X12_lays KC [.ref 219, .int (nI v0), .int (nI v1), .int (nI v2), .int (nI v3)] μ = some (some (.int (nI N)), μ') → U (some (.int 1), sI_ μ' 219 62 (nI N))) : SRes_ σ0 μ0 s b n t L B Q V N O w w T U := by
  obtain ⟨σ', μ', b1, b2, b3, b4, b5, b6⟩ := add2 (q0 := kd) (q1 := d) (q2 := sg) (q3 := y) (v0 := v0) (v1 := v1) (v2 := v2) (v3 := v3) hs hb h (by omega)
  obtain ⟨p0, p1, p2, p3⟩ := pu_at (Q := Q) (N := N) (q0 := kd) (q1 := d) (q2 := sg) (q3 := y)
  refine Or.inr ⟨_, _, N + 1, O + 1, lf_ B kd d sg y, κ, pl, e, c, σ', sI_ μ' 219 62 (nI N), ⟨hT _ b1, hU _ b2⟩, SI_62 b3 _, fun j hj => ?_, ⟨⟨by omega, by omega, hO, by omega, ?_⟩, fun j hj => ⟨pu_lo hj, pu_lo hj⟩⟩, ⟨?_, Or.inr (Or.inr (Or.inr hl))⟩, by rw [sI_at, if_pos ⟨rfl, rfl⟩]; rfl, CT_tr f1 b4, CM_tr f2 (CM_tr b5 (CM_62 _ _)), b6.1.trans f3.1, ?_⟩
  · by_cases e : j = N
    · subst e
      rw [show pu_ Q j kd d sg y j = (fun i => if i = 0 then kd else if i = 1 then d else if i = 2 then sg else y) from by
        funext i
        unfold pu_
        rw [if_pos rfl]]
      exact hv
    · rw [pu_lo (by omega)]
      exact hq j (by omega)
  · rw [lc2_pu, if_pos hkd]
    omega
  · have := ES_leaf (B := B) (Q := pu_ Q N kd d sg y) (i := N) (by rw [p0]; exact hkd)
    rw [p0, p1, p2, p3] at this
    rw [show N + 1 - N = 1 by omega]
    exact this
  · rw [sI_at, if_neg (by decide), b6.2, f3.2]
end SA
