/-! LEAN: what hangs together -/
/-- constant where one leans on the other by f or more -/
def ec_ (B : Nat → Nat → Nat) (f : Nat) (g : Nat → Nat) : Prop := ∀ c d, c < B 0 0 → d < c → f ≤ B (16 + c) d → g c = g d
/-- the least of those that hang together: what is settled by these -/
def pq_ (B : Nat → Nat → Nat) (f : Nat) (g : Nat → Nat) (n : Nat) : Prop := ∀ c, c < n → g c ≤ c ∧ ∀ h, ec_ B f h → h (g c) = h c
theorem pq_one {B : Nat → Nat → Nat} {f : Nat} {g h : Nat → Nat} (g1 : pq_ B f g (B 0 0)) (g2 : ec_ B f g) (h1 : pq_ B f h (B 0 0)) (h2 : ec_ B f h) : ∀ c, c < B 0 0 → g c = h c := by
  intro c hc
  have a := (g1 c hc).2 h h2
  have a2 := (h1 (g c) (by have := (g1 c hc).1; omega)).1
  have b := (h1 c hc).2 g g2
  have b2 := (g1 (h c) (by have := (h1 c hc).1; omega)).1
  omega
noncomputable def lrp_ (B : Nat → Nat → Nat) (q : Nat → Nat) (r s : Nat) : Nat → Nat → T_ → T_
  | 0, _, T => T
  | n + 1, c, T => if q c = s then (if (ta_ B T r c 0 0).1 = true then lrp_ B q r s n (c + 1) (ta_ B T r c 0 0).2 else (ta_ B T r c 0 0).2) else lrp_ B q r s n (c + 1) T
noncomputable def lps_ (B : Nat → Nat → Nat) (q : Nat → Nat) (T : T_) (s : Nat) : T_ := if q s = s then (match ml_ T.1 (fun _ => False) (B 0 1) with
  | none => T
  | some r => lrp_ B q r s (B 0 0 - s) s T) else T
noncomputable def lpa_ (B : Nat → Nat → Nat) (q : Nat → Nat) (T : T_) : Nat → T_
  | 0 => T
  | s + 1 => lps_ B q (lpa_ B q T s) s
section LE
variable {σ μ : St_} {b p : Nat} {B : Nat → Nat → Nat} {T : T_} {f : Nat} {q : Nat → Nat}
theorem lrp_cg {q q' : Nat → Nat} (h : ∀ c, c < B 0 0 → q c = q' c) (r s : Nat) : ∀ n c (T : T_), c + n ≤ B 0 0 → lrp_ B q r s n c T = lrp_ B q' r s n c T
  | 0, _, _, _ => rfl
  | n + 1, c, T, hn => by rw [lrp_, lrp_, h c (by omega), lrp_cg h r s n _ _ (by omega), lrp_cg h r s n _ _ (by omega)]
theorem lpa_cg {q q' : Nat → Nat} (h : ∀ c, c < B 0 0 → q c = q' c) (T : T_) : ∀ n, n ≤ B 0 0 → lpa_ B q T n = lpa_ B q' T n
  | 0, _ => rfl
  | n + 1, hn => by
    rw [lpa_, lpa_, lpa_cg h T n (by omega)]
    unfold lps_
    rw [h n (by omega)]
    split
    · split
      · rfl
      · exact lrp_cg h _ _ _ _ _ (by omega)
    · rfl
/-- the class's row 91 -/
theorem CG_91 (h : CG_ σ b p B T) (i : Nat) (x : Int32) : CG_ (sI_ σ 91 i x) b p B T := by
  have hP := h.1.2.2.2
  have pn := p_no hP
  have hB := h.1.1.1.2.1
  have bn := b_no hB
  exact ⟨⟨⟨h.1.1.1, CB_row hB h.1.1.2.1 (fun o o1 o2 => sI_row _ _ _ _ (by omega)) h.1.1.2.2, h.1.1.2.2⟩, h.1.2⟩, PC_cg h.2.1 (fun o o1 o2 => sI_row _ _ _ _ (by omega)), CK_cg h.2.2.1 (sI_row _ _ _ _ (by decide)) (sI_row _ _ _ _ (by decide)) (sI_row _ _ _ _ (by decide)) (sI_row _ _ _ _ (by decide)), h.2.2.2⟩
def F91_ (B : Nat → Nat → Nat) (σ σ' : St_) : Prop := fr_ [91] σ σ' ∧ ∀ x, B 0 0 ≤ x → σ'.1 91 x = σ.1 91 x
theorem F91_rf {B : Nat → Nat → Nat} {σ : St_} : F91_ B σ σ := ⟨fr_rf _ _, fun _ _ => rfl⟩
theorem F91_tr {B : Nat → Nat → Nat} {x y z : St_} (h : F91_ B x y) (h2 : F91_ B y z) : F91_ B x z := ⟨fr_tr h.1 h2.1, fun i hi => (h2.2 i hi).trans (h.2 i hi)⟩
theorem F91_sI {B : Nat → Nat → Nat} {σ : St_} {d : Nat} {x : Int32} (h : d < B 0 0) : F91_ B σ (sI_ σ 91 d x) := ⟨fr_sI (by simp), fun i hi => by rw [sI_at, if_neg (fun z => by omega)]⟩
theorem c_join (h : CG_ σ b p B T) {u v : Nat} (hu : u < 16) (hv : v < 16) (hq : ∀ c, c < B 0 0 → σ.1 91 c = nI (q c) ∧ q c < 16) : ∃ σ', f_X4_join KC [.ref 85, .int (nI u), .int (nI v)] σ = some (none, σ') ∧ CG_ σ' b p B T ∧ (∀ c, c < B 0 0 → σ'.1 91 c = nI (if q c = u ∨ q c = v then min u v else q c)) ∧ F91_ B σ σ' := by
  have h3 := BO_c h.1.1.2.2
  have hB := h.1.1.1.2.1
  have loop : ∀ n d σ1, d + n = B 0 0 → CG_ σ1 b p B T → (∀ c, c < B 0 0 → σ1.1 91 c = nI (if c < d then (if q c = u ∨ q c = v then min u v else q c) else q c)) → ∃ σ', Ev_ (P_X4_join KC) 9 [some (.ref 85), some (.int (nI u)), some (.int (nI v)), some (.int (nI (min u v))), some (.int (nI d))] [] σ1 (none, σ') ∧ CG_ σ' b p B T ∧ (∀ c, c < B 0 0 → σ'.1 91 c = nI (if q c = u ∨ q c = v then min u v else q c)) ∧ F91_ B σ1 σ' := by
    intro n
    induction n with
    | zero =>
      intro d σ1 hd hg hr
      obtain rfl : d = B 0 0 := by omega
      refine ⟨σ1, e_X4_join_9 ?_, hg, fun c hc => by rw [hr c hc, if_pos hc], F91_rf⟩
      simp (disch := first | assumption | omega) only [hg.1.2.1, hB, hg.1.1.2.1.1.1, Nat.le_refl, Option.some.injEq, Prod.mk.injEq, Value.int.injEq, exists_and_left, exists_eq_left', and_assoc, true_and, and_true, true_implies, false_implies, not_true_eq_false, not_false_eq_true, li_0, li_1, li_2, li_3, li_4, li_5, li_8, li_9, li_10, li_16, li_20, li_80, li_100, li_130, li_144, li_390, li_400, li_M, li_H, li_of, nI_add, pk_mul, cl_, vp_iff, nI_leI, nI_ltI, nI_eq, Nat.add_zero, Nat.zero_add, Nat.reduceEqDiff, Nat.reduceAdd, eq_self, reduceIte, Bool.false_eq_true, li_neg]
    | succ n ih =>
      intro d σ1 hd hg hr
      have h1 : ¬ B 0 0 ≤ d := by omega
      have hd2 : d < B 0 0 := by omega
      have e1 := hr d hd2
      rw [if_neg (Nat.lt_irrefl _)] at e1
      have hq16 := (hq d hd2).2
      by_cases hh : q d = u ∨ q d = v
      · obtain ⟨σ', q1, q2, q3, q4⟩ := ih (d + 1) (sI_ σ1 91 d (nI (min u v))) (by omega) (CG_91 hg _ _) (by
          intro c hc
          rw [sI_at]
          by_cases e : c = d
          · subst e
            rw [if_pos ⟨rfl, rfl⟩, if_pos (by omega), if_pos hh]
          · rw [if_neg (fun z => e z.2), hr c hc]
            by_cases e2 : c < d
            · simp only [if_pos e2, if_pos (show c < d + 1 by omega)]
            · simp only [if_neg e2, if_neg (show ¬ c < d + 1 by omega)])
        refine ⟨σ', e_X4_join_9 ?_, q2, q3, F91_tr (F91_sI hd2) q4⟩
        by_cases hu2 : q d = u
        · simp (disch := first | assumption | omega) only [hg.1.2.1, hB, hg.1.1.2.1.1.1, h1, e1, hu2, Option.some.injEq, Prod.mk.injEq, Value.int.injEq, exists_and_left, exists_eq_left', and_assoc, true_and, and_true, true_implies, false_implies, not_true_eq_false, not_false_eq_true, li_0, li_1, li_2, li_3, li_4, li_5, li_8, li_9, li_10, li_16, li_20, li_80, li_100, li_130, li_144, li_390, li_400, li_M, li_H, li_of, nI_add, pk_mul, cl_, vp_iff, nI_leI, nI_ltI, nI_eq, Nat.add_zero, Nat.zero_add, Nat.reduceEqDiff, Nat.reduceAdd, eq_self, reduceIte, Bool.false_eq_true, li_neg]
          (repeat' apply And.intro) <;> first | omega | rfl | assumption | exact q1
        · have hv2 : q d = v := hh.elim (fun z => absurd z hu2) id
          have hu3 : ¬ v = u := by rw [← hv2]; exact hu2
          simp (disch := first | assumption | omega) only [hg.1.2.1, hB, hg.1.1.2.1.1.1, h1, e1, hv2, hu3, Option.some.injEq, Prod.mk.injEq, Value.int.injEq, exists_and_left, exists_eq_left', and_assoc, true_and, and_true, true_implies, false_implies, not_true_eq_false, not_false_eq_true, li_0, li_1, li_2, li_3, li_4, li_5, li_8, li_9, li_10, li_16, li_20, li_80, li_100, li_130, li_144, li_390, li_400, li_M, li_H, li_of, nI_add, pk_mul, cl_, vp_iff, nI_leI, nI_ltI, nI_eq, Nat.add_zero, Nat.zero_add, Nat.reduceEqDiff, Nat.reduceAdd, eq_self, reduceIte, Bool.false_eq_true, li_neg]
          (repeat' apply And.intro) <;> first | omega | rfl | assumption | exact q1
      · obtain ⟨σ', q1, q2, q3, q4⟩ := ih (d + 1) σ1 (by omega) hg (by
          intro c hc
          rw [hr c hc]
          by_cases e : c = d
          · subst e
            rw [if_neg (Nat.lt_irrefl _), if_pos (by omega), if_neg hh]
          · by_cases e2 : c < d
            · simp only [if_pos e2, if_pos (show c < d + 1 by omega)]
            · simp only [if_neg e2, if_neg (show ¬ c < d + 1 by omega)])
        have hu2 : ¬ q d = u := fun z => hh (Or.inl z)
        have hv2 : ¬ q d = v := fun z => hh (Or.inr z)
        refine ⟨σ', e_X4_join_9 ?_, q2, q3, q4⟩
        simp (disch := first | assumption | omega) only [hg.1.2.1, hB, hg.1.1.2.1.1.1, h1, e1, hu2, hv2, Option.some.injEq, Prod.mk.injEq, Value.int.injEq, exists_and_left, exists_eq_left', and_assoc, true_and, and_true, true_implies, false_implies, not_true_eq_false, not_false_eq_true, li_0, li_1, li_2, li_3, li_4, li_5, li_8, li_9, li_10, li_16, li_20, li_80, li_100, li_130, li_144, li_390, li_400, li_M, li_H, li_of, nI_add, pk_mul, cl_, vp_iff, nI_leI, nI_ltI, nI_eq, Nat.add_zero, Nat.zero_add, Nat.reduceEqDiff, Nat.reduceAdd, eq_self, reduceIte, Bool.false_eq_true, li_neg]
        (repeat' apply And.intro) <;> first | omega | rfl | assumption | exact q1
  obtain ⟨σ', q1, q2, q3, q4⟩ := loop (B 0 0) 0 σ (by omega) h (fun c hc => by rw [(hq c hc).1, if_neg (by omega)])
  refine ⟨σ', z_X4_join (e_X4_join_0 ?_), q2, q3, q4⟩
  have e : (if nI v < nI u then nI v else nI u) = nI (min u v) := by
    by_cases e : v < u
    · rw [if_pos ((nI_ltI (by omega) (by omega)).mpr e), Nat.min_eq_right (by omega)]
    · rw [if_neg (fun z => e ((nI_ltI (by omega) (by omega)).mp z)), Nat.min_eq_left (by omega)]
  rw [e]
  exact q1
/-- the class's search for what hangs together: CHAPS below c are settled, of c those d below d0 -/
theorem c_find22 (hf : 1 ≤ f ∧ f ≤ 10) {c : Nat} (hc : c < B 0 0) : ∀ n d σ (q : Nat → Nat), d + n = c → CG_ σ b p B T → (∀ x, x < B 0 0 → ∃ y, y < 16 ∧ σ.1 91 x = nI y) → (∀ x, x ≤ c → σ.1 91 x = nI (q x)) → pq_ B f q (c + 1) → (∀ x y, x < c → y < x → f ≤ B (16 + x) y → q x = q y) → (∀ y, y < d → f ≤ B (16 + c) y → q c = q y) → ∃ σ' q', (∀ out, Ev_ (P_X4_findParts KC) 2 [some (.ref 85), some (.int (nI f)), some (.int (nI (c + 1))), none] [] σ' out → Ev_ (P_X4_findParts KC) 22 [some (.ref 85), some (.int (nI f)), some (.int (nI c)), some (.int (nI d))] [] σ out) ∧ CG_ σ' b p B T ∧ (∀ x, x < B 0 0 → ∃ y, y < 16 ∧ σ'.1 91 x = nI y) ∧ (∀ x, x ≤ c → σ'.1 91 x = nI (q' x)) ∧ pq_ B f q' (c + 1) ∧ (∀ x y, x < c + 1 → y < x → f ≤ B (16 + x) y → q' x = q' y) ∧ F91_ B σ σ' := by
  intro n
  induction n with
  | zero =>
    intro d σ q hd hg h16 hr hp he hec
    obtain rfl : d = c := by omega
    have h3 := BO_c hg.1.1.2.2
    refine ⟨σ, q, fun out z => e_X4_findParts_22 ?_, hg, h16, hr, hp, fun x y hx hy hl => ?_, F91_rf⟩
    · simp (disch := first | assumption | omega) only [Nat.le_refl, Option.some.injEq, Prod.mk.injEq, Value.int.injEq, exists_and_left, exists_eq_left', and_assoc, true_and, and_true, true_implies, false_implies, not_true_eq_false, not_false_eq_true, li_0, li_1, li_2, li_3, li_4, li_5, li_8, li_9, li_10, li_16, li_20, li_80, li_100, li_130, li_144, li_390, li_400, li_M, li_H, li_of, nI_add, pk_mul, cl_, vp_iff, nI_leI, nI_ltI, nI_eq, Nat.add_zero, Nat.zero_add, Nat.reduceEqDiff, Nat.reduceAdd, eq_self, reduceIte, Bool.false_eq_true, li_neg]
      exact z
    · by_cases e : x = d
      · subst e
        exact hec y hy hl
      · exact he x y (by omega) hy hl
  | succ n ih =>
    intro d σ q hd hg h16 hr hp he hec
    have hB := hg.1.1.1.2.1
    have hO := hg.1.1.2.2
    have h3 := BO_c hO
    have hC := hg.1.1.2.1
    have h1 : ¬ c ≤ d := by omega
    have hln := BO_ln hO hc (show d < 16 by omega)
    have el := (hC.2.1 c hc).2.2.2.2 d (by omega)
    by_cases hl : B (16 + c) d < f
    · obtain ⟨σ', q', q1, q2⟩ := ih (d + 1) σ q (by omega) hg h16 hr hp he (fun y hy hyl => by
        by_cases e : y = d
        · subst e
          omega
        · exact hec y (by omega) hyl)
      refine ⟨σ', q', fun out z => e_X4_findParts_22 ?_, q2⟩
      have q1' := q1 out z
      simp (disch := first | assumption | omega) only [h1, hg.1.2.1, hB, el, hl, Option.some.injEq, Prod.mk.injEq, Value.int.injEq, exists_and_left, exists_eq_left', and_assoc, true_and, and_true, true_implies, false_implies, not_true_eq_false, not_false_eq_true, li_0, li_1, li_2, li_3, li_4, li_5, li_8, li_9, li_10, li_16, li_20, li_80, li_100, li_130, li_144, li_390, li_400, li_M, li_H, li_of, nI_add, pk_mul, cl_, vp_iff, nI_leI, nI_ltI, nI_eq, Nat.add_zero, Nat.zero_add, Nat.reduceEqDiff, Nat.reduceAdd, eq_self, reduceIte, Bool.false_eq_true, li_neg]
      (repeat' apply And.intro) <;> first | omega | rfl | assumption | exact q1'
    · have hqc := (hp c (by omega)).1
      have hqd := (hp d (by omega)).1
      have hlf : f ≤ B (16 + c) d := by omega
      -- the row as a function on all CHAPS
      have hG : ∃ G : Nat → Nat, (∀ x, x < B 0 0 → σ.1 91 x = nI (G x) ∧ G x < 16) ∧ ∀ x, x ≤ c → G x = q x := by
        refine ⟨fun x => if h : x < B 0 0 then (h16 x h).choose else 0, fun x hx => ?_, fun x hx => ?_⟩
        · simp only [hx, dif_pos]
          exact ⟨(h16 x hx).choose_spec.2, (h16 x hx).choose_spec.1⟩
        · have hx2 : x < B 0 0 := by omega
          simp only [hx2, dif_pos]
          have e1 := (h16 x hx2).choose_spec
          have e2 := hr x hx
          have e3 := (hp x (by omega)).1
          rw [e1.2] at e2
          exact (nI_eq (by omega) (by omega)).mp e2
      obtain ⟨G, hG1, hG2⟩ := hG
      obtain ⟨σ2, g1, g2, g3, g4⟩ := c_join hg (show q c < 16 by omega) (show q d < 16 by omega) hG1
      have hmin : min (q c) (q d) = q c ∨ min (q c) (q d) = q d := by omega
      have hedge : ∀ h, ec_ B f h → h (q c) = h (q d) := fun h hh => by
        rw [(hp c (by omega)).2 h hh, (hp d (by omega)).2 h hh]
        exact hh c d hc (by omega) hlf
      have hpn : pq_ B f (fun x => if q x = q c ∨ q x = q d then min (q c) (q d) else q x) (c + 1) := by
        intro x hx
        have hpx := hp x hx
        try dsimp only
        by_cases e : q x = q c ∨ q x = q d
        · rw [if_pos e]
          refine ⟨by have := hpx.1; omega, fun h hh => ?_⟩
          have e2 := hedge h hh
          have e3 := hpx.2 h hh
          rcases hmin with m1 | m1 <;> rcases e with e1 | e1 <;> rw [e1] at e3 <;> rw [m1] <;> first | exact e3 | (rw [e2]; exact e3) | (rw [← e2]; exact e3)
        · rw [if_neg e]
          exact hpx
      obtain ⟨σ', q', q1, q2, q3, q4, q5, q6, q7⟩ := ih (d + 1) σ2 (fun x => if q x = q c ∨ q x = q d then min (q c) (q d) else q x) (by omega) g2 (fun x hx => ⟨_, by have := (hG1 x hx).2; split <;> omega, g3 x hx⟩) (fun x hx => by rw [g3 x (by omega), hG2 x hx]) hpn (fun x y hx hy hxl => by
        have := he x y hx hy hxl
        try dsimp only
        rw [this]) (fun y hy hyl => by
        try dsimp only
        rw [if_pos (Or.inl rfl)]
        by_cases e : y = d
        · subst e
          rw [if_pos (Or.inr rfl)]
        · have := hec y (by omega) hyl
          rw [if_pos (Or.inl this.symm)])
      refine ⟨σ', q', fun out z => e_X4_findParts_22 ?_, q2, q3, q4, q5, q6, F91_tr g4 q7⟩
      have q1' := q1 out z
      simp (disch := first | assumption | omega) only [h1, hg.1.2.1, hB, el, hl, hr c (Nat.le_refl _), hr d (by omega), g1, Option.some.injEq, Prod.mk.injEq, Value.int.injEq, exists_and_left, exists_eq_left', and_assoc, true_and, and_true, true_implies, false_implies, not_true_eq_false, not_false_eq_true, li_0, li_1, li_2, li_3, li_4, li_5, li_8, li_9, li_10, li_16, li_20, li_80, li_100, li_130, li_144, li_390, li_400, li_M, li_H, li_of, nI_add, pk_mul, cl_, vp_iff, nI_leI, nI_ltI, nI_eq, Nat.add_zero, Nat.zero_add, Nat.reduceEqDiff, Nat.reduceAdd, eq_self, reduceIte, Bool.false_eq_true, li_neg]
      (repeat' apply And.intro) <;> first | omega | rfl | assumption | exact q1'
theorem c_findParts (hf : 1 ≤ f ∧ f ≤ 10) : ∀ n c σ (q : Nat → Nat), c + n = B 0 0 → CG_ σ b p B T → (∀ x, x < B 0 0 → ∃ y, y < 16 ∧ σ.1 91 x = nI y) → (∀ x, x < c → σ.1 91 x = nI (q x)) → pq_ B f q c → (∀ x y, x < c → y < x → f ≤ B (16 + x) y → q x = q y) → ∃ σ' q', Ev_ (P_X4_findParts KC) 2 [some (.ref 85), some (.int (nI f)), some (.int (nI c)), none] [] σ (none, σ') ∧ CG_ σ' b p B T ∧ (∀ x, x < B 0 0 → σ'.1 91 x = nI (q' x)) ∧ pq_ B f q' (B 0 0) ∧ ec_ B f q' ∧ F91_ B σ σ' := by
  intro n
  induction n with
  | zero =>
    intro c σ q hc hg h16 hr hp he
    obtain rfl : c = B 0 0 := by omega
    have hB := hg.1.1.1.2.1
    have h3 := BO_c hg.1.1.2.2
    refine ⟨σ, q, e_X4_findParts_2 ?_, hg, hr, hp, fun c d h1 h2 h3 => he c d h1 h2 h3, F91_rf⟩
    simp (disch := first | assumption | omega) only [hg.1.2.1, hB, hg.1.1.2.1.1.1, Nat.le_refl, Option.some.injEq, Prod.mk.injEq, Value.int.injEq, exists_and_left, exists_eq_left', and_assoc, true_and, and_true, true_implies, false_implies, not_true_eq_false, not_false_eq_true, li_0, li_1, li_2, li_3, li_4, li_5, li_8, li_9, li_10, li_16, li_20, li_80, li_100, li_130, li_144, li_390, li_400, li_M, li_H, li_of, nI_add, pk_mul, cl_, vp_iff, nI_leI, nI_ltI, nI_eq, Nat.add_zero, Nat.zero_add, Nat.reduceEqDiff, Nat.reduceAdd, eq_self, reduceIte, Bool.false_eq_true, li_neg]
  | succ n ih =>
    intro c σ q hc hg h16 hr hp he
    have hB := hg.1.1.1.2.1
    have h3 := BO_c hg.1.1.2.2
    have h1 : ¬ B 0 0 ≤ c := by omega
    have hc2 : c < B 0 0 := by omega
    obtain ⟨σ2, q2, g1, g2, g3, g4, g5, g6, g7⟩ := c_find22 (T := T) hf hc2 c 0 (sI_ σ 91 c (nI c)) (fun x => if x = c then c else q x) (by omega) (CG_91 hg _ _) (fun x hx => by
      rw [sI_at]
      by_cases e : x = c
      · rw [if_pos ⟨rfl, e⟩]
        exact ⟨c, by omega, rfl⟩
      · rw [if_neg (fun z => e z.2)]
        exact h16 x hx) (fun x hx => by
      rw [sI_at]
      try dsimp only
      by_cases e : x = c
      · rw [if_pos ⟨rfl, e⟩, if_pos e]
      · rw [if_neg (fun z => e z.2), if_neg e]
        exact hr x (by omega)) (fun x hx => by
      try dsimp only
      by_cases e : x = c
      · rw [if_pos e]
        exact ⟨by omega, fun h _ => by rw [e]⟩
      · rw [if_neg e]
        exact hp x (by omega)) (fun x y hx hy hl => by
      try dsimp only
      rw [if_neg (by omega), if_neg (by omega)]
      exact he x y hx hy hl) (fun y hy => absurd hy (by omega))
    obtain ⟨σ', q', k1, k2, k3, k4, k5, k6⟩ := ih (c + 1) σ2 q2 (by omega) g2 g3 (fun x hx => g4 x (by omega)) g5 (fun x y hx hy hl => g6 x y hx hy hl)
    refine ⟨σ', q', e_X4_findParts_2 ?_, k2, k3, k4, k5, F91_tr (F91_sI hc2) (F91_tr g7 k6)⟩
    have g1' := g1 _ k1
    simp (disch := first | assumption | omega) only [hg.1.2.1, hB, hg.1.1.2.1.1.1, h1, Option.some.injEq, Prod.mk.injEq, Value.int.injEq, exists_and_left, exists_eq_left', and_assoc, true_and, and_true, true_implies, false_implies, not_true_eq_false, not_false_eq_true, li_0, li_1, li_2, li_3, li_4, li_5, li_8, li_9, li_10, li_16, li_20, li_80, li_100, li_130, li_144, li_390, li_400, li_M, li_H, li_of, nI_add, pk_mul, cl_, vp_iff, nI_leI, nI_ltI, nI_eq, Nat.add_zero, Nat.zero_add, Nat.reduceEqDiff, Nat.reduceAdd, eq_self, reduceIte, Bool.false_eq_true, li_neg]
    (repeat' apply And.intro) <;> first | omega | rfl | assumption | exact g1'
end LE
