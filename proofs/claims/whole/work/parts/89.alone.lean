/-! ALONE -/
def xs_ (f : Nat → Nat) (s : Nat) : Nat → Nat
  | 0 => 0
  | i + 1 => if s.testBit i = true then xs_ f s i + f i else xs_ f s i
theorem xs_0 (f : Nat → Nat) : ∀ i, xs_ f 0 i = 0
  | 0 => rfl
  | i + 1 => by rw [xs_, if_neg (by rw [Nat.zero_testBit]; decide), xs_0 f i]
theorem xs_le {f : Nat → Nat} {s v : Nat} : ∀ n, (∀ i, i < n → f i ≤ v) → xs_ f s n ≤ v * n
  | 0, _ => Nat.le_refl _
  | i + 1, h => by
    have ih := xs_le (s := s) i (fun j hj => h j (by omega))
    have := h i (by omega)
    rw [xs_, Nat.mul_succ]
    split <;> omega
theorem xs_top {f : Nat → Nat} {c m n : Nat} (hm : m < 2 ^ c) (hn : c < n) : xs_ f (2 ^ c + m) n = f c + xs_ f m n := by
  have key : ∀ i, xs_ f (2 ^ c + m) i = (if c < i then f c else 0) + xs_ f m i := by
    intro i
    induction i with
    | zero => rfl
    | succ i ih =>
      rw [xs_, xs_, ih]
      by_cases h1 : i = c
      · subst h1
        rw [Nat.testBit_two_pow_add_eq, Nat.testBit_lt_two_pow hm, if_neg (show ¬ i < i by omega), if_pos (show i < i + 1 by omega), Nat.zero_add]
        simp [Nat.add_comm]
      · by_cases h2 : i < c
        · rw [Nat.testBit_two_pow_add_gt h2, if_neg (show ¬ c < i by omega), if_neg (show ¬ c < i + 1 by omega), Nat.zero_add, Nat.zero_add]
        · have h3 : 2 ^ (c + 1) ≤ 2 ^ i := Nat.pow_le_pow_right (by omega) (by omega)
          rw [Nat.pow_succ] at h3
          rw [Nat.testBit_lt_two_pow (show 2 ^ c + m < 2 ^ i by omega), Nat.testBit_lt_two_pow (show m < 2 ^ i by omega), if_neg Bool.false_ne_true, if_neg Bool.false_ne_true, if_pos (show c < i by omega), if_pos (show c < i + 1 by omega)]
  rw [key n, if_pos hn]
def al_ (T W : Nat → Nat) (n L : Nat) : Nat → Nat × Nat
  | 0 => (0, 0)
  | s + 1 => if xs_ T s n ≤ L ∧ (al_ T W n L s).1 < xs_ W s n then (xs_ W s n, s) else al_ T W n L s
def dp_ (T W : Nat → Nat) : Nat → Nat → Nat × Nat
  | 0, _ => (0, 0)
  | c + 1, t => if T c ≤ t ∧ (dp_ T W c t).1 < (dp_ T W c (t - T c)).1 + W c then ((dp_ T W c (t - T c)).1 + W c, (dp_ T W c (t - T c)).2 + 2 ^ c) else dp_ T W c t
theorem al_mg (Tc t x w Wc k m : Nat) (a d : Nat × Nat) : (if Tc + x ≤ t ∧ (if Tc ≤ t ∧ d.1 < a.1 + Wc then (a.1 + Wc, a.2 + k) else d).1 < Wc + w then (Wc + w, k + m) else (if Tc ≤ t ∧ d.1 < a.1 + Wc then (a.1 + Wc, a.2 + k) else d)) = if Tc ≤ t ∧ d.1 < (if x ≤ t - Tc ∧ a.1 < w then (w, m) else a).1 + Wc then ((if x ≤ t - Tc ∧ a.1 < w then (w, m) else a).1 + Wc, (if x ≤ t - Tc ∧ a.1 < w then (w, m) else a).2 + k) else d := by
  have cw : Wc + w = w + Wc := Nat.add_comm _ _
  have ck : k + m = m + k := Nat.add_comm _ _
  by_cases h1 : Tc ≤ t
  · by_cases h2 : x ≤ t - Tc
    · have h2' : Tc + x ≤ t := by omega
      by_cases h3 : a.1 < w
      · by_cases h4 : d.1 < a.1 + Wc
        · have h5 : d.1 < w + Wc := by omega
          simp [h1, h2, h2', h3, h4, h5, cw, ck]
        · by_cases h5 : d.1 < w + Wc
          · simp [h1, h2, h2', h3, h4, h5, cw, ck]
          · simp [h1, h2, h2', h3, h4, h5, cw, ck]
      · by_cases h4 : d.1 < a.1 + Wc
        · simp [h1, h2, h2', h3, h4, cw]
        · have h5 : ¬ d.1 < w + Wc := by omega
          simp [h1, h2, h2', h3, h4, h5, cw]
    · have h2' : ¬ Tc + x ≤ t := by omega
      simp [h1, h2, h2']
  · have h2' : ¬ Tc + x ≤ t := by omega
    simp [h1, h2']
theorem al_1 (T W : Nat → Nat) (n L : Nat) : al_ T W n L 1 = (0, 0) := by
  show (if xs_ T 0 n ≤ L ∧ (al_ T W n L 0).1 < xs_ W 0 n then (xs_ W 0 n, 0) else al_ T W n L 0) = _
  rw [xs_0, xs_0, if_neg (fun z => by omega)]
  rfl
theorem al_dp {T W : Nat → Nat} {n : Nat} : ∀ c, c ≤ n → ∀ t, al_ T W n t (2 ^ c) = dp_ T W c t := by
  intro c
  induction c with
  | zero => exact fun _ t => al_1 T W n t
  | succ c ih =>
    intro hc t
    have key : ∀ m, m + 1 ≤ 2 ^ c → al_ T W n t (2 ^ c + (m + 1)) = if T c ≤ t ∧ (dp_ T W c t).1 < (al_ T W n (t - T c) (m + 1)).1 + W c then ((al_ T W n (t - T c) (m + 1)).1 + W c, (al_ T W n (t - T c) (m + 1)).2 + 2 ^ c) else dp_ T W c t := by
      intro m
      induction m with
      | zero =>
        intro hm
        have e0 := xs_top (f := T) (show 0 < 2 ^ c by omega) (show c < n by omega)
        have e1 := xs_top (f := W) (show 0 < 2 ^ c by omega) (show c < n by omega)
        rw [xs_0] at e0 e1
        show (if xs_ T (2 ^ c) n ≤ t ∧ (al_ T W n t (2 ^ c)).1 < xs_ W (2 ^ c) n then (xs_ W (2 ^ c) n, 2 ^ c) else al_ T W n t (2 ^ c)) = _
        rw [al_1, ih (by omega), show xs_ T (2 ^ c) n = T c by rw [Nat.add_zero] at e0; exact e0, show xs_ W (2 ^ c) n = W c by rw [Nat.add_zero] at e1; exact e1]
        simp
      | succ m ihm =>
        intro hm
        have e0 := xs_top (f := T) (show m + 1 < 2 ^ c by omega) (show c < n by omega)
        have e1 := xs_top (f := W) (show m + 1 < 2 ^ c by omega) (show c < n by omega)
        show (if xs_ T (2 ^ c + (m + 1)) n ≤ t ∧ (al_ T W n t (2 ^ c + (m + 1))).1 < xs_ W (2 ^ c + (m + 1)) n then (xs_ W (2 ^ c + (m + 1)) n, 2 ^ c + (m + 1)) else al_ T W n t (2 ^ c + (m + 1))) = _
        rw [e0, e1, ihm (by omega), show al_ T W n (t - T c) (m + 1 + 1) = if xs_ T (m + 1) n ≤ t - T c ∧ (al_ T W n (t - T c) (m + 1)).1 < xs_ W (m + 1) n then (xs_ W (m + 1) n, m + 1) else al_ T W n (t - T c) (m + 1) from rfl]
        exact al_mg _ _ _ _ _ _ _ _ _
    obtain ⟨p, hp⟩ : ∃ p, 2 ^ c = p + 1 := ⟨2 ^ c - 1, by have := Nat.two_pow_pos c; omega⟩
    have k := key p (by omega)
    rw [← hp, ih (by omega)] at k
    rw [show 2 ^ (c + 1) = 2 ^ c + 2 ^ c by omega, k, dp_]
theorem dp_bd {T W : Nat → Nat} : ∀ c, (∀ i, i < c → W i ≤ 999) → ∀ t, (dp_ T W c t).1 ≤ 999 * c ∧ (dp_ T W c t).2 < 2 ^ c
  | 0, _, t => ⟨Nat.le_refl _, Nat.one_pos⟩
  | c + 1, h, t => by
    have h1 := dp_bd (T := T) c (fun i hi => h i (by omega)) t
    have h2 := dp_bd (T := T) c (fun i hi => h i (by omega)) (t - T c)
    have h3 := h c (by omega)
    have h4 : 2 ^ (c + 1) = 2 ^ c + 2 ^ c := by omega
    rw [dp_]
    split
    · show (dp_ T W c (t - T c)).1 + W c ≤ _ ∧ (dp_ T W c (t - T c)).2 + 2 ^ c < _
      omega
    · omega
section AE
variable {σ μ : St_} {b r : Nat} {B : Nat → Nat → Nat}
theorem s2_1 {a c i j : Nat} {x y : Int32} (h : a ≠ c) (u : Nat) : (sI_ (sI_ σ a i x) c j y).1 a u = if u = i then x else σ.1 a u := by
  rw [sI_row _ _ _ _ h, sI_at]
  simp
theorem s2_2 {a c i j : Nat} {x y : Int32} (h : c ≠ a) (u : Nat) : (sI_ (sI_ σ a i x) c j y).1 c u = if u = j then y else σ.1 c u := by
  rw [sI_at, sI_row _ _ _ _ h]
  simp
theorem tR_pos (hO : BO_ B) (hr : r < B 0 1) {c : Nat} (hc : c < B 0 0) : 1 ≤ tR_ B r c := by
  have h1 := BO_cc hO hc
  have h2 := BO_rr hO hr
  unfold tR_
  exact Nat.div_pos (by omega) (by omega)
def AL_ (σ : St_) (B : Nat → Nat → Nat) (r c : Nat) (L : Nat) (t : Nat) : Prop := ∀ u, u ≤ L → σ.1 134 u = nI (if t < u then dp_ (tR_ B r) (B 2) (c + 1) u else dp_ (tR_ B r) (B 2) c u).1 ∧ σ.1 135 u = nI (if t < u then dp_ (tR_ B r) (B 2) (c + 1) u else dp_ (tR_ B r) (B 2) c u).2
theorem al_in (hB : isB b) (hO : BO_ B) (hr : r < B 0 1) {c L : Nat} (hc : c < B 0 0) (hL : L ≤ 240) : ∀ m t (σ : St_), m = t + 1 - tR_ B r c → t ≤ L → CB_ σ b B → AL_ σ B r c L t → ∃ σ', (∀ out, Ev_ (P_X1_readAlone KC) 47 [some (.ref 133), some (.ref b), some (.int (nI r)), some (.int (nI L)), some (.int (nI (c + 1))), none, none, none] [] σ' out → Ev_ (P_X1_readAlone KC) 68 [some (.ref 133), some (.ref b), some (.int (nI r)), some (.int (nI L)), some (.int (nI c)), some (.int (nI (tR_ B r c))), some (.int (nI t)), none] [] σ out) ∧ (∀ u, u ≤ L → σ'.1 134 u = nI (dp_ (tR_ B r) (B 2) (c + 1) u).1 ∧ σ'.1 135 u = nI (dp_ (tR_ B r) (B 2) (c + 1) u).2) ∧ fr_ [134, 135] σ σ' := by
  have hbn := isB_ge hB
  have hT1 := tR_pos hO hr hc
  have h16 := hO.1.1
  have hT2 := tR_lt hO hc hr
  intro m
  induction m with
  | zero =>
    intro t σ ht htL hC h
    have h1 : t < tR_ B r c := by omega
    refine ⟨σ, fun out q => e_X1_readAlone_68 hB ?_, fun u hu => ?_, fr_rf _ _⟩
    · simp (disch := first | assumption | omega) only [h1, Option.some.injEq, Prod.mk.injEq, Value.int.injEq, exists_and_left, exists_eq_left', and_assoc, true_and, and_true, true_implies, false_implies, not_true_eq_false, not_false_eq_true, li_0, li_1, li_2, li_3, li_4, li_5, li_8, li_9, li_10, li_16, li_20, li_80, li_100, li_130, li_144, li_390, li_400, li_M, li_H, li_of, nI_add, pk_mul, cl_, vp_iff, nI_leI, nI_ltI, nI_eq, Nat.add_zero, Nat.zero_add, Nat.reduceEqDiff, Nat.reduceAdd, eq_self, reduceIte, Bool.false_eq_true, li_neg]
      (repeat' apply And.intro) <;> first | omega | rfl | assumption | exact q
    · have h2 := h u hu
      by_cases e : t < u
      · rw [if_pos e] at h2
        exact h2
      · rw [if_neg e] at h2
        rw [dp_, if_neg (fun z => by omega)]
        exact h2
  | succ m ih =>
    intro t σ ht htL hC h
    have h1 : ¬ t < tR_ B r c := by omega
    obtain ⟨t', rfl⟩ : ∃ t', t = t' + 1 := ⟨t - 1, by omega⟩
    have em : nI (t' + 1) + nM_ = nI t' := by rw [← nI_pred t', Int32.sub_eq_add_neg]; rfl
    have hw := BO_cc hO hc
    have ew := (hC.2.1 c hc).2.2.1
    have hcb : b ≠ 134 ∧ b ≠ 135 := by unfold isB at hB; omega
    have hcb3 : b + 3 ≠ 134 ∧ b + 3 ≠ 135 := by unfold isB at hB; omega
    obtain ⟨a1, a2⟩ := h (t' + 1) htL
    rw [if_neg (by omega)] at a1 a2
    obtain ⟨a3, a4⟩ := h (t' + 1 - tR_ B r c) (by omega)
    rw [if_neg (by omega)] at a3 a4
    have b1 := dp_bd (T := tR_ B r) (W := B 2) c (fun i hi => (BO_cc hO (show i < B 0 0 by omega)).2.2.1) (t' + 1)
    have b2 := dp_bd (T := tR_ B r) (W := B 2) c (fun i hi => (BO_cc hO (show i < B 0 0 by omega)).2.2.1) (t' + 1 - tR_ B r c)
    have hp2 : 2 ^ c ≤ 2 ^ 16 := Nat.pow_le_pow_right (by omega) (by omega)
    have esub : nI (t' + 1) - nI (tR_ B r c) = nI (t' + 1 - tR_ B r c) := pk_sub (by omega)
    have hc31 : c < 31 := by omega
    by_cases e : (dp_ (tR_ B r) (B 2) c (t' + 1)).1 < (dp_ (tR_ B r) (B 2) c (t' + 1 - tR_ B r c)).1 + B 2 c
    · have e2 : ¬ (dp_ (tR_ B r) (B 2) c (t' + 1 - tR_ B r c)).1 + B 2 c ≤ (dp_ (tR_ B r) (B 2) c (t' + 1)).1 := by omega
      have hor : (dp_ (tR_ B r) (B 2) c (t' + 1 - tR_ B r c)).2 ||| 2 ^ c = (dp_ (tR_ B r) (B 2) c (t' + 1 - tR_ B r c)).2 + 2 ^ c := by
        have := Nat.two_pow_add_eq_or_of_lt b2.2 1
        rw [Nat.mul_one] at this
        rw [Nat.or_comm, ← this, Nat.add_comm]
      have hAL : AL_ (sI_ (sI_ σ 134 (t' + 1) (nI ((dp_ (tR_ B r) (B 2) c (t' + 1 - tR_ B r c)).1 + B 2 c))) 135 (t' + 1) (nI ((dp_ (tR_ B r) (B 2) c (t' + 1 - tR_ B r c)).2 + 2 ^ c))) B r c L t' := by
        intro u hu
        rw [s2_1 (by decide), s2_2 (by decide)]
        by_cases eu : u = t' + 1
        · rw [if_pos eu, if_pos eu, if_pos (show t' < u by omega), eu, dp_, if_pos ⟨by omega, e⟩]
          exact ⟨rfl, rfl⟩
        · rw [if_neg eu, if_neg eu]
          have h2 := h u hu
          by_cases e3 : t' + 1 < u
          · rw [if_pos e3] at h2
            rw [if_pos (by omega)]
            exact h2
          · rw [if_neg e3] at h2
            rw [if_neg (by omega)]
            exact h2
      obtain ⟨σ', q1, q2, q3⟩ := ih t' _ (by omega) (by omega) (CB_row hB hC (fun o h5 h6 => by
        unfold isB at hB
        rw [sI_row _ _ _ _ (by omega), sI_row _ _ _ _ (by omega)]) hO) hAL
      refine ⟨σ', fun out q => e_X1_readAlone_68 hB ?_, q2, fr_tr (fr_sI (by simp)) (fr_tr (fr_sI (by simp)) q3)⟩
      have q1' := q1 out q
      simp (disch := first | assumption | omega) only [h1, esub, a3, a1, ew, e2, em, sh_1, fa_or, sI_row, a4, hor, Option.some.injEq, Prod.mk.injEq, Value.int.injEq, exists_and_left, exists_eq_left', and_assoc, true_and, and_true, true_implies, false_implies, not_true_eq_false, not_false_eq_true, li_0, li_1, li_2, li_3, li_4, li_5, li_8, li_9, li_10, li_16, li_20, li_80, li_100, li_130, li_144, li_390, li_400, li_M, li_H, li_of, nI_add, pk_mul, cl_, vp_iff, nI_leI, nI_ltI, nI_eq, Nat.add_zero, Nat.zero_add, Nat.reduceEqDiff, Nat.reduceAdd, eq_self, reduceIte, Bool.false_eq_true, li_neg]
      (repeat' apply And.intro) <;> first | omega | rfl | assumption | exact q1'
    · have e2 : (dp_ (tR_ B r) (B 2) c (t' + 1 - tR_ B r c)).1 + B 2 c ≤ (dp_ (tR_ B r) (B 2) c (t' + 1)).1 := by omega
      have hAL : AL_ σ B r c L t' := by
        intro u hu
        have h2 := h u hu
        by_cases eu : u = t' + 1
        · rw [if_neg (by omega)] at h2
          rw [if_pos (by omega), eu, dp_, if_neg (fun z => e z.2), ← eu]
          exact h2
        · by_cases e3 : t' + 1 < u
          · rw [if_pos e3] at h2
            rw [if_pos (by omega)]
            exact h2
          · rw [if_neg e3] at h2
            rw [if_neg (by omega)]
            exact h2
      obtain ⟨σ', q1, q2, q3⟩ := ih t' σ (by omega) (by omega) hC hAL
      refine ⟨σ', fun out q => e_X1_readAlone_68 hB ?_, q2, q3⟩
      have q1' := q1 out q
      simp (disch := first | assumption | omega) only [h1, esub, a3, a1, ew, e2, em, Option.some.injEq, Prod.mk.injEq, Value.int.injEq, exists_and_left, exists_eq_left', and_assoc, true_and, and_true, true_implies, false_implies, not_true_eq_false, not_false_eq_true, li_0, li_1, li_2, li_3, li_4, li_5, li_8, li_9, li_10, li_16, li_20, li_80, li_100, li_130, li_144, li_390, li_400, li_M, li_H, li_of, nI_add, pk_mul, cl_, vp_iff, nI_leI, nI_ltI, nI_eq, Nat.add_zero, Nat.zero_add, Nat.reduceEqDiff, Nat.reduceAdd, eq_self, reduceIte, Bool.false_eq_true, li_neg]
      (repeat' apply And.intro) <;> first | omega | rfl | assumption | exact q1'
theorem c_readAlone (hB : isB b) (hC : CB_ σ b B) (hO : BO_ B) (hr : r < B 0 1) : ∃ σ', f_X1_readAlone KC [.ref 133, .ref b, .int (nI r)] σ = some (none, σ') ∧ σ'.1 133 0 = nI (al_ (tR_ B r) (B 2) (B 0 0) (B 7 r) (2 ^ B 0 0)).1 ∧ σ'.1 133 1 = nI (al_ (tR_ B r) (B 2) (B 0 0) (B 7 r) (2 ^ B 0 0)).2 ∧ fr_ [133, 134, 135] σ σ' ∧ NF2_ [0, 1] 133 σ σ' := by
  have hbr := BO_rr hO hr
  have h16 := hO.1.1
  have h9 := hO.1.2.1
  have hL : B 7 r ≤ 240 := by omega
  have etm := (hC.2.2 r hr).2.2.2.2.1
  have hcg : ∀ {σ' : St_}, fr_ [133, 134, 135] σ σ' → CB_ σ' b B := fun h => CB_row hB hC (fun o h5 h6 => h.1 o (by unfold isB at hB; simp; omega)) hO
  have clr : ∀ n t (σ1 : St_), t + n = B 7 r + 1 → fr_ [134, 135] σ σ1 → (∀ u, u < t → σ1.1 134 u = nI 0 ∧ σ1.1 135 u = nI 0) → ∃ σ2, (∀ out, Ev_ (P_X1_readAlone KC) 47 [some (.ref 133), some (.ref b), some (.int (nI r)), some (.int (nI (B 7 r))), some (.int (nI 0)), none, none, none] [] σ2 out → Ev_ (P_X1_readAlone KC) 16 [some (.ref 133), some (.ref b), some (.int (nI r)), some (.int (nI (B 7 r))), some (.int (nI t)), none, none, none] [] σ1 out) ∧ fr_ [134, 135] σ σ2 ∧ (∀ u, u ≤ B 7 r → σ2.1 134 u = nI 0 ∧ σ2.1 135 u = nI 0) := by
    intro n
    induction n with
    | zero =>
      intro t σ1 ht hf h
      have h1 : B 7 r < t := by omega
      refine ⟨σ1, fun out q => e_X1_readAlone_16 hB ?_, hf, fun u hu => h u (by omega)⟩
      simp (disch := first | assumption | omega) only [h1, Option.some.injEq, Prod.mk.injEq, Value.int.injEq, exists_and_left, exists_eq_left', and_assoc, true_and, and_true, true_implies, false_implies, not_true_eq_false, not_false_eq_true, li_0, li_1, li_2, li_3, li_4, li_5, li_8, li_9, li_10, li_16, li_20, li_80, li_100, li_130, li_144, li_390, li_400, li_M, li_H, li_of, nI_add, pk_mul, cl_, vp_iff, nI_leI, nI_ltI, nI_eq, Nat.add_zero, Nat.zero_add, Nat.reduceEqDiff, Nat.reduceAdd, eq_self, reduceIte, Bool.false_eq_true, li_neg]
      exact q
    | succ n ih =>
      intro t σ1 ht hf h
      have h1 : ¬ B 7 r < t := by omega
      obtain ⟨σ2, q1, q2, q3⟩ := ih (t + 1) (sI_ (sI_ σ1 134 t (nI 0)) 135 t (nI 0)) (by omega) (fr_tr hf (fr_tr (fr_sI (by simp)) (fr_sI (by simp)))) (fun u hu => by
        rw [s2_1 (by decide), s2_2 (by decide)]
        by_cases e : u = t
        · rw [if_pos e, if_pos e]
          exact ⟨rfl, rfl⟩
        · rw [if_neg e, if_neg e]
          exact h u (by omega))
      refine ⟨σ2, fun out q => e_X1_readAlone_16 hB ?_, q2, q3⟩
      have q1' := q1 out q
      simp (disch := first | assumption | omega) only [h1, Option.some.injEq, Prod.mk.injEq, Value.int.injEq, exists_and_left, exists_eq_left', and_assoc, true_and, and_true, true_implies, false_implies, not_true_eq_false, not_false_eq_true, li_0, li_1, li_2, li_3, li_4, li_5, li_8, li_9, li_10, li_16, li_20, li_80, li_100, li_130, li_144, li_390, li_400, li_M, li_H, li_of, nI_add, pk_mul, cl_, vp_iff, nI_leI, nI_ltI, nI_eq, Nat.add_zero, Nat.zero_add, Nat.reduceEqDiff, Nat.reduceAdd, eq_self, reduceIte, Bool.false_eq_true, li_neg]
      (repeat' apply And.intro) <;> first | omega | rfl | assumption | exact q1'
  have loop : ∀ n c (σ1 : St_), c + n = B 0 0 → fr_ [134, 135] σ σ1 → (∀ u, u ≤ B 7 r → σ1.1 134 u = nI (dp_ (tR_ B r) (B 2) c u).1 ∧ σ1.1 135 u = nI (dp_ (tR_ B r) (B 2) c u).2) → ∃ σ2, fr_ [134, 135] σ σ2 ∧ (∀ u, u ≤ B 7 r → σ2.1 134 u = nI (dp_ (tR_ B r) (B 2) (B 0 0) u).1 ∧ σ2.1 135 u = nI (dp_ (tR_ B r) (B 2) (B 0 0) u).2) ∧ Ev_ (P_X1_readAlone KC) 47 [some (.ref 133), some (.ref b), some (.int (nI r)), some (.int (nI (B 7 r))), some (.int (nI c)), none, none, none] [] σ1 (none, sI_ (sI_ σ2 133 0 (σ2.1 134 (B 7 r))) 133 1 (σ2.1 135 (B 7 r))) := by
    intro n
    induction n with
    | zero =>
      intro c σ1 hc hf h
      obtain rfl : c = B 0 0 := by omega
      have hC1 := hcg (fr_mono hf (by simp))
      refine ⟨σ1, hf, h, e_X1_readAlone_47 hB ?_⟩
      simp (disch := first | assumption | omega) only [hC1.1.1, Nat.le_refl, sI_row, Option.some.injEq, Prod.mk.injEq, Value.int.injEq, exists_and_left, exists_eq_left', and_assoc, true_and, and_true, true_implies, false_implies, not_true_eq_false, not_false_eq_true, li_0, li_1, li_2, li_3, li_4, li_5, li_8, li_9, li_10, li_16, li_20, li_80, li_100, li_130, li_144, li_390, li_400, li_M, li_H, li_of, nI_add, pk_mul, cl_, vp_iff, nI_leI, nI_ltI, nI_eq, Nat.add_zero, Nat.zero_add, Nat.reduceEqDiff, Nat.reduceAdd, eq_self, reduceIte, Bool.false_eq_true, li_neg]
      (repeat' apply And.intro) <;> first | omega | rfl | assumption
    | succ n ih =>
      intro c σ1 hc hf h
      have hC1 := hcg (fr_mono hf (by simp))
      have hc1 : ¬ B 0 0 ≤ c := by omega
      have hc2 : c < B 0 0 := by omega
      obtain ⟨σ2, q1, q2, q3⟩ := al_in hB hO hr hc2 hL (B 7 r + 1 - tR_ B r c) (B 7 r) σ1 rfl (Nat.le_refl _) hC1 (fun u hu => by
        rw [if_neg (by omega)]
        exact h u hu)
      obtain ⟨σ3, p1, p2, p3⟩ := ih (c + 1) σ2 (by omega) (fr_tr hf q3) q2
      refine ⟨σ3, p1, p2, e_X1_readAlone_47 hB ?_⟩
      have q1' := q1 _ p3
      simp (disch := first | assumption | omega) only [hC1.1.1, hc1, c_readTime hB hC1 hO hr hc2, Option.some.injEq, Prod.mk.injEq, Value.int.injEq, exists_and_left, exists_eq_left', and_assoc, true_and, and_true, true_implies, false_implies, not_true_eq_false, not_false_eq_true, li_0, li_1, li_2, li_3, li_4, li_5, li_8, li_9, li_10, li_16, li_20, li_80, li_100, li_130, li_144, li_390, li_400, li_M, li_H, li_of, nI_add, pk_mul, cl_, vp_iff, nI_leI, nI_ltI, nI_eq, Nat.add_zero, Nat.zero_add, Nat.reduceEqDiff, Nat.reduceAdd, eq_self, reduceIte, Bool.false_eq_true, li_neg]
      (repeat' apply And.intro) <;> first | omega | rfl | assumption | exact q1'
  obtain ⟨σ1, p1, p2, p3⟩ := clr (B 7 r + 1) 0 σ (by omega) (fr_rf _ _) (fun u hu => absurd hu (by omega))
  obtain ⟨σ2, q1, q2, q3⟩ := loop (B 0 0) 0 σ1 (by omega) p2 (fun u hu => p3 u hu)
  obtain ⟨z1, z2⟩ := q2 (B 7 r) (Nat.le_refl _)
  have q4 := p1 _ q3
  refine ⟨sI_ (sI_ σ2 133 0 (σ2.1 134 (B 7 r))) 133 1 (σ2.1 135 (B 7 r)), z_X1_readAlone (e_X1_readAlone_0 hB ?_), ?_, ?_, fr_tr (fr_mono q1 (by simp)) (fr_tr (fr_sI (by simp)) (fr_sI (by simp))), fun f hf => ?_⟩
  · have h240 : ¬ 240 < B 7 r := by omega
    have l240 : (240 : Int32) = nI 240 := rfl
    simp (disch := first | assumption | omega) only [etm, l240, h240, Option.some.injEq, Prod.mk.injEq, Value.int.injEq, exists_and_left, exists_eq_left', and_assoc, true_and, and_true, true_implies, false_implies, not_true_eq_false, not_false_eq_true, li_0, li_1, li_2, li_3, li_4, li_5, li_8, li_9, li_10, li_16, li_20, li_80, li_100, li_130, li_144, li_390, li_400, li_M, li_H, li_of, nI_add, pk_mul, cl_, vp_iff, nI_leI, nI_ltI, nI_eq, Nat.add_zero, Nat.zero_add, Nat.reduceEqDiff, Nat.reduceAdd, eq_self, reduceIte, Bool.false_eq_true, li_neg]
    (repeat' apply And.intro) <;> first | omega | rfl | assumption | exact q4
  · rw [sI_at, if_neg (by decide), sI_at, if_pos ⟨rfl, rfl⟩, z1, al_dp _ (Nat.le_refl _)]
  · rw [sI_at, if_pos ⟨rfl, rfl⟩, z2, al_dp _ (Nat.le_refl _)]
  · rw [sI_at, if_neg (fun z => hf (by rw [z.2]; simp)), sI_at, if_neg (fun z => hf (by rw [z.2]; simp)), q1.1 133 (by decide)]
theorem al_bd {T W : Nat → Nat} {n L : Nat} (h : ∀ i, i < n → W i ≤ 999) : ∀ s, (al_ T W n L s).1 ≤ 999 * n ∧ ((al_ T W n L s).2 < s ∨ al_ T W n L s = (0, 0))
  | 0 => ⟨Nat.zero_le _, .inr rfl⟩
  | s + 1 => by
    have ih := al_bd (T := T) (L := L) h s
    rw [al_]
    split
    · exact ⟨xs_le n h, .inl (Nat.lt_succ_self s)⟩
    · exact ⟨ih.1, ih.2.elim (fun z => .inl (by omega)) .inr⟩
theorem m_alone56 (hx : RX_ μ B) (hr : r < B 0 1) {s : Nat} (hs : s < 2 ^ B 0 0) {q : Nat × Nat} (hq : q = al_ (tR_ B r) (B 2) (B 0 0) (B 7 r) s) {x2 : Nat} {out : Out_} (t36 : Ev_ (P_X12_alone KC) 36 [some (.ref 219), some (.int (nI r)), some (.int (nI x2)), some (.int (nI (al_ (tR_ B r) (B 2) (B 0 0) (B 7 r) (s + 1)).2)), some (.int (nI (al_ (tR_ B r) (B 2) (B 0 0) (B 7 r) (s + 1)).1)), some (.int (nI (s + 1))), none, none, none] [] μ out) : ∀ n c, c + n = B 0 0 → Ev_ (P_X12_alone KC) 56 [some (.ref 219), some (.int (nI r)), some (.int (nI x2)), some (.int (nI q.2)), some (.int (nI q.1)), some (.int (nI s)), some (.int (nI (xs_ (tR_ B r) s c))), some (.int (nI (xs_ (B 2) s c))), some (.int (nI c))] [] μ out := by
  have hO := hx.2
  have h16 := hO.1.1
  have hbr := BO_rr hO hr
  have hp : 2 ^ B 0 0 ≤ 2 ^ 16 := Nat.pow_le_pow_right (by omega) h16
  have etm : f_X12_readerOf KC [.ref 219, .int (nI r), .int (nI 3)] μ = some (some (.int (nI (B 7 r))), μ) := m_readerOf (w := 3) hx hr (by omega)
  have qb := al_bd (T := tR_ B r) (W := B 2) (L := B 7 r) (fun i hi => (BO_cc hO hi).2.2.1) s
  rw [← hq] at qb
  intro n
  induction n with
  | zero =>
    intro c hc
    obtain rfl : c = B 0 0 := by omega
    have b1 := xs_le (f := tR_ B r) (s := s) (v := 999) (B 0 0) (fun i hi => tR_lt hO hi hr)
    have b2 := xs_le (f := B 2) (s := s) (v := 999) (B 0 0) (fun i hi => (BO_cc hO hi).2.2.1)
    rw [al_, ← hq] at t36
    refine e_X12_alone_56 ?_
    by_cases h1 : xs_ (tR_ B r) s (B 0 0) ≤ B 7 r
    · have h1' : ¬ B 7 r < xs_ (tR_ B r) s (B 0 0) := by omega
      by_cases h2 : q.1 < xs_ (B 2) s (B 0 0)
      · rw [if_pos ⟨h1, h2⟩] at t36
        simp (disch := first | assumption | omega) only [m_chaps hx, Nat.le_refl, etm, h1', h2, Option.some.injEq, Prod.mk.injEq, Value.int.injEq, exists_and_left, exists_eq_left', and_assoc, true_and, and_true, true_implies, false_implies, not_true_eq_false, not_false_eq_true, li_0, li_1, li_2, li_3, li_4, li_5, li_8, li_9, li_10, li_16, li_20, li_80, li_100, li_130, li_144, li_390, li_400, li_M, li_H, li_of, nI_add, pk_mul, cl_, vp_iff, nI_leI, nI_ltI, nI_eq, Nat.add_zero, Nat.zero_add, Nat.reduceEqDiff, Nat.reduceAdd, eq_self, reduceIte, Bool.false_eq_true, li_neg]
        exact t36
      · rw [if_neg (fun z => h2 z.2)] at t36
        simp (disch := first | assumption | omega) only [m_chaps hx, Nat.le_refl, etm, h1', h2, Option.some.injEq, Prod.mk.injEq, Value.int.injEq, exists_and_left, exists_eq_left', and_assoc, true_and, and_true, true_implies, false_implies, not_true_eq_false, not_false_eq_true, li_0, li_1, li_2, li_3, li_4, li_5, li_8, li_9, li_10, li_16, li_20, li_80, li_100, li_130, li_144, li_390, li_400, li_M, li_H, li_of, nI_add, pk_mul, cl_, vp_iff, nI_leI, nI_ltI, nI_eq, Nat.add_zero, Nat.zero_add, Nat.reduceEqDiff, Nat.reduceAdd, eq_self, reduceIte, Bool.false_eq_true, li_neg]
        exact t36
    · have h1' : B 7 r < xs_ (tR_ B r) s (B 0 0) := by omega
      rw [if_neg (fun z => h1 z.1)] at t36
      simp (disch := first | assumption | omega) only [m_chaps hx, Nat.le_refl, etm, h1', Option.some.injEq, Prod.mk.injEq, Value.int.injEq, exists_and_left, exists_eq_left', and_assoc, true_and, and_true, true_implies, false_implies, not_true_eq_false, not_false_eq_true, li_0, li_1, li_2, li_3, li_4, li_5, li_8, li_9, li_10, li_16, li_20, li_80, li_100, li_130, li_144, li_390, li_400, li_M, li_H, li_of, nI_add, pk_mul, cl_, vp_iff, nI_leI, nI_ltI, nI_eq, Nat.add_zero, Nat.zero_add, Nat.reduceEqDiff, Nat.reduceAdd, eq_self, reduceIte, Bool.false_eq_true, li_neg]
      exact t36
  | succ n ih =>
    intro c hc
    have hc1 : ¬ B 0 0 ≤ c := by omega
    have hc2 : c < B 0 0 := by omega
    have ih1 := ih (c + 1) (by omega)
    have ew : f_X12_chapOf KC [.ref 219, .int (nI c), .int (nI 1)] μ = some (some (.int (nI (B 2 c))), μ) := m_chapOf (w := 1) hx hc2 (by omega)
    have ehb := hb_n (x := s) (i := c) (by omega) (by omega)
    rw [xs_, xs_] at ih1
    refine e_X12_alone_56 ?_
    by_cases e : s.testBit c = true
    · rw [if_pos e, if_pos e] at ih1
      simp (disch := first | assumption | omega) only [m_chaps hx, hc1, m_hasK, ehb, e, m_ttr hx hr hc2, ew, if_true, if_pos, Option.some.injEq, Prod.mk.injEq, Value.int.injEq, exists_and_left, exists_eq_left', and_assoc, true_and, and_true, true_implies, false_implies, not_true_eq_false, not_false_eq_true, li_0, li_1, li_2, li_3, li_4, li_5, li_8, li_9, li_10, li_16, li_20, li_80, li_100, li_130, li_144, li_390, li_400, li_M, li_H, li_of, nI_add, pk_mul, cl_, vp_iff, nI_leI, nI_ltI, nI_eq, Nat.add_zero, Nat.zero_add, Nat.reduceEqDiff, Nat.reduceAdd, eq_self, reduceIte, Bool.false_eq_true, li_neg]
      exact ih1
    · rw [if_neg e, if_neg e] at ih1
      simp (disch := first | assumption | omega) only [m_chaps hx, hc1, m_hasK, ehb, e, if_false, if_neg, Option.some.injEq, Prod.mk.injEq, Value.int.injEq, exists_and_left, exists_eq_left', and_assoc, true_and, and_true, true_implies, false_implies, not_true_eq_false, not_false_eq_true, li_0, li_1, li_2, li_3, li_4, li_5, li_8, li_9, li_10, li_16, li_20, li_80, li_100, li_130, li_144, li_390, li_400, li_M, li_H, li_of, nI_add, pk_mul, cl_, vp_iff, nI_leI, nI_ltI, nI_eq, Nat.add_zero, Nat.zero_add, Nat.reduceEqDiff, Nat.reduceAdd, eq_self, reduceIte, Bool.false_eq_true, li_neg]
      exact ih1
theorem m_alone36 (hx : RX_ μ B) (hr : r < B 0 1) {x2 : Nat} (h2 : x2 < 2) : ∀ n s, s + n = 2 ^ B 0 0 → Ev_ (P_X12_alone KC) 36 [some (.ref 219), some (.int (nI r)), some (.int (nI x2)), some (.int (nI (al_ (tR_ B r) (B 2) (B 0 0) (B 7 r) s).2)), some (.int (nI (al_ (tR_ B r) (B 2) (B 0 0) (B 7 r) s).1)), some (.int (nI s)), none, none, none] [] μ (some (.int (if x2 = 0 then nI (al_ (tR_ B r) (B 2) (B 0 0) (B 7 r) (2 ^ B 0 0)).1 else nI (al_ (tR_ B r) (B 2) (B 0 0) (B 7 r) (2 ^ B 0 0)).2)), μ) := by
  have hO := hx.2
  have h16 := hO.1.1
  have hp : 2 ^ B 0 0 ≤ 2 ^ 16 := Nat.pow_le_pow_right (by omega) h16
  have h31 : B 0 0 < 31 := by omega
  intro n
  induction n with
  | zero =>
    intro s hs
    obtain rfl : s = 2 ^ B 0 0 := by omega
    refine e_X12_alone_36 ?_
    by_cases e : x2 = 0
    · simp (disch := first | assumption | omega) only [m_chaps hx, sh_1, Nat.le_refl, e, Option.some.injEq, Prod.mk.injEq, Value.int.injEq, exists_and_left, exists_eq_left', and_assoc, true_and, and_true, true_implies, false_implies, not_true_eq_false, not_false_eq_true, li_0, li_1, li_2, li_3, li_4, li_5, li_8, li_9, li_10, li_16, li_20, li_80, li_100, li_130, li_144, li_390, li_400, li_M, li_H, li_of, nI_add, pk_mul, cl_, vp_iff, nI_leI, nI_ltI, nI_eq, Nat.add_zero, Nat.zero_add, Nat.reduceEqDiff, Nat.reduceAdd, eq_self, reduceIte, Bool.false_eq_true, li_neg]
    · simp (disch := first | assumption | omega) only [m_chaps hx, sh_1, Nat.le_refl, e, Option.some.injEq, Prod.mk.injEq, Value.int.injEq, exists_and_left, exists_eq_left', and_assoc, true_and, and_true, true_implies, false_implies, not_true_eq_false, not_false_eq_true, li_0, li_1, li_2, li_3, li_4, li_5, li_8, li_9, li_10, li_16, li_20, li_80, li_100, li_130, li_144, li_390, li_400, li_M, li_H, li_of, nI_add, pk_mul, cl_, vp_iff, nI_leI, nI_ltI, nI_eq, Nat.add_zero, Nat.zero_add, Nat.reduceEqDiff, Nat.reduceAdd, eq_self, reduceIte, Bool.false_eq_true, li_neg]
  | succ n ih =>
    intro s hs
    have hs1 : ¬ 2 ^ B 0 0 ≤ s := by omega
    have t56 := m_alone56 hx hr (show s < 2 ^ B 0 0 by omega) rfl (ih (s + 1) (by omega)) (B 0 0) 0 (by omega)
    refine e_X12_alone_36 ?_
    simp (disch := first | assumption | omega) only [m_chaps hx, sh_1, hs1, Option.some.injEq, Prod.mk.injEq, Value.int.injEq, exists_and_left, exists_eq_left', and_assoc, true_and, and_true, true_implies, false_implies, not_true_eq_false, not_false_eq_true, li_0, li_1, li_2, li_3, li_4, li_5, li_8, li_9, li_10, li_16, li_20, li_80, li_100, li_130, li_144, li_390, li_400, li_M, li_H, li_of, nI_add, pk_mul, cl_, vp_iff, nI_leI, nI_ltI, nI_eq, Nat.add_zero, Nat.zero_add, Nat.reduceEqDiff, Nat.reduceAdd, eq_self, reduceIte, Bool.false_eq_true, li_neg]
    exact t56
end AE
