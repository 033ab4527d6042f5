/-! CUT: the best of i.. in r STRETCHES, and its ends -/
abbrev CU_ : Type := Option (Nat × List Nat)
def mg_ (s o : CU_) : CU_ := match o with
  | none => s
  | some (v, l) => match s with
    | none => some (v, l)
    | some (v0, l0) => if v < v0 then some (v, l) else some (v0, l0)
def mv_ (w e : Nat) (o : CU_) : CU_ := match o with
  | none => none
  | some (v, l) => some (w + v, e :: l)
def cuc_ (B : Nat → Nat → Nat) (P : Nat) (g : Nat → CU_) (i : Nat) : Nat → Nat → Nat → Nat → CU_
  | 0, _, _, _ => none
  | n + 1, c, len, w => if P < len + B 1 c then none else mg_ (mv_ (w + fb_sm (B (16 + c)) i) c (g (c + 1))) (cuc_ B P g i n (c + 1) (len + B 1 c) (w + fb_sm (B (16 + c)) i))
def cu_ (B : Nat → Nat → Nat) (P : Nat) : Nat → Nat → CU_
  | 0, i => if i = B 0 0 then some (0, []) else none
  | r + 1, i => cuc_ B P (cu_ B P r) i (B 0 0 - i) i 0 0
theorem mg_none (o : CU_) : mg_ none o = o := by
  cases o with
  | none => rfl
  | some x => rfl
theorem mg_ass (a b c : CU_) : mg_ (mg_ a b) c = mg_ a (mg_ b c) := by
  cases c with
  | none => rfl
  | some z =>
    obtain ⟨v3, l3⟩ := z
    cases b with
    | none => rfl
    | some y =>
      obtain ⟨v2, l2⟩ := y
      cases a with
      | none => rw [mg_none, mg_none]
      | some x =>
        obtain ⟨v1, l1⟩ := x
        show mg_ (if v2 < v1 then some (v2, l2) else some (v1, l1)) (some (v3, l3)) = mg_ (some (v1, l1)) (if v3 < v2 then some (v3, l3) else some (v2, l2))
        by_cases h1 : v2 < v1
        · rw [if_pos h1]
          show (if v3 < v2 then some (v3, l3) else some (v2, l2)) = _
          by_cases h2 : v3 < v2
          · rw [if_pos h2]
            show _ = (if v3 < v1 then some (v3, l3) else some (v1, l1))
            rw [if_pos (by omega)]
          · rw [if_neg h2]
            show _ = (if v2 < v1 then some (v2, l2) else some (v1, l1))
            rw [if_pos h1]
        · rw [if_neg h1]
          show (if v3 < v1 then some (v3, l3) else some (v1, l1)) = _
          by_cases h2 : v3 < v2
          · rw [if_pos h2]
            rfl
          · rw [if_neg h2]
            show _ = (if v2 < v1 then some (v2, l2) else some (v1, l1))
            rw [if_neg h1, if_neg (by omega)]
section CU
variable {B : Nat → Nat → Nat} {P : Nat} {g : Nat → CU_} {i : Nat}
theorem cuc_some : ∀ n c len w v l, cuc_ B P g i n c len w = some (v, l) → ∃ e l' v', l = e :: l' ∧ g (e + 1) = some (v', l') ∧ c ≤ e ∧ e < c + n ∧ v' ≤ v
  | 0, _, _, _, _, _, h => by cases h
  | n + 1, c, len, w, v, l, h => by
    rw [cuc_] at h
    split at h
    · cases h
    · cases ha : g (c + 1) with
      | none =>
        rw [ha] at h
        rw [show mv_ (w + fb_sm (B (16 + c)) i) c none = none from rfl, mg_none] at h
        obtain ⟨e, l', v', h1, h2, h3, h4, h5⟩ := cuc_some n _ _ _ _ _ h
        exact ⟨e, l', v', h1, h2, by omega, by omega, h5⟩
      | some x =>
        obtain ⟨v1, l1⟩ := x
        rw [ha] at h
        cases hb : cuc_ B P g i n (c + 1) (len + B 1 c) (w + fb_sm (B (16 + c)) i) with
        | none =>
          rw [hb] at h
          cases h
          exact ⟨c, l1, v1, rfl, ha, by omega, by omega, by omega⟩
        | some y =>
          obtain ⟨v2, l2⟩ := y
          rw [hb] at h
          have h' : (if v2 < w + fb_sm (B (16 + c)) i + v1 then some (v2, l2) else some (w + fb_sm (B (16 + c)) i + v1, c :: l1)) = some (v, l) := h
          split at h'
          · cases h'
            obtain ⟨e, l', v', h1, h2, h3, h4, h5⟩ := cuc_some n _ _ _ _ _ hb
            exact ⟨e, l', v', h1, h2, by omega, by omega, h5⟩
          · cases h'
            exact ⟨c, l1, v1, rfl, ha, by omega, by omega, by omega⟩
theorem cuc_le (hO : BO_ B) (hi : i ≤ 16) (hg : ∀ j v l, g j = some (v, l) → v ≤ 10 * (B 0 0 - j)) : ∀ n c len w v l, c + n = B 0 0 → w ≤ 10 * (c - i) → i ≤ c → cuc_ B P g i n c len w = some (v, l) → v ≤ 10 * (B 0 0 - i)
  | 0, _, _, _, _, _, _, _, _, h => by cases h
  | n + 1, c, len, w, v, l, hc, hw, hic, h => by
    have hs : fb_sm (B (16 + c)) i ≤ 10 := Nat.le_trans (fb_pre _ hi) ((hO.2.1 c (by omega)).2.2.2.2.2)
    rw [cuc_] at h
    split at h
    · cases h
    · cases hb : cuc_ B P g i n (c + 1) (len + B 1 c) (w + fb_sm (B (16 + c)) i) with
      | none =>
        rw [hb] at h
        cases ha : g (c + 1) with
        | none =>
          rw [ha] at h
          cases h
        | some x =>
          obtain ⟨v1, l1⟩ := x
          have := hg _ _ _ ha
          rw [ha] at h
          cases h
          omega
      | some y =>
        obtain ⟨v2, l2⟩ := y
        have h2 := cuc_le hO hi hg n (c + 1) _ _ _ _ (by omega) (by omega) (by omega) hb
        rw [hb] at h
        cases ha : g (c + 1) with
        | none =>
          rw [ha] at h
          cases h
          exact h2
        | some x =>
          obtain ⟨v1, l1⟩ := x
          have := hg _ _ _ ha
          rw [ha] at h
          have h' : (if v2 < w + fb_sm (B (16 + c)) i + v1 then some (v2, l2) else some (w + fb_sm (B (16 + c)) i + v1, c :: l1)) = some (v, l) := h
          split at h'
          · cases h'
            exact h2
          · cases h'
            omega
theorem cu_le (hO : BO_ B) : ∀ r j v l, j ≤ B 0 0 → cu_ B P r j = some (v, l) → v ≤ 10 * (B 0 0 - j)
  | 0, j, v, l, hj, h => by
    rw [cu_] at h
    split at h
    · cases h
      omega
    · cases h
  | r + 1, j, v, l, hj, h => by
    have h16 := hO.1.1
    rw [cu_] at h
    refine cuc_le hO (show j ≤ 16 by omega) (fun j' v' l' h' => ?_) (B 0 0 - j) j 0 0 v l (by omega) (by omega) (Nat.le_refl _) h
    by_cases hj' : j' ≤ B 0 0
    · exact cu_le hO r j' v' l' hj' h'
    · cases r with
      | zero =>
        rw [cu_, if_neg (by omega)] at h'
        cases h'
      | succ r =>
        rw [cu_, show B 0 0 - j' = 0 by omega] at h'
        cases h'
theorem cu_len : ∀ r j v l, cu_ B P r j = some (v, l) → l.length = r
  | 0, j, v, l, h => by
    rw [cu_] at h
    split at h
    · cases h
      rfl
    · cases h
  | r + 1, j, v, l, h => by
    rw [cu_] at h
    obtain ⟨e, l', v', h1, h2, -⟩ := cuc_some _ _ _ _ _ _ h
    rw [h1, List.length_cons, cu_len r _ _ _ h2]
/-- too few CHAPS -/
theorem cu_few : ∀ r j, j ≤ B 0 0 → B 0 0 - j < r → cu_ B P r j = none
  | 0, j, _, h => absurd h (by omega)
  | r + 1, j, hj, h => by
    cases hc : cu_ B P (r + 1) j with
    | none => rfl
    | some x =>
      obtain ⟨v, l⟩ := x
      rw [cu_] at hc
      obtain ⟨e, l', v', h1, h2, h3, h4, h5⟩ := cuc_some _ _ _ _ _ _ hc
      rw [cu_few r (e + 1) (by omega) (by omega)] at h2
      cases h2
end CU
/-! the class's table -/
def ev_u (o : CU_) : Int32 := match o with
  | none => nI 1000000
  | some (v, _) => nI v
def eh_u (o : CU_) : Int32 := match o with
  | none => nI 0
  | some (_, l) => nI (l.headD 0)
section CT
variable {σ : St_} {b P k : Nat} {B : Nat → Nat → Nat}
def TB_ (σ : St_) (B : Nat → Nat → Nat) (P k i : Nat) : Prop := ∀ s j, s ≤ k → i ≤ j → j ≤ B 0 0 → σ.1 (108 + s) j = ev_u (cu_ B P s j) ∧ (cu_ B P s j ≠ none → 1 ≤ s → σ.1 (119 + s) j = eh_u (cu_ B P s j))
def cutS_ : List Nat := [108, 109, 110, 111, 112, 113, 114, 115, 116, 117, 119, 120, 121, 122, 123, 124, 125, 126, 127, 128]
theorem cutS_in {s : Nat} (h : s ≤ 9) : 108 + s ∈ cutS_ ∧ 119 + s ∈ cutS_ := by
  rcases (show s = 0 ∨ s = 1 ∨ s = 2 ∨ s = 3 ∨ s = 4 ∨ s = 5 ∨ s = 6 ∨ s = 7 ∨ s = 8 ∨ s = 9 by omega) with rfl | rfl | rfl | rfl | rfl | rfl | rfl | rfl | rfl | rfl <;> decide
theorem cutS_no {o : Nat} (h : o < 108 ∨ 128 < o) : o ∉ cutS_ := by
  intro z
  simp [cutS_] at z
  omega
theorem ev_u_lt {o : CU_} {x : Nat} (h : ∀ v l, o = some (v, l) → v ≤ x) (hx : x ≤ 1000000) : ∃ y, y ≤ 1000000 ∧ ev_u o = nI y := by
  cases o with
  | none => exact ⟨1000000, Nat.le_refl _, rfl⟩
  | some z =>
    obtain ⟨v, l⟩ := z
    exact ⟨v, by have := h v l rfl; omega, rfl⟩
def UP_ (B : Nat → Nat → Nat) (P w c : Nat) (A : Nat → CU_) (q : Nat) : CU_ := mg_ (A q) (mv_ w c (cu_ B P (q - 1) (c + 1)))
def RA_ (σ : St_) (k i : Nat) (A : Nat → CU_) : Prop := ∀ q, 1 ≤ q → q ≤ k → (∀ v l, A q = some (v, l) → v ≤ 320) ∧ σ.1 (108 + q) i = ev_u (A q) ∧ (A q ≠ none → σ.1 (119 + q) i = eh_u (A q))
/-- one more end, for all s: the merge of what was with what comes -/
theorem c_ends97 (hB : isB b) (hO : BO_ B) (hk : 1 ≤ k ∧ k ≤ 9) {i c : Nat} (hi : i < B 0 0) (hc : c < B 0 0) (hic : i ≤ c) (len w : Nat) (hw : w ≤ 160) {P : Nat} : ∀ n s (σ : St_) (A : Nat → CU_), s + n = k + 1 → 1 ≤ s → CB_ σ b B → TB_ σ B P k (i + 1) → RA_ σ k i A → ∃ σ', (∀ out, Ev_ (P_X2_chooseEnds KC) 35 [some (.ref 105), some (.ref b), some (.int (nI k)), some (.int (nI i)), some (.int (nI P)), some (.int (nI w)), some (.int (nI len)), some (.int (nI (c + 1))), none, none] [] σ' out → Ev_ (P_X2_chooseEnds KC) 97 [some (.ref 105), some (.ref b), some (.int (nI k)), some (.int (nI i)), some (.int (nI P)), some (.int (nI w)), some (.int (nI len)), some (.int (nI c)), some (.int (nI s)), none] [] σ out) ∧ CB_ σ' b B ∧ TB_ σ' B P k (i + 1) ∧ RA_ σ' k i (fun q => if s ≤ q then UP_ B P w c A q else A q) ∧ fr_ cutS_ σ σ' ∧ (∀ j, σ'.1 108 j = σ.1 108 j) := by
  have h16 := hO.1.1
  have bn := b_no hB
  intro n
  induction n with
  | zero =>
    intro s σ A hs hs1 hC hT hA
    have hks : k < s := by omega
    refine ⟨σ, fun out q => e_X2_chooseEnds_97 hB ?_, hC, hT, fun q q1 q2 => ?_, fr_rf _ _, fun _ => rfl⟩
    · simp (disch := first | assumption | omega) only [hks, Option.some.injEq, Prod.mk.injEq, Value.int.injEq, exists_and_left, exists_eq_left', and_assoc, true_and, and_true, true_implies, false_implies, not_true_eq_false, not_false_eq_true, li_0, li_1, li_2, li_3, li_4, li_5, li_8, li_9, li_10, li_16, li_20, li_80, li_100, li_130, li_144, li_390, li_400, li_M, li_H, li_of, nI_add, pk_mul, cl_, vp_iff, nI_leI, nI_ltI, nI_eq, Nat.add_zero, Nat.zero_add, Nat.reduceEqDiff, Nat.reduceAdd, eq_self, reduceIte, Bool.false_eq_true, li_neg]
      exact q
    · try dsimp only
      rw [if_neg (by omega)]
      exact hA q q1 q2
  | succ n ih =>
    intro s σ A hs hs1 hC hT hA
    have hks : ¬ k < s := by omega
    have hAs := hA s hs1 (by omega)
    have hsub := hT (s - 1) (c + 1) (by omega) (by omega) (by omega)
    have hvs : ∀ v l, cu_ B P (s - 1) (c + 1) = some (v, l) → v ≤ 160 := fun v l h => by
      have := cu_le hO (s - 1) (c + 1) v l (by omega) h
      omega
    have done : ∀ σ1 : St_, (∀ o j, ¬ (j = i ∧ (o = 108 + s ∨ o = 119 + s)) → σ1.1 o j = σ.1 o j) → fr_ cutS_ σ σ1 → (∀ v l, UP_ B P w c A s = some (v, l) → v ≤ 320) → σ1.1 (108 + s) i = ev_u (UP_ B P w c A s) → (UP_ B P w c A s ≠ none → σ1.1 (119 + s) i = eh_u (UP_ B P w c A s)) → ∃ σ', (∀ out, Ev_ (P_X2_chooseEnds KC) 35 [some (.ref 105), some (.ref b), some (.int (nI k)), some (.int (nI i)), some (.int (nI P)), some (.int (nI w)), some (.int (nI len)), some (.int (nI (c + 1))), none, none] [] σ' out → Ev_ (P_X2_chooseEnds KC) 97 [some (.ref 105), some (.ref b), some (.int (nI k)), some (.int (nI i)), some (.int (nI P)), some (.int (nI w)), some (.int (nI len)), some (.int (nI c)), some (.int (nI (s + 1))), none] [] σ1 out) ∧ CB_ σ' b B ∧ TB_ σ' B P k (i + 1) ∧ RA_ σ' k i (fun q => if s ≤ q then UP_ B P w c A q else A q) ∧ fr_ cutS_ σ σ' ∧ (∀ j, σ'.1 108 j = σ.1 108 j) := by
      intro σ1 h1 h5 hv h3 h4
      have hC1 : CB_ σ1 b B := CB_row hB hC (fun o o1 o2 => h5.1 o (cutS_no (by omega))) hO
      have hT1 : TB_ σ1 B P k (i + 1) := fun q j q1 q2 q3 => by
        rw [h1 _ _ (by omega), h1 _ _ (by omega)]
        exact hT q j q1 q2 q3
      have hA1 : RA_ σ1 k i (fun q => if q = s then UP_ B P w c A s else A q) := fun q q1 q2 => by
        try dsimp only
        by_cases e : q = s
        · rw [if_pos e, e]
          exact ⟨hv, h3, h4⟩
        · rw [if_neg e, h1 _ _ (by omega), h1 _ _ (by omega)]
          exact hA q q1 q2
      obtain ⟨σ', g1, g2, g3, g4, g5, g6⟩ := ih (s + 1) σ1 _ (by omega) (by omega) hC1 hT1 hA1
      refine ⟨σ', g1, g2, g3, fun q q1 q2 => ?_, fr_tr h5 g5, fun q => by rw [g6 q, h1 _ _ (by omega)]⟩
      have g := g4 q q1 q2
      try dsimp only at g ⊢
      by_cases e : q = s
      · rw [if_neg (by omega), if_pos e] at g
        rw [if_pos (by omega), e]
        rw [e] at g
        exact g
      · by_cases e2 : s ≤ q
        · rw [if_pos (by omega)] at g
          rw [if_pos e2]
          unfold UP_ at g ⊢
          try dsimp only at g
          rw [if_neg e] at g
          exact g
        · rw [if_neg (by omega), if_neg e] at g
          rw [if_neg e2]
          exact g
    have kc108 : KC.1 (108 + s) = (14, 17) := kc_k107 s (by omega)
    obtain ⟨y, y1, y2⟩ := ev_u_lt (o := A s) hAs.1 (by omega)
    obtain ⟨z, z1, z2⟩ := ev_u_lt (o := cu_ B P (s - 1) (c + 1)) hvs (by omega)
    have es := hAs.2.1
    have ez := hsub.1
    rw [y2] at es
    rw [z2] at ez
    by_cases hg : y ≤ w + z
    · -- as it was
      have hup : UP_ B P w c A s = A s := by
        unfold UP_
        cases hs2 : cu_ B P (s - 1) (c + 1) with
        | none => rfl
        | some x =>
          obtain ⟨v1, l1⟩ := x
          rw [hs2] at z2
          have hv1 := hvs v1 l1 hs2
          have hz : v1 = z := (nI_eq (by omega) (by omega)).mp z2
          cases hA2 : A s with
          | none =>
            rw [hA2] at y2
            have hy : 1000000 = y := (nI_eq (by omega) (by omega)).mp y2
            omega
          | some x =>
            obtain ⟨v0, l0⟩ := x
            rw [hA2] at y2
            have hv0 := hAs.1 v0 l0 hA2
            have hy : v0 = y := (nI_eq (by omega) (by omega)).mp y2
            show (if w + v1 < v0 then some (w + v1, c :: l1) else some (v0, l0)) = some (v0, l0)
            rw [if_neg (by omega)]
      obtain ⟨σ', g1, g2⟩ := done σ (fun _ _ _ => rfl) (fr_rf _ _) (by rw [hup]; exact hAs.1) (by rw [hup]; exact hAs.2.1) (by rw [hup]; exact hAs.2.2)
      refine ⟨σ', fun out q => e_X2_chooseEnds_97 hB ?_, g2⟩
      have g1' := g1 out q
      simp (disch := first | assumption | omega) only [hks, pk_sub, es, ez, hg, Option.some.injEq, Prod.mk.injEq, Value.int.injEq, exists_and_left, exists_eq_left', and_assoc, true_and, and_true, true_implies, false_implies, not_true_eq_false, not_false_eq_true, li_0, li_1, li_2, li_3, li_4, li_5, li_8, li_9, li_10, li_16, li_20, li_80, li_100, li_130, li_144, li_390, li_400, li_M, li_H, li_of, nI_add, pk_mul, cl_, vp_iff, nI_leI, nI_ltI, nI_eq, Nat.add_zero, Nat.zero_add, Nat.reduceEqDiff, Nat.reduceAdd, eq_self, reduceIte, Bool.false_eq_true, li_neg]
      (repeat' apply And.intro) <;> first | omega | rfl | assumption | exact g1'
    · have hg2 : w + z < y := by omega
      have hzn : ∃ v1 l1, cu_ B P (s - 1) (c + 1) = some (v1, l1) ∧ v1 = z := by
        cases hs2 : cu_ B P (s - 1) (c + 1) with
        | none =>
          rw [hs2] at z2
          have hz : 1000000 = z := (nI_eq (by omega) (by omega)).mp z2
          omega
        | some x =>
          obtain ⟨v1, l1⟩ := x
          rw [hs2] at z2
          have hv1 := hvs v1 l1 hs2
          exact ⟨v1, l1, rfl, (nI_eq (by omega) (by omega)).mp z2⟩
      obtain ⟨v1, l1, hs2, hz⟩ := hzn
      have hv1 := hvs v1 l1 hs2
      have hup : UP_ B P w c A s = some (w + v1, c :: l1) := by
        unfold UP_
        rw [hs2]
        cases hA2 : A s with
        | none => rfl
        | some x =>
          obtain ⟨v0, l0⟩ := x
          rw [hA2] at y2
          have hv0 := hAs.1 v0 l0 hA2
          have hy : v0 = y := (nI_eq (by omega) (by omega)).mp y2
          show (if w + v1 < v0 then some (w + v1, c :: l1) else some (v0, l0)) = _
          rw [if_pos (by omega)]
      have hcs := cutS_in (s := s) (by omega)
      obtain ⟨σ', g1, g2⟩ := done (sI_ (sI_ σ (108 + s) i (nI (w + z))) (119 + s) i (nI c)) (fun o j hn => by
        rw [sI_at, if_neg (fun z => hn ⟨z.2, Or.inr z.1⟩), sI_at, if_neg (fun z => hn ⟨z.2, Or.inl z.1⟩)]) (fr_tr (fr_sI hcs.1) (fr_sI hcs.2)) (by
        rw [hup]
        intro v l h
        cases h
        omega) (by
        rw [hup, sI_row _ _ _ _ (by omega), sI_at, if_pos ⟨rfl, rfl⟩, ← hz]
        rfl) (fun _ => by
        rw [hup, sI_at, if_pos ⟨rfl, rfl⟩]
        rfl)
      have hg3 : ¬ y ≤ w + z := hg
      refine ⟨σ', fun out q => e_X2_chooseEnds_97 hB ?_, g2⟩
      have g1' := g1 out q
      simp (disch := first | assumption | omega) only [hks, pk_sub, es, ez, hg3, Option.some.injEq, Prod.mk.injEq, Value.int.injEq, exists_and_left, exists_eq_left', and_assoc, true_and, and_true, true_implies, false_implies, not_true_eq_false, not_false_eq_true, li_0, li_1, li_2, li_3, li_4, li_5, li_8, li_9, li_10, li_16, li_20, li_80, li_100, li_130, li_144, li_390, li_400, li_M, li_H, li_of, nI_add, pk_mul, cl_, vp_iff, nI_leI, nI_ltI, nI_eq, Nat.add_zero, Nat.zero_add, Nat.reduceEqDiff, Nat.reduceAdd, eq_self, reduceIte, Bool.false_eq_true, li_neg]
      (repeat' apply And.intro) <;> first | omega | rfl | assumption | exact g1'
/-- the sum of what leans over the beginning -/
theorem c_ends67 (hB : isB b) (hO : BO_ B) (hk : 1 ≤ k ∧ k ≤ 9) {i c : Nat} (hi : i < B 0 0) (hc : c < B 0 0) (hic : i ≤ c) (len w : Nat) (hC : CB_ σ b B) {out : Out_} (q : Ev_ (P_X2_chooseEnds KC) 97 [some (.ref 105), some (.ref b), some (.int (nI k)), some (.int (nI i)), some (.int (nI P)), some (.int (nI (w + fb_sm (B (16 + c)) i))), some (.int (nI len)), some (.int (nI c)), some (.int (nI 1)), none] [] σ out) : ∀ n d, d + n = i → Ev_ (P_X2_chooseEnds KC) 67 [some (.ref 105), some (.ref b), some (.int (nI k)), some (.int (nI i)), some (.int (nI P)), some (.int (nI (w + fb_sm (B (16 + c)) d))), some (.int (nI len)), some (.int (nI c)), some (.int (nI d)), none] [] σ out := by
  have h16 := hO.1.1
  intro n
  induction n with
  | zero =>
    intro d hd
    obtain rfl : d = i := by omega
    refine e_X2_chooseEnds_67 hB ?_
    simp (disch := first | assumption | omega) only [Nat.le_refl, Option.some.injEq, Prod.mk.injEq, Value.int.injEq, exists_and_left, exists_eq_left', and_assoc, true_and, and_true, true_implies, false_implies, not_true_eq_false, not_false_eq_true, li_0, li_1, li_2, li_3, li_4, li_5, li_8, li_9, li_10, li_16, li_20, li_80, li_100, li_130, li_144, li_390, li_400, li_M, li_H, li_of, nI_add, pk_mul, cl_, vp_iff, nI_leI, nI_ltI, nI_eq, Nat.add_zero, Nat.zero_add, Nat.reduceEqDiff, Nat.reduceAdd, eq_self, reduceIte, Bool.false_eq_true, li_neg]
    exact q
  | succ n ih =>
    intro d hd
    have hd1 : ¬ i ≤ d := by omega
    have ih1 := ih (d + 1) (by omega)
    rw [fb_sm_succ, ← Nat.add_assoc] at ih1
    refine e_X2_chooseEnds_67 hB ?_
    simp (disch := first | assumption | omega) only [hd1, (hC.2.1 c hc).2.2.2.2, Option.some.injEq, Prod.mk.injEq, Value.int.injEq, exists_and_left, exists_eq_left', and_assoc, true_and, and_true, true_implies, false_implies, not_true_eq_false, not_false_eq_true, li_0, li_1, li_2, li_3, li_4, li_5, li_8, li_9, li_10, li_16, li_20, li_80, li_100, li_130, li_144, li_390, li_400, li_M, li_H, li_of, nI_add, pk_mul, cl_, vp_iff, nI_leI, nI_ltI, nI_eq, Nat.add_zero, Nat.zero_add, Nat.reduceEqDiff, Nat.reduceAdd, eq_self, reduceIte, Bool.false_eq_true, li_neg]
    (repeat' apply And.intro) <;> first | omega | rfl | assumption | exact ih1
theorem c_ends35 (hB : isB b) (hO : BO_ B) (hk : 1 ≤ k ∧ k ≤ 9) {i : Nat} (hi : i < B 0 0) {P : Nat} (hP : P ≤ 999) : ∀ n c len w (σ : St_) (A : Nat → CU_), c + n = B 0 0 → i ≤ c → w ≤ 10 * (c - i) → len ≤ 999 → CB_ σ b B → TB_ σ B P k (i + 1) → RA_ σ k i A → (∀ q, 1 ≤ q → q ≤ k → mg_ (A q) (cuc_ B P (cu_ B P (q - 1)) i n c len w) = cu_ B P q i) → ∃ σ', Ev_ (P_X2_chooseEnds KC) 35 [some (.ref 105), some (.ref b), some (.int (nI k)), some (.int (nI i)), some (.int (nI P)), some (.int (nI w)), some (.int (nI len)), some (.int (nI c)), none, none] [] σ (none, σ') ∧ CB_ σ' b B ∧ TB_ σ' B P k (i + 1) ∧ RA_ σ' k i (fun q => cu_ B P q i) ∧ fr_ cutS_ σ σ' ∧ (∀ j, σ'.1 108 j = σ.1 108 j) := by
  have h16 := hO.1.1
  intro n
  induction n with
  | zero =>
    intro c len w σ A hc hic hw hl hC hT hA hm
    obtain rfl : c = B 0 0 := by omega
    refine ⟨σ, e_X2_chooseEnds_35 hB ?_, hC, hT, fun q q1 q2 => ?_, fr_rf _ _, fun _ => rfl⟩
    · simp (disch := first | assumption | omega) only [hC.1.1, Nat.le_refl, Option.some.injEq, Prod.mk.injEq, Value.int.injEq, exists_and_left, exists_eq_left', and_assoc, true_and, and_true, true_implies, false_implies, not_true_eq_false, not_false_eq_true, li_0, li_1, li_2, li_3, li_4, li_5, li_8, li_9, li_10, li_16, li_20, li_80, li_100, li_130, li_144, li_390, li_400, li_M, li_H, li_of, nI_add, pk_mul, cl_, vp_iff, nI_leI, nI_ltI, nI_eq, Nat.add_zero, Nat.zero_add, Nat.reduceEqDiff, Nat.reduceAdd, eq_self, reduceIte, Bool.false_eq_true, li_neg]
    · have e : (fun q => cu_ B P q i) q = A q := (hm q q1 q2).symm
      rw [e]
      exact hA q q1 q2
  | succ n ih =>
    intro c len w σ A hc hic hw hl hC hT hA hm
    have hc1 : ¬ B 0 0 ≤ c := by omega
    have hc2 : c < B 0 0 := by omega
    have hpg := BO_cc hO hc2
    have epg := (hC.2.1 c hc2).2.1
    by_cases hp : len + B 1 c ≤ P
    · have hs : fb_sm (B (16 + c)) i ≤ 10 := Nat.le_trans (fb_pre _ (by omega)) ((hO.2.1 c hc2).2.2.2.2.2)
      obtain ⟨σ2, g1, g2, g3, g4, g5, g6⟩ := c_ends97 hB hO hk hi hc2 hic (len + B 1 c) (w + fb_sm (B (16 + c)) i) (by omega) k 1 σ A (by omega) (Nat.le_refl _) hC hT hA
      have g4' : RA_ σ2 k i (fun q => UP_ B P (w + fb_sm (B (16 + c)) i) c A q) := fun q q1 q2 => by
        have := g4 q q1 q2
        try dsimp only at this
        rw [if_pos q1] at this
        exact this
      obtain ⟨σ', k1, k2, k3, k4, k5, k6⟩ := ih (c + 1) (len + B 1 c) (w + fb_sm (B (16 + c)) i) σ2 _ (by omega) (by omega) (by omega) (by omega) g2 g3 g4' (fun q q1 q2 => by
        rw [← hm q q1 q2, cuc_, if_neg (by omega)]
        try dsimp only
        unfold UP_
        exact mg_ass _ _ _)
      refine ⟨σ', e_X2_chooseEnds_35 hB ?_, k2, k3, k4, fr_tr g5 k5, fun j => (k6 j).trans (g6 j)⟩
      have t67 := c_ends67 (σ := σ) (P := P) hB hO hk hi hc2 hic (len + B 1 c) w hC (g1 _ k1) i 0 (by omega)
      rw [show fb_sm (B (16 + c)) 0 = 0 from rfl, Nat.add_zero] at t67
      simp (disch := first | assumption | omega) only [hC.1.1, hc1, epg, hp, Option.some.injEq, Prod.mk.injEq, Value.int.injEq, exists_and_left, exists_eq_left', and_assoc, true_and, and_true, true_implies, false_implies, not_true_eq_false, not_false_eq_true, li_0, li_1, li_2, li_3, li_4, li_5, li_8, li_9, li_10, li_16, li_20, li_80, li_100, li_130, li_144, li_390, li_400, li_M, li_H, li_of, nI_add, pk_mul, cl_, vp_iff, nI_leI, nI_ltI, nI_eq, Nat.add_zero, Nat.zero_add, Nat.reduceEqDiff, Nat.reduceAdd, eq_self, reduceIte, Bool.false_eq_true, li_neg]
      (repeat' apply And.intro) <;> first | omega | rfl | assumption | exact t67
    · refine ⟨σ, e_X2_chooseEnds_35 hB ?_, hC, hT, fun q q1 q2 => ?_, fr_rf _ _, fun _ => rfl⟩
      · simp (disch := first | assumption | omega) only [hC.1.1, hc1, epg, hp, Option.some.injEq, Prod.mk.injEq, Value.int.injEq, exists_and_left, exists_eq_left', and_assoc, true_and, and_true, true_implies, false_implies, not_true_eq_false, not_false_eq_true, li_0, li_1, li_2, li_3, li_4, li_5, li_8, li_9, li_10, li_16, li_20, li_80, li_100, li_130, li_144, li_390, li_400, li_M, li_H, li_of, nI_add, pk_mul, cl_, vp_iff, nI_leI, nI_ltI, nI_eq, Nat.add_zero, Nat.zero_add, Nat.reduceEqDiff, Nat.reduceAdd, eq_self, reduceIte, Bool.false_eq_true, li_neg]
        (repeat' apply And.intro) <;> first | omega | rfl | assumption
      · have := hm q q1 q2
        rw [cuc_, if_pos (by omega)] at this
        have e : (fun q => cu_ B P q i) q = A q := this.symm
        rw [e]
        exact hA q q1 q2
theorem c_chooseEnds (hB : isB b) (hO : BO_ B) (hk : 1 ≤ k ∧ k ≤ 9) {i : Nat} (hi : i < B 0 0) (hP : 1 ≤ P ∧ P ≤ 999) (hC : CB_ σ b B) (hT : TB_ σ B P k (i + 1)) : ∃ σ', f_X2_chooseEnds KC [.ref 105, .ref b, .int (nI k), .int (nI i), .int (nI P)] σ = some (none, σ') ∧ CB_ σ' b B ∧ TB_ σ' B P k i ∧ fr_ cutS_ σ σ' := by
  have h16 := hO.1.1
  have bn := b_no hB
  have loop : ∀ n s σ1, s + n = k + 1 → CB_ σ1 b B → TB_ σ1 B P k (i + 1) → (∀ q, q < s → σ1.1 (108 + q) i = nI 1000000) → ∃ σ2, (∀ out, Ev_ (P_X2_chooseEnds KC) 35 [some (.ref 105), some (.ref b), some (.int (nI k)), some (.int (nI i)), some (.int (nI P)), some (.int (nI 0)), some (.int (nI 0)), some (.int (nI i)), none, none] [] σ2 out → Ev_ (P_X2_chooseEnds KC) 3 [some (.ref 105), some (.ref b), some (.int (nI k)), some (.int (nI i)), some (.int (nI P)), some (.int (nI s)), none, none, none, none] [] σ1 out) ∧ CB_ σ2 b B ∧ TB_ σ2 B P k (i + 1) ∧ (∀ q, q ≤ k → σ2.1 (108 + q) i = nI 1000000) ∧ fr_ cutS_ σ1 σ2 := by
    intro n
    induction n with
    | zero =>
      intro s σ1 hs h1 h2 h3
      have hks : k < s := by omega
      refine ⟨σ1, fun out q => e_X2_chooseEnds_3 hB ?_, h1, h2, fun q hq => h3 q (by omega), fr_rf _ _⟩
      simp (disch := first | assumption | omega) only [hks, Option.some.injEq, Prod.mk.injEq, Value.int.injEq, exists_and_left, exists_eq_left', and_assoc, true_and, and_true, true_implies, false_implies, not_true_eq_false, not_false_eq_true, li_0, li_1, li_2, li_3, li_4, li_5, li_8, li_9, li_10, li_16, li_20, li_80, li_100, li_130, li_144, li_390, li_400, li_M, li_H, li_of, nI_add, pk_mul, cl_, vp_iff, nI_leI, nI_ltI, nI_eq, Nat.add_zero, Nat.zero_add, Nat.reduceEqDiff, Nat.reduceAdd, eq_self, reduceIte, Bool.false_eq_true, li_neg]
      exact q
    | succ n ih =>
      intro s σ1 hs h1 h2 h3
      have hks : ¬ k < s := by omega
      have hcs := cutS_in (s := s) (by omega)
      obtain ⟨σ2, g1, g2, g3, g4, g5⟩ := ih (s + 1) (sI_ σ1 (108 + s) i (nI 1000000)) (by omega) (CB_row hB h1 (fun o o1 o2 => sI_row _ _ _ _ (by omega)) hO) (fun q j q1 q2 q3 => by
        rw [sI_at, if_neg (by omega), sI_at, if_neg (by omega)]
        exact h2 q j q1 q2 q3) (fun q hq => by
        rw [sI_at]
        by_cases e : q = s
        · rw [if_pos ⟨by omega, rfl⟩]
        · rw [if_neg (by omega)]
          exact h3 q (by omega))
      refine ⟨σ2, fun out q => e_X2_chooseEnds_3 hB ?_, g2, g3, g4, fr_tr (fr_sI hcs.1) g5⟩
      have g1' := g1 out q
      simp (disch := first | assumption | omega) only [hks, Option.some.injEq, Prod.mk.injEq, Value.int.injEq, exists_and_left, exists_eq_left', and_assoc, true_and, and_true, true_implies, false_implies, not_true_eq_false, not_false_eq_true, li_0, li_1, li_2, li_3, li_4, li_5, li_8, li_9, li_10, li_16, li_20, li_80, li_100, li_130, li_144, li_390, li_400, li_M, li_H, li_of, nI_add, pk_mul, cl_, vp_iff, nI_leI, nI_ltI, nI_eq, Nat.add_zero, Nat.zero_add, Nat.reduceEqDiff, Nat.reduceAdd, eq_self, reduceIte, Bool.false_eq_true, li_neg]
      (repeat' apply And.intro) <;> first | omega | rfl | assumption | exact g1'
  obtain ⟨σ2, g1, g2, g3, g4, g5⟩ := loop (k + 1) 0 σ (by omega) hC hT (fun q hq => absurd hq (by omega))
  obtain ⟨σ', k1, k2, k3, k4, k5, k6⟩ := c_ends35 hB hO hk hi hP.2 (B 0 0 - i) i 0 0 σ2 (fun _ => none) (by omega) (Nat.le_refl _) (by omega) (by omega) g2 g3 (fun q q1 q2 => ⟨(fun v l h => nomatch h), g4 q q2, fun h => absurd rfl h⟩) (fun q q1 q2 => by
    try dsimp only
    rw [mg_none]
    obtain ⟨q', rfl⟩ : ∃ q', q = q' + 1 := ⟨q - 1, by omega⟩
    rw [cu_, show q' + 1 - 1 = q' by omega])
  refine ⟨σ', z_X2_chooseEnds (e_X2_chooseEnds_0 hB (g1 _ k1)), k2, fun s j hs hj hj2 => ?_, fr_tr g5 k5⟩
  by_cases e : j = i
  · subst e
    by_cases e0 : s = 0
    · subst e0
      rw [show (108 + 0 : Nat) = 108 from rfl, k6, show (108 : Nat) = 108 + 0 from rfl, g4 0 (by omega)]
      have : cu_ B P 0 j = none := by rw [cu_, if_neg (by omega)]
      rw [this]
      exact ⟨rfl, fun h => absurd rfl h⟩
    · have := k4 s (by omega) hs
      exact ⟨this.2.1, fun h _ => this.2.2 h⟩
  · exact k3 s j hs (by omega) hj2
theorem c_cut (hB : isB b) (hO : BO_ B) (hk : 1 ≤ k ∧ k ≤ 9) (hP : 1 ≤ P ∧ P ≤ 999) (hC : CB_ σ b B) : ∃ σ', f_X2_stretch KC [.ref 105, .ref b, .int (nI k), .int (nI P)] σ = some (some (.int (match cu_ B P k 0 with | none => nM_ | some (v, _) => nI v)), σ') ∧ (match cu_ B P k 0 with | none => fr_ cutS_ σ σ' | some (_, l) => σ'.1 105 1 = nI k ∧ (∀ j (hj : j < l.length), σ'.1 106 j = nI l[j]) ∧ fr_ (105 :: 106 :: cutS_) σ σ' ∧ NF2_ [1] 105 σ σ') := by
  have h16 := hO.1.1
  have bn := b_no hB
  -- the last column
  have l3 : ∀ n s σ1, s + n = k + 1 → CB_ σ1 b B → (∀ q, q < s → σ1.1 (108 + q) (B 0 0) = if q = 0 then nI 0 else nI 1000000) → ∃ σ2, (∀ out, Ev_ (P_X2_stretch KC) 46 [some (.ref 105), some (.ref b), some (.int (nI k)), some (.int (nI P)), some (.int (σ2.1 b 11 - (1 : Int32))), none, none] [] σ2 out → Ev_ (P_X2_stretch KC) 3 [some (.ref 105), some (.ref b), some (.int (nI k)), some (.int (nI P)), some (.int (nI s)), none, none] [] σ1 out) ∧ CB_ σ2 b B ∧ (∀ q, q ≤ k → σ2.1 (108 + q) (B 0 0) = if q = 0 then nI 0 else nI 1000000) ∧ fr_ cutS_ σ1 σ2 := by
    intro n
    induction n with
    | zero =>
      intro s σ1 hs h1 h3
      have hks : k < s := by omega
      refine ⟨σ1, fun out q => e_X2_stretch_3 hB ?_, h1, fun q hq => h3 q (by omega), fr_rf _ _⟩
      rw [show (1 : Int32) = nI 1 from rfl] at q
      simp (disch := first | assumption | omega) only [hks, Option.some.injEq, Prod.mk.injEq, Value.int.injEq, exists_and_left, exists_eq_left', and_assoc, true_and, and_true, true_implies, false_implies, not_true_eq_false, not_false_eq_true, li_0, li_1, li_2, li_3, li_4, li_5, li_8, li_9, li_10, li_16, li_20, li_80, li_100, li_130, li_144, li_390, li_400, li_M, li_H, li_of, nI_add, pk_mul, cl_, vp_iff, nI_leI, nI_ltI, nI_eq, Nat.add_zero, Nat.zero_add, Nat.reduceEqDiff, Nat.reduceAdd, eq_self, reduceIte, Bool.false_eq_true, li_neg]
      exact q
    | succ n ih =>
      intro s σ1 hs h1 h3
      have hks : ¬ k < s := by omega
      have hcs := cutS_in (s := s) (by omega)
      obtain ⟨σ2, g1, g2, g3, g4⟩ := ih (s + 1) (sI_ σ1 (108 + s) (B 0 0) (if s = 0 then nI 0 else nI 1000000)) (by omega) (CB_row hB h1 (fun o o1 o2 => sI_row _ _ _ _ (by omega)) hO) (fun q hq => by
        rw [sI_at]
        by_cases e : q = s
        · rw [if_pos ⟨by omega, rfl⟩, e]
        · rw [if_neg (by omega)]
          exact h3 q (by omega))
      refine ⟨σ2, fun out q => e_X2_stretch_3 hB ?_, g2, g3, fr_tr (fr_sI hcs.1) g4⟩
      have g1' := g1 out q
      by_cases e : s = 0
      · subst e
        rw [if_pos rfl] at g1'
        simp (disch := first | assumption | omega) only [hks, h1.1.1, Option.some.injEq, Prod.mk.injEq, Value.int.injEq, exists_and_left, exists_eq_left', and_assoc, true_and, and_true, true_implies, false_implies, not_true_eq_false, not_false_eq_true, li_0, li_1, li_2, li_3, li_4, li_5, li_8, li_9, li_10, li_16, li_20, li_80, li_100, li_130, li_144, li_390, li_400, li_M, li_H, li_of, nI_add, pk_mul, cl_, vp_iff, nI_leI, nI_ltI, nI_eq, Nat.add_zero, Nat.zero_add, Nat.reduceEqDiff, Nat.reduceAdd, eq_self, reduceIte, Bool.false_eq_true, li_neg]
        (repeat' apply And.intro) <;> first | omega | rfl | assumption | exact g1'
      · rw [if_neg e] at g1'
        simp (disch := first | assumption | omega) only [hks, e, h1.1.1, Option.some.injEq, Prod.mk.injEq, Value.int.injEq, exists_and_left, exists_eq_left', and_assoc, true_and, and_true, true_implies, false_implies, not_true_eq_false, not_false_eq_true, li_0, li_1, li_2, li_3, li_4, li_5, li_8, li_9, li_10, li_16, li_20, li_80, li_100, li_130, li_144, li_390, li_400, li_M, li_H, li_of, nI_add, pk_mul, cl_, vp_iff, nI_leI, nI_ltI, nI_eq, Nat.add_zero, Nat.zero_add, Nat.reduceEqDiff, Nat.reduceAdd, eq_self, reduceIte, Bool.false_eq_true, li_neg]
        (repeat' apply And.intro) <;> first | omega | rfl | assumption | exact g1'
  -- column by column, from the last
  have l46 : ∀ i σ1, i ≤ B 0 0 → CB_ σ1 b B → TB_ σ1 B P k i → ∃ σ2, (∀ out, Ev_ (P_X2_stretch KC) 46 [some (.ref 105), some (.ref b), some (.int (nI k)), some (.int (nI P)), some (.int nM_), none, none] [] σ2 out → Ev_ (P_X2_stretch KC) 46 [some (.ref 105), some (.ref b), some (.int (nI k)), some (.int (nI P)), some (.int (nI i - nI 1)), none, none] [] σ1 out) ∧ CB_ σ2 b B ∧ TB_ σ2 B P k 0 ∧ fr_ cutS_ σ1 σ2 := by
    intro i
    induction i with
    | zero =>
      intro σ1 hi h1 h2
      exact ⟨σ1, fun out q => q, h1, h2, fr_rf _ _⟩
    | succ i ih =>
      intro σ1 hi h1 h2
      obtain ⟨σ2, g1, g2, g3, g4⟩ := c_chooseEnds hB hO hk (show i < B 0 0 by omega) hP h1 h2
      obtain ⟨σ', q1, q2, q3, q4⟩ := ih σ2 (by omega) g2 g3
      refine ⟨σ', fun out q => ?_, q2, q3, fr_tr g4 q4⟩
      rw [pk_sub (show 1 ≤ i + 1 by omega), show i + 1 - 1 = i by omega]
      have q1' := q1 out q
      have hneg : ¬ nI i < 0 := nI_pos (by omega)
      have em : nI i + (-1 : Int32) = nI i - nI 1 := by
        rw [Int32.sub_eq_add_neg]
        rfl
      refine e_X2_stretch_46 hB (br_f hneg ⟨σ2, g1, ?_⟩)
      rw [em]
      exact q1'
  obtain ⟨σ2, g1, g2, g3, g4⟩ := l3 (k + 1) 0 σ (by omega) hC (fun q hq => absurd hq (by omega))
  have hT : TB_ σ2 B P k (B 0 0) := fun s j hs hj hj2 => by
    obtain rfl : j = B 0 0 := by omega
    rw [g3 s hs]
    by_cases e : s = 0
    · rw [if_pos e, e, cu_, if_pos rfl]
      exact ⟨rfl, fun _ h => absurd h (by omega)⟩
    · obtain ⟨s', rfl⟩ : ∃ s', s = s' + 1 := ⟨s - 1, by omega⟩
      rw [if_neg e, cu_, Nat.sub_self]
      exact ⟨rfl, fun h => absurd rfl h⟩
  obtain ⟨σ3, k1, k2, k3, k4⟩ := l46 (B 0 0) σ2 (Nat.le_refl _) g2 hT
  have e11 : σ2.1 b 11 - (1 : Int32) = nI (B 0 0) - nI 1 := by rw [g2.1.1]; rfl
  rw [e11] at g1
  have h0 := k3 k 0 (Nat.le_refl _) (Nat.le_refl _) (by omega)
  have hneg : nM_ < 0 := by decide
  cases hcu : cu_ B P k 0 with
  | none =>
    rw [hcu] at h0
    refine ⟨σ3, z_X2_stretch (e_X2_stretch_0 hB (g1 _ (k1 _ (e_X2_stretch_46 hB (br_t hneg ?_))))), fr_tr g4 k4⟩
    have h0' : σ3.1 (108 + k) 0 = nI 1000000 := h0.1
    simp (disch := first | assumption | omega) only [h0', Nat.lt_irrefl, Option.some.injEq, Prod.mk.injEq, Value.int.injEq, exists_and_left, exists_eq_left', and_assoc, true_and, and_true, true_implies, false_implies, not_true_eq_false, not_false_eq_true, li_0, li_1, li_2, li_3, li_4, li_5, li_8, li_9, li_10, li_16, li_20, li_80, li_100, li_130, li_144, li_390, li_400, li_M, li_H, li_of, nI_add, pk_mul, cl_, vp_iff, nI_leI, nI_ltI, nI_eq, Nat.add_zero, Nat.zero_add, Nat.reduceEqDiff, Nat.reduceAdd, eq_self, reduceIte, Bool.false_eq_true, li_neg]
    (repeat' apply And.intro) <;> first | omega | rfl | assumption
  | some x =>
    obtain ⟨v, l⟩ := x
    have hvb := cu_le hO k 0 v l (by omega) hcu
    have hll := cu_len k 0 v l hcu
    rw [hcu] at h0
    have h0' : σ3.1 (108 + k) 0 = nI v := h0.1
    -- the ends
    have l92 : ∀ s i v' l' σ4, s ≤ k → i ≤ B 0 0 → cu_ B P s i = some (v', l') → TB_ σ4 B P k 0 → σ4.1 (108 + k) 0 = nI v → (∀ j (hj : j < l.length), j < k - s → σ4.1 106 j = nI l[j]) → (∀ j (hj : j < l'.length), ∃ h : k - s + j < l.length, l'[j] = l[k - s + j]) → ∃ σ', Ev_ (P_X2_stretch KC) 92 [some (.ref 105), some (.ref b), some (.int (nI k)), some (.int (nI P)), some (.int (nI i)), some (.int (nI s)), none] [] σ4 (some (.int (nI v)), σ') ∧ (∀ j (hj : j < l.length), σ'.1 106 j = nI l[j]) ∧ fr_ [106] σ4 σ' := by
      intro s
      induction s with
      | zero =>
        intro i v' l' σ4 hs hi hc hT hv hr hl
        refine ⟨σ4, e_X2_stretch_92 hB ?_, fun j hj => hr j hj (by omega), fr_rf _ _⟩
        simp (disch := first | assumption | omega) only [Nat.zero_lt_one, hv, Option.some.injEq, Prod.mk.injEq, Value.int.injEq, exists_and_left, exists_eq_left', and_assoc, true_and, and_true, true_implies, false_implies, not_true_eq_false, not_false_eq_true, li_0, li_1, li_2, li_3, li_4, li_5, li_8, li_9, li_10, li_16, li_20, li_80, li_100, li_130, li_144, li_390, li_400, li_M, li_H, li_of, nI_add, pk_mul, cl_, vp_iff, nI_leI, nI_ltI, nI_eq, Nat.add_zero, Nat.zero_add, Nat.reduceEqDiff, Nat.reduceAdd, eq_self, reduceIte, Bool.false_eq_true, li_neg]
        (repeat' apply And.intro) <;> first | omega | rfl | assumption
      | succ s ih =>
        intro i v' l' σ4 hs hi hc hT hv hr hl
        have hc' := hc
        rw [cu_] at hc
        obtain ⟨e, l2, v2, h1, h2, h3, h4, h5⟩ := cuc_some _ _ _ _ _ _ hc
        have hte := (hT (s + 1) i hs (by omega) hi).2 (by rw [hc']; simp) (by omega)
        rw [hc', h1] at hte
        have hte' : σ4.1 (119 + (s + 1)) i = nI e := hte
        obtain ⟨hlk, hle⟩ := hl 0 (by rw [h1]; simp)
        have hle' : e = l[k - (s + 1) + 0] := by rw [← hle]; simp [h1]
        have hT5 : TB_ (sI_ σ4 106 (k - (s + 1)) (nI e)) B P k 0 := fun s j q1 q2 q3 => by
          rw [sI_row _ _ _ _ (by omega), sI_row _ _ _ _ (by omega)]
          exact hT s j q1 q2 q3
        obtain ⟨σ', q1, q2, q3⟩ := ih (e + 1) v2 l2 (sI_ σ4 106 (k - (s + 1)) (nI e)) (by omega) (by omega) h2 hT5 (by rw [sI_row _ _ _ _ (by omega)]; exact hv) (fun j hj hjs => by
          rw [sI_at]
          by_cases ej : j = k - (s + 1)
          · rw [if_pos ⟨rfl, ej⟩, hle']
            subst ej
            rfl
          · rw [if_neg (fun z => ej z.2)]
            exact hr j hj (by omega)) (fun j hj => by
          obtain ⟨a1, a2⟩ := hl (j + 1) (by rw [h1]; simp; exact hj)
          refine ⟨by omega, ?_⟩
          have a3 : l'[j + 1]'(by rw [h1]; simp; exact hj) = l2[j] := by simp [h1]
          rw [← a3, a2]
          congr 1
          omega)
        have hs1 : ¬ s + 1 < 1 := by omega
        refine ⟨σ', e_X2_stretch_92 hB ?_, q2, fr_tr (fr_sI (by simp)) q3⟩
        have em : nI (s + 1) + (-1 : Int32) = nI s := by
          rw [← nI_pred s, Int32.sub_eq_add_neg]
        rw [em]
        simp (disch := first | assumption | omega) only [hs1, pk_sub, hte', Option.some.injEq, Prod.mk.injEq, Value.int.injEq, exists_and_left, exists_eq_left', and_assoc, true_and, and_true, true_implies, false_implies, not_true_eq_false, not_false_eq_true, li_0, li_1, li_2, li_3, li_4, li_5, li_8, li_9, li_10, li_16, li_20, li_80, li_100, li_130, li_144, li_390, li_400, li_M, li_H, li_of, nI_add, pk_mul, cl_, vp_iff, nI_leI, nI_ltI, nI_eq, Nat.add_zero, Nat.zero_add, Nat.reduceEqDiff, Nat.reduceAdd, eq_self, reduceIte, Bool.false_eq_true, li_neg]
        (repeat' apply And.intro) <;> first | omega | rfl | assumption | exact q1
    have hT5 : TB_ (sI_ σ3 105 1 (nI k)) B P k 0 := fun s j q1 q2 q3 => by
      rw [sI_row _ _ _ _ (by omega), sI_row _ _ _ _ (by omega)]
      exact k3 s j q1 q2 q3
    obtain ⟨σ', q1, q2, q3⟩ := l92 k 0 v l (sI_ σ3 105 1 (nI k)) (Nat.le_refl _) (by omega) hcu hT5 (by rw [sI_row _ _ _ _ (by omega)]; exact h0') (fun j hj hj2 => absurd hj2 (by omega)) (fun j hj => ⟨by omega, by congr 1; omega⟩)
    have hlt : v < 1000000 := by omega
    refine ⟨σ', z_X2_stretch (e_X2_stretch_0 hB (g1 _ (k1 _ (e_X2_stretch_46 hB (br_t hneg ?_))))), by rw [q3.1 105 (by decide), sI_at, if_pos ⟨rfl, rfl⟩], q2, fr_tr (fr_mono g4 (fun o ho => by simp [ho])) (fr_tr (fr_mono k4 (fun o ho => by simp [ho])) (fr_tr (fr_sI (by simp)) (fr_mono q3 (by simp)))), fun f hf => by rw [q3.1 105 (by decide), sI_at, if_neg (fun z => hf (by rw [z.2]; simp)), k4.1 105 (by decide), g4.1 105 (by decide)]⟩
    simp (disch := first | assumption | omega) only [h0', hlt, Option.some.injEq, Prod.mk.injEq, Value.int.injEq, exists_and_left, exists_eq_left', and_assoc, true_and, and_true, true_implies, false_implies, not_true_eq_false, not_false_eq_true, li_0, li_1, li_2, li_3, li_4, li_5, li_8, li_9, li_10, li_16, li_20, li_80, li_100, li_130, li_144, li_390, li_400, li_M, li_H, li_of, nI_add, pk_mul, cl_, vp_iff, nI_leI, nI_ltI, nI_eq, Nat.add_zero, Nat.zero_add, Nat.reduceEqDiff, Nat.reduceAdd, eq_self, reduceIte, Bool.false_eq_true, li_neg]
    (repeat' apply And.intro) <;> first | omega | rfl | assumption | exact q1
end CT
