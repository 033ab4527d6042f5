/-! what a SENTENCE says: as steps on a heap of bits, as nodes -/
abbrev M_ : Type := K_ → Nat → Prop
def cp_ (v : Int32) (sg x : Nat) : Prop := if sg = 60 then v < nI x else if sg = 62 then nI x < v else v = nI x
/-- how many bits of sixteen -/
def p16_ (x : Nat) : Nat := fb_ct (fun i => x.testBit i) 16
/-- what a ONE that asks says: kind (18 read .. 23 count), CHAP, SIGN, NUMBER -/
noncomputable def lf_ (B : Nat → Nat → Nat) (kd c sg x : Nat) : M_ := fun k r =>
  if kd = 18 then hb_ (k.2.1 r) c else if kd = 19 then hb_ (k.2.2.1 r) c else if kd = 20 then cp_ (k.2.2.2 (16 * r + c) / nI 10000) sg x else if kd = 21 then cp_ (ia_ B k r) sg x else if kd = 22 then cp_ (k.1 r) sg x else ∃ m, m < 2 ^ 16 ∧ k.2.1 r = nI m ∧ cp_ (nI (p16_ m)) sg x
noncomputable def bt_ (p : Prop) : Nat := @ite _ p (Classical.propDecidable _) 1 0
noncomputable def sp_ (kd : Nat) (p : Prop) (h : Nat) : Nat := if kd = 17 then (if h % 2 = 1 then h - 1 else h + 1) else if kd = 16 then (if h % 2 = 1 then h / 2 else h / 2 - (h / 2) % 2) else if kd = 15 then (if h % 2 = 1 then h / 2 - (h / 2) % 2 + 1 else h / 2) else 2 * h + bt_ p
noncomputable def tz_ (B Q : Nat → Nat → Nat) (k : K_) (r j : Nat) : Prop := lf_ B (Q j 0) (Q j 1) (Q j 2) (Q j 3) k r
noncomputable def rn_h (B Q : Nat → Nat → Nat) (k : K_) (r : Nat) : Nat → Nat → Nat → Nat
  | 0, _, h => h
  | m + 1, i, h => rn_h B Q k r m (i + 1) (sp_ (Q i 0) (tz_ B Q k r i) h)
theorem rn_add (B Q : Nat → Nat → Nat) (k : K_) (r : Nat) : ∀ m m' i h, rn_h B Q k r (m + m') i h = rn_h B Q k r m' (i + m) (rn_h B Q k r m i h)
  | 0, m', i, h => by rw [Nat.zero_add]; rfl
  | m + 1, m', i, h => by
    rw [show m + 1 + m' = (m + m') + 1 by omega, rn_h, rn_add B Q k r m m', rn_h, show i + 1 + m = i + (m + 1) by omega]
theorem rn_cg {B Q Q' : Nat → Nat → Nat} {k : K_} {r : Nat} : ∀ m i h, (∀ j, i ≤ j → j < i + m → Q' j = Q j) → rn_h B Q' k r m i h = rn_h B Q k r m i h
  | 0, _, _, _ => rfl
  | m + 1, i, h, hq => by
    have e := hq i (Nat.le_refl _) (by omega)
    rw [rn_h, rn_h, rn_cg m (i + 1) _ (fun j h1 h2 => hq j (by omega) (by omega))]
    unfold tz_
    rw [e]
/-- the m steps from i on say D -/
def ES_ (B Q : Nat → Nat → Nat) (i m : Nat) (D : M_) : Prop := ∀ k r h, rn_h B Q k r m i h = 2 * h + bt_ (D k r)
section ES
variable {B Q Q' : Nat → Nat → Nat} {i m m' : Nat} {D D' : M_}
theorem ES_cg (h : ES_ B Q i m D) (hq : ∀ j, j < i + m → Q' j = Q j) : ES_ B Q' i m D := fun k r x => by
  rw [rn_cg m i x (fun j _ h2 => hq j h2)]
  exact h k r x
theorem bt_01 (p : Prop) : (p ∧ bt_ p = 1) ∨ (¬ p ∧ bt_ p = 0) := by
  unfold bt_
  by_cases h : p
  · exact Or.inl ⟨h, if_pos h⟩
  · exact Or.inr ⟨h, if_neg h⟩
theorem ES_leaf (h : 18 ≤ Q i 0) : ES_ B Q i 1 (lf_ B (Q i 0) (Q i 1) (Q i 2) (Q i 3)) := fun k r x => by
  rw [rn_h, rn_h, sp_, if_neg (by omega), if_neg (by omega), if_neg (by omega)]
  rfl
theorem ES_not (h : ES_ B Q i m D) (hq : Q (i + m) 0 = 17) : ES_ B Q i (m + 1) (fun k r => ¬ D k r) := fun k r x => by
  rw [rn_add, h k r x, rn_h, rn_h, sp_, if_pos hq]
  rcases bt_01 (D k r) with ⟨h1, h2⟩ | ⟨h1, h2⟩ <;> rcases bt_01 (¬ D k r) with ⟨h3, h4⟩ | ⟨h3, h4⟩
  · exact absurd h1 h3
  · rw [h2, h4, if_pos (by omega)]
    omega
  · rw [h2, h4, if_neg (by omega)]
  · exact absurd h1 h3
theorem bt_t {p : Prop} (h : p) : bt_ p = 1 := if_pos h
theorem bt_f {p : Prop} (h : ¬ p) : bt_ p = 0 := if_neg h
theorem ES_and (h : ES_ B Q i m D) (h' : ES_ B Q (i + m) m' D') (hq : Q (i + (m + m')) 0 = 16) : ES_ B Q i (m + m' + 1) (fun k r => D k r ∧ D' k r) := fun k r x => by
  rw [rn_add, rn_add, h k r x, h' k r, rn_h, rn_h, sp_, if_neg (by omega), if_pos hq]
  show _ = 2 * x + bt_ (D k r ∧ D' k r)
  rcases bt_01 (D k r) with ⟨h1, h2⟩ | ⟨h1, h2⟩
  · rcases bt_01 (D' k r) with ⟨h3, h4⟩ | ⟨h3, h4⟩
    · rw [h2, h4, bt_t (And.intro h1 h3), if_pos (by omega)]
      omega
    · rw [h2, h4, bt_f (fun z => h3 z.2), if_neg (by omega)]
      omega
  · rcases bt_01 (D' k r) with ⟨h3, h4⟩ | ⟨h3, h4⟩
    · rw [h2, h4, bt_f (fun z => h1 z.1), if_pos (by omega)]
      omega
    · rw [h2, h4, bt_f (fun z => h1 z.1), if_neg (by omega)]
      omega
theorem ES_or (h : ES_ B Q i m D) (h' : ES_ B Q (i + m) m' D') (hq : Q (i + (m + m')) 0 = 15) : ES_ B Q i (m + m' + 1) (fun k r => D k r ∨ D' k r) := fun k r x => by
  rw [rn_add, rn_add, h k r x, h' k r, rn_h, rn_h, sp_, if_neg (by omega), if_neg (by omega), if_pos hq]
  show _ = 2 * x + bt_ (D k r ∨ D' k r)
  rcases bt_01 (D k r) with ⟨h1, h2⟩ | ⟨h1, h2⟩
  · rcases bt_01 (D' k r) with ⟨h3, h4⟩ | ⟨h3, h4⟩
    · rw [h2, h4, bt_t (Or.inl h1), if_pos (by omega)]
      omega
    · rw [h2, h4, bt_t (Or.inl h1), if_neg (by omega)]
      omega
  · rcases bt_01 (D' k r) with ⟨h3, h4⟩ | ⟨h3, h4⟩
    · rw [h2, h4, bt_t (Or.inr h3), if_pos (by omega)]
      omega
    · rw [h2, h4, bt_f (fun z => z.elim h1 h3), if_neg (by omega)]
      omega
/-- the heap stays small -/
theorem rn_lt (B Q : Nat → Nat → Nat) (k : K_) (r : Nat) : ∀ m i h c, (∀ j, j < m → 15 ≤ Q (i + j) 0) → h < 2 ^ (c + 1) → rn_h B Q k r m i h < 2 ^ (c + fb_ct (fun j => decide (18 ≤ Q (i + j) 0)) m + 1)
  | 0, i, h, c, _, hh => hh
  | m + 1, i, h, c, hv, hh => by
    have hv1 := hv 0 (by omega)
    rw [Nat.add_zero] at hv1
    have hv2 : ∀ j, j < m → 15 ≤ Q (i + 1 + j) 0 := fun j hj => by
      have := hv (j + 1) (by omega)
      rwa [show i + (j + 1) = i + 1 + j by omega] at this
    have hs := fb_ct_split (fun j => decide (18 ≤ Q (i + j) 0)) 1 m
    have h1 : fb_ct (fun j => decide (18 ≤ Q (i + j) 0)) 1 = if 18 ≤ Q i 0 then 1 else 0 := by
      rw [fb_ct_succ]
      show 0 + _ = _
      simp
    have e2 : (fun k => decide (18 ≤ Q (i + (1 + k)) 0)) = fun j => decide (18 ≤ Q (i + 1 + j) 0) := by
      funext j
      rw [show i + (1 + j) = i + 1 + j by omega]
    rw [e2, show 1 + m = m + 1 by omega] at hs
    rw [rn_h]
    have hpow : 2 ^ (c + 1) = 2 * 2 ^ c := by rw [Nat.pow_succ]; omega
    have hpow2 : 2 ^ (c + 1 + 1) = 2 * 2 ^ (c + 1) := by rw [Nat.pow_succ]; omega
    by_cases hl : 18 ≤ Q i 0
    · rw [if_pos hl] at h1
      have := rn_lt B Q k r m (i + 1) (sp_ (Q i 0) (tz_ B Q k r i) h) (c + 1) hv2 (by
        rw [sp_, if_neg (by omega), if_neg (by omega), if_neg (by omega)]
        rcases bt_01 (tz_ B Q k r i) with ⟨_, z⟩ | ⟨_, z⟩ <;> rw [z] <;> omega)
      rw [hs, h1, show c + (1 + fb_ct (fun j => decide (18 ≤ Q (i + 1 + j) 0)) m) + 1 = c + 1 + fb_ct (fun j => decide (18 ≤ Q (i + 1 + j) 0)) m + 1 by omega]
      exact this
    · rw [if_neg hl] at h1
      rw [hs, h1, Nat.zero_add]
      by_cases k17 : Q i 0 = 17
      · refine rn_lt B Q k r m (i + 1) _ c hv2 ?_
        rw [sp_, if_pos k17]
        split <;> omega
      · by_cases k16 : Q i 0 = 16
        · refine rn_lt B Q k r m (i + 1) _ c hv2 ?_
          rw [sp_, if_neg k17, if_pos k16]
          split <;> omega
        · by_cases k15 : Q i 0 = 15
          · refine rn_lt B Q k r m (i + 1) _ c hv2 ?_
            rw [sp_, if_neg k17, if_neg k16, if_pos k15]
            split <;> omega
          · omega
end ES
/-- a leaf as a node -/
def NL_ (B V : Nat → Nat → Nat) (x : Nat) (D : M_) : Prop := ∃ kd c sg y, (18 ≤ kd ∧ kd ≤ 23) ∧ ((kd ≤ 20 → c < B 0 0) ∧ (20 ≤ kd → (sg = 60 ∨ sg = 61 ∨ sg = 62) ∧ y ≤ 999)) ∧ D = lf_ B kd c sg y ∧ V x 0 = (if kd = 18 then 4 else if kd = 19 then 5 else if kd = 20 then 6 else 7) ∧ V x 1 = (if kd ≤ 20 then c else kd - 4) ∧ V x 2 = (if kd < 20 then 0 else y) ∧ V x 3 = (if kd < 20 then 0 else sg)
def EN_ (B V : Nat → Nat → Nat) : Nat → Nat → M_ → Prop
  | 0, _, _ => False
  | f + 1, x, D => (V x 0 = 1 ∧ V x 1 < x ∧ ∃ D1, EN_ B V f (V x 1) D1 ∧ D = fun k r => ¬ D1 k r) ∨ (V x 0 = 2 ∧ (V x 1 < x ∧ V x 2 < x) ∧ ∃ D1 D2, EN_ B V f (V x 1) D1 ∧ EN_ B V f (V x 2) D2 ∧ D = fun k r => D1 k r ∧ D2 k r) ∨ (V x 0 = 3 ∧ (V x 1 < x ∧ V x 2 < x) ∧ ∃ D1 D2, EN_ B V f (V x 1) D1 ∧ EN_ B V f (V x 2) D2 ∧ D = fun k r => D1 k r ∨ D2 k r) ∨ NL_ B V x D
theorem EN_mono {B V : Nat → Nat → Nat} : ∀ f g x D, f ≤ g → EN_ B V f x D → EN_ B V g x D := by
  intro f
  induction f with
  | zero => intro g x D _ h; exact absurd h (by intro z; exact z)
  | succ f ih =>
    intro g x D hg h
    obtain ⟨g, rfl⟩ : ∃ g', g = g' + 1 := ⟨g - 1, by omega⟩
    rcases h with ⟨h1, h2, D1, h3, h4⟩ | ⟨h1, h2, D1, D2, h3, h4, h5⟩ | ⟨h1, h2, D1, D2, h3, h4, h5⟩ | h
    · exact Or.inl ⟨h1, h2, D1, ih g _ _ (by omega) h3, h4⟩
    · exact Or.inr (Or.inl ⟨h1, h2, D1, D2, ih g _ _ (by omega) h3, ih g _ _ (by omega) h4, h5⟩)
    · exact Or.inr (Or.inr (Or.inl ⟨h1, h2, D1, D2, ih g _ _ (by omega) h3, ih g _ _ (by omega) h4, h5⟩))
    · exact Or.inr (Or.inr (Or.inr h))
theorem EN_cg {B V V' : Nat → Nat → Nat} : ∀ f x D, (∀ j, j ≤ x → V' j = V j) → EN_ B V f x D → EN_ B V' f x D := by
  intro f
  induction f with
  | zero => intro x D _ h; exact h
  | succ f ih =>
    intro x D hv h
    have e := hv x (Nat.le_refl _)
    rcases h with ⟨h1, h2, D1, h3, h4⟩ | ⟨h1, h2, D1, D2, h3, h4, h5⟩ | ⟨h1, h2, D1, D2, h3, h4, h5⟩ | ⟨kd, c, sg, y, q1, q2, q3, q4, q5, q6, q7⟩
    · refine Or.inl ⟨by rw [e]; exact h1, by rw [e]; exact h2, D1, ?_, h4⟩
      rw [e]
      exact ih _ _ (fun j hj => hv j (by omega)) h3
    · refine Or.inr (Or.inl ⟨by rw [e]; exact h1, by rw [e]; exact h2, D1, D2, ?_, ?_, h5⟩)
      · rw [e]
        exact ih _ _ (fun j hj => hv j (by omega)) h3
      · rw [e]
        exact ih _ _ (fun j hj => hv j (by omega)) h4
    · refine Or.inr (Or.inr (Or.inl ⟨by rw [e]; exact h1, by rw [e]; exact h2, D1, D2, ?_, ?_, h5⟩))
      · rw [e]
        exact ih _ _ (fun j hj => hv j (by omega)) h3
      · rw [e]
        exact ih _ _ (fun j hj => hv j (by omega)) h4
    · exact Or.inr (Or.inr (Or.inr ⟨kd, c, sg, y, q1, q2, q3, by rw [e]; exact q4, by rw [e]; exact q5, by rw [e]; exact q6, by rw [e]; exact q7⟩))
