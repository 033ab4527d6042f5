/-! PARTS are a MILLION at most -/
def KB_ (k : K_) : Prop := ∀ i, ∃ n, n ≤ 1000000 ∧ k.2.2.2 i = nI n
theorem oM_n {a b : Nat} (ha : a < 2 ^ 31) (hb : b < 2 ^ 31) : oM_ (nI a) (nI b) = nI (a * b / 1000000) := by
  have e1 : ∀ x, x < 2 ^ 31 → Int32.toInt64 (nI x) = lN x := fun x hx => by
    refine Int64.toInt_inj.mp ?_
    rw [Int32.toInt_toInt64, nI_toInt hx, lN_toInt hx]
  have h1 : a * b < 2 ^ 62 := by
    have := Nat.mul_lt_mul'' ha hb
    omega
  have h2 : a * b / 1000000 < 2 ^ 62 := Nat.lt_of_le_of_lt (Nat.div_le_self _ _) h1
  have e2 : ∀ x, x < 2 ^ 62 → (lN x).toInt = (x : Int) := fun x hx => by
    show (Int64.ofNat x).toInt = _
    rw [Int64.toInt_ofNat_of_lt (by omega)]
  have e3 : (lN a * lN b) = lN (a * b) := by
    show Int64.ofNat a * Int64.ofNat b = Int64.ofNat (a * b)
    rw [Int64.ofNat_mul]
  have e4 : lN (a * b) / (1000000 : Int64) = lN (a * b / 1000000) := by
    refine Int64.toInt_inj.mp ?_
    rw [Int64.toInt_div_of_ne_right _ _ (by decide), e2 _ h1, e2 _ h2, show (1000000 : Int64).toInt = 1000000 by decide]
    rw [Int.tdiv_eq_ediv_of_nonneg (by omega)]
    omega
  unfold oM_
  rw [e1 a ha, e1 b hb, e3, e4]
  show (Int64.ofNat _).toInt32 = Int32.ofNat _
  exact Int64.toInt32_ofNat
theorem oM_le {a b : Nat} (ha : a ≤ 1000000) (hb : b ≤ 1000000) : a * b / 1000000 ≤ a ∧ a * b / 1000000 ≤ b := by
  constructor
  · exact Nat.div_le_of_le_mul (by rw [Nat.mul_comm 1000000]; exact Nat.mul_le_mul_left _ hb)
  · exact Nat.div_le_of_le_mul (Nat.mul_le_mul_right _ ha)
section BD
variable {B P : Nat → Nat → Nat} {k : K_} {r c t l f : Nat}
theorem fb_pre (g : Nat → Nat) {m n : Nat} (h : m ≤ n) : fb_sm g m ≤ fb_sm g n := by
  obtain ⟨q, rfl⟩ : ∃ q, n = m + q := ⟨n - m, by omega⟩
  exact fb_sm_mono g m q
theorem lk_n (hO : BO_ B) (p : Nat → Int32) (hp : ∀ i, ∃ n, n ≤ 1000000 ∧ p i = nI n) (hc : c < B 0 0) : ∃ q, q ≤ 1000000 ∧ lk_ B p r c = nI q := by
  have key : ∀ d, d ≤ c → ∃ s, s ≤ fb_sm (B (16 + c)) d * 1000000 ∧ lkS_ B p r c d = nI s := by
    intro d
    induction d with
    | zero => exact fun _ => ⟨0, by omega, rfl⟩
    | succ d ih =>
      intro hd
      obtain ⟨s, h1, h2⟩ := ih (by omega)
      obtain ⟨n, h3, h4⟩ := hp (16 * r + d)
      refine ⟨s + B (16 + c) d * (1000000 - n), ?_, ?_⟩
      · rw [fb_sm_succ, Nat.add_mul]
        have : B (16 + c) d * (1000000 - n) ≤ B (16 + c) d * 1000000 := Nat.mul_le_mul_left _ (by omega)
        omega
      · rw [lkS_, h2, h4, pk_sub h3, pk_mul, nI_add]
  have h16 := hO.1.1
  obtain ⟨s, h1, h2⟩ := key c (Nat.le_refl _)
  have h3 := (hO.2.1 c hc).2.2.2.2.2
  have h4 := fb_pre (B (16 + c)) (show c ≤ 16 by omega)
  refine ⟨s / 10, by omega, ?_⟩
  unfold lk_
  rw [h2, pk_div (by omega) (by decide) (by decide)]
theorem vR_n (hO : BO_ B) (p : Nat → Int32) (hp : ∀ i, ∃ n, n ≤ 1000000 ∧ p i = nI n) (hr : r < B 0 1) (hc : c < B 0 0) : ∃ q, q ≤ 1000000 ∧ vR_ B p r c = nI q := by
  obtain ⟨q, h1, h2⟩ := lk_n (r := r) hO p hp hc
  have h3 := BO_rr hO hr
  have h4 : (1000000 - q / 2) * (10 - B 8 r) ≤ 1000000 * 10 := Nat.mul_le_mul (by omega) (by omega)
  refine ⟨(1000000 - q / 2) * (10 - B 8 r) / 10, by omega, ?_⟩
  unfold vR_
  rw [h2, pk_div (by omega) (by decide) (by decide), pk_sub (by omega), pk_sub (by omega), pk_mul, pk_div (by omega) (by decide) (by decide)]
theorem KB_ud {l1 l2 l3 p : Nat → Int32} {i : Nat} {x : Int32} (h : ∀ i, ∃ n, n ≤ 1000000 ∧ p i = nI n) (hx : ∃ n, n ≤ 1000000 ∧ x = nI n) : KB_ (l1, l2, l3, ud_ p i x) := by
  intro j
  show ∃ n, n ≤ 1000000 ∧ ud_ p i x j = nI n
  by_cases e : j = i
  · rw [e, ud_eq]
    exact hx
  · rw [ud_ne _ _ e]
    exact h j
theorem KB_rd (hO : BO_ B) (h : KB_ k) (hr : r < B 0 1) (hc : c < B 0 0) : KB_ (rdK_ B k r c) := by
  refine KB_ud h ?_
  obtain ⟨a, h1, h2⟩ := h (16 * r + c)
  obtain ⟨q, h3, h4⟩ := vR_n hO k.2.2.2 h hr hc
  unfold mx_
  split
  · exact ⟨q, h3, h4⟩
  · exact ⟨a, h1, h2⟩
theorem gv_n (hO : BO_ B) (ht : t < B 0 1) (hl : l < B 0 1) (hf : f ≤ 4) {x : Nat} (hx : x ≤ 1000000) : ∃ q, q ≤ 1000000 ∧ gv_ B t l f (nI x) = nI q := by
  have h1 := BO_rr hO ht
  have h2 := BO_rr hO hl
  have m1 : x * B 5 t ≤ 1000000 * 10 := Nat.mul_le_mul hx (by omega)
  have m2 : x * B 5 t / 10 * f ≤ 1000000 * 4 := Nat.mul_le_mul (by omega) hf
  have m3 : x * B 5 t / 10 * f / 4 * B 6 l ≤ 1000000 * 10 := Nat.mul_le_mul (by omega) (by omega)
  refine ⟨x * B 5 t / 10 * f / 4 * B 6 l / 10, by omega, ?_⟩
  unfold gv_
  rw [pk_mul, pk_div (by omega) (by decide) (by decide), pk_mul, pk_div (by omega) (by decide) (by decide), pk_mul, pk_div (by omega) (by decide) (by decide)]
theorem ga_n (hO : BO_ B) {x : Nat} (hx : x ≤ 1000000) : ∃ q, q ≤ 1000000 ∧ ga_ B (nI x) = nI q := by
  have m1 : x * B 0 3 ≤ 1000000 * 10 := Nat.mul_le_mul hx hO.1.2.2.2.2
  refine ⟨x * B 0 3 / 10, by omega, ?_⟩
  unfold ga_
  rw [pk_mul, pk_div (by omega) (by decide) (by decide)]
theorem gw_n (hO : BO_ B) (h : KB_ k) (ht : t < B 0 1) (hl : l < B 0 1) (hf : f ≤ 4) : ∃ q, q ≤ 1000000 ∧ gw_ B k t l c f = nI q := by
  obtain ⟨x, h1, h2⟩ := h (16 * t + c)
  obtain ⟨q, h3, h4⟩ := gv_n hO ht hl hf h1
  unfold gw_
  rw [h2, h4]
  split
  · exact ⟨q, h3, rfl⟩
  · exact ga_n hO h3
theorem KB_gt (hO : BO_ B) (h : KB_ k) (ht : t < B 0 1) (hr : r < B 0 1) (hc : c < B 0 0) (hf : f ≤ 4) : KB_ (gtK_ B k t r c f) := by
  refine KB_ud h ?_
  obtain ⟨a, h1, h2⟩ := h (16 * r + c)
  obtain ⟨g, h3, h4⟩ := gw_n (c := c) hO h ht hr hf
  obtain ⟨q, h5, h6⟩ := lk_n (r := r) hO k.2.2.2 h hc
  have m1 := oM_le (a := g) (b := 1000000 - q) h3 (by omega)
  have m2 := oM_le (a := 1000000 - a) (b := g * (1000000 - q) / 1000000) (by omega) (by omega)
  refine ⟨a + (1000000 - a) * (g * (1000000 - q) / 1000000) / 1000000, by omega, ?_⟩
  rw [h2, h4, h6, pk_sub (by omega), pk_sub (by omega), oM_n (by omega) (by omega), oM_n (by omega) (by omega), nI_add]
theorem KB_ds (hO : BO_ B) (h : KB_ k) (ht : t < B 0 1) (hc : c < B 0 0) (hf : f ≤ 4) : ∀ n, n ≤ B 0 1 → KB_ (dsK_ B t c f l n k) := by
  intro n
  induction n with
  | zero => exact fun _ => h
  | succ n ih =>
    intro hn
    rw [dsK_]
    split
    · exact KB_gt hO (show KB_ (lfK_ (dsK_ B t c f l n k) n (tT_ B c f)) from ih (by omega)) ht (by omega) hc hf
    · exact ih (by omega)
theorem KB_do (hO : BO_ B) (h : KB_ k) (ht : t < B 0 1) (hc : c < B 0 0) (hf : f ≤ 4) : KB_ (doK_ B k t c f l) := by
  unfold doK_
  split
  · exact KB_rd hO h ht hc
  · exact KB_ds hO (show KB_ (lfK_ k t (tT_ B c f)) from h) ht hc hf _ (Nat.le_refl _)
theorem KB_k0 : KB_ (k0_ B) := fun _ => ⟨0, by omega, rfl⟩
theorem KB_fo {a : Nat} (hO : BO_ B) (ho : PO_ B P a) : ∀ n i k, i + n = a → KB_ k → KB_ (fo_ B P n i k).1 := by
  intro n
  induction n with
  | zero => exact fun _ _ _ h => h
  | succ n ih =>
    intro i k hi h
    obtain ⟨o1, o2, o3, -⟩ := ho.2 i (by omega)
    rw [fo_]
    split
    · exact ih (i + 1) _ (by omega) (KB_do hO h o1 o2 o3)
    · exact h
theorem KB_ru {a : Nat} (hO : BO_ B) (ho : PO_ B P a) : KB_ (ru_ B P a).1 := KB_fo hO ho a 0 _ (by omega) KB_k0
theorem ia_n (hO : BO_ B) (h : KB_ k) : ∃ q, q ≤ 999 * B 0 0 ∧ ia_ B k r = nI q := by
  have key : ∀ d, d ≤ B 0 0 → ∃ q, q ≤ 999 * d ∧ iaS_ B k r d = nI q := by
    intro d
    induction d with
    | zero => exact fun _ => ⟨0, by omega, rfl⟩
    | succ d ih =>
      intro hd
      obtain ⟨s, h1, h2⟩ := ih (by omega)
      obtain ⟨n, h3, h4⟩ := h (16 * r + d)
      have h5 := BO_cc hO (show d < B 0 0 by omega)
      have h6 := oM_le (a := B 2 d) (b := n) (by omega) h3
      refine ⟨s + B 2 d * n / 1000000, by omega, ?_⟩
      rw [iaS_, h2, h4, oM_n (by omega) (by omega), nI_add]
  exact key _ (Nat.le_refl _)
end BD
