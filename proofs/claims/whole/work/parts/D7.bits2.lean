/-! how many bits, both sides -/
theorem p16_t8 (x : Nat) : p16_ x = t8_ (x / 256) + t8_ (x % 256) := by
  have h := fb_ct_split (fun i => x.testBit i) 8 8
  have e1 : fb_ct (fun i => x.testBit i) 8 = t8_ (x % 256) := fb_ct_cong (fun k hk => by
    rw [show (256 : Nat) = 2 ^ 8 from rfl, Nat.testBit_mod_two_pow, decide_eq_true hk, Bool.true_and])
  have e2 : fb_ct (fun k => x.testBit (8 + k)) 8 = t8_ (x / 256) := fb_ct_cong (fun k hk => by
    rw [show (256 : Nat) = 2 ^ 8 from rfl, Nat.testBit_div_two_pow, Nat.add_comm])
  have e0 : p16_ x = fb_ct (fun i => x.testBit i) (8 + 8) := rfl
  rw [e0, h, e1, e2, Nat.add_comm]
theorem bc_all {x : Nat} (h : x < 2 ^ 16) : bc_ (nI x) = nI (p16_ x) := by
  have hx : x = 256 * (x / 256) + x % 256 := by omega
  have hb : x % 256 < 256 := Nat.mod_lt _ (by decide)
  have ha : x / 256 < 256 := by omega
  rw [p16_t8]
  generalize x / 256 = a at hx ha
  generalize x % 256 = b at hx hb
  subst hx
  have key : ∀ k : Nat, k < 16 → (∀ (a : Fin 16) (b : Fin 256), bc_ (nI (256 * (16 * k + a.val) + b.val)) = nI (t8_ (16 * k + a.val) + t8_ b.val)) := by
    intro k hk
    rcases (show k = 0 ∨ k = 1 ∨ k = 2 ∨ k = 3 ∨ k = 4 ∨ k = 5 ∨ k = 6 ∨ k = 7 ∨ k = 8 ∨ k = 9 ∨ k = 10 ∨ k = 11 ∨ k = 12 ∨ k = 13 ∨ k = 14 ∨ k = 15 by omega) with rfl | rfl | rfl | rfl | rfl | rfl | rfl | rfl | rfl | rfl | rfl | rfl | rfl | rfl | rfl | rfl
    · exact bcA_0
    · exact bcA_1
    · exact bcA_2
    · exact bcA_3
    · exact bcA_4
    · exact bcA_5
    · exact bcA_6
    · exact bcA_7
    · exact bcA_8
    · exact bcA_9
    · exact bcA_10
    · exact bcA_11
    · exact bcA_12
    · exact bcA_13
    · exact bcA_14
    · exact bcA_15
  have := key (a / 16) (by omega) ⟨a % 16, Nat.mod_lt _ (by decide)⟩ ⟨b, hb⟩
  simp only at this
  rw [show 16 * (a / 16) + a % 16 = a by omega] at this
  exact this
theorem ct_low : ∀ n x, 0 < x → x < 2 ^ n → fb_ct (fun i => (x &&& (x - 1)).testBit i) n + 1 = fb_ct (fun i => x.testBit i) n
  | 0, x, h, h2 => by
    have : (2 : Nat) ^ 0 = 1 := rfl
    omega
  | n + 1, x, h, h2 => by
    have hp : (2 : Nat) ^ (n + 1) = 2 * 2 ^ n := by rw [Nat.pow_succ]; omega
    have s1 := fb_ct_split (fun i => x.testBit i) 1 n
    have s2 := fb_ct_split (fun i => (x &&& (x - 1)).testBit i) 1 n
    have one : ∀ y : Nat, fb_ct (fun i => y.testBit i) 1 = y % 2 := fun y => by
      rw [fb_ct_succ]
      show 0 + (if y.testBit 0 = true then 1 else 0) = _
      rw [Nat.testBit_zero]
      by_cases hy : y % 2 = 1
      · rw [if_pos (by simp [hy]), hy]
      · rw [if_neg (by simp [hy])]
        omega
    have sh : ∀ y : Nat, (fun k => y.testBit (1 + k)) = fun k => (y / 2).testBit k := fun y => by
      funext k
      rw [Nat.add_comm, Nat.testBit_add_one]
    rw [one, sh] at s1 s2
    rw [show n + 1 = 1 + n by omega, s1, s2, Nat.and_div_two]
    by_cases ho : x % 2 = 1
    · have e1 : (x - 1) / 2 = x / 2 := by omega
      have e2 : (x &&& (x - 1)) % 2 = 0 := by
        have : ¬ (x &&& (x - 1)) % 2 = 1 := fun z => by
          have := (Nat.and_mod_two_eq_one.mp z).2
          omega
        omega
      rw [e1, e2, ho, Nat.and_self]
      omega
    · have e1 : (x - 1) / 2 = x / 2 - 1 := by omega
      have e2 : (x &&& (x - 1)) % 2 = 0 := by
        have : ¬ (x &&& (x - 1)) % 2 = 1 := fun z => by
          have := (Nat.and_mod_two_eq_one.mp z).1
          omega
        omega
      have ih := ct_low n (x / 2) (by omega) (by omega)
      rw [e1, e2, show x % 2 = 0 by omega]
      omega
theorem low_lt {x : Nat} (h : 0 < x) : x &&& (x - 1) < x := by
  have : x &&& (x - 1) ≤ x - 1 := Nat.and_le_right
  omega
theorem c_bits16 {s : Nat} (hs : s < 2 ^ 16) (σ : St_) : f_J6_bitCount_0f7a4 KC [.int (nI s)] σ = some (some (.int (nI (p16_ s))), σ) := by
  refine z_J6_bitCount_0f7a4 (e_J6_bitCount_0f7a4_0 ?_)
  rw [← bc_all hs]
  rfl
theorem m_bits16 {s : Nat} (hs : s < 2 ^ 16) (μ : St_) : f_X12_bits KC [.int (nI s)] μ = some (some (.int (nI (p16_ s))), μ) := by
  have loop : ∀ n k x, x < n → x < 2 ^ 16 → k + p16_ x = p16_ s → Ev_ (P_X12_bits KC) 4 [some (.int (nI s)), some (.int (nI k)), some (.int (nI x))] [] μ (some (.int (nI (p16_ s))), μ) := by
    intro n
    induction n with
    | zero => exact fun k x hx => absurd hx (by omega)
    | succ n ih =>
      intro k x hx hx2 hk
      refine e_X12_bits_4 (pk_eq x 0 (fun e => ?_) (fun e => ?_))
      · subst e
        have z : p16_ 0 = 0 := fb_ct_zero.mpr (fun k _ => Nat.zero_testBit k)
        rw [z, Nat.add_zero] at hk
        rw [hk]
      · have hl := low_lt (x := x) (by omega)
        have hc := ct_low 16 x (by omega) hx2
        have e2 : nI x &&& (nI x - (1 : Int32)) = nI (x &&& (x - 1)) := by
          rw [show (1 : Int32) = nI 1 from rfl, pk_sub (by omega), fa_and]
        rw [e2, nI_1]
        exact ih (k + 1) _ (by omega) (by omega) (by unfold p16_ at hk ⊢; omega)
  exact z_X12_bits (e_X12_bits_0 (loop (s + 1) 0 s (by omega) hs (by omega)))
