/-! what a SENTENCE says of a READER, on both sides -/
theorem heap_shl (h : Nat) (hh : h < 2 ^ 30) : nI h <<< ((1 : Int32) &&& 31) = nI (2 * h) := by
  have hs : (Int32.toBitVec ((1 : Int32) &&& 31)).smod 32 = BitVec.ofNat 32 1 := by decide
  apply Int32.toBitVec_inj.mp
  rw [Int32.toBitVec_shiftLeft, hs]
  show (BitVec.ofNat 32 h) <<< (BitVec.ofNat 32 1) = BitVec.ofNat 32 (2 * h)
  apply BitVec.eq_of_toNat_eq
  rw [BitVec.shiftLeft_eq', BitVec.toNat_shiftLeft, BitVec.toNat_ofNat, BitVec.toNat_ofNat, BitVec.toNat_ofNat]
  rw [Nat.mod_eq_of_lt (show h < 2 ^ 32 by omega), show 1 % 2 ^ 32 = 1 from rfl, Nat.shiftLeft_eq, Nat.mul_comm]
theorem heap_one (h : Nat) : h &&& 1 = h % 2 := Nat.and_one_is_mod h
theorem or_1 (y : Nat) : y ||| 1 = y - y % 2 + 1 := by
  have h1 : (y ||| 1) % 2 = 1 := Nat.or_mod_two_eq_one.mpr (Or.inr rfl)
  have h2 : (y ||| 1) / 2 = y / 2 := by rw [Nat.or_div_two]; simp
  omega
theorem xor_1 (y : Nat) : y ^^^ 1 = if y % 2 = 1 then y - 1 else y + 1 := by
  have h2 : (y ^^^ 1) / 2 = y / 2 := by rw [Nat.xor_div_two]; simp
  have h1 : (y ^^^ 1) % 2 = 1 ↔ ¬ (y % 2 = 1 ↔ 1 % 2 = 1) := Nat.xor_mod_two_eq_one
  by_cases h : y % 2 = 1
  · rw [if_pos h]
    have : ¬ (y ^^^ 1) % 2 = 1 := fun z => h1.mp z (by simp [h])
    omega
  · rw [if_neg h]
    have : (y ^^^ 1) % 2 = 1 := h1.mpr (by simp [h])
    omega
theorem and_m2 (y : Nat) (h : y < 2 ^ 31) : y &&& (2 ^ 32 - 2) = y - y % 2 := by
  have h1 : ¬ (y &&& (2 ^ 32 - 2)) % 2 = 1 := fun z => by
    have := (Nat.and_mod_two_eq_one.mp z).2
    exact absurd this (by decide)
  have h2 : (y &&& (2 ^ 32 - 2)) / 2 = y / 2 := by
    rw [Nat.and_div_two, show (2 ^ 32 - 2) / 2 = 2 ^ 31 - 1 from rfl, Nat.and_two_pow_sub_one_eq_mod, Nat.mod_eq_of_lt (by omega)]
  omega
theorem nxor (a b : Nat) : nI a ^^^ nI b = nI (a ^^^ b) := by
  apply Int32.toBitVec_inj.mp
  rw [Int32.toBitVec_xor]
  show BitVec.ofNat 32 a ^^^ BitVec.ofNat 32 b = BitVec.ofNat 32 (a ^^^ b)
  rw [BitVec.ofNat_xor]
theorem sp_17 (p : Prop) (h : Nat) : nI h ^^^ (1 : Int32) = nI (sp_ 17 p h) := by
  rw [show (1 : Int32) = nI 1 from rfl, nxor, xor_1, sp_, if_pos rfl]
theorem sp_16 (p : Prop) (h : Nat) (hh : h < 2 ^ 31) : (nI h >>> ((1 : Int32) &&& 31)) &&& ((nI h &&& (1 : Int32)) ||| (-2 : Int32)) = nI (sp_ 16 p h) := by
  have e1 : nI h >>> ((1 : Int32) &&& 31) = nI (h / 2) := sr_n (i := 1) hh (by omega)
  have e2 : nI h &&& (1 : Int32) = nI (h % 2) := by rw [show (1 : Int32) = nI 1 from rfl, fa_and, heap_one]
  rw [e1, e2, sp_, if_neg (by omega), if_pos rfl]
  by_cases h1 : h % 2 = 1
  · rw [if_pos h1, h1, show nI 1 ||| (-2 : Int32) = nI (2 ^ 32 - 1) from by decide, fa_and, Nat.and_two_pow_sub_one_eq_mod, Nat.mod_eq_of_lt (by omega)]
  · rw [if_neg h1, show h % 2 = 0 by omega, show nI 0 ||| (-2 : Int32) = nI (2 ^ 32 - 2) from by decide, fa_and, and_m2 _ (by omega)]
theorem sp_15 (p : Prop) (h : Nat) (hh : h < 2 ^ 31) : (nI h >>> ((1 : Int32) &&& 31)) ||| (nI h &&& (1 : Int32)) = nI (sp_ 15 p h) := by
  have e1 : nI h >>> ((1 : Int32) &&& 31) = nI (h / 2) := sr_n (i := 1) hh (by omega)
  have e2 : nI h &&& (1 : Int32) = nI (h % 2) := by rw [show (1 : Int32) = nI 1 from rfl, fa_and, heap_one]
  rw [e1, e2, sp_, if_neg (by omega), if_neg (by omega), if_pos rfl, fa_or]
  by_cases h1 : h % 2 = 1
  · rw [if_pos h1, h1, or_1]
  · rw [if_neg h1, show h % 2 = 0 by omega, Nat.or_zero]
theorem sp_lf {kd : Nat} (p : Prop) (h : Nat) (hh : h < 2 ^ 30) (hk : 18 ≤ kd) : (nI h <<< ((1 : Int32) &&& 31)) ||| nI (bt_ p) = nI (sp_ kd p h) := by
  rw [heap_shl h hh, sp_, if_neg (by omega), if_neg (by omega), if_neg (by omega)]
  have hb : bt_ p < 2 ^ 1 := by rcases bt_01 p with ⟨_, z⟩ | ⟨_, z⟩ <;> rw [z] <;> decide
  exact fa_or_sum (k := 1) h hb
/-- what was READ is a number of sixteen bits -/
def KG_ (B : Nat → Nat → Nat) (k : K_) : Prop := ∀ r, r < B 0 1 → ∃ m, m < 2 ^ 16 ∧ k.2.1 r = nI m
section SY
variable {σ μ : St_} {s b : Nat} {B P Q V : Nat → Nat → Nat} {k : K_} {N r : Nat}
theorem KG_rd {c q : Nat} (h : KG_ B k) (hc : c < 16) : KG_ B (rdK_ B k q c) := fun r hr => by
  obtain ⟨m, h1, h2⟩ := h r hr
  show ∃ m, m < 2 ^ 16 ∧ ud_ k.2.1 q (ob_ (k.2.1 q) c) r = nI m
  by_cases e : r = q
  · subst e
    refine ⟨m ||| 2 ^ c, or_lt h1 (two_lt hc), ?_⟩
    rw [ud_eq]
    unfold ob_
    rw [h2, sh_1 (by omega), fa_or]
  · exact ⟨m, h1, by rw [ud_ne _ _ e, h2]⟩
theorem KG_do {t c f l : Nat} (h : KG_ B k) (hc : c < 16) : KG_ B (doK_ B k t c f l) := by
  unfold doK_
  split
  · exact KG_rd h hc
  · intro r hr
    rw [ds_read]
    exact h r hr
theorem KG_ru {a : Nat} (hO : BO_ B) (ho : PO_ B P a) : KG_ B (ru_ B P a).1 := by
  have hb := BO_c hO
  have key : ∀ n i k, i + n = a → KG_ B k → KG_ B (fo_ B P n i k).1 := by
    intro n
    induction n with
    | zero => exact fun i k _ h => h
    | succ n ih =>
      intro i k hi h
      rw [fo_]
      split
      · exact ih (i + 1) _ (by omega) (KG_do h (by have := (ho.2 i (by omega)).2.1; omega))
      · exact h
  exact key a 0 _ (by omega) (fun r _ => ⟨0, by decide, rfl⟩)
theorem bt_nI (p : Prop) : nI (bt_ p) = @ite _ p (Classical.propDecidable _) (1 : Int32) 0 := by
  unfold bt_
  split <;> rfl
/-- the class compares -/
theorem c_cmp {v : Int32} {j sg x : Nat} (hs : isS s) (hj : j < 40) (h1 : σ.1 (s + 3) j = nI sg) (h2 : σ.1 (s + 4) j = nI x) (hsg : sg = 60 ∨ sg = 61 ∨ sg = 62) : f_X9_compares KC [.ref s, .int v, .int (nI j)] σ = some (some (.int (nI (bt_ (cp_ v sg x)))), σ) := by
  have hcl : Int32.toNatClampNeg (nI j) = j := cl_ (by omega)
  refine z_X9_compares (e_X9_compares_0 hs ⟨vpin_n hj, ?_⟩)
  rw [hcl, h1, h2, bt_nI]
  have k60 : ∀ y : Nat, y < 64 → (nI sg = nI y ↔ sg = y) := fun y hy => nI_eq (by omega) (by omega)
  have a60 : nI sg = (60 : Int32) ↔ sg = 60 := k60 60 (by omega)
  have a62 : nI sg = (62 : Int32) ↔ sg = 62 := k60 62 (by omega)
  unfold cp_
  refine ⟨fun z => ⟨vpin_n hj, ?_⟩, fun z z2 => ⟨vpin_n hj, ?_⟩, fun z z2 => ⟨vpin_n hj, ?_⟩⟩
  · rw [if_pos (a60.mp z)]
    exact br_c (fun y => by rw [if_neg (Int32.not_lt.mpr y)]) (fun y => by rw [if_pos (Int32.not_le.mp y)])
  · have y62 := a62.mp z2
    rw [if_neg (show ¬ sg = 60 by omega), if_pos y62]
    exact br_c (fun y => by rw [if_neg (Int32.not_lt.mpr y)]) (fun y => by rw [if_pos (Int32.not_le.mp y)])
  · have y60 : ¬ sg = 60 := fun y => z (a60.mpr y)
    have y62 : ¬ sg = 62 := fun y => z2 (a62.mpr y)
    rw [if_neg y60, if_neg y62]
    exact br_c (fun y => by rw [if_pos y]) (fun y => by rw [if_neg y])
theorem m_cmp {v : Int32} {sg x : Nat} (hsg : sg = 60 ∨ sg = 61 ∨ sg = 62) (μ : St_) : f_X12_compares KC [.int v, .int (nI sg), .int (nI x)] μ = some (some (.int (nI (bt_ (cp_ v sg x)))), μ) := by
  refine z_X12_compares (e_X12_compares_0 ?_)
  rw [bt_nI]
  unfold cp_
  refine pk_eq sg 60 (fun z => ?_) (fun z => pk_eq sg 61 (fun z2 => ?_) (fun z2 => ?_))
  · rw [if_pos z]
    exact br_c (fun y => by rw [if_neg (Int32.not_lt.mpr y)]) (fun y => by rw [if_pos (Int32.not_le.mp y)])
  · rw [if_neg z, if_neg (show ¬ sg = 62 by omega)]
    exact br_c (fun y => by rw [if_pos y]) (fun y => by rw [if_neg y])
  · rw [if_neg z, if_pos (show sg = 62 by omega)]
    exact br_c (fun y => by rw [if_neg (Int32.not_lt.mpr y)]) (fun y => by rw [if_pos (Int32.not_le.mp y)])
end SY
