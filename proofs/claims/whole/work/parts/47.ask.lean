/-! what is asked of a TOKEN -/
def SP_ (x0 x1 x2 x3 x4 : Int32) : Int64 :=
  (fun v5 : Int64 => if x3 ≤ 0 then (if x4 ≤ 0 then v5 else (((27 : Int64) * v5) + (Int32.toInt64 x4)) - (96 : Int64)) else (if x4 ≤ 0 then (((27 : Int64) * v5) + (Int32.toInt64 x3)) - (96 : Int64) else (((27 : Int64) * ((((27 : Int64) * v5) + (Int32.toInt64 x3)) - (96 : Int64))) + (Int32.toInt64 x4)) - (96 : Int64)))
  (if x2 ≤ 0 then (((27 : Int64) * ((Int32.toInt64 x0) - (96 : Int64))) + (Int32.toInt64 x1)) - (96 : Int64) else (((27 : Int64) * ((((27 : Int64) * ((Int32.toInt64 x0) - (96 : Int64))) + (Int32.toInt64 x1)) - (96 : Int64))) + (Int32.toInt64 x2)) - (96 : Int64))
theorem m_spelt (x0 x1 x2 x3 x4 : Int32) (σ : St_) : f_X12_spelt KC [.int x0, .int x1, .int x2, .int x3, .int x4] σ = some (some (.long (SP_ x0 x1 x2 x3 x4)), σ) := by
  have h38 : ∀ v5 : Int64, Ev_ (P_X12_spelt KC) 38 [some (.int x0), some (.int x1), some (.int x2), some (.int x3), some (.int x4), some (.long v5), none] [] σ (some (.long (if x3 ≤ 0 then (if x4 ≤ 0 then v5 else (((27 : Int64) * v5) + (Int32.toInt64 x4)) - (96 : Int64)) else (if x4 ≤ 0 then (((27 : Int64) * v5) + (Int32.toInt64 x3)) - (96 : Int64) else (((27 : Int64) * ((((27 : Int64) * v5) + (Int32.toInt64 x3)) - (96 : Int64))) + (Int32.toInt64 x4)) - (96 : Int64)))), σ) := by
    intro v5
    refine e_X12_spelt_38 (br_c (fun z3 => br_c (fun z4 => ?_) (fun z4 => ?_)) (fun z3 => br_c (fun z4 => ?_) (fun z4 => ?_)))
    · rw [if_pos z3, if_pos z4]
    · rw [if_pos z3, if_neg z4]
    · rw [if_neg z3, if_pos z4]
    · rw [if_neg z3, if_neg z4]
  refine z_X12_spelt (e_X12_spelt_0 (br_c (fun z2 => ?_) (fun z2 => ?_)))
  · unfold SP_
    rw [if_pos z2]
    exact h38 _
  · unfold SP_
    rw [if_neg z2]
    exact h38 _
theorem SP0_ : SP_ 99 104 97 112 0 = lN (wm_ 0) := by decide +kernel
theorem SP1_ : SP_ 119 104 111 0 0 = lN (wm_ 1) := by decide +kernel
theorem SP2_ : SP_ 115 112 101 101 100 = lN (wm_ 2) := by decide +kernel
theorem SP3_ : SP_ 97 103 97 105 110 = lN (wm_ 3) := by decide +kernel
theorem SP4_ : SP_ 111 110 0 0 0 = lN (wm_ 4) := by decide +kernel
theorem SP5_ : SP_ 109 117 115 116 0 = lN (wm_ 5) := by decide +kernel
theorem SP6_ : SP_ 115 107 105 112 115 = lN (wm_ 6) := by decide +kernel
theorem SP7_ : SP_ 114 101 97 100 115 = lN (wm_ 7) := by decide +kernel
theorem SP8_ : SP_ 116 101 108 108 115 = lN (wm_ 8) := by decide +kernel
theorem SP9_ : SP_ 116 111 0 0 0 = lN (wm_ 9) := by decide +kernel
theorem SP10_ : SP_ 97 108 108 0 0 = lN (wm_ 10) := by decide +kernel
theorem SP11_ : SP_ 111 114 0 0 0 = lN (wm_ 11) := by decide +kernel
theorem SP12_ : SP_ 97 110 100 0 0 = lN (wm_ 12) := by decide +kernel
theorem SP13_ : SP_ 110 111 116 0 0 = lN (wm_ 13) := by decide +kernel
theorem SP14_ : SP_ 114 101 97 100 0 = lN (wm_ 14) := by decide +kernel
theorem SP15_ : SP_ 116 111 108 100 0 = lN (wm_ 15) := by decide +kernel
theorem SP16_ : SP_ 107 110 111 119 115 = lN (wm_ 16) := by decide +kernel
theorem SP17_ : SP_ 116 111 116 97 108 = lN (wm_ 17) := by decide +kernel
theorem SP18_ : SP_ 108 101 102 116 0 = lN (wm_ 18) := by decide +kernel
theorem SP19_ : SP_ 99 111 117 110 116 = lN (wm_ 19) := by decide +kernel
theorem m_wordOf {k : Nat} (hk : k < 20) (σ : St_) : f_X12_wordOf KC [.int (nI k)] σ = some (some (.long (lN (wm_ k))), σ) := by
  have key : ∀ j : Nat, j < 20 → nI k = nI j → k = j := fun j hj h => (nI_eq (by omega) (by omega)).mp h
  have hr : ((nI k).toInt < 0 ∨ 18 < (nI k).toInt) → k = 19 := fun h => by rw [nI_toInt (by omega)] at h; omega
  refine z_X12_wordOf (e_X12_wordOf_0 ⟨fun h => ⟨_, σ, m_spelt _ _ _ _ _ σ, by rw [hr h, SP19_]⟩, fun h => ⟨_, σ, m_spelt _ _ _ _ _ σ, by rw [key 0 (by omega) h, SP0_]⟩, fun h => ⟨_, σ, m_spelt _ _ _ _ _ σ, by rw [key 1 (by omega) h, SP1_]⟩, fun h => ⟨_, σ, m_spelt _ _ _ _ _ σ, by rw [key 2 (by omega) h, SP2_]⟩, fun h => ⟨_, σ, m_spelt _ _ _ _ _ σ, by rw [key 3 (by omega) h, SP3_]⟩, fun h => ⟨_, σ, m_spelt _ _ _ _ _ σ, by rw [key 4 (by omega) h, SP4_]⟩, fun h => ⟨_, σ, m_spelt _ _ _ _ _ σ, by rw [key 5 (by omega) h, SP5_]⟩, fun h => ⟨_, σ, m_spelt _ _ _ _ _ σ, by rw [key 6 (by omega) h, SP6_]⟩, fun h => ⟨_, σ, m_spelt _ _ _ _ _ σ, by rw [key 7 (by omega) h, SP7_]⟩, fun h => ⟨_, σ, m_spelt _ _ _ _ _ σ, by rw [key 8 (by omega) h, SP8_]⟩, fun h => ⟨_, σ, m_spelt _ _ _ _ _ σ, by rw [key 9 (by omega) h, SP9_]⟩, fun h => ⟨_, σ, m_spelt _ _ _ _ _ σ, by rw [key 10 (by omega) h, SP10_]⟩, fun h => ⟨_, σ, m_spelt _ _ _ _ _ σ, by rw [key 11 (by omega) h, SP11_]⟩, fun h => ⟨_, σ, m_spelt _ _ _ _ _ σ, by rw [key 12 (by omega) h, SP12_]⟩, fun h => ⟨_, σ, m_spelt _ _ _ _ _ σ, by rw [key 13 (by omega) h, SP13_]⟩, fun h => ⟨_, σ, m_spelt _ _ _ _ _ σ, by rw [key 14 (by omega) h, SP14_]⟩, fun h => ⟨_, σ, m_spelt _ _ _ _ _ σ, by rw [key 15 (by omega) h, SP15_]⟩, fun h => ⟨_, σ, m_spelt _ _ _ _ _ σ, by rw [key 16 (by omega) h, SP16_]⟩, fun h => ⟨_, σ, m_spelt _ _ _ _ _ σ, by rw [key 17 (by omega) h, SP17_]⟩, fun h => ⟨_, σ, m_spelt _ _ _ _ _ σ, by rw [key 18 (by omega) h, SP18_]⟩⟩)
theorem lg_0 (x y : Int64) : lg_cmp x y = 0 ↔ x = y := by
  unfold lg_cmp
  constructor
  · intro h
    split at h
    · exact absurd h (by decide)
    · split at h
      · assumption
      · exact absurd h (by decide)
  · intro h
    subst h
    rw [if_neg (fun z => Int64.lt_irrefl z), if_pos rfl]
theorem rk_2 {κ : Nat} (h : κ < 64) : rk_ κ = 2 ↔ wd_ κ := by unfold rk_; split <;> (try split) <;> (try split) <;> omega
theorem rk_3 {κ : Nat} (h : κ < 64) : rk_ κ = 3 ↔ κ = 3 := by unfold rk_; split <;> (try split) <;> (try split) <;> omega
theorem rk_1 {κ : Nat} (h : κ < 64) : rk_ κ = 1 ↔ κ = 1 := by unfold rk_; split <;> (try split) <;> (try split) <;> omega
theorem rk_0 {κ : Nat} (h : κ < 64) : rk_ κ = 0 ↔ κ = 0 := by unfold rk_; split <;> (try split) <;> (try split) <;> omega
theorem rk_4 {κ : Nat} (h : κ < 64) : rk_ κ = 4 ↔ 24 ≤ κ := by unfold rk_; split <;> (try split) <;> (try split) <;> omega
theorem rk_lt (κ : Nat) : rk_ κ < 5 := by unfold rk_; split <;> (try split) <;> (try split) <;> omega
theorem m_isWord {n κ pl e c k : Nat} {μ : St_} (hT : TO_ n κ pl e c) (hM : TM_ μ κ pl e c) (hk : k < 20) : f_X12_isWord KC [.ref 219, .int (nI k)] μ = some (some (.int (if κ = kk_ k then 1 else 0)), μ) := by
  have hkk := kk_at ⟨k, hk⟩
  simp only at hkk
  have hrl := rk_lt κ
  refine z_X12_isWord (e_X12_isWord_0 (pk_eq (rk_ κ) 2 (fun z => ⟨_, μ, m_wordOf hk μ, ?_⟩) (fun z => ?_) hM.1))
  · have hw := (rk_2 hT.1).mp z
    obtain ⟨hok, hkw⟩ := hT.2.2.2.2.1 hw
    rw [hM.2.2.2.2.1 hw]
    refine ek_if ((lg_0 _ _).trans (word_iff hok hk)) (fun z2 => ?_) (fun z2 => ?_)
    · rw [if_pos (hkw.symm.trans z2)]
    · rw [if_neg (fun z3 => z2 (hkw.trans z3))]
  · have : ¬ κ = kk_ k := fun z2 => z ((rk_2 hT.1).mpr (by right; omega))
    rw [if_neg this]
theorem m_isName {n κ pl e c : Nat} {μ : St_} (hT : TO_ n κ pl e c) (hM : TM_ μ κ pl e c) : f_X12_isName KC [.ref 219] μ = some (some (.int (if κ = 2 then 1 else 0)), μ) := by
  have hrl := rk_lt κ
  refine z_X12_isName (e_X12_isName_0 (pk_eq (rk_ κ) 2 (fun z => ?_) (fun z => ?_) hM.1))
  · have hw := (rk_2 hT.1).mp z
    obtain ⟨hok, hkw⟩ := hT.2.2.2.2.1 hw
    have loop : ∀ k i, i + k = 20 → (∀ j, j < i → ¬ κ = kk_ j) → Ev_ (P_X12_isName KC) 12 [some (.ref 219), some (.int (nI i))] [] μ (some (.int (if κ = 2 then 1 else 0)), μ) := by
      intro k
      induction k with
      | zero =>
        intro i hi hj
        have h2 : κ = 2 := by
          rcases hw with h | h
          · exact h
          · obtain ⟨j, hj2⟩ := kk_on ⟨κ - 4, by omega⟩
            exact absurd (show κ = kk_ j.val by rw [hj2]; simp only; omega) (hj j.val (by have := j.isLt; omega))
        refine e_X12_isName_12 (pk_lt 19 i (fun _ => ?_) (fun z => by omega))
        rw [if_pos h2]
      | succ k ih =>
        intro i hi hj
        refine e_X12_isName_12 (pk_lt 19 i (fun z => by omega) (fun _ => ⟨_, μ, m_wordOf (by omega) μ, ?_⟩))
        rw [hM.2.2.2.2.1 hw]
        have hkk := kk_at ⟨i, by omega⟩
        simp only at hkk
        refine ek_if ((lg_0 _ _).trans (word_iff hok (by omega))) (fun z2 => ?_) (fun z2 => ?_)
        · rw [if_neg (by omega)]
        · rw [nI_1]
          refine ih (i + 1) (by omega) (fun j hj2 => ?_)
          by_cases hji : j < i
          · exact hj j hji
          · rw [show j = i by omega, ← hkw]
            exact z2
    exact loop 20 0 (by omega) (fun j hj => by omega)
  · rw [if_neg (fun z2 => z ((rk_2 hT.1).mpr (Or.inl z2)))]
theorem m_isSign {n κ pl e c ch : Nat} {μ : St_} (hT : TO_ n κ pl e c) (hM : TM_ μ κ pl e c) (hc : 24 ≤ ch) (hc2 : ch < 64) : f_X12_isSign KC [.ref 219, .int (nI ch)] μ = some (some (.int (if κ = ch then 1 else 0)), μ) := by
  have hrl := rk_lt κ
  have hκ := hT.1
  refine z_X12_isSign (e_X12_isSign_0 (pk_eq (rk_ κ) 4 (fun z => ?_) (fun z => ?_) hM.1))
  · have h24 := (rk_4 hT.1).mp z
    refine pk_eq κ ch (fun z2 => ?_) (fun z2 => ?_) (hM.2.2.2.2.2 h24)
    · rw [if_pos z2]
    · rw [if_neg z2]
  · rw [if_neg (fun z2 => z ((rk_4 hT.1).mpr (by omega)))]
theorem m_bad {n κ pl e c : Nat} {μ : St_} (k : Nat) (hT : TO_ n κ pl e c) (hM : TM_ μ κ pl e c) : ∃ μ', f_X12_bad KC [.ref 219, .int (nI k)] μ = some (some (.int 0), μ') ∧ μ'.1 219 10 = nI (if κ = 1 then 1 else k) ∧ μ'.1 219 11 = nI pl ∧ fr_ [219] μ μ' ∧ ∀ f, f ≠ 10 → f ≠ 11 → μ'.1 219 f = μ.1 219 f := by
  have hrl := rk_lt κ
  by_cases h : κ = 1
  · refine ⟨sI_ (sI_ μ 219 10 1) 219 11 (nI pl), z_X12_bad (e_X12_bad_0 (pk_eq (rk_ κ) 1 (fun z => ?_) (fun z => absurd ((rk_1 hT.1).mpr h) z) hM.1)), by rw [if_pos h]; simp [sI_at]; rfl, by simp [sI_at], fr_tr (fr_sI (by simp)) (fr_sI (by simp)), fun f h1 h2 => by simp [sI_at, h1, h2]⟩
    have : (sI_ μ 219 10 (1 : Int32)).1 219 6 = nI pl := by simp [sI_at, hM.2.1]
    rw [this]
  · refine ⟨sI_ (sI_ μ 219 10 (nI k)) 219 11 (nI pl), z_X12_bad (e_X12_bad_0 (pk_eq (rk_ κ) 1 (fun z => absurd ((rk_1 hT.1).mp z) h) (fun z => ?_) hM.1)), by rw [if_neg h]; simp [sI_at], by simp [sI_at], fr_tr (fr_sI (by simp)) (fr_sI (by simp)), fun f h1 h2 => by simp [sI_at, h1, h2]⟩
    have : (sI_ μ 219 10 (nI k)).1 219 6 = nI pl := by simp [sI_at, hM.2.1]
    rw [this]
theorem c_fail {κ pl e c : Nat} {σ : St_} (k : Nat) (hC : TC_ σ κ pl e c) : ∃ σ', f_X8_fail KC [.ref 1, .int (nI k)] σ = some (some (.int 0), σ') ∧ σ'.1 1 9 = nI k ∧ σ'.1 1 10 = nI pl ∧ fr_ [1] σ σ' ∧ ∀ f, f ≠ 9 → f ≠ 10 → σ'.1 1 f = σ.1 1 f := by
  refine ⟨sI_ (sI_ σ 1 9 (nI k)) 1 10 (nI pl), z_X8_fail (e_X8_fail_0 ?_), by simp [sI_at], by simp [sI_at], fr_tr (fr_sI (by simp)) (fr_sI (by simp)), fun f h1 h2 => by simp [sI_at, h1, h2]⟩
  have : (sI_ σ 1 9 (nI k)).1 1 5 = nI pl := by simp [sI_at, hC.2.1]
  rw [this]
