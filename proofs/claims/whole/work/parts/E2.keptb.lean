/-! IMAGE, RESTORE: the reference's copies, both sides -/
section KB1
variable {σ μ μ1 : St_} {b p s a k : Nat} {B P : Nat → Nat → Nat}
theorem ix1050 (hk : k < 2) (i : Nat) : (1050 : Int32) * nI k + nI i = nI (1050 * k + i) := by
  rw [show (1050 : Int32) = nI 1050 from rfl, pk_mul, nI_add]
theorem ix25 (hk : k < 2) (i : Nat) : (25 : Int32) * nI k + nI i = nI (25 * k + i) := by
  rw [show (25 : Int32) = nI 25 from rfl, pk_mul, nI_add]
theorem m_image22 (hk : k < 2) : ∀ n i (μ : St_), i + n = 1050 → ∃ μ', (∀ out, Ev_ (P_X12_image KC) 55 [some (.ref 219), some (.int (nI k)), some (.int 0)] [] μ' out → Ev_ (P_X12_image KC) 22 [some (.ref 219), some (.int (nI k)), some (.int (nI i))] [] μ out) ∧ fr_ [223] μ μ' ∧ (∀ j, μ'.1 223 j = if 1050 * k + i ≤ j ∧ j < 1050 * k + 1050 then μ.1 221 (j - 1050 * k) else μ.1 223 j)
  | 0, i, μ, h => by
    refine ⟨μ, fun out q => e_X12_image_22 (pk_le 1050 i (fun _ => q) (fun z => by omega)), fr_rf _ _, fun j => by rw [if_neg (by omega)]⟩
  | n + 1, i, μ, h => by
    obtain ⟨μ', q1, q2, q3⟩ := m_image22 hk n (i + 1) (sI_ μ 223 (1050 * k + i) (μ.1 221 i)) (by omega)
    refine ⟨μ', fun out q => e_X12_image_22 (pk_le 1050 i (fun z => by omega) (fun _ => ⟨vpin_n (by omega), ?_⟩)), fr_tr (fr_sI (by simp)) q2, fun j => ?_⟩
    · rw [ix1050 hk, cl_ (by omega), cl_ (by omega), nI_1]
      exact ⟨vpin_n (by omega), q1 out q⟩
    · have e5 : ∀ j, (sI_ μ 223 (1050 * k + i) (μ.1 221 i)).1 221 j = μ.1 221 j := fun j => by rw [sI_row _ _ _ _ (by decide)]
      rw [q3 j, e5, sI_at]
      by_cases e : j = 1050 * k + i
      · subst e
        rw [if_neg (by omega), if_pos ⟨rfl, rfl⟩, if_pos (by omega), Nat.add_sub_cancel_left]
      · rw [if_neg (show ¬ (223 = 223 ∧ j = 1050 * k + i) from fun z => e z.2)]
        by_cases e2 : 1050 * k + (i + 1) ≤ j ∧ j < 1050 * k + 1050
        · rw [if_pos e2, if_pos (by omega)]
        · rw [if_neg e2, if_neg (by omega)]
theorem m_image55 (hk : k < 2) : ∀ n i (μ : St_), i + n = 25 → ∃ μ', Ev_ (P_X12_image KC) 55 [some (.ref 219), some (.int (nI k)), some (.int (nI i))] [] μ (some (.int 1), sI_ μ' 227 k (nI 1)) ∧ μ'.1 = μ.1 ∧ fm_ [] [226] μ μ' ∧ (∀ j, μ'.2.1 226 j = if 25 * k + i ≤ j ∧ j < 25 * k + 25 then μ.2.1 224 (j - 25 * k) else μ.2.1 226 j)
  | 0, i, μ, h => by
    refine ⟨μ, e_X12_image_55 (pk_le 25 i (fun _ => ⟨vpin_n hk, ?_⟩) (fun z => by omega)), rfl, fm_rf _ _ _, fun j => by rw [if_neg (by omega)]⟩
    rw [cl_ (by omega)]
    rfl
  | n + 1, i, μ, h => by
    obtain ⟨μ', q1, q2, q3, q4⟩ := m_image55 hk n (i + 1) (sJ_ μ 226 (25 * k + i) (μ.2.1 224 i)) (by omega)
    refine ⟨μ', e_X12_image_55 (pk_le 25 i (fun z => by omega) (fun _ => ⟨vpin_n (by omega), ?_⟩)), q2, fm_tr (fm_sJ (by simp)) q3, fun j => ?_⟩
    · rw [ix25 hk, cl_ (by omega), cl_ (by omega), nI_1]
      exact ⟨vpin_n (by omega), q1⟩
    · have e5 : ∀ j, (sJ_ μ 226 (25 * k + i) (μ.2.1 224 i)).2.1 224 j = μ.2.1 224 j := fun j => by rw [sJ_at, if_neg (by omega)]
      rw [q4 j, e5, sJ_at]
      by_cases e : j = 25 * k + i
      · subst e
        rw [if_neg (by omega), if_pos ⟨rfl, rfl⟩, if_pos (by omega), Nat.add_sub_cancel_left]
      · rw [if_neg (show ¬ (226 = 226 ∧ j = 25 * k + i) from fun z => e z.2)]
        by_cases e2 : 25 * k + (i + 1) ≤ j ∧ j < 25 * k + 25
        · rw [if_pos e2, if_pos (by omega)]
        · rw [if_neg e2, if_neg (by omega)]
theorem m_rest31 (hk : k < 2) : ∀ n i (μ : St_), i + n = 1050 → ∃ μ', (∀ out, Ev_ (P_X12_restore KC) 64 [some (.ref 219), some (.int (nI k)), some (.int 0)] [] μ' out → Ev_ (P_X12_restore KC) 31 [some (.ref 219), some (.int (nI k)), some (.int (nI i))] [] μ out) ∧ fr_ [221] μ μ' ∧ (∀ j, μ'.1 221 j = if i ≤ j ∧ j < 1050 then μ.1 223 (1050 * k + j) else μ.1 221 j)
  | 0, i, μ, h => by
    refine ⟨μ, fun out q => e_X12_restore_31 (pk_le 1050 i (fun _ => q) (fun z => by omega)), fr_rf _ _, fun j => by rw [if_neg (by omega)]⟩
  | n + 1, i, μ, h => by
    obtain ⟨μ', q1, q2, q3⟩ := m_rest31 hk n (i + 1) (sI_ μ 221 i (μ.1 223 (1050 * k + i))) (by omega)
    refine ⟨μ', fun out q => e_X12_restore_31 (pk_le 1050 i (fun z => by omega) (fun _ => ?_)), fr_tr (fr_sI (by simp)) q2, fun j => ?_⟩
    · rw [ix1050 hk, cl_ (by omega), cl_ (by omega), nI_1]
      exact ⟨vpin_n (by omega), vpin_n (by omega), q1 out q⟩
    · have e5 : ∀ j, (sI_ μ 221 i (μ.1 223 (1050 * k + i))).1 223 j = μ.1 223 j := fun j => by rw [sI_row _ _ _ _ (by decide)]
      rw [q3 j, e5, sI_at]
      by_cases e : j = i
      · subst e
        rw [if_neg (by omega), if_pos ⟨rfl, rfl⟩, if_pos (by omega)]
      · rw [if_neg (show ¬ (221 = 221 ∧ j = i) from fun z => e z.2)]
        by_cases e2 : i + 1 ≤ j ∧ j < 1050
        · rw [if_pos e2, if_pos (by omega)]
        · rw [if_neg e2, if_neg (by omega)]
theorem m_rest64 (hk : k < 2) : ∀ n i (μ : St_), i + n = 25 → ∃ μ', Ev_ (P_X12_restore KC) 64 [some (.ref 219), some (.int (nI k)), some (.int (nI i))] [] μ (some (.int 1), μ') ∧ μ'.1 = μ.1 ∧ fm_ [] [224] μ μ' ∧ (∀ j, μ'.2.1 224 j = if i ≤ j ∧ j < 25 then μ.2.1 226 (25 * k + j) else μ.2.1 224 j)
  | 0, i, μ, h => by
    exact ⟨μ, e_X12_restore_64 (pk_le 25 i (fun _ => rfl) (fun z => by omega)), rfl, fm_rf _ _ _, fun j => by rw [if_neg (by omega)]⟩
  | n + 1, i, μ, h => by
    obtain ⟨μ', q1, q2, q3, q4⟩ := m_rest64 hk n (i + 1) (sJ_ μ 224 i (μ.2.1 226 (25 * k + i))) (by omega)
    refine ⟨μ', e_X12_restore_64 (pk_le 25 i (fun z => by omega) (fun _ => ?_)), q2, fm_tr (fm_sJ (by simp)) q3, fun j => ?_⟩
    · rw [ix25 hk, cl_ (by omega), cl_ (by omega), nI_1]
      exact ⟨vpin_n (by omega), vpin_n (by omega), q1⟩
    · have e5 : ∀ j, (sJ_ μ 224 i (μ.2.1 226 (25 * k + i))).2.1 226 j = μ.2.1 226 j := fun j => by rw [sJ_at, if_neg (by omega)]
      rw [q4 j, e5, sJ_at]
      by_cases e : j = i
      · subst e
        rw [if_neg (by omega), if_pos ⟨rfl, rfl⟩, if_pos (by omega)]
      · rw [if_neg (show ¬ (224 = 224 ∧ j = i) from fun z => e z.2)]
        by_cases e2 : i + 1 ≤ j ∧ j < 25
        · rw [if_pos e2, if_pos (by omega)]
        · rw [if_neg e2, if_neg (by omega)]
/-- what is kept in a place stays -/
theorem KE_cg {σ' μ' : St_} (hk : k < 2) (h : KE_ σ μ k) (h1 : ∀ o, 143 + 38 * k ≤ o → o ≤ 180 + 38 * k → σ'.1 o = σ.1 o) (h2 : σ'.1 142 k = σ.1 142 k) (h3 : ∀ i, i < 1050 → μ'.1 223 (1050 * k + i) = μ.1 223 (1050 * k + i)) (h4 : ∀ i, i < 25 → μ'.2.1 226 (25 * k + i) = μ.2.1 226 (25 * k + i)) (h5 : μ'.1 227 k = μ.1 227 k) : KE_ σ' μ' k := by
  rcases h with ⟨a1, a2⟩ | ⟨⟨a1, a2⟩, B, P, a, ⟨b1, b2, b3⟩, ⟨c1, c2, c3⟩, d⟩
  · exact Or.inl ⟨h2.trans a1, h5.trans a2⟩
  · refine Or.inr ⟨⟨h2.trans a1, h5.trans a2⟩, B, P, a, ⟨CB_row (kc_is139 k hk) b1 (fun o o1 o2 => h1 o (by omega) (by omega)) b3, MB_to b2 h3 h4 b3, b3⟩, ⟨PC_cg c1 (fun o o1 o2 => h1 o (by omega) (by omega)), PMg_to c2 h3 c3.1, c3⟩, SE_to d h3 (by rw [h1 _ (by omega) (by omega)]) (by rw [h1 _ (by omega) (by omega)]) (fun Q N _ hp => PC_cg hp (fun o o1 o2 => h1 o (by omega) (by omega)))⟩
theorem image_both (h : NOW_ σ μ1 b p B P a) (hb2 : b < 143) (hp2 : p < 143) (hs2 : s < 143) (hl : LY_ μ μ1) (hs : isS s) (h16 : σ.2.2 0 16 = some s) (hse : SE_ σ μ1 s 221 0 B) (hk0 : KE_ σ μ1 0) (hk1 : KE_ σ μ1 1) (x1 : Int32) : ∃ v σ' μ', f_X11_image KC [.ref 0, .int x1] σ = some (some (.int v), σ') ∧ f_X12_image KC [.ref 219, .int x1] μ = some (some (.int v), μ') ∧ (KE_ σ' μ' 0 ∧ KE_ σ' μ' 1) ∧ ((∀ o, ¬ (142 ≤ o ∧ o ≤ 218) → σ'.1 o = σ.1 o) ∧ σ'.2 = σ.2) ∧ fm_ [223, 227] [226] μ1 μ' := by
  have hl' : f_X12_lay KC [.ref 219] (sI_ μ 219 0 (0 : Int32)) = some (none, μ1) := hl
  obtain ⟨⟨hB, hP, h12, h14⟩, ⟨hC, hp, hr⟩, hx, hpm, ho⟩ := h
  have hO := hx.2
  rcases in_or x1 (a := 0) (b := 1) (by omega) (by omega) with ⟨k, rfl, -, hk1'⟩ | h1
  · have hk : k < 2 := by omega
    have i1 := m_isInYes (μ := μ1) (b := 1) (by omega) (show 0 ≤ k ∧ k ≤ 1 from ⟨Nat.zero_le _, hk1'⟩)
    have ck : Int32.toNatClampNeg (nI k) = k := cl_ (by omega)
    have vk : vpin_ (nI k) 2 = true := vpin_n hk
    have hB1 := kc_is139 k hk
    have hP1 := kc_is140 k hk
    have hS1 := kc_is141 k hk
    obtain ⟨N, Q0, hN, hN40⟩ : ∃ N, ∃ _ : Nat → Nat → Nat, σ.1 s 4 = nI N ∧ N ≤ 40 := by
      rcases hse with ⟨e1, e0, e2⟩ | ⟨Q, V, N, O, D, ⟨n1, n2, n3, n4, n5⟩, hv, hE, ⟨hpc, h5'⟩, m1, m2, m3⟩
      · exact ⟨0, fun _ _ => 0, e0, by omega⟩
      · exact ⟨N, Q, hpc.1, n2⟩
    obtain ⟨σ2, a1, a2, a3, a4⟩ := c_bcopy (b := 143 + 38 * k) (b1 := b) hB1 hB (by omega) hC hO
    have p2 : PC_ σ2 p P a := PC_cg hp (fun o o1 o2 => a3 o (by unfold isP at hP; omega))
    obtain ⟨σ3, b1, b2, b3⟩ := c_pcopy (p := 171 + 38 * k) (p1 := p) hP1 hP (by omega) p2 ho.1
    have s4 : σ3.1 s 4 = nI N := by rw [b3.1 s (by unfold isS at hs; simp; omega), a3 s (by unfold isS at hs; omega)]; exact hN
    have s3 : ∀ o, s ≤ o → o ≤ s + 4 → σ3.1 o = σ.1 o := fun o o1 o2 => by rw [b3.1 o (by unfold isS at hs; simp; omega), a3 o (by unfold isS at hs; omega)]
    obtain ⟨σ4, c1, -, c4, c5, c6⟩ := c_scopy (Q := Q0) (s := 176 + 38 * k) (s1 := s) hS1 hs (by omega) s4 hN40
    have c2 : ∀ Q, PC_ σ s Q N → PC_ σ4 (176 + 38 * k) Q N := fun Q hq => by
      obtain ⟨σ4', d1, d2, -⟩ := c_scopy (Q := Q) (s := 176 + 38 * k) (s1 := s) hS1 hs (by omega) s4 hN40
      have e : σ4' = σ4 := by
        have := d1.symm.trans c1
        simp only [Option.some.injEq, Prod.mk.injEq, true_and] at this
        exact this
      rw [← e]
      exact d2 (PC_cg hq s3)
    obtain ⟨μ2, u1, u2, u3⟩ := m_image22 hk 1050 0 μ1 (by omega)
    obtain ⟨μ3, v1, v2, v3, v4⟩ := m_image55 hk 25 0 μ2 (by omega)
    have row4 : ∀ o, ¬ (176 + 38 * k ≤ o ∧ o ≤ 180 + 38 * k) → σ4.1 o = σ3.1 o := fun o ho => c6.1 o (by simp; omega)
    have row3 : ∀ o, ¬ (171 + 38 * k ≤ o ∧ o ≤ 175 + 38 * k) → σ3.1 o = σ2.1 o := fun o ho => b3.1 o (by simp; omega)
    have r223 : ∀ i, i < 1050 → (sI_ μ3 227 k (nI 1)).1 223 (1050 * k + i) = μ1.1 221 (0 + i) := fun i hi => by
      rw [sI_row _ _ _ _ (by decide), v2, u3, if_pos (by omega), Nat.zero_add, Nat.add_sub_cancel_left]
    have r226 : ∀ i, i < 25 → (sI_ μ3 227 k (nI 1)).2.1 226 (25 * k + i) = μ1.2.1 224 (0 + i) := fun i hi => by
      rw [sI_2, v4, if_pos (by omega), u2.2, Nat.zero_add, Nat.add_sub_cancel_left]
    have new : KE_ (sI_ σ4 142 k (nI 1)) (sI_ μ3 227 k (nI 1)) k := by
      refine Or.inr ⟨⟨by rw [sI_at, if_pos ⟨rfl, rfl⟩], by rw [sI_at, if_pos ⟨rfl, rfl⟩]⟩, B, P, a, ⟨CB_row hB1 a2 (fun o o1 o2 => ?_) hO, MB_to hx.1 r223 r226 hO, hO⟩, ⟨PC_cg b2 (fun o o1 o2 => ?_), PMg_to (PM_g.mp hpm) r223 ho.1, ho⟩, SE_to hse r223 ?_ ?_ (fun Q N' hN' hq => ?_)⟩
      · rw [sI_row _ _ _ _ (by omega), row4 o (by omega), row3 o (by omega)]
      · rw [sI_row _ _ _ _ (by omega), row4 o (by omega)]
      · rw [sI_row _ _ _ _ (by omega), c5, s3 s (by omega) (by omega)]
      · rw [sI_row _ _ _ _ (by omega), c4, hN]
      · have e : N' = N := (nI_eq (by omega) (by omega)).mp (hq.1.symm.trans hN)
        subst e
        exact PC_cg (c2 Q hq) (fun o o1 o2 => sI_row _ _ _ _ (by omega))
    have keep : ∀ k', k' < 2 → k' ≠ k → KE_ σ μ1 k' → KE_ (sI_ σ4 142 k (nI 1)) (sI_ μ3 227 k (nI 1)) k' := fun k' hk' hne hh => KE_cg hk' hh (fun o o1 o2 => by rw [sI_row _ _ _ _ (by omega), row4 o (by omega), row3 o (by omega), a3 o (by omega)]) (by rw [sI_at, if_neg (by omega), row4 142 (by omega), row3 142 (by omega), a3 142 (by omega)]) (fun i hi => by rw [sI_row _ _ _ _ (by decide), v2, u3, if_neg (by omega)]) (fun i hi => by rw [sI_2, v4, if_neg (by omega), u2.2]) (by rw [sI_at, if_neg (by omega), v2, u2.1 227 (by decide)])
    refine ⟨1, sI_ σ4 142 k (nI 1), sI_ μ3 227 k (nI 1), z_X11_image (e_X11_image_0 ?_), z_X12_image (e_X12_image_0 ⟨μ1, hl', _, μ1, i1, br_f (by decide) (u1 _ v1)⟩), ?_, ⟨fun o ho => ?_, ?_⟩, fm_tr (fr_fm (fr_mono u2 (by simp))) (fm_tr (fm_mono v3 (by simp) (by simp)) (fm_sI (by simp)))⟩
    · rw [ck]
      refine br_f (nI_pos (by omega)) (pk_lt k 2 (fun _ => ⟨vk, b, h12, hB, σ2, a1, vk, p, by rw [a4]; exact h14, hP, σ3, b1, vk, s, by rw [b3.2, a4]; exact h16, hs, σ4, c1, vk, rfl⟩) (fun z => by omega))
    · by_cases e : k = 0
      · subst e
        exact ⟨new, keep 1 (by omega) (by omega) hk1⟩
      · obtain rfl : k = 1 := by omega
        exact ⟨keep 0 (by omega) (by omega) hk0, new⟩
    · rw [sI_row _ _ _ _ (by omega), row4 o (by omega), row3 o (by omega), a3 o (by omega)]
    · rw [sI_2, c6.2, b3.2, a4]
  · have i1 := m_isInNo (μ := μ1) h1
    refine ⟨0, σ, μ1, z_X11_image (e_X11_image_0 ?_), z_X12_image (e_X12_image_0 ⟨μ1, hl', _, μ1, i1, br_t rfl rfl⟩), ⟨hk0, hk1⟩, ⟨fun _ _ => rfl, rfl⟩, fm_rf _ _ _⟩
    by_cases h0 : x1 < (0 : Int32)
    · exact br_t h0 rfl
    · have h2 : nI 1 < x1 := h1.resolve_left h0
      refine br_f h0 (br_f (fun z => ?_) rfl)
      have a1 := Int32.lt_iff_toInt_lt.mp h2
      have a2 := Int32.lt_iff_toInt_lt.mp z
      rw [nI_toInt (by omega)] at a1
      have a3 : (2 : Int32).toInt = 2 := by decide
      rw [a3] at a2
      omega
/-- what comes of restore() -/
def VQ_ (σ σ' μ1 μ' : St_) (b p s : Nat) : Prop := (σ' = σ ∧ μ' = μ1) ∨ ((∃ B' P' a', NOW_ σ' μ' b p B' P' a' ∧ SE_ σ' μ' s 221 0 B') ∧ ((∀ o, o ≠ 0 → ¬ (b ≤ o ∧ o ≤ b + 27) → ¬ (p ≤ o ∧ o ≤ p + 4) → ¬ (s ≤ o ∧ o ≤ s + 4) → σ'.1 o = σ.1 o) ∧ (∀ f, f ≠ 18 → σ'.1 0 f = σ.1 0 f) ∧ σ'.2 = σ.2) ∧ fm_ [221] [224] μ1 μ')
theorem restore_both (h : NOW_ σ μ1 b p B P a) (hb2 : b < 143) (hp2 : p < 143) (hs2 : s < 143) (hl : LY_ μ μ1) (hs : isS s) (h16 : σ.2.2 0 16 = some s) (hk0 : KE_ σ μ1 0) (hk1 : KE_ σ μ1 1) (x1 : Int32) : ∃ v σ' μ', f_X11_restore KC [.ref 0, .int x1] σ = some (some (.int v), σ') ∧ f_X12_restore KC [.ref 219, .int x1] μ = some (some (.int v), μ') ∧ VQ_ σ σ' μ1 μ' b p s := by
  have hl' : f_X12_lay KC [.ref 219] (sI_ μ 219 0 (0 : Int32)) = some (none, μ1) := hl
  obtain ⟨⟨hB, hP, h12, h14⟩, -⟩ := h
  rcases in_or x1 (a := 0) (b := 1) (by omega) (by omega) with ⟨k, rfl, -, hk1'⟩ | h1
  · have hk : k < 2 := by omega
    have i1 := m_isInYes (μ := μ1) (b := 1) (by omega) (show 0 ≤ k ∧ k ≤ 1 from ⟨Nat.zero_le _, hk1'⟩)
    have ck : Int32.toNatClampNeg (nI k) = k := cl_ (by omega)
    have vk : vpin_ (nI k) 2 = true := vpin_n hk
    have hB1 := kc_is139 k hk
    have hP1 := kc_is140 k hk
    have hS1 := kc_is141 k hk
    have hke : KE_ σ μ1 k := by
      by_cases e : k = 0
      · subst e
        exact hk0
      · obtain rfl : k = 1 := by omega
        exact hk1
    rcases hke with ⟨e1, e2⟩ | ⟨⟨e1, e2⟩, B', P', a', ⟨q1, q2, q3⟩, ⟨r1, r2, r3⟩, hse⟩
    · refine ⟨0, σ, μ1, z_X11_restore (e_X11_restore_0 ?_), z_X12_restore (e_X12_restore_0 ⟨μ1, hl', _, μ1, i1, br_f (by decide) ⟨vk, ?_⟩⟩), Or.inl ⟨rfl, rfl⟩⟩
      · rw [ck, e1]
        exact br_f (nI_pos (by omega)) (pk_le 2 k (fun z => by omega) (fun _ => ⟨vk, br_t rfl rfl⟩))
      · rw [ck, e2]
        exact br_t rfl rfl
    · obtain ⟨N, Q0, hN, hN40⟩ : ∃ N, ∃ _ : Nat → Nat → Nat, σ.1 (176 + 38 * k) 4 = nI N ∧ N ≤ 40 := by
        rcases hse with ⟨e1, e0, e2⟩ | ⟨Q, V, N, O, D, ⟨n1, n2, n3, n4, n5⟩, hv, hE, ⟨hpc, h5'⟩, m1, m2, m3⟩
        · exact ⟨0, fun _ _ => 0, e0, by omega⟩
        · exact ⟨N, Q, hpc.1, n2⟩
      obtain ⟨σ2, a1, a2, a3, a4⟩ := c_bcopy (b := b) (b1 := 143 + 38 * k) hB hB1 (by omega) q1 q3
      have p2 : PC_ σ2 (171 + 38 * k) P' a' := PC_cg r1 (fun o o1 o2 => a3 o (by unfold isB at hB; omega))
      obtain ⟨σ3, b1, b2, b3⟩ := c_pcopy (p := p) (p1 := 171 + 38 * k) hP hP1 (by omega) p2 r3.1
      have s3 : ∀ o, 176 + 38 * k ≤ o → o ≤ 180 + 38 * k → σ3.1 o = σ.1 o := fun o o1 o2 => by rw [b3.1 o (by unfold isP at hP; simp; omega), a3 o (by unfold isB at hB; omega)]
      have s4 : σ3.1 (176 + 38 * k) 4 = nI N := by rw [s3 _ (by omega) (by omega)]; exact hN
      obtain ⟨σ4, c1, -, c4, c5, c6⟩ := c_scopy (Q := Q0) (s := s) (s1 := 176 + 38 * k) hs hS1 (by omega) s4 hN40
      have c2 : ∀ Q, PC_ σ (176 + 38 * k) Q N → PC_ σ4 s Q N := fun Q hq => by
        obtain ⟨σ4', d1, d2, -⟩ := c_scopy (Q := Q) (s := s) (s1 := 176 + 38 * k) hs hS1 (by omega) s4 hN40
        have e : σ4' = σ4 := by
          have := d1.symm.trans c1
          simp only [Option.some.injEq, Prod.mk.injEq, true_and] at this
          exact this
        rw [← e]
        exact d2 (PC_cg hq (fun o o1 o2 => s3 o (by omega) (by omega)))
      obtain ⟨μ2, u1, u2, u3⟩ := m_rest31 hk 1050 0 μ1 (by omega)
      obtain ⟨μ3, v1, v2, v3, v4⟩ := m_rest64 hk 25 0 μ2 (by omega)
      have row4 : ∀ o, ¬ (s ≤ o ∧ o ≤ s + 4) → σ4.1 o = σ3.1 o := fun o ho => c6.1 o (by simp; omega)
      have row3 : ∀ o, ¬ (p ≤ o ∧ o ≤ p + 4) → σ3.1 o = σ2.1 o := fun o ho => b3.1 o (by simp; omega)
      have hbp : ∀ o, b ≤ o → o ≤ b + 27 → ¬ (p ≤ o ∧ o ≤ p + 4) ∧ ¬ (s ≤ o ∧ o ≤ s + 4) ∧ o ≠ 0 := fun o o1 o2 => by unfold isB at hB; unfold isP at hP; unfold isS at hs; omega
      have hps : ∀ o, p ≤ o → o ≤ p + 4 → ¬ (s ≤ o ∧ o ≤ s + 4) ∧ o ≠ 0 := fun o o1 o2 => by unfold isP at hP; unfold isS at hs; omega
      have hs0 : 70 ≤ s := s_ge hs
      have e2' : σ4.2 = σ.2 := by rw [c6.2, b3.2, a4]
      have r221 : ∀ i, i < 1050 → μ3.1 221 (0 + i) = μ1.1 223 (1050 * k + i) := fun i hi => by rw [v2, u3, if_pos (by omega), Nat.zero_add]
      have r224 : ∀ i, i < 25 → μ3.2.1 224 (0 + i) = μ1.2.1 226 (25 * k + i) := fun i hi => by rw [v4, if_pos (by omega), u2.2, Nat.zero_add]
      refine ⟨1, sI_ σ4 0 18 0, μ3, z_X11_restore (e_X11_restore_0 ?_), z_X12_restore (e_X12_restore_0 ⟨μ1, hl', _, μ1, i1, br_f (by decide) ⟨vk, ?_⟩⟩), Or.inr ⟨⟨B', P', a', ⟨⟨hB, hP, by rw [sI_2, e2']; exact h12, by rw [sI_2, e2']; exact h14⟩, ⟨CB_row hB a2 (fun o o1 o2 => ?_) q3, PC_cg b2 (fun o o1 o2 => ?_), .inl (by rw [sI_at, if_pos ⟨rfl, rfl⟩]; rfl)⟩, ⟨MB_to q2 r221 r224 q3, q3⟩, PM_g.mpr (PMg_to r2 r221 r3.1), r3⟩, SE_to hse r221 ?_ ?_ (fun Q N' hN' hq => ?_)⟩, ⟨fun o o1 o2 o3 o4 => ?_, fun f hf => ?_, by rw [sI_2, e2']⟩, fm_tr (fr_fm (fr_mono u2 (by simp))) (fm_mono v3 (by simp) (by simp))⟩⟩
      · rw [ck, e1]
        exact br_f (nI_pos (by omega)) (pk_le 2 k (fun z => by omega) (fun _ => ⟨vk, br_f (by decide) ⟨b, h12, hB, vk, σ2, a1, p, by rw [a4]; exact h14, hP, vk, σ3, b1, s, by rw [b3.2, a4]; exact h16, hs, vk, σ4, c1, rfl⟩⟩))
      · rw [ck, e2]
        exact br_f (by decide) (u1 _ v1)
      · obtain ⟨g1, g2, g3⟩ := hbp o o1 o2
        rw [sI_row _ _ _ _ g3, row4 o g2, row3 o g1]
      · obtain ⟨g1, g2⟩ := hps o o1 o2
        rw [sI_row _ _ _ _ g2, row4 o g1]
      · rw [sI_row _ _ _ _ (by omega), c5, s3 _ (by omega) (by omega)]
      · rw [sI_row _ _ _ _ (by omega), c4, hN]
      · have e : N' = N := (nI_eq (by omega) (by omega)).mp (hq.1.symm.trans hN)
        subst e
        exact PC_cg (c2 Q hq) (fun o o1 o2 => sI_row _ _ _ _ (by omega))
      · rw [sI_row _ _ _ _ o1, row4 o o4, row3 o o3, a3 o o2]
      · rw [sI_at, if_neg (fun z => hf z.2), row4 0 (by omega), row3 0 (by unfold isP at hP; omega), a3 0 (by unfold isB at hB; omega)]
  · have i1 := m_isInNo (μ := μ1) h1
    refine ⟨0, σ, μ1, z_X11_restore (e_X11_restore_0 ?_), z_X12_restore (e_X12_restore_0 ⟨μ1, hl', _, μ1, i1, br_t rfl rfl⟩), Or.inl ⟨rfl, rfl⟩⟩
    by_cases h0 : x1 < (0 : Int32)
    · exact br_t h0 rfl
    · have h2 : nI 1 < x1 := h1.resolve_left h0
      have a1 := Int32.lt_iff_toInt_lt.mp h2
      rw [nI_toInt (by omega)] at a1
      have a3 : (2 : Int32).toInt = 2 := by decide
      exact br_f h0 (br_t (Int32.le_iff_toInt_le.mpr (by rw [a3]; omega)) rfl)
end KB1
