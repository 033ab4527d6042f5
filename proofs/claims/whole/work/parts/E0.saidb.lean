/-! the call SAID -/
section SB
variable {σ μ μ1 : St_} {s b p a : Nat} {B P : Nat → Nat → Nat}
noncomputable def sd_ (D : M_) (k : K_) : Nat → Nat
  | 0 => 0
  | r + 1 => @ite _ (D k r) (Classical.propDecidable _) (sd_ D k r ||| 2 ^ r) (sd_ D k r)
theorem said_both (h : NOW_ σ μ1 b p B P a) (hl : LY_ μ μ1) (hs : isS s) (h16 : σ.2.2 0 16 = some s) (hse : SE_ σ μ1 s 221 0 B) : ∃ v σ' μ', f_X11_said KC [.ref 0] σ = some (some (.int v), σ') ∧ f_X12_said KC [.ref 219] μ = some (some (.int v), μ') ∧ REd_ σ σ' μ1 μ' b B P a := by
  have h0 := h
  obtain ⟨⟨hB, hP, h12, h14⟩, ⟨hC, hp, hr⟩, hx, hpm, ho⟩ := h
  have hO := hx.2
  have hb := BO_c hO
  obtain ⟨σ', μ', a1, a2, a3, a4, a5, a6, b1, b2, b3, b4, b5, b6, b7⟩ := now_run h0 hl
  have c8 : Int32.toNatClampNeg (800 : Int32) = 800 := rfl
  have c9 : Int32.toNatClampNeg (801 : Int32) = 801 := rfl
  have r221 : μ'.1 221 = μ1.1 221 := b6.1.1 221 (by decide)
  have rs : ∀ o, s ≤ o → o ≤ s + 4 → σ'.1 o = σ.1 o := fun o o1 o2 => (a5.1.1 o (by unfold isS at hs; simp; omega)).1
  rcases hse with ⟨e1, e0, e2⟩ | ⟨Q, V, N, O, D, ⟨n1, n2, n3, n4, n5⟩, hv, ⟨hE, hV⟩, ⟨hpc, h5⟩, m1, m2, m3⟩
  · refine ⟨-1, σ, μ', z_X11_said (e_X11_said_0 ⟨s, h16, hs, br_t e1 rfl⟩), z_X12_said (e_X12_said_0 ⟨μ', b1, by decide, br_t ?_ rfl⟩), RCF_rf, b6, hr, rfl, b7⟩
    rw [c8, r221]
    exact e2
  · have hk := a4.2.1
    have hg := KG_ru hO ho
    have hp' : PC_ σ' s Q N := PC_cg hpc rs
    have h12' : σ'.2.2 0 12 = some b := by rw [a5.2.2.2 0 12 (by omega)]; exact h12
    have h16' : σ'.2.2 0 16 = some s := by rw [a5.2.2.2 0 16 (by omega)]; exact h16
    have hV' : ∀ j i, j < N → i < 4 → μ'.1 221 (0 + 810 + 4 * j + i) = nI (V j i) := fun j i hj hi => by rw [r221]; exact m3 j i hj hi
    have lc : ∀ n r, r + n = B 0 1 → Ev_ (P_X11_said KC) 20 [some (.ref 0), some (.int (nI (sd_ D (ru_ B P a).1 r))), some (.int (nI r))] [] σ' (some (.int (nI (sd_ D (ru_ B P a).1 (B 0 1)))), σ') := by
      intro n
      induction n with
      | zero =>
        intro r hrr
        obtain rfl : r = B 0 1 := by omega
        exact e_X11_said_20 ⟨b, h12', hB, pk_le (B 0 1) (B 0 1) (fun _ => rfl) (fun z => by omega) a2.2.1.1.2.1⟩
      | succ n ih =>
        intro r hrr
        have ih1 := ih (r + 1) (by omega)
        have hh := c_holds (r := r) hs a2 hk hg hp' n2 hv n5 hE (by omega)
        refine e_X11_said_20 ⟨b, h12', hB, pk_le (B 0 1) r (fun z => by omega) (fun _ => ⟨s, h16', hs, _, σ', hh, ?_⟩) a2.2.1.1.2.1⟩
        rw [sd_] at ih1
        rcases bt_01 (D (ru_ B P a).1 r) with ⟨y1, y2⟩ | ⟨y1, y2⟩ <;> rw [y2]
        · rw [if_pos y1] at ih1
          refine br_f (by decide) ?_
          rw [show (1 : Int32) <<< (nI r &&& 31) = nI (2 ^ r) from sh_1 (by omega), fa_or, nI_1]
          exact ih1
        · rw [if_neg y1] at ih1
          exact br_t rfl (by rw [nI_1]; exact ih1)
    have lm : ∀ n r, r + n = B 0 1 → Ev_ (P_X12_said KC) 26 [some (.ref 219), some (.int (nI (sd_ D (ru_ B P a).1 r))), some (.int (nI r))] [] μ' (some (.int (nI (sd_ D (ru_ B P a).1 (B 0 1)))), μ') := by
      intro n
      induction n with
      | zero =>
        intro r hrr
        obtain rfl : r = B 0 1 := by omega
        exact e_X12_said_26 ⟨_, μ', m_readers b5, pk_le (B 0 1) (B 0 1) (fun _ => rfl) (fun z => by omega)⟩
      | succ n ih =>
        intro r hrr
        have ih1 := ih (r + 1) (by omega)
        have hh := m_isSo (r := r) b5 b2 hg n2 hV' (by omega) N (N - 1) D hV (by omega) 80 (by omega)
        have e801 : μ'.1 221 (Int32.toNatClampNeg (801 : Int32)) = nI (N - 1) := by rw [c9, r221]; exact m2
        refine e_X12_said_26 ⟨_, μ', m_readers b5, pk_le (B 0 1) r (fun z => by omega) (fun _ => ⟨by decide, _, μ', by rw [e801]; exact hh, ?_⟩)⟩
        rw [sd_] at ih1
        rcases bt_01 (D (ru_ B P a).1 r) with ⟨y1, y2⟩ | ⟨y1, y2⟩ <;> rw [y2]
        · rw [if_pos y1] at ih1
          refine br_f (by decide) ?_
          rw [show (1 : Int32) <<< (nI r &&& 31) = nI (2 ^ r) from sh_1 (by omega), fa_or, nI_1]
          exact ih1
        · rw [if_neg y1] at ih1
          exact br_t rfl (by rw [nI_1]; exact ih1)
    have h50 : ¬ σ.1 s 5 = 0 := fun z => by
      rw [h5] at z
      have := (nI_eq (show O < 2 ^ 31 by omega) (show 0 < 2 ^ 31 by omega)).mp z
      omega
    have h80 : ¬ μ'.1 221 (Int32.toNatClampNeg (800 : Int32)) = 0 := fun z => by
      rw [c8, r221] at z
      have e : μ1.1 221 800 = nI 1 := m1
      rw [e] at z
      exact absurd z (by decide)
    exact ⟨_, σ', μ', z_X11_said (e_X11_said_0 ⟨s, h16, hs, br_f h50 ⟨σ', a1, lc (B 0 1) 0 (by omega)⟩⟩), z_X12_said (e_X12_said_0 ⟨μ', b1, by decide, br_f h80 (lm (B 0 1) 0 (by omega))⟩), a5, b6, .inr ⟨a3, a4⟩, a6, b7⟩
end SB
