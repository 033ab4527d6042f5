/-! EXTRA -/
noncomputable def xg_ (B : Nat → Nat → Nat) (k : K_) (r c : Nat) : Int32 := oM_ (nI (B 2 c)) (mx_ (k.2.2.2 (16 * r + c)) (vR_ B k.2.2.2 r c)) - oM_ (nI (B 2 c)) (k.2.2.2 (16 * r + c))
noncomputable def xt_ (B : Nat → Nat → Nat) (k : K_) (r c : Nat) (s : Int32 × Int32 × Int32) : Int32 × Int32 × Int32 := @ite _ (¬ hb_ (k.2.1 r) c ∧ ¬ k.1 r < nI (tR_ B r c) ∧ s.1 < xg_ B k r c) (Classical.propDecidable _) (xg_ B k r c, nI r, nI c) s
noncomputable def xc_ (B : Nat → Nat → Nat) (k : K_) (r : Nat) (s : Int32 × Int32 × Int32) : Nat → Int32 × Int32 × Int32
  | 0 => s
  | c + 1 => xt_ B k r c (xc_ B k r s c)
noncomputable def xr_ (B : Nat → Nat → Nat) (k : K_) : Nat → Int32 × Int32 × Int32
  | 0 => (nM_, nM_, nM_)
  | r + 1 => xc_ B k r (xr_ B k r) (B 0 0)
theorem ia_rd {B : Nat → Nat → Nat} {k : K_} {r c : Nat} (hc : c < B 0 0) (h16 : B 0 0 ≤ 16) : ia_ B (rdK_ B k r c) r = ia_ B k r + xg_ B k r c := by
  have key : ∀ n, n ≤ B 0 0 → iaS_ B (rdK_ B k r c) r n = iaS_ B k r n + (if c < n then xg_ B k r c else 0) := by
    intro n
    induction n with
    | zero => intro _; rw [iaS_, iaS_, if_neg (by omega)]; rfl
    | succ n ih =>
      intro hn
      rw [iaS_, iaS_, ih (by omega)]
      by_cases e : n = c
      · subst e
        rw [if_neg (by omega), if_pos (by omega)]
        have : (rdK_ B k r n).2.2.2 (16 * r + n) = mx_ (k.2.2.2 (16 * r + n)) (vR_ B k.2.2.2 r n) := ud_eq _ _ _
        rw [this]
        unfold xg_
        generalize oM_ (nI (B 2 n)) (mx_ (k.2.2.2 (16 * r + n)) (vR_ B k.2.2.2 r n)) = x
        generalize oM_ (nI (B 2 n)) (k.2.2.2 (16 * r + n)) = y
        generalize iaS_ B k r n = z
        grind
      · have : (rdK_ B k r c).2.2.2 (16 * r + n) = k.2.2.2 (16 * r + n) := ud_ne _ _ (by omega)
        rw [this]
        by_cases e2 : c < n
        · rw [if_pos e2, if_pos (by omega)]
          generalize oM_ (nI (B 2 n)) (k.2.2.2 (16 * r + n)) = y
          generalize iaS_ B k r n = z
          generalize xg_ B k r c = x
          grind
        · rw [if_neg e2, if_neg (by omega)]
          generalize oM_ (nI (B 2 n)) (k.2.2.2 (16 * r + n)) = y
          generalize iaS_ B k r n = z
          grind
  have := key (B 0 0) (Nat.le_refl _)
  rw [if_pos hc] at this
  exact this
theorem iaS_cg {B : Nat → Nat → Nat} {k k' : K_} {r : Nat} (h : ∀ c, c < 16 → k'.2.2.2 (16 * r + c) = k.2.2.2 (16 * r + c)) : ∀ n, n ≤ 16 → iaS_ B k' r n = iaS_ B k r n
  | 0, _ => rfl
  | n + 1, hn => by rw [iaS_, iaS_, iaS_cg h n (by omega), h n (by omega)]
theorem ia_cg {B : Nat → Nat → Nat} {k k' : K_} {r : Nat} (h16 : B 0 0 ≤ 16) (h : ∀ c, c < 16 → k'.2.2.2 (16 * r + c) = k.2.2.2 (16 * r + c)) : ia_ B k' r = ia_ B k r := iaS_cg h _ h16
/-- a SUM with another row r -/
theorem sm_row {B : Nat → Nat → Nat} {k k' : K_} {r : Nat} (h16 : B 0 0 ≤ 16) (h : ∀ q c, q ≠ r → c < 16 → k'.2.2.2 (16 * q + c) = k.2.2.2 (16 * q + c)) : ∀ n, smK_ B k' n = smK_ B k n + (if r < n then ia_ B k' r - ia_ B k r else 0)
  | 0 => by rw [smK_, smK_, if_neg (by omega)]; rfl
  | n + 1 => by
    rw [smK_, smK_, sm_row h16 h n]
    by_cases e : n = r
    · subst e
      rw [if_neg (by omega), if_pos (by omega)]
      generalize ia_ B k' n = x
      generalize ia_ B k n = y
      generalize smK_ B k n = z
      grind
    · rw [ia_cg h16 (fun c hc => h n c e hc)]
      by_cases e2 : r < n
      · rw [if_pos e2, if_pos (by omega)]
        generalize ia_ B k' r = x
        generalize ia_ B k r = y
        generalize smK_ B k n = z
        generalize ia_ B k n = w
        grind
      · rw [if_neg e2, if_neg (by omega)]
        generalize smK_ B k n = z
        generalize ia_ B k n = w
        grind
theorem rd_row {B : Nat → Nat → Nat} {k : K_} {r c : Nat} (hc : c < 16) : ∀ q d, q ≠ r → d < 16 → (rdK_ B k r c).2.2.2 (16 * q + d) = k.2.2.2 (16 * q + d) := fun q d hq hd => ud_ne _ _ (by omega)
theorem sm_rd {B : Nat → Nat → Nat} {k : K_} {r c : Nat} (hc : c < B 0 0) (h16 : B 0 0 ≤ 16) (hr : r < B 0 1) : smK_ B (rdK_ B k r c) (B 0 1) - smK_ B k (B 0 1) = xg_ B k r c := by
  rw [sm_row h16 (rd_row (by omega)), if_pos hr, ia_rd hc h16]
  generalize ia_ B k r = x
  generalize smK_ B k (B 0 1) = z
  generalize xg_ B k r c = y
  grind
theorem ob_and {x : Int32} {c : Nat} (hc : c < 31) (h : ¬ hb_ x c) : ob_ x c &&& ((nI 1 <<< (nI c &&& 31)) ^^^ nM_) = x := by
  have h0 := hb_0 x c
  rw [eq_true h] at h0
  have h1 := of_eq_true h0
  unfold ob_
  rw [sh_1 hc]
  have hs : ((nI c).toBitVec &&& Int32.toBitVec 31).smod 32 = BitVec.ofNat 32 c := by
    have : ∀ j : Fin 31, ((nI j.val).toBitVec &&& Int32.toBitVec 31).smod 32 = BitVec.ofNat 32 j.val := by decide +kernel
    exact this ⟨c, hc⟩
  have hx : x.toBitVec.getLsbD c = false := by
    have h2 := congrArg (fun z : Int32 => z.toBitVec.getLsbD 0) h1
    simp only [Int32.toBitVec_and, Int32.toBitVec_shiftRight, hs, BitVec.getLsbD_and, BitVec.sshiftRight_eq'] at h2
    rw [BitVec.toNat_ofNat, Nat.mod_eq_of_lt (show c < 2 ^ 32 by omega), BitVec.getLsbD_sshiftRight] at h2
    simpa [show c < 32 by omega, nI] using h2
  refine Int32.toBitVec_inj.mp (BitVec.eq_of_getLsbD_eq fun i hi => ?_)
  have e1 : (nI (2 ^ c)).toBitVec = BitVec.ofNat 32 (2 ^ c) := rfl
  have e2 : (nM_ : Int32).toBitVec = BitVec.allOnes 32 := by decide
  simp only [Int32.toBitVec_and, Int32.toBitVec_or, Int32.toBitVec_xor, e1, e2, BitVec.getLsbD_and, BitVec.getLsbD_or, BitVec.getLsbD_xor, BitVec.getLsbD_ofNat, BitVec.getLsbD_allOnes, hi, decide_true, Bool.true_and, Nat.testBit_two_pow]
  by_cases e : c = i
  · subst e
    rw [hx]
    simp
  · simp [e]
section EX
variable {σ μ : St_} {m b : Nat} {B P : Nat → Nat → Nat} {k : K_} {r c : Nat}
theorem c_offer (h : CX_ σ m b B) (hk : CK_ σ m B k) (hr : r < B 0 1) (hc : c < B 0 0) (s : Int32 × Int32 × Int32) (h6 : σ.1 m 6 = s.1) (h7 : σ.1 m 7 = s.2.1) (h8 : σ.1 m 8 = s.2.2) (hn : ¬ hb_ (k.2.1 r) c) (ht : ¬ k.1 r < nI (tR_ B r c)) : ∃ σ', f_X5_offerExtra KC [.ref m, .int (nI r), .int (nI c)] σ = some (none, σ') ∧ (σ'.1 m 6 = (xt_ B k r c s).1 ∧ σ'.1 m 7 = (xt_ B k r c s).2.1 ∧ σ'.1 m 8 = (xt_ B k r c s).2.2) ∧ CX_ σ' m b B ∧ CK_ σ' m B k ∧ fr_ [m] σ σ' ∧ NF2_ [6, 7, 8] m σ σ' := by
  have h0' := h
  obtain ⟨⟨hm, hB, h9⟩, hC, hO⟩ := h
  have h3 := BO_c hO
  have hr9 : r < 9 := by omega
  have hc16 : c < 16 := by omega
  by_cases hg : s.1 < xg_ B k r c
  · have e : xt_ B k r c s = (xg_ B k r c, nI r, nI c) := if_pos ⟨hn, ht, hg⟩
    have hg2 := Int32.not_le.mpr hg
    unfold xg_ at hg2
    rw [e]
    refine ⟨_, z_X5_offerExtra (e_X5_offerExtra_0 hm ?_), ⟨?_, ?_, ?_⟩, CX_m (CX_m (CX_m h0' 6 (xg_ B k r c)) 7 (nI r)) 8 (nI c), CK_m (CK_m (CK_m hk _ _) _ _) _ _, fr_tr (fr_sI (by simp)) (fr_tr (fr_sI (by simp)) (fr_sI (by simp))), fun f hf => ?_⟩
    · simp (disch := first | assumption | omega) only [mul16, h9, hB, (hC.2.1 c hc).2.2.1, CK_p hk hr9 hc16, c_ofMillion, c_partsIfRead h0' hk hr hc, h6, hg2, Option.some.injEq, Prod.mk.injEq, Value.int.injEq, exists_and_left, exists_eq_left', and_assoc, true_and, and_true, true_implies, false_implies, not_true_eq_false, not_false_eq_true, li_0, li_1, li_2, li_3, li_4, li_5, li_8, li_9, li_10, li_16, li_20, li_80, li_100, li_130, li_144, li_390, li_400, li_M, li_H, li_of, nI_add, pk_mul, cl_, vp_iff, nI_leI, nI_ltI, nI_eq, Nat.add_zero, Nat.zero_add, Nat.reduceEqDiff, Nat.reduceAdd, eq_self, reduceIte, Bool.false_eq_true, li_neg]
      (repeat' apply And.intro) <;> first | omega | rfl | assumption
    · simp [sI_at]
    · simp [sI_at]
    · simp [sI_at]
    · simp only [List.mem_cons, List.not_mem_nil, or_false, not_or] at hf
      simp [sI_at, hf.1, hf.2]
  · have e : xt_ B k r c s = s := if_neg (fun z => hg z.2.2)
    have hg2 := Int32.not_lt.mp hg
    unfold xg_ at hg2
    rw [e]
    refine ⟨σ, z_X5_offerExtra (e_X5_offerExtra_0 hm ?_), ⟨h6, h7, h8⟩, h0', hk, fr_rf _ _, fun _ _ => rfl⟩
    simp (disch := first | assumption | omega) only [mul16, h9, hB, (hC.2.1 c hc).2.2.1, CK_p hk hr9 hc16, c_ofMillion, c_partsIfRead h0' hk hr hc, h6, hg2, Option.some.injEq, Prod.mk.injEq, Value.int.injEq, exists_and_left, exists_eq_left', and_assoc, true_and, and_true, true_implies, false_implies, not_true_eq_false, not_false_eq_true, li_0, li_1, li_2, li_3, li_4, li_5, li_8, li_9, li_10, li_16, li_20, li_80, li_100, li_130, li_144, li_390, li_400, li_M, li_H, li_of, nI_add, pk_mul, cl_, vp_iff, nI_leI, nI_ltI, nI_eq, Nat.add_zero, Nat.zero_add, Nat.reduceEqDiff, Nat.reduceAdd, eq_self, reduceIte, Bool.false_eq_true, li_neg]
    (repeat' apply And.intro) <;> first | omega | rfl | assumption
theorem c_findExtra (h : CX_ σ m b B) (hk : CK_ σ m B k) : ∃ σ', f_X5_findExtra KC [.ref m] σ = some (none, σ') ∧ (σ'.1 m 6 = (xr_ B k (B 0 1)).1 ∧ σ'.1 m 7 = (xr_ B k (B 0 1)).2.1 ∧ σ'.1 m 8 = (xr_ B k (B 0 1)).2.2) ∧ CX_ σ' m b B ∧ CK_ σ' m B k ∧ fr_ [m] σ σ' ∧ NF2_ [6, 7, 8] m σ σ' := by
  have h3 := BO_c h.2.2
  have hm := h.1.1
  have hB := h.1.2.1
  have in_ : ∀ r, r < B 0 1 → ∀ n c σ1, c + n = B 0 0 → CX_ σ1 m b B → CK_ σ1 m B k → (σ1.1 m 6 = (xc_ B k r (xr_ B k r) c).1 ∧ σ1.1 m 7 = (xc_ B k r (xr_ B k r) c).2.1 ∧ σ1.1 m 8 = (xc_ B k r (xr_ B k r) c).2.2) → ∃ σ2, (∀ out, Ev_ (P_X5_findExtra KC) 17 [some (.ref m), some (.int (nI (r + 1))), none] [] σ2 out → Ev_ (P_X5_findExtra KC) 30 [some (.ref m), some (.int (nI r)), some (.int (nI c))] [] σ1 out) ∧ (σ2.1 m 6 = (xr_ B k (r + 1)).1 ∧ σ2.1 m 7 = (xr_ B k (r + 1)).2.1 ∧ σ2.1 m 8 = (xr_ B k (r + 1)).2.2) ∧ CX_ σ2 m b B ∧ CK_ σ2 m B k ∧ fr_ [m] σ1 σ2 ∧ NF2_ [6, 7, 8] m σ1 σ2 := by
    intro r hr n
    induction n with
    | zero =>
      intro c σ1 hc hx hk1 hs
      obtain rfl : c = B 0 0 := by omega
      refine ⟨σ1, fun out hend => e_X5_findExtra_30 hm ?_, hs, hx, hk1, fr_rf _ _, fun _ _ => rfl⟩
      simp (disch := first | assumption | omega) only [hx.1.2.2, hB, hx.2.1.1.1, Nat.le_refl, Option.some.injEq, Prod.mk.injEq, Value.int.injEq, exists_and_left, exists_eq_left', and_assoc, true_and, and_true, true_implies, false_implies, not_true_eq_false, not_false_eq_true, li_0, li_1, li_2, li_3, li_4, li_5, li_8, li_9, li_10, li_16, li_20, li_80, li_100, li_130, li_144, li_390, li_400, li_M, li_H, li_of, nI_add, pk_mul, cl_, vp_iff, nI_leI, nI_ltI, nI_eq, Nat.add_zero, Nat.zero_add, Nat.reduceEqDiff, Nat.reduceAdd, eq_self, reduceIte, Bool.false_eq_true, li_neg]
      exact hend
    | succ n ih =>
      intro c σ1 hc hx hk1 hs
      have h1 : ¬ B 0 0 ≤ c := by omega
      have h2 : c < B 0 0 := by omega
      by_cases hh : hb_ (k.2.1 r) c
      · obtain ⟨σ2, q1, q2⟩ := ih (c + 1) σ1 (by omega) hx hk1 (by rw [xc_, show xt_ B k r c (xc_ B k r (xr_ B k r) c) = xc_ B k r (xr_ B k r) c from if_neg (fun z => z.1 hh)]; exact hs)
        refine ⟨σ2, fun out hend => e_X5_findExtra_30 hm ?_, q2⟩
        have q1' := q1 out hend
        simp (disch := first | assumption | omega) only [hx.1.2.2, hB, hx.2.1.1.1, h1, CK_r hk1 hr, hb_0, hh, Option.some.injEq, Prod.mk.injEq, Value.int.injEq, exists_and_left, exists_eq_left', and_assoc, true_and, and_true, true_implies, false_implies, not_true_eq_false, not_false_eq_true, li_0, li_1, li_2, li_3, li_4, li_5, li_8, li_9, li_10, li_16, li_20, li_80, li_100, li_130, li_144, li_390, li_400, li_M, li_H, li_of, nI_add, pk_mul, cl_, vp_iff, nI_leI, nI_ltI, nI_eq, Nat.add_zero, Nat.zero_add, Nat.reduceEqDiff, Nat.reduceAdd, eq_self, reduceIte, Bool.false_eq_true, li_neg]
        (repeat' apply And.intro) <;> first | omega | rfl | assumption | exact q1'
      · by_cases ht : k.1 r < nI (tR_ B r c)
        · obtain ⟨σ2, q1, q2⟩ := ih (c + 1) σ1 (by omega) hx hk1 (by rw [xc_, show xt_ B k r c (xc_ B k r (xr_ B k r) c) = xc_ B k r (xr_ B k r) c from if_neg (fun z => z.2.1 ht)]; exact hs)
          refine ⟨σ2, fun out hend => e_X5_findExtra_30 hm ?_, q2⟩
          have q1' := q1 out hend
          simp (disch := first | assumption | omega) only [hx.1.2.2, hB, hx.2.1.1.1, h1, CK_r hk1 hr, hb_0, hh, c_readTime hB hx.2.1 hx.2.2, hr, h2, CK_l hk1 hr, ht, Option.some.injEq, Prod.mk.injEq, Value.int.injEq, exists_and_left, exists_eq_left', and_assoc, true_and, and_true, true_implies, false_implies, not_true_eq_false, not_false_eq_true, li_0, li_1, li_2, li_3, li_4, li_5, li_8, li_9, li_10, li_16, li_20, li_80, li_100, li_130, li_144, li_390, li_400, li_M, li_H, li_of, nI_add, pk_mul, cl_, vp_iff, nI_leI, nI_ltI, nI_eq, Nat.add_zero, Nat.zero_add, Nat.reduceEqDiff, Nat.reduceAdd, eq_self, reduceIte, Bool.false_eq_true, li_neg]
          (repeat' apply And.intro) <;> first | omega | rfl | assumption | exact q1'
        · obtain ⟨σ3, g1, g2, g3, g4, g5, g6⟩ := c_offer hx hk1 hr h2 _ hs.1 hs.2.1 hs.2.2 hh ht
          obtain ⟨σ2, q1, q2, q3, q4, q5, q6⟩ := ih (c + 1) σ3 (by omega) g3 g4 g2
          refine ⟨σ2, fun out hend => e_X5_findExtra_30 hm ?_, q2, q3, q4, fr_tr g5 q5, NF2_tr g6 q6⟩
          have q1' := q1 out hend
          simp (disch := first | assumption | omega) only [hx.1.2.2, hB, hx.2.1.1.1, h1, CK_r hk1 hr, hb_0, hh, c_readTime hB hx.2.1 hx.2.2, hr, h2, CK_l hk1 hr, ht, g1, Option.some.injEq, Prod.mk.injEq, Value.int.injEq, exists_and_left, exists_eq_left', and_assoc, true_and, and_true, true_implies, false_implies, not_true_eq_false, not_false_eq_true, li_0, li_1, li_2, li_3, li_4, li_5, li_8, li_9, li_10, li_16, li_20, li_80, li_100, li_130, li_144, li_390, li_400, li_M, li_H, li_of, nI_add, pk_mul, cl_, vp_iff, nI_leI, nI_ltI, nI_eq, Nat.add_zero, Nat.zero_add, Nat.reduceEqDiff, Nat.reduceAdd, eq_self, reduceIte, Bool.false_eq_true, li_neg]
          (repeat' apply And.intro) <;> first | omega | rfl | assumption | exact q1'
  have loop : ∀ n r σ1, r + n = B 0 1 → CX_ σ1 m b B → CK_ σ1 m B k → (σ1.1 m 6 = (xr_ B k r).1 ∧ σ1.1 m 7 = (xr_ B k r).2.1 ∧ σ1.1 m 8 = (xr_ B k r).2.2) → ∃ σ', Ev_ (P_X5_findExtra KC) 17 [some (.ref m), some (.int (nI r)), none] [] σ1 (none, σ') ∧ (σ'.1 m 6 = (xr_ B k (B 0 1)).1 ∧ σ'.1 m 7 = (xr_ B k (B 0 1)).2.1 ∧ σ'.1 m 8 = (xr_ B k (B 0 1)).2.2) ∧ CX_ σ' m b B ∧ CK_ σ' m B k ∧ fr_ [m] σ1 σ' ∧ NF2_ [6, 7, 8] m σ1 σ' := by
    intro n
    induction n with
    | zero =>
      intro r σ1 hr hx hk1 hs
      obtain rfl : r = B 0 1 := by omega
      refine ⟨σ1, e_X5_findExtra_17 hm ?_, hs, hx, hk1, fr_rf _ _, fun _ _ => rfl⟩
      simp (disch := first | assumption | omega) only [hx.1.2.2, hB, hx.2.1.1.2.1, Nat.le_refl, Option.some.injEq, Prod.mk.injEq, Value.int.injEq, exists_and_left, exists_eq_left', and_assoc, true_and, and_true, true_implies, false_implies, not_true_eq_false, not_false_eq_true, li_0, li_1, li_2, li_3, li_4, li_5, li_8, li_9, li_10, li_16, li_20, li_80, li_100, li_130, li_144, li_390, li_400, li_M, li_H, li_of, nI_add, pk_mul, cl_, vp_iff, nI_leI, nI_ltI, nI_eq, Nat.add_zero, Nat.zero_add, Nat.reduceEqDiff, Nat.reduceAdd, eq_self, reduceIte, Bool.false_eq_true, li_neg]
    | succ n ih =>
      intro r σ1 hr hx hk1 hs
      have h1 : ¬ B 0 1 ≤ r := by omega
      obtain ⟨σ2, g1, g2, g3, g4, g5, g6⟩ := in_ r (by omega) (B 0 0) 0 σ1 (by omega) hx hk1 hs
      obtain ⟨σ', q1, q2, q3, q4, q5, q6⟩ := ih (r + 1) σ2 (by omega) g3 g4 g2
      refine ⟨σ', e_X5_findExtra_17 hm ?_, q2, q3, q4, fr_tr g5 q5, NF2_tr g6 q6⟩
      have g1' := g1 _ q1
      simp (disch := first | assumption | omega) only [hx.1.2.2, hB, hx.2.1.1.2.1, h1, Option.some.injEq, Prod.mk.injEq, Value.int.injEq, exists_and_left, exists_eq_left', and_assoc, true_and, and_true, true_implies, false_implies, not_true_eq_false, not_false_eq_true, li_0, li_1, li_2, li_3, li_4, li_5, li_8, li_9, li_10, li_16, li_20, li_80, li_100, li_130, li_144, li_390, li_400, li_M, li_H, li_of, nI_add, pk_mul, cl_, vp_iff, nI_leI, nI_ltI, nI_eq, Nat.add_zero, Nat.zero_add, Nat.reduceEqDiff, Nat.reduceAdd, eq_self, reduceIte, Bool.false_eq_true, li_neg]
      exact g1'
  obtain ⟨σ', q1, q2, q3, q4, q5, q6⟩ := loop (B 0 1) 0 (sI_ (sI_ (sI_ σ m 6 nM_) m 7 nM_) m 8 nM_) (by omega) (CX_m (CX_m (CX_m h _ _) _ _) _ _) (CK_m (CK_m (CK_m hk _ _) _ _) _ _) ⟨by simp [sI_at, xr_], by simp [sI_at, xr_], by simp [sI_at, xr_]⟩
  refine ⟨σ', z_X5_findExtra (e_X5_findExtra_0 hm q1), q2, q3, q4, fr_tr (fr_sI (by simp)) (fr_tr (fr_sI (by simp)) (fr_tr (fr_sI (by simp)) q5)), NF2_tr (fun f hf => ?_) q6⟩
  simp only [List.mem_cons, List.not_mem_nil, or_false, not_or] at hf
  simp [sI_at, hf.1, hf.2]
/-- the reference's search; the state is as it was behind each trial -/
theorem m_extra (h : RX_ μ B) (hk : MK_ μ B k) (w : Nat) (hw : w < 3) : ∃ μ', Ev_ (P_X12_extra KC) 30 [some (.ref 219), some (.int (nI w)), some (.int nM_), some (.int nM_), some (.int nM_), some (.int (nI 0)), none, none, none, none] [] μ (some (.int (if w = 0 then (xr_ B k (B 0 1)).1 else if w = 1 then (xr_ B k (B 0 1)).2.1 else (xr_ B k (B 0 1)).2.2)), μ') ∧ RX_ μ' B ∧ KF_ μ μ' := by
  have h3 := BO_c h.2
  have in_ : ∀ r, r < B 0 1 → ∀ n c μ1, c + n = B 0 0 → RX_ μ1 B → MK_ μ1 B k → ∃ μ2, (∀ out, Ev_ (P_X12_extra KC) 30 [some (.ref 219), some (.int (nI w)), some (.int (xr_ B k (r + 1)).1), some (.int (xr_ B k (r + 1)).2.1), some (.int (xr_ B k (r + 1)).2.2), some (.int (nI (r + 1))), none, none, none, none] [] μ2 out → Ev_ (P_X12_extra KC) 42 [some (.ref 219), some (.int (nI w)), some (.int (xc_ B k r (xr_ B k r) c).1), some (.int (xc_ B k r (xr_ B k r) c).2.1), some (.int (xc_ B k r (xr_ B k r) c).2.2), some (.int (nI r)), some (.int (nI c)), none, none, none] [] μ1 out) ∧ RX_ μ2 B ∧ MK_ μ2 B k ∧ KF_ μ1 μ2 := by
    intro r hr n
    induction n with
    | zero =>
      intro c μ1 hc hx hk1
      obtain rfl : c = B 0 0 := by omega
      refine ⟨μ1, fun out hend => e_X12_extra_42 ?_, hx, hk1, KF_rf⟩
      simp (disch := first | assumption | omega) only [m_chaps hx, Nat.le_refl, Option.some.injEq, Prod.mk.injEq, Value.int.injEq, exists_and_left, exists_eq_left', and_assoc, true_and, and_true, true_implies, false_implies, not_true_eq_false, not_false_eq_true, li_0, li_1, li_2, li_3, li_4, li_5, li_8, li_9, li_10, li_16, li_20, li_80, li_100, li_130, li_144, li_390, li_400, li_M, li_H, li_of, nI_add, pk_mul, cl_, vp_iff, nI_leI, nI_ltI, nI_eq, Nat.add_zero, Nat.zero_add, Nat.reduceEqDiff, Nat.reduceAdd, eq_self, reduceIte, Bool.false_eq_true, li_neg]
      exact hend
    | succ n ih =>
      intro c μ1 hc hx hk1
      have h1 : ¬ B 0 0 ≤ c := by omega
      have h2 : c < B 0 0 := by omega
      have hr9 : r < 9 := by omega
      have hc16 : c < 16 := by omega
      by_cases hh : hb_ (k.2.1 r) c
      · obtain ⟨μ2, q1, q2⟩ := ih (c + 1) μ1 (by omega) hx hk1
        rw [xc_, show xt_ B k r c (xc_ B k r (xr_ B k r) c) = xc_ B k r (xr_ B k r) c from if_neg (fun z => z.1 hh)] at q1
        refine ⟨μ2, fun out hend => e_X12_extra_42 ?_, q2⟩
        have q1' := q1 out hend
        simp (disch := first | assumption | omega) only [m_chaps hx, h1, MK_r hk1 hr, m_hasK, hh, Option.some.injEq, Prod.mk.injEq, Value.int.injEq, exists_and_left, exists_eq_left', and_assoc, true_and, and_true, true_implies, false_implies, not_true_eq_false, not_false_eq_true, li_0, li_1, li_2, li_3, li_4, li_5, li_8, li_9, li_10, li_16, li_20, li_80, li_100, li_130, li_144, li_390, li_400, li_M, li_H, li_of, nI_add, pk_mul, cl_, vp_iff, nI_leI, nI_ltI, nI_eq, Nat.add_zero, Nat.zero_add, Nat.reduceEqDiff, Nat.reduceAdd, eq_self, reduceIte, Bool.false_eq_true, li_neg]
        (repeat' apply And.intro) <;> first | omega | rfl | assumption | exact q1'
      · by_cases ht : k.1 r < nI (tR_ B r c)
        · obtain ⟨μ2, q1, q2⟩ := ih (c + 1) μ1 (by omega) hx hk1
          rw [xc_, show xt_ B k r c (xc_ B k r (xr_ B k r) c) = xc_ B k r (xr_ B k r) c from if_neg (fun z => z.2.1 ht)] at q1
          refine ⟨μ2, fun out hend => e_X12_extra_42 ?_, q2⟩
          have q1' := q1 out hend
          have ht2 := Int32.not_le.mpr ht
          simp (disch := first | assumption | omega) only [m_chaps hx, h1, MK_r hk1 hr, m_hasK, hh, m_ttr hx, hr, h2, MK_l hk1 hr, ht2, Option.some.injEq, Prod.mk.injEq, Value.int.injEq, exists_and_left, exists_eq_left', and_assoc, true_and, and_true, true_implies, false_implies, not_true_eq_false, not_false_eq_true, li_0, li_1, li_2, li_3, li_4, li_5, li_8, li_9, li_10, li_16, li_20, li_80, li_100, li_130, li_144, li_390, li_400, li_M, li_H, li_of, nI_add, pk_mul, cl_, vp_iff, nI_leI, nI_ltI, nI_eq, Nat.add_zero, Nat.zero_add, Nat.reduceEqDiff, Nat.reduceAdd, eq_self, reduceIte, Bool.false_eq_true, li_neg]
          (repeat' apply And.intro) <;> first | omega | rfl | assumption | exact q1'
        · have ht2 := Int32.not_lt.mp ht
          obtain ⟨μa, g1, g2, g3⟩ := m_reads hx hk1 hr h2
          have hxa := RX_KF hx g3
          have hs1 := m_sum hx hk1 (m := B 0 1) (by omega)
          have hs2 := m_sum hxa g2 (m := B 0 1) (by omega)
          -- the state is given back
          have hkb := MK_1 (MK_2 (MK_4 g2 (16 * r + c) (k.2.2.2 (16 * r + c))) r ((rdK_ B k r c).2.1 r &&& ((nI 1 <<< (nI c &&& 31)) ^^^ nM_))) r ((rdK_ B k r c).1 r + nI (tR_ B r c))
          have hxb : RX_ (sI_ (sI_ μa 229 (16 * r + c) (k.2.2.2 (16 * r + c))) 231 r ((rdK_ B k r c).2.1 r &&& ((nI 1 <<< (nI c &&& 31)) ^^^ nM_))) B := RX_sI (RX_sI hxa (by decide)) (by decide)
          have hxc : RX_ (sI_ (sI_ (sI_ μa 229 (16 * r + c) (k.2.2.2 (16 * r + c))) 231 r ((rdK_ B k r c).2.1 r &&& ((nI 1 <<< (nI c &&& 31)) ^^^ nM_))) 230 r ((rdK_ B k r c).1 r + nI (tR_ B r c))) B := RX_sI hxb (by decide)
          have ek : (ud_ (rdK_ B k r c).1 r ((rdK_ B k r c).1 r + nI (tR_ B r c)), ud_ (rdK_ B k r c).2.1 r ((rdK_ B k r c).2.1 r &&& ((nI 1 <<< (nI c &&& 31)) ^^^ nM_)), (rdK_ B k r c).2.2.1, ud_ (rdK_ B k r c).2.2.2 (16 * r + c) (k.2.2.2 (16 * r + c))) = k := by
            have uu : ∀ (f : Nat → Int32) (i : Nat) (x y : Int32), y = f i → ud_ (ud_ f i x) i y = f := by
              intro f i x y hy
              funext j
              by_cases e : j = i
              · rw [e, ud_eq, hy]
              · rw [ud_ne _ _ e, ud_ne _ _ e]
            unfold rdK_
            refine Prod.ext (uu _ _ _ _ ?_) (Prod.ext (uu _ _ _ _ ?_) (Prod.ext rfl (uu _ _ _ _ rfl)))
            · dsimp only
              rw [ud_eq]
              exact Int32.sub_add_cancel _ _
            · dsimp only
              rw [ud_eq]
              exact ob_and (by omega) hh
          have ekk := hkb
          rw [show ((ud_ (rdK_ B k r c).1 r ((rdK_ B k r c).1 r + nI (tR_ B r c)), ud_ (rdK_ B k r c).2.1 r ((rdK_ B k r c).2.1 r &&& ((nI 1 <<< (nI c &&& 31)) ^^^ nM_)), (rdK_ B k r c).2.2.1, ud_ (rdK_ B k r c).2.2.2 (16 * r + c) (k.2.2.2 (16 * r + c))) : K_) = k from ek] at ekk
          obtain ⟨μ2, q1, q2, q3, q4⟩ := ih (c + 1) _ (by omega) hxc ekk
          have e4 : ∀ i x, (sI_ μa 229 i x).1 231 = μa.1 231 := fun i x => sI_row _ _ _ _ (by decide)
          have e5 : ∀ i j x y, (sI_ (sI_ μa 229 i x) 231 j y).1 230 = μa.1 230 := fun i j x y => (sI_row _ _ _ _ (by decide)).trans (sI_row _ _ _ _ (by decide))
          have hgn := sm_rd (k := k) h2 h3.1 hr
          refine ⟨μ2, fun out hend => e_X12_extra_42 ?_, q2, q3, KF_tr g3 (KF_tr (KF_sI (by omega)) (KF_tr (KF_sI (by omega)) (KF_tr (KF_sI (by omega)) q4)))⟩
          have q1' := q1 out hend
          by_cases hg : (xc_ B k r (xr_ B k r) c).1 < xg_ B k r c
          · rw [xc_, show xt_ B k r c (xc_ B k r (xr_ B k r) c) = (xg_ B k r c, nI r, nI c) from if_pos ⟨hh, ht, hg⟩] at q1'
            simp (disch := first | assumption | omega) only [m_chaps hx, m_readers hx, m_readers hxa, h1, MK_r hk1 hr, m_hasK, hh, m_ttr hx, m_ttr hxb, hr, h2, MK_l hk1 hr, ht2, hs1, g1, hs2, MK_p hk1 hr9 hc16, e4, MK_r g2 hr, e5, MK_l g2 hr, hgn, hg, Option.some.injEq, Prod.mk.injEq, Value.int.injEq, exists_and_left, exists_eq_left', and_assoc, true_and, and_true, true_implies, false_implies, not_true_eq_false, not_false_eq_true, li_0, li_1, li_2, li_3, li_4, li_5, li_8, li_9, li_10, li_16, li_20, li_80, li_100, li_130, li_144, li_390, li_400, li_M, li_H, li_of, nI_add, pk_mul, cl_, vp_iff, nI_leI, nI_ltI, nI_eq, Nat.add_zero, Nat.zero_add, Nat.reduceEqDiff, Nat.reduceAdd, eq_self, reduceIte, Bool.false_eq_true, li_neg]
            (repeat' apply And.intro) <;> first | omega | rfl | assumption | exact q1'
          · rw [xc_, show xt_ B k r c (xc_ B k r (xr_ B k r) c) = xc_ B k r (xr_ B k r) c from if_neg (fun z => hg z.2.2)] at q1'
            simp (disch := first | assumption | omega) only [m_chaps hx, m_readers hx, m_readers hxa, h1, MK_r hk1 hr, m_hasK, hh, m_ttr hx, m_ttr hxb, hr, h2, MK_l hk1 hr, ht2, hs1, g1, hs2, MK_p hk1 hr9 hc16, e4, MK_r g2 hr, e5, MK_l g2 hr, hgn, hg, Option.some.injEq, Prod.mk.injEq, Value.int.injEq, exists_and_left, exists_eq_left', and_assoc, true_and, and_true, true_implies, false_implies, not_true_eq_false, not_false_eq_true, li_0, li_1, li_2, li_3, li_4, li_5, li_8, li_9, li_10, li_16, li_20, li_80, li_100, li_130, li_144, li_390, li_400, li_M, li_H, li_of, nI_add, pk_mul, cl_, vp_iff, nI_leI, nI_ltI, nI_eq, Nat.add_zero, Nat.zero_add, Nat.reduceEqDiff, Nat.reduceAdd, eq_self, reduceIte, Bool.false_eq_true, li_neg]
            (repeat' apply And.intro) <;> first | omega | rfl | assumption | exact q1'
  have loop : ∀ n r μ1, r + n = B 0 1 → RX_ μ1 B → MK_ μ1 B k → ∃ μ', Ev_ (P_X12_extra KC) 30 [some (.ref 219), some (.int (nI w)), some (.int (xr_ B k r).1), some (.int (xr_ B k r).2.1), some (.int (xr_ B k r).2.2), some (.int (nI r)), none, none, none, none] [] μ1 (some (.int (if w = 0 then (xr_ B k (B 0 1)).1 else if w = 1 then (xr_ B k (B 0 1)).2.1 else (xr_ B k (B 0 1)).2.2)), μ') ∧ RX_ μ' B ∧ KF_ μ1 μ' := by
    intro n
    induction n with
    | zero =>
      intro r μ1 hr hx hk1
      obtain rfl : r = B 0 1 := by omega
      refine ⟨μ1, e_X12_extra_30 ?_, hx, KF_rf⟩
      rcases (show w = 0 ∨ w = 1 ∨ w = 2 by omega) with rfl | rfl | rfl
      · simp (disch := first | assumption | omega) only [m_readers hx, Nat.le_refl, Option.some.injEq, Prod.mk.injEq, Value.int.injEq, exists_and_left, exists_eq_left', and_assoc, true_and, and_true, true_implies, false_implies, not_true_eq_false, not_false_eq_true, li_0, li_1, li_2, li_3, li_4, li_5, li_8, li_9, li_10, li_16, li_20, li_80, li_100, li_130, li_144, li_390, li_400, li_M, li_H, li_of, nI_add, pk_mul, cl_, vp_iff, nI_leI, nI_ltI, nI_eq, Nat.add_zero, Nat.zero_add, Nat.reduceEqDiff, Nat.reduceAdd, eq_self, reduceIte, Bool.false_eq_true, li_neg]
      · simp (disch := first | assumption | omega) only [m_readers hx, Nat.le_refl, Option.some.injEq, Prod.mk.injEq, Value.int.injEq, exists_and_left, exists_eq_left', and_assoc, true_and, and_true, true_implies, false_implies, not_true_eq_false, not_false_eq_true, li_0, li_1, li_2, li_3, li_4, li_5, li_8, li_9, li_10, li_16, li_20, li_80, li_100, li_130, li_144, li_390, li_400, li_M, li_H, li_of, nI_add, pk_mul, cl_, vp_iff, nI_leI, nI_ltI, nI_eq, Nat.add_zero, Nat.zero_add, Nat.reduceEqDiff, Nat.reduceAdd, eq_self, reduceIte, Bool.false_eq_true, li_neg]
      · simp (disch := first | assumption | omega) only [m_readers hx, Nat.le_refl, Option.some.injEq, Prod.mk.injEq, Value.int.injEq, exists_and_left, exists_eq_left', and_assoc, true_and, and_true, true_implies, false_implies, not_true_eq_false, not_false_eq_true, li_0, li_1, li_2, li_3, li_4, li_5, li_8, li_9, li_10, li_16, li_20, li_80, li_100, li_130, li_144, li_390, li_400, li_M, li_H, li_of, nI_add, pk_mul, cl_, vp_iff, nI_leI, nI_ltI, nI_eq, Nat.add_zero, Nat.zero_add, Nat.reduceEqDiff, Nat.reduceAdd, eq_self, reduceIte, Bool.false_eq_true, li_neg]
    | succ n ih =>
      intro r μ1 hr hx hk1
      have h1 : ¬ B 0 1 ≤ r := by omega
      obtain ⟨μ2, g1, g2, g3, g4⟩ := in_ r (by omega) (B 0 0) 0 μ1 (by omega) hx hk1
      obtain ⟨μ', q1, q2, q3⟩ := ih (r + 1) μ2 (by omega) g2 g3
      refine ⟨μ', e_X12_extra_30 ?_, q2, KF_tr g4 q3⟩
      have g1' := g1 _ q1
      simp (disch := first | assumption | omega) only [m_readers hx, h1, Option.some.injEq, Prod.mk.injEq, Value.int.injEq, exists_and_left, exists_eq_left', and_assoc, true_and, and_true, true_implies, false_implies, not_true_eq_false, not_false_eq_true, li_0, li_1, li_2, li_3, li_4, li_5, li_8, li_9, li_10, li_16, li_20, li_80, li_100, li_130, li_144, li_390, li_400, li_M, li_H, li_of, nI_add, pk_mul, cl_, vp_iff, nI_leI, nI_ltI, nI_eq, Nat.add_zero, Nat.zero_add, Nat.reduceEqDiff, Nat.reduceAdd, eq_self, reduceIte, Bool.false_eq_true, li_neg]
      exact g1'
  exact loop (B 0 1) 0 μ (by omega) h hk
end EX
