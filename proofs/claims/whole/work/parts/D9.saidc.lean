/-! the call SAID, on both sides -/
section SD
variable {σ μ μ1 : St_} {s b p a : Nat} {B P Q V : Nat → Nat → Nat} {k : K_} {N r : Nat}
theorem tog {x : Int32} {a b : Int} {n : Nat} (h : x = nI n) (hn : n < 2 ^ 31) (h2 : x.toInt < a ∨ b < x.toInt) : (n : Int) < a ∨ b < (n : Int) := by
  rw [h, nI_toInt hn] at h2
  exact h2
/-- the class: a leaf -/
theorem c_isSo (hs : isS s) (hX : CX_ σ 80 b B) (hk : CK_ σ 80 B k) (hg : KG_ B k) (hp : PC_ σ s Q N) (hN : N ≤ 40) {j : Nat} (hj : j < N) (hv : QV_ B (Q j)) (hl : 18 ≤ Q j 0) (hr : r < B 0 1) : f_X9_isSo KC [.ref s, .ref 80, .int (nI r), .int (nI j)] σ = some (some (.int (nI (bt_ (tz_ B Q k r j)))), σ) := by
  have hb := BO_c hX.2.2
  obtain ⟨⟨v1, v2⟩, v3⟩ := hv
  obtain ⟨v4, v5⟩ := v3 hl
  obtain ⟨p0, p1, p2, p3⟩ := hp.2 j hj
  have hcj : Int32.toNatClampNeg (nI j) = j := cl_ (by omega)
  have hcr : Int32.toNatClampNeg (nI r) = r := cl_ (by omega)
  have no : ∀ y : Nat, y < 64 → Q j 0 ≠ y → ¬ σ.1 (s + 1) j = nI y := fun y hy hne z => hne ((nI_eq (by omega) (by omega)).mp (p0.symm.trans z))
  have vr : vpin_ (nI r) 9 = true := vpin_n (by omega)
  have vj : vpin_ (nI j) 40 = true := vpin_n (by omega)
  refine z_X9_isSo (e_X9_isSo_0 hs (Or.inl rfl) ⟨vj, ?_⟩)
  rw [hcj, hcr]
  unfold tz_
  have bit : ∀ (x : Int32) (c : Nat) (out : Out_), out = (some (.int (nI (bt_ (hb_ x c)))), σ) → (((x >>> (nI c &&& 31)) &&& (1 : Int32) = 0 → out = (some (.int (0 : Int32)), σ)) ∧ (¬ (x >>> (nI c &&& 31)) &&& (1 : Int32) = 0 → out = (some (.int (1 : Int32)), σ))) := by
    intro x c out ho
    have h0 : ((x >>> (nI c &&& 31)) &&& (1 : Int32) = 0) = ¬ hb_ x c := hb_0 x c
    rw [ho, h0, bt_nI]
    exact ⟨fun z => by rw [if_neg z], fun z => by rw [if_pos (Classical.not_not.mp z)]⟩
  refine ⟨fun z => ?_, fun z => ?_, fun z => ?_, fun z => ?_, fun z => ?_, fun z => ?_⟩
  · have := tog p0 (by omega) z
    have e23 : Q j 0 = 23 := by omega
    obtain ⟨m, hm1, hm2⟩ := hg r hr
    refine ⟨vr, nI (p16_ m), σ, ?_, _, σ, c_cmp hs (by omega) p2 p3 (v5 (by omega)).1, ?_⟩
    · rw [show σ.1 (80 + 2) r = nI m by rw [CK_r (m := 80) hk hr]; exact hm2]
      exact c_bits16 hm1 σ
    · have e : lf_ B (Q j 0) (Q j 1) (Q j 2) (Q j 3) k r = cp_ (nI (p16_ m)) (Q j 2) (Q j 3) := by
        unfold lf_
        rw [if_neg (by omega), if_neg (by omega), if_neg (by omega), if_neg (by omega), if_neg (by omega)]
        refine propext ⟨fun ⟨m', q1, q2, q3⟩ => ?_, fun q => ⟨m, hm1, hm2, q⟩⟩
        have : m' = m := (nI_eq (by omega) (by omega)).mp (q2.symm.trans hm2)
        rw [← this]
        exact q3
      rw [e]
      refine ⟨?_, rfl⟩
      rcases bt_01 (cp_ (nI (p16_ m)) (Q j 2) (Q j 3)) with ⟨_, z⟩ | ⟨_, z⟩ <;> rw [z]
      · exact Or.inr rfl
      · exact Or.inl rfl
  · have e18 : Q j 0 = 18 := Classical.byContradiction fun h => no 18 (by omega) h z
    refine ⟨vr, vj, ?_⟩
    rw [p1, CK_r (m := 80) hk hr]
    refine bit _ _ _ ?_
    unfold lf_
    rw [if_pos e18]
  · have e19 : Q j 0 = 19 := Classical.byContradiction fun h => no 19 (by omega) h z
    refine ⟨vr, vj, ?_⟩
    rw [p1, CK_t (m := 80) hk hr]
    refine bit _ _ _ ?_
    unfold lf_
    rw [if_neg (by omega), if_pos e19]
  · have e20 : Q j 0 = 20 := Classical.byContradiction fun h => no 20 (by omega) h z
    have hc := v4 (by omega)
    have ix : nI r * (16 : Int32) + nI (Q j 1) = nI (16 * r + Q j 1) := by
      rw [show (16 : Int32) = nI 16 from rfl, pk_mul, nI_add, Nat.mul_comm]
    refine ⟨vj, ?_⟩
    rw [p1, ix, cl_ (by omega)]
    refine ⟨vpin_n (by omega), _, σ, c_cmp hs (by omega) p2 p3 (v5 (by omega)).1, ?_⟩
    have e : lf_ B (Q j 0) (Q j 1) (Q j 2) (Q j 3) k r = cp_ (σ.1 (80 + 4) (16 * r + Q j 1) / (10000 : Int32)) (Q j 2) (Q j 3) := by
      unfold lf_
      rw [if_neg (by omega), if_neg (by omega), if_pos e20, CK_p (m := 80) hk (by omega) (by omega)]
      rfl
    rw [e]
    refine ⟨?_, rfl⟩
    rcases bt_01 (cp_ (σ.1 (80 + 4) (16 * r + Q j 1) / (10000 : Int32)) (Q j 2) (Q j 3)) with ⟨_, z⟩ | ⟨_, z⟩ <;> rw [z]
    · exact Or.inr rfl
    · exact Or.inl rfl
  · have e21 : Q j 0 = 21 := Classical.byContradiction fun h => no 21 (by omega) h z
    refine ⟨ia_ B k r, σ, c_inAll hX hk (by omega), _, σ, c_cmp hs (by omega) p2 p3 (v5 (by omega)).1, ?_⟩
    have e : lf_ B (Q j 0) (Q j 1) (Q j 2) (Q j 3) k r = cp_ (ia_ B k r) (Q j 2) (Q j 3) := by
      unfold lf_
      rw [if_neg (by omega), if_neg (by omega), if_neg (by omega), if_pos e21]
    rw [e]
    refine ⟨?_, rfl⟩
    rcases bt_01 (cp_ (ia_ B k r) (Q j 2) (Q j 3)) with ⟨_, z⟩ | ⟨_, z⟩ <;> rw [z]
    · exact Or.inr rfl
    · exact Or.inl rfl
  · have e22 : Q j 0 = 22 := Classical.byContradiction fun h => no 22 (by omega) h z
    refine ⟨vr, _, σ, c_cmp hs (by omega) p2 p3 (v5 (by omega)).1, ?_⟩
    have e : lf_ B (Q j 0) (Q j 1) (Q j 2) (Q j 3) k r = cp_ (σ.1 (80 + 1) r) (Q j 2) (Q j 3) := by
      unfold lf_
      rw [if_neg (by omega), if_neg (by omega), if_neg (by omega), if_neg (by omega), if_pos e22, CK_l (m := 80) hk hr]
    rw [e]
    refine ⟨?_, rfl⟩
    rcases bt_01 (cp_ (σ.1 (80 + 1) r) (Q j 2) (Q j 3)) with ⟨_, z⟩ | ⟨_, z⟩ <;> rw [z]
    · exact Or.inr rfl
    · exact Or.inl rfl
theorem c_holds (hs : isS s) (hX : CX_ σ 80 b B) (hk : CK_ σ 80 B k) (hg : KG_ B k) (hp : PC_ σ s Q N) (hN : N ≤ 40) (hv : ∀ j, j < N → QV_ B (Q j)) (hl : lc2_ Q N ≤ 20) {D : M_} (hE : ES_ B Q 0 N D) (hr : r < B 0 1) : f_X9_holds KC [.ref s, .ref 80, .int (nI r)] σ = some (some (.int (nI (bt_ (D k r)))), σ) := by
  have hb := BO_c hX.2.2
  have small : ∀ i, i ≤ N → rn_h B Q k r i 0 0 < 2 ^ 21 := by
    intro i hi
    have h1 := rn_lt B Q k r i 0 0 0 (fun j hj => by rw [Nat.zero_add]; exact (hv j (by omega)).1.1) (by decide)
    have h2 : fb_ct (fun j => decide (18 ≤ Q (0 + j) 0)) i ≤ 20 := by
      have e : (fun j => decide (18 ≤ Q (0 + j) 0)) = fun j => decide (18 ≤ Q j 0) := by
        funext j
        rw [Nat.zero_add]
      rw [e]
      exact Nat.le_trans (fb_ct_mono _ hi) hl
    exact Nat.lt_of_lt_of_le h1 (Nat.pow_le_pow_right (by decide) (by omega))
  have loop : ∀ n i, i + n = N → Ev_ (P_X9_holds KC) 5 [some (.ref s), some (.ref 80), some (.int (nI r)), some (.int (nI (rn_h B Q k r i 0 0))), some (.int (nI i)), none] [] σ (some (.int (nI (bt_ (D k r)))), σ) := by
    intro n
    induction n with
    | zero =>
      intro i hi
      obtain rfl : i = N := by omega
      refine e_X9_holds_5 hs (Or.inl rfl) (pk_le i i (fun _ => ?_) (fun z => by omega) hp.1)
      have e := hE k r 0
      rw [e]
      have e2 : nI (2 * 0 + bt_ (D k r)) &&& (1 : Int32) = nI (bt_ (D k r)) := by
        rw [show (1 : Int32) = nI 1 from rfl, fa_and, heap_one]
        rcases bt_01 (D k r) with ⟨_, z⟩ | ⟨_, z⟩ <;> rw [z]
      rw [e2]
      rcases bt_01 (D k r) with ⟨_, z⟩ | ⟨_, z⟩ <;> rw [z]
      · exact br_f (by decide) rfl
      · exact br_t rfl rfl
    | succ n ih =>
      intro i hi
      have ih1 := ih (i + 1) (by omega)
      have hvi := hv i (by omega)
      obtain ⟨⟨v1, v2⟩, -⟩ := id hvi
      obtain ⟨p0, -⟩ := hp.2 i (by omega)
      have hci : Int32.toNatClampNeg (nI i) = i := cl_ (by omega)
      have hsm := small i (by omega)
      have st : rn_h B Q k r (i + 1) 0 0 = sp_ (Q i 0) (tz_ B Q k r i) (rn_h B Q k r i 0 0) := by
        rw [rn_add, Nat.zero_add]
        rfl
      rw [st] at ih1
      have no : ∀ y : Nat, y < 64 → Q i 0 ≠ y → ¬ σ.1 (s + 1) i = nI y := fun y hy hne z => hne ((nI_eq (by omega) (by omega)).mp (p0.symm.trans z))
      refine e_X9_holds_5 hs (Or.inl rfl) (pk_le N i (fun z => by omega) (fun _ => ⟨vpin_n (by omega), ?_⟩) hp.1)
      rw [hci]
      refine ⟨fun z => ?_, fun z => ?_, fun z => ?_, fun z => ?_⟩
      · have := tog p0 (by omega) z
        have h18 : 18 ≤ Q i 0 := by omega
        have hi1 := c_isSo hs hX hk hg hp hN (show i < N by omega) hvi h18 hr
        refine ⟨_, σ, hi1, ?_⟩
        have hsp := sp_lf (tz_ B Q k r i) (rn_h B Q k r i 0 0) (by omega) h18
        rcases bt_01 (tz_ B Q k r i) with ⟨_, z⟩ | ⟨_, z⟩
        · rw [z] at hsp ⊢
          exact br_f (by decide) (by rw [show (1 : Int32) = nI 1 from rfl, nI_add]; rw [← hsp] at ih1; exact ih1)
        · rw [z] at hsp ⊢
          exact br_t rfl (by rw [nI_1]; rw [← hsp] at ih1; exact ih1)
      · have e15 : Q i 0 = 15 := Classical.byContradiction fun h => no 15 (by omega) h z
        rw [e15] at ih1
        rw [sp_15 (tz_ B Q k r i) _ (by omega), nI_1]
        exact ih1
      · have e16 : Q i 0 = 16 := Classical.byContradiction fun h => no 16 (by omega) h z
        rw [e16] at ih1
        rw [sp_16 (tz_ B Q k r i) _ (by omega), nI_1]
        exact ih1
      · have e17 : Q i 0 = 17 := Classical.byContradiction fun h => no 17 (by omega) h z
        rw [e17] at ih1
        rw [sp_17 (tz_ B Q k r i), nI_1]
        exact ih1
  exact z_X9_holds (e_X9_holds_0 hs (Or.inl rfl) (loop N 0 (by omega)))
/-- the reference: a node -/
theorem m_isSo (hx : RX_ μ B) (hk : MK_ μ B k) (hg : KG_ B k) (hN : N ≤ 40) (hV : ∀ j i, j < N → i < 4 → μ.1 221 (0 + 810 + 4 * j + i) = nI (V j i)) (hr : r < B 0 1) : ∀ f x D, EN_ B V f x D → x < N → ∀ d, f ≤ d → f_X12_isSo KC d [.ref 219, .int (nI x), .int (nI r)] μ = some (some (.int (nI (bt_ (D k r)))), μ) := by
  have hb := BO_c hx.2
  intro f
  induction f with
  | zero => intro x D h; exact absurd h (by intro z; exact z)
  | succ f ih =>
    intro x D h hxN d hd
    obtain ⟨d, rfl⟩ : ∃ d', d = d' + 1 := ⟨d - 1, by omega⟩
    have l810 : (810 : Int32) = nI 810 := rfl
    have hcr : Int32.toNatClampNeg (nI r) = r := cl_ (by omega)
    have vr : vpin_ (nI r) 9 = true := vpin_n (by omega)
    have e4 : (810 : Int32) + (4 : Int32) * nI x = nI (810 + 4 * x) := by rw [l810, show (4 : Int32) = nI 4 from rfl, pk_mul, nI_add]
    have i1 : nI (810 + 4 * x) + (1 : Int32) = nI (810 + 4 * x + 1) := nI_1 _
    have i2 : nI (810 + 4 * x) + (2 : Int32) = nI (810 + 4 * x + 2) := nI_add _ 2
    have i3 : nI (810 + 4 * x) + (3 : Int32) = nI (810 + 4 * x + 3) := nI_add _ 3
    have r0 : μ.1 221 (810 + 4 * x) = nI (V x 0) := by have := hV x 0 hxN (by omega); rwa [Nat.zero_add, Nat.add_zero] at this
    have r1 : μ.1 221 (810 + 4 * x + 1) = nI (V x 1) := by have := hV x 1 hxN (by omega); rwa [Nat.zero_add] at this
    have r2 : μ.1 221 (810 + 4 * x + 2) = nI (V x 2) := by have := hV x 2 hxN (by omega); rwa [Nat.zero_add] at this
    have r3 : μ.1 221 (810 + 4 * x + 3) = nI (V x 3) := by have := hV x 3 hxN (by omega); rwa [Nat.zero_add] at this
    have c0 : Int32.toNatClampNeg (nI (810 + 4 * x)) = 810 + 4 * x := cl_ (by omega)
    have c1 : Int32.toNatClampNeg (nI (810 + 4 * x + 1)) = 810 + 4 * x + 1 := cl_ (by omega)
    have c2 : Int32.toNatClampNeg (nI (810 + 4 * x + 2)) = 810 + 4 * x + 2 := cl_ (by omega)
    have c3 : Int32.toNatClampNeg (nI (810 + 4 * x + 3)) = 810 + 4 * x + 3 := cl_ (by omega)
    have v01 : ∀ q : Prop, nI (bt_ q) = 0 ∨ nI (bt_ q) = 1 := fun q => by
      rcases bt_01 q with ⟨_, z⟩ | ⟨_, z⟩ <;> rw [z]
      · exact Or.inr rfl
      · exact Or.inl rfl
    have no : ∀ (y : Nat), V x 0 < 64 → y < 64 → V x 0 ≠ y → ¬ nI (V x 0) = nI y := fun y h1 hy hne z => hne ((nI_eq (by omega) (by omega)).mp z)
    have rng : V x 0 < 64 → (nI (V x 0)).toInt < 1 ∨ 6 < (nI (V x 0)).toInt → ((V x 0 : Nat) : Int) < 1 ∨ 6 < ((V x 0 : Nat) : Int) := fun h1 h2 => tog (a := 1) (b := 6) rfl (by omega) h2
    refine z_X12_isSo (e_X12_isSo_0 ?_)
    rw [e4, i1, i2, i3, c0, c1, c2, r0, r1, r2]
    refine ⟨vpin_n (by omega), vpin_n (by omega), vpin_n (by omega), ?_⟩
    rcases h with ⟨h1, h2, D1, h3, h4⟩ | ⟨h1, ⟨h2, h2'⟩, D1, D2, h3, h3', h4⟩ | ⟨h1, ⟨h2, h2'⟩, D1, D2, h3, h3', h4⟩ | ⟨kd, c, sg, y, g1, ⟨g2, g3⟩, g4, g5, g6, g7, g8⟩
    · have q1 := ih _ _ h3 (by omega) d (by omega)
      have n2 := no 2 (by omega) (by omega) (by omega)
      have n3 := no 3 (by omega) (by omega) (by omega)
      have n4 := no 4 (by omega) (by omega) (by omega)
      have n5 := no 5 (by omega) (by omega) (by omega)
      have n6 := no 6 (by omega) (by omega) (by omega)
      refine ⟨fun z => by have := rng (by omega) z; omega, fun z => ⟨_, μ, q1, ?_⟩, fun z => absurd z n2, fun z => absurd z n3, fun z => absurd z n4, fun z => absurd z n5, fun z => absurd z n6⟩
      rw [h4]
      rcases bt_01 (D1 k r) with ⟨y1, y2⟩ | ⟨y1, y2⟩ <;> rw [y2]
      · exact br_f (by decide) (by rw [bt_f (fun z => z y1)]; rfl)
      · exact br_t rfl (by rw [bt_t y1]; rfl)
    · have q1 := ih _ _ h3 (by omega) d (by omega)
      have q2 := ih _ _ h3' (by omega) d (by omega)
      have n1 := no 1 (by omega) (by omega) (by omega)
      have n3 := no 3 (by omega) (by omega) (by omega)
      have n4 := no 4 (by omega) (by omega) (by omega)
      have n5 := no 5 (by omega) (by omega) (by omega)
      have n6 := no 6 (by omega) (by omega) (by omega)
      refine ⟨fun z => by have := rng (by omega) z; omega, fun z => absurd z n1, fun z => ⟨_, μ, q1, ?_⟩, fun z => absurd z n3, fun z => absurd z n4, fun z => absurd z n5, fun z => absurd z n6⟩
      rw [h4]
      rcases bt_01 (D1 k r) with ⟨y1, y2⟩ | ⟨y1, y2⟩ <;> rw [y2]
      · refine br_f (by decide) ⟨_, μ, q2, ?_⟩
        rcases bt_01 (D2 k r) with ⟨y3, y4⟩ | ⟨y3, y4⟩ <;> rw [y4]
        · exact br_f (by decide) (by rw [bt_t (And.intro y1 y3)]; rfl)
        · exact br_t rfl (by rw [bt_f (fun z => y3 z.2)]; rfl)
      · exact br_t rfl (by rw [bt_f (fun z => y1 z.1)]; rfl)
    · have q1 := ih _ _ h3 (by omega) d (by omega)
      have q2 := ih _ _ h3' (by omega) d (by omega)
      have n1 := no 1 (by omega) (by omega) (by omega)
      have n2 := no 2 (by omega) (by omega) (by omega)
      have n4 := no 4 (by omega) (by omega) (by omega)
      have n5 := no 5 (by omega) (by omega) (by omega)
      have n6 := no 6 (by omega) (by omega) (by omega)
      refine ⟨fun z => by have := rng (by omega) z; omega, fun z => absurd z n1, fun z => absurd z n2, fun z => ⟨_, μ, q1, ?_⟩, fun z => absurd z n4, fun z => absurd z n5, fun z => absurd z n6⟩
      rw [h4]
      rcases bt_01 (D1 k r) with ⟨y1, y2⟩ | ⟨y1, y2⟩ <;> rw [y2]
      · exact br_f (by decide) (by rw [bt_t (Or.inl y1)]; rfl)
      · refine br_t rfl ⟨_, μ, q2, ?_⟩
        rcases bt_01 (D2 k r) with ⟨y3, y4⟩ | ⟨y3, y4⟩ <;> rw [y4]
        · exact br_f (by decide) (by rw [bt_t (Or.inr y3)]; rfl)
        · exact br_t rfl (by rw [bt_f (fun z => z.elim y1 y3)]; rfl)
    · rw [g4]
      by_cases k18 : kd = 18
      · rw [if_pos k18] at g5
        rw [if_pos (by omega)] at g6
        have n1 := no 1 (by omega) (by omega) (by omega)
        have n2 := no 2 (by omega) (by omega) (by omega)
        have n3 := no 3 (by omega) (by omega) (by omega)
        have n5 := no 5 (by omega) (by omega) (by omega)
        have n6 := no 6 (by omega) (by omega) (by omega)
        refine ⟨fun z => by have := rng (by omega) z; omega, fun z => absurd z n1, fun z => absurd z n2, fun z => absurd z n3, fun z => ⟨vr, _, μ, m_hasK _ _ μ, ?_⟩, fun z => absurd z n5, fun z => absurd z n6⟩
        have e : lf_ B kd c sg y k r = hb_ (μ.1 231 (Int32.toNatClampNeg (nI r))) (V x 1) := by
          unfold lf_
          rw [if_pos k18, hcr, MK_r hk hr, g6]
        rw [e, bt_nI]
        refine ⟨?_, rfl⟩
        split
        · exact Or.inr rfl
        · exact Or.inl rfl
      · rw [if_neg k18] at g5
        by_cases k19 : kd = 19
        · rw [if_pos k19] at g5
          rw [if_pos (by omega)] at g6
          have n1 := no 1 (by omega) (by omega) (by omega)
          have n2 := no 2 (by omega) (by omega) (by omega)
          have n3 := no 3 (by omega) (by omega) (by omega)
          have n4 := no 4 (by omega) (by omega) (by omega)
          have n6 := no 6 (by omega) (by omega) (by omega)
          refine ⟨fun z => by have := rng (by omega) z; omega, fun z => absurd z n1, fun z => absurd z n2, fun z => absurd z n3, fun z => absurd z n4, fun z => ⟨vr, _, μ, m_hasK _ _ μ, ?_⟩, fun z => absurd z n6⟩
          have e : lf_ B kd c sg y k r = hb_ (μ.1 232 (Int32.toNatClampNeg (nI r))) (V x 1) := by
            unfold lf_
            rw [if_neg k18, if_pos k19, hcr, MK_t hk hr, g6]
          rw [e, bt_nI]
          refine ⟨?_, rfl⟩
          split
          · exact Or.inr rfl
          · exact Or.inl rfl
        · rw [if_neg k19] at g5
          obtain ⟨sg1, sg2⟩ := g3 (by omega)
          rw [if_neg (by omega)] at g7 g8
          by_cases k20 : kd = 20
          · rw [if_pos k20] at g5
            rw [if_pos (by omega)] at g6
            have hc := g2 (by omega)
            have n1 := no 1 (by omega) (by omega) (by omega)
            have n2 := no 2 (by omega) (by omega) (by omega)
            have n3 := no 3 (by omega) (by omega) (by omega)
            have n4 := no 4 (by omega) (by omega) (by omega)
            have n5 := no 5 (by omega) (by omega) (by omega)
            have ix : (16 : Int32) * nI r + nI (V x 1) = nI (16 * r + c) := by
              rw [show (16 : Int32) = nI 16 from rfl, pk_mul, g6, nI_add]
            refine ⟨fun z => by have := rng (by omega) z; omega, fun z => absurd z n1, fun z => absurd z n2, fun z => absurd z n3, fun z => absurd z n4, fun z => absurd z n5, fun z => ?_⟩
            rw [ix, cl_ (by omega), c3, r3, g7, g8]
            refine ⟨vpin_n (by omega), vpin_n (by omega), _, μ, m_cmp sg1 μ, v01 _, ?_⟩
            unfold lf_
            rw [if_neg k18, if_neg k19, if_pos k20, MK_p hk (by omega) (by omega)]
            rfl
          · rw [if_neg k20] at g5
            rw [if_neg (by omega)] at g6
            have n1 := no 1 (by omega) (by omega) (by omega)
            have n2 := no 2 (by omega) (by omega) (by omega)
            have n3 := no 3 (by omega) (by omega) (by omega)
            have n4 := no 4 (by omega) (by omega) (by omega)
            have n5 := no 5 (by omega) (by omega) (by omega)
            have n6 := no 6 (by omega) (by omega) (by omega)
            refine ⟨fun z => ?_, fun z => absurd z n1, fun z => absurd z n2, fun z => absurd z n3, fun z => absurd z n4, fun z => absurd z n5, fun z => absurd z n6⟩
            rw [g6]
            refine pk_eq (kd - 4) 17 (fun z => ?_) (fun z => pk_eq (kd - 4) 18 (fun z2 => ?_) (fun z2 => ?_))
            · refine ⟨_, μ, m_inAll hx hk (by omega), vpin_n (by omega), ?_⟩
              rw [c3, r3, g7, g8]
              refine ⟨_, μ, m_cmp sg1 μ, v01 _, ?_⟩
              unfold lf_
              rw [if_neg k18, if_neg k19, if_neg k20, if_pos (by omega)]
            · refine ⟨vr, vpin_n (by omega), ?_⟩
              rw [c3, r3, g7, g8, hcr, MK_l hk hr]
              refine ⟨_, μ, m_cmp sg1 μ, v01 _, ?_⟩
              unfold lf_
              rw [if_neg k18, if_neg k19, if_neg k20, if_neg (show ¬ kd = 21 by omega), if_pos (show kd = 22 by omega)]
            · obtain ⟨m, hm1, hm2⟩ := hg r hr
              refine ⟨vr, nI (p16_ m), μ, ?_, vpin_n (by omega), ?_⟩
              · rw [hcr, MK_r hk hr, hm2]
                exact m_bits16 hm1 μ
              · rw [c3, r3, g7, g8]
                refine ⟨_, μ, m_cmp sg1 μ, v01 _, ?_⟩
                have e : lf_ B kd c sg y k r = cp_ (nI (p16_ m)) sg y := by
                  unfold lf_
                  rw [if_neg k18, if_neg k19, if_neg k20, if_neg (by omega), if_neg (by omega)]
                  refine propext ⟨fun ⟨m', q1, q2, q3⟩ => ?_, fun q => ⟨m, hm1, hm2, q⟩⟩
                  have : m' = m := (nI_eq (by omega) (by omega)).mp (q2.symm.trans hm2)
                  rw [← this]
                  exact q3
                rw [e]
end SD
