/-! the calls that may throw, on both sides -/
theorem lay_put (μ : St_) : sI_ (lay_ μ) 219 0 (0 : Int32) = ly_ μ := by
  refine Prod.ext (funext fun o => funext fun i => ?_) ?_
  · have e : (sI_ μ 219 0 (nI 0)).1 219 21 = μ.1 219 21 := by rw [sI_at, if_neg (by omega)]
    unfold ly_ lay_
    rw [e]
    by_cases h : μ.1 219 21 = 0
    · rw [if_pos h, if_pos h]
      simp only [sI_at]
      by_cases h1 : o = 219 ∧ i = 0
      · obtain ⟨rfl, rfl⟩ := h1
        simp
        rfl
      · simp [h1]
    · rw [if_neg h, if_neg h]
      rfl
  · unfold ly_ lay_
    show (if _ then _ else _ : St_).2 = (if _ then _ else _ : St_).2
    have e : (sI_ μ 219 0 (nI 0)).1 219 21 = μ.1 219 21 := by rw [sI_at, if_neg (by omega)]
    rw [e]
    split <;> rfl
theorem lay_RX {μ : St_} {B : Nat → Nat → Nat} (h : RX_ (ly_ μ) B) : RX_ (lay_ μ) B := by
  have e := lay_put μ
  exact RX_fr (S := [219]) (μ := ly_ μ) h ⟨fun o ho => by rw [← e, sI_row _ _ _ _ (by simpa using ho)], by rw [← e]; rfl⟩ (by decide)
theorem lay_ACT {μ : St_} {P : Nat → Nat → Nat} {a : Nat} (h : PM_ (ly_ μ) P a) : PM_ (lay_ μ) P a := by
  have e := lay_put μ
  have r : (lay_ μ).1 221 = (ly_ μ).1 221 := by rw [← e, sI_row _ _ _ _ (by decide)]
  exact ⟨by rw [r]; exact h.1, fun i hi => by rw [r]; exact h.2 i hi⟩
theorem m_refuse (μ : St_) : f_X12_refuse KC [.ref 219] μ = some (some (.int 0), sI_ μ 219 0 1) := z_X12_refuse (e_X12_refuse_0 rfl)
theorem three_or (x : Int32) (n : Nat) (hn : n < 2 ^ 31) : (∃ w, x = nI w ∧ w ≤ n) ∨ x < 0 ∨ (¬ x < 0 ∧ ¬ x ≤ nI n) := by
  rcases in_or x (a := 0) (b := n) (by omega) hn with ⟨w, h1, -, h2⟩ | h | h
  · exact Or.inl ⟨w, h1, h2⟩
  · exact Or.inr (Or.inl h)
  · by_cases h0 : x < 0
    · exact Or.inr (Or.inl h0)
    · exact Or.inr (Or.inr ⟨h0, Int32.not_le.mpr h⟩)
section TH
variable {σ μ : St_} {b p a : Nat} {B P : Nat → Nat → Nat}
def mn_ (B : Nat → Nat → Nat) (c n : Nat) : Nat := fb_ct (fun d => decide (0 < B (16 + c) d)) n
theorem c_many (hB : isB b) (hC : CB_ σ b B) (hO : BO_ B) {c : Nat} (hc : c < B 0 0) : f_X0_leansOnHowMany KC [.ref b, .int (nI c)] σ = some (some (.int (nI (mn_ B c c))), σ) := by
  have hb := BO_c hO
  have loop : ∀ n d, d + n = c → Ev_ (P_X0_leansOnHowMany KC) 4 [some (.ref b), some (.int (nI c)), some (.int (nI (mn_ B c d))), some (.int (nI d))] [] σ (some (.int (nI (mn_ B c c))), σ) := by
    intro n
    induction n with
    | zero =>
      intro d hd
      obtain rfl : d = c := by omega
      exact e_X0_leansOnHowMany_4 hB (pk_le d d (fun _ => rfl) (fun z => by omega))
    | succ n ih =>
      intro d hd
      have ih1 := ih (d + 1) (by omega)
      have hl : mn_ B c d ≤ d := fb_ct_le _ _
      have hb10 := BO_ln hO hc (show d < 16 by omega)
      refine e_X0_leansOnHowMany_4 hB (pk_le c d (fun z => by omega) (fun _ => ⟨vpin_n (by omega), vpin_n (by omega), ?_⟩))
      rw [cl_ (by omega), cl_ (by omega), (hC.2.1 c hc).2.2.2.2 d (by omega)]
      unfold mn_ at ih1
      rw [fb_ct_succ] at ih1
      refine pk_le (B (16 + c) d) 0 (fun z => ?_) (fun z => ?_)
      · rw [if_neg (by simp; omega), Nat.add_zero] at ih1
        rw [nI_1]
        exact ih1
      · rw [if_pos (by simp; omega)] at ih1
        rw [nI_1, nI_1]
        exact ih1
  exact z_X0_leansOnHowMany (e_X0_leansOnHowMany_0 hB (loop c 0 (by omega)))
/-- where the class's chap throws -/
def ThC_ (σ : St_) (x1 x2 : Int32) : Prop := ∃ b v, (isB b ∧ σ.2.2 0 12 = some b ∧ f_X0_hasChap KC [.ref b, .int x1] σ = some (some (.int v), σ)) ∧ (v = 0 ∨ (¬ v = 0 ∧ (x2 < 0 ∨ (¬ x2 < 0 ∧ ¬ x2 ≤ 3))))
def ThR_ (σ : St_) (x1 x2 : Int32) : Prop := ∃ b v, (isB b ∧ σ.2.2 0 12 = some b ∧ f_X0_hasReader KC [.ref b, .int x1] σ = some (some (.int v), σ)) ∧ (v = 0 ∨ (¬ v = 0 ∧ (x2 < 0 ∨ (¬ x2 < 0 ∧ ¬ x2 ≤ 4))))
def ThA_ (σ : St_) (x1 x2 : Int32) : Prop := x1 < 0 ∨ (¬ x1 < 0 ∧ ∃ p, (isP p ∧ σ.2.2 0 14 = some p) ∧ (σ.1 p 4 ≤ x1 ∨ (¬ σ.1 p 4 ≤ x1 ∧ (x2 < 0 ∨ (¬ x2 < 0 ∧ ¬ x2 ≤ 3)))))
theorem chap_both (h : NOW_ σ (ly_ μ) b p B P a) (x1 x2 : Int32) : (∃ v, f_X11_chap KC [.ref 0, .int x1, .int x2] σ = some (some (.int v), σ) ∧ f_X12_chap KC [.ref 219, .int x1, .int x2] μ = some (some (.int v), ly_ μ)) ∨ (ThC_ σ x1 x2 ∧ f_X12_chap KC [.ref 219, .int x1, .int x2] μ = some (some (.int 0), sI_ (lay_ μ) 219 0 1)) := by
  obtain ⟨⟨hB, hP, h12, h14⟩, ⟨hC, hp, hr⟩, hx, hpm, ho⟩ := h
  have hO := hx.2
  have hb := BO_c hO
  have hx0 := lay_RX hx
  have hl := m_lay0 μ
  have hrf := m_refuse (lay_ μ)
  rcases id_or x1 (n := B 0 0) (by omega) with ⟨c, rfl, hc⟩ | h1
  · have c1 := c_hasChapYes hB hC hO hc
    have m1 := m_isChapYes hx0 hc
    rcases three_or x2 3 (by omega) with ⟨w, rfl, hw⟩ | hn
    · left
      have i1 := m_isInYes (μ := lay_ μ) (a := 0) (b := 3) (by omega) (show 0 ≤ w ∧ w ≤ 3 from ⟨Nat.zero_le _, hw⟩)
      have vc : vpin_ (nI c) 16 = true := vpin_n (by omega)
      have cc : Int32.toNatClampNeg (nI c) = c := cl_ (by omega)
      obtain ⟨q0, q1, q2, q3, -⟩ := hC.2.1 c hc
      have no : ∀ y : Nat, y < 64 → w ≠ y → ¬ nI w = nI y := fun y hy hne z => hne ((nI_eq (by omega) (by omega)).mp z)
      have hw0 : ¬ nI w < 0 := nI_pos (by omega)
      have hw3 : nI w ≤ (3 : Int32) := (nI_leI (by omega) (show 3 < 2 ^ 31 by omega)).mpr hw
      have front : ∀ (out : Out_), _ → f_X11_chap KC [.ref 0, .int (nI c), .int (nI w)] σ = some out := fun out q => z_X11_chap (e_X11_chap_0 ⟨b, h12, hB, _, σ, c1, br_f (by decide) (br_f hw0 (br_t hw3 q))⟩)
      have back : ∀ (out : Out_), _ → f_X12_chap KC [.ref 219, .int (nI c), .int (nI w)] μ = some out := fun out q => z_X12_chap (e_X12_chap_0 ⟨lay_ μ, hl, _, lay_ μ, m1, br_f (by decide) ⟨_, lay_ μ, i1, br_f (by decide) q⟩⟩)
      rw [lay_put] at back
      by_cases e3 : w = 3
      · subst e3
        refine ⟨nI (mn_ B c c), front _ ⟨fun _ => ⟨b, h12, hB, _, σ, c_many hB hC hO hc, rfl⟩, fun z => absurd z (by decide), fun z => absurd z (by decide), fun z => absurd z (by decide)⟩, back _ (br_t (by decide) ?_)⟩
        have loop : ∀ n d, d + n = c → Ev_ (P_X12_chap KC) 48 [some (.ref 219), some (.int (nI c)), some (.int (nI 3)), some (.int (nI (mn_ B c d))), some (.int (nI d))] [] (ly_ μ) (some (.int (nI (mn_ B c c))), ly_ μ) := by
          intro n
          induction n with
          | zero =>
            intro d hd
            obtain rfl : d = c := by omega
            exact e_X12_chap_48 (pk_le d d (fun _ => rfl) (fun z => by omega))
          | succ n ih =>
            intro d hd
            have ih1 := ih (d + 1) (by omega)
            have hl : mn_ B c d ≤ d := fb_ct_le _ _
            have hb10 := BO_ln hO hc (show d < 16 by omega)
            refine e_X12_chap_48 (pk_le c d (fun z => by omega) (fun _ => ⟨_, ly_ μ, m_leanOf hx hc (by omega), ?_⟩))
            unfold mn_ at ih1
            rw [fb_ct_succ] at ih1
            refine pk_le (B (16 + c) d) 0 (fun z => ?_) (fun z => ?_)
            · rw [if_neg (by simp; omega), Nat.add_zero] at ih1
              rw [nI_1]
              exact ih1
            · rw [if_pos (by simp; omega)] at ih1
              rw [nI_1, nI_1]
              exact ih1
        exact loop c 0 (by omega)
      · have hw3' : ¬ (3 : Int32) ≤ nI w := fun z => e3 (by have := (nI_leI (show 3 < 2 ^ 31 by omega) (show w < 2 ^ 31 by omega)).mp z; omega)
        have hbk : f_X12_chap KC [.ref 219, .int (nI c), .int (nI w)] μ = some (some (.int (nI (B (1 + w) c))), ly_ μ) := back _ (br_f hw3' ⟨_, ly_ μ, m_chapOf hx hc (by omega), rfl⟩)
        refine ⟨nI (B (1 + w) c), front _ ?_, hbk⟩
        rw [cc]
        refine ⟨fun z => ?_, fun z => ⟨b, h12, hB, vc, ?_⟩, fun z => ⟨b, h12, hB, vc, ?_⟩, fun z => ⟨b, h12, hB, vc, ?_⟩⟩
        · have := tog (a := 0) (b := 2) rfl (show w < 2 ^ 31 by omega) z
          omega
        · obtain rfl : w = 0 := Classical.byContradiction fun hh => no 0 (by omega) hh z
          rw [q1]
        · obtain rfl : w = 1 := Classical.byContradiction fun hh => no 1 (by omega) hh z
          rw [q2]
        · obtain rfl : w = 2 := Classical.byContradiction fun hh => no 2 (by omega) hh z
          rw [q3]
    · right
      refine ⟨⟨b, _, ⟨hB, h12, c1⟩, Or.inr ⟨by decide, hn⟩⟩, ?_⟩
      have i1 := m_isInNo (μ := lay_ μ) (x := x2) (a := 0) (b := 3) (hn.imp id (fun z => Int32.not_le.mp z.2))
      exact z_X12_chap (e_X12_chap_0 ⟨lay_ μ, hl, _, lay_ μ, m1, br_f (by decide) ⟨_, lay_ μ, i1, br_t rfl ⟨0, _, hrf, rfl⟩⟩⟩)
  · right
    have c1 := c_hasChapNo hB hC h1
    have m1 := m_isChapNo hx0 h1
    exact ⟨⟨b, _, ⟨hB, h12, c1⟩, Or.inl rfl⟩, z_X12_chap (e_X12_chap_0 ⟨lay_ μ, hl, _, lay_ μ, m1, br_t rfl ⟨0, _, hrf, rfl⟩⟩)⟩
theorem reader_both (h : NOW_ σ (ly_ μ) b p B P a) (x1 x2 : Int32) : (∃ v, f_X11_reader KC [.ref 0, .int x1, .int x2] σ = some (some (.int v), σ) ∧ f_X12_reader KC [.ref 219, .int x1, .int x2] μ = some (some (.int v), ly_ μ)) ∨ (ThR_ σ x1 x2 ∧ f_X12_reader KC [.ref 219, .int x1, .int x2] μ = some (some (.int 0), sI_ (lay_ μ) 219 0 1)) := by
  obtain ⟨⟨hB, hP, h12, h14⟩, ⟨hC, hp, hr⟩, hx, hpm, ho⟩ := h
  have hO := hx.2
  have hb := BO_c hO
  have hx0 := lay_RX hx
  have hl := m_lay0 μ
  have hrf := m_refuse (lay_ μ)
  rcases id_or x1 (n := B 0 1) (by omega) with ⟨r, rfl, hr1⟩ | h1
  · have c1 := c_hasReaderYes hB hC hO hr1
    have m1 := m_isReaderYes hx0 hr1
    rcases three_or x2 4 (by omega) with ⟨w, rfl, hw⟩ | hn
    · left
      have i1 := m_isInYes (μ := lay_ μ) (a := 0) (b := 4) (by omega) (show 0 ≤ w ∧ w ≤ 4 from ⟨Nat.zero_le _, hw⟩)
      have vc : vpin_ (nI r) 9 = true := vpin_n (by omega)
      have cc : Int32.toNatClampNeg (nI r) = r := cl_ (by omega)
      obtain ⟨q0, q1, q2, q3, q4, q5⟩ := hC.2.2 r hr1
      have no : ∀ y : Nat, y < 64 → w ≠ y → ¬ nI w = nI y := fun y hy hne z => hne ((nI_eq (by omega) (by omega)).mp z)
      have hw0 : ¬ nI w < 0 := nI_pos (by omega)
      have hw3 : nI w ≤ (4 : Int32) := (nI_leI (by omega) (show 4 < 2 ^ 31 by omega)).mpr hw
      refine ⟨nI (B (4 + w) r), z_X11_reader (e_X11_reader_0 ⟨b, h12, hB, _, σ, c1, br_f (by decide) (br_f hw0 (br_t hw3 ?_))⟩), z_X12_reader (e_X12_reader_0 ⟨lay_ μ, hl, _, lay_ μ, m1, br_f (by decide) ⟨_, lay_ μ, i1, br_f (by decide) ⟨_, ly_ μ, by rw [lay_put]; exact m_readerOf hx hr1 (by omega), rfl⟩⟩⟩)⟩
      rw [cc]
      refine ⟨fun z => ⟨b, h12, hB, vc, ?_⟩, fun z => ⟨b, h12, hB, vc, ?_⟩, fun z => ⟨b, h12, hB, vc, ?_⟩, fun z => ⟨b, h12, hB, vc, ?_⟩, fun z => ⟨b, h12, hB, vc, ?_⟩⟩
      · have := tog (a := 0) (b := 3) rfl (show w < 2 ^ 31 by omega) z
        obtain rfl : w = 4 := by omega
        rw [q5]
      · obtain rfl : w = 0 := Classical.byContradiction fun hh => no 0 (by omega) hh z
        rw [q1]
      · obtain rfl : w = 1 := Classical.byContradiction fun hh => no 1 (by omega) hh z
        rw [q2]
      · obtain rfl : w = 2 := Classical.byContradiction fun hh => no 2 (by omega) hh z
        rw [q3]
      · obtain rfl : w = 3 := Classical.byContradiction fun hh => no 3 (by omega) hh z
        rw [q4]
    · right
      refine ⟨⟨b, _, ⟨hB, h12, c1⟩, Or.inr ⟨by decide, hn⟩⟩, ?_⟩
      have i1 := m_isInNo (μ := lay_ μ) (x := x2) (a := 0) (b := 4) (hn.imp id (fun z => Int32.not_le.mp z.2))
      exact z_X12_reader (e_X12_reader_0 ⟨lay_ μ, hl, _, lay_ μ, m1, br_f (by decide) ⟨_, lay_ μ, i1, br_t rfl ⟨0, _, hrf, rfl⟩⟩⟩)
  · right
    have c1 := c_hasReaderNo hB hC h1
    have m1 := m_isReaderNo hx0 h1
    exact ⟨⟨b, _, ⟨hB, h12, c1⟩, Or.inl rfl⟩, z_X12_reader (e_X12_reader_0 ⟨lay_ μ, hl, _, lay_ μ, m1, br_t rfl ⟨0, _, hrf, rfl⟩⟩)⟩
theorem act_both' (h : NOW_ σ (ly_ μ) b p B P a) (x1 x2 : Int32) : (∃ v, f_X11_act KC [.ref 0, .int x1, .int x2] σ = some (some (.int v), σ) ∧ f_X12_act KC [.ref 219, .int x1, .int x2] μ = some (some (.int v), ly_ μ)) ∨ (ThA_ σ x1 x2 ∧ f_X12_act KC [.ref 219, .int x1, .int x2] μ = some (some (.int 0), sI_ (lay_ μ) 219 0 1)) := by
  obtain ⟨⟨hB, hP, h12, h14⟩, ⟨hC, hp, hr⟩, hx, hpm, ho⟩ := h
  have hl := m_lay0 μ
  have hrf := m_refuse (lay_ μ)
  have ha := ho.1
  have hpl := lay_ACT hpm
  have c390 : Int32.toNatClampNeg (390 : Int32) = 390 := rfl
  rcases id_or x1 (n := a) (by omega) with ⟨i, rfl, hi⟩ | h1
  · have hi0 : ¬ nI i < 0 := nI_pos (by omega)
    have ca : ¬ σ.1 p 4 ≤ nI i := fun z => by
      rw [hp.1] at z
      have := (nI_leI (by omega) (by omega)).mp z
      omega
    have ma : ¬ (lay_ μ).1 221 (Int32.toNatClampNeg (390 : Int32)) ≤ nI i := fun z => by
      rw [c390, hpl.1] at z
      have := (nI_leI (by omega) (by omega)).mp z
      omega
    rcases three_or x2 3 (by omega) with ⟨w, rfl, hw⟩ | hn
    · left
      have i1 := m_isInYes (μ := lay_ μ) (a := 0) (b := 3) (by omega) (show 0 ≤ w ∧ w ≤ 3 from ⟨Nat.zero_le _, hw⟩)
      have vc : vpin_ (nI i) 100 = true := vpin_n (by omega)
      have cc : Int32.toNatClampNeg (nI i) = i := cl_ (by omega)
      obtain ⟨q1, q2, q3, q4⟩ := hp.2 i hi
      obtain ⟨r1, r2, r3, r4⟩ := hpm.2 i hi
      have no : ∀ y : Nat, y < 64 → w ≠ y → ¬ nI w = nI y := fun y hy hne z => hne ((nI_eq (by omega) (by omega)).mp z)
      have hw0 : ¬ nI w < 0 := nI_pos (by omega)
      have hw3 : nI w ≤ (3 : Int32) := (nI_leI (by omega) (show 3 < 2 ^ 31 by omega)).mpr hw
      have ix : ((400 : Int32) + (4 : Int32) * nI i) + nI w = nI (400 + 4 * i + w) := by
        rw [show (4 : Int32) = nI 4 from rfl, pk_mul, show (400 : Int32) = nI 400 from rfl, nI_add, nI_add]
      have hv : (ly_ μ).1 221 (400 + 4 * i + w) = nI (P i w) := by
        rcases (show w = 0 ∨ w = 1 ∨ w = 2 ∨ w = 3 by omega) with rfl | rfl | rfl | rfl
        · exact r1
        · exact r2
        · exact r3
        · exact r4
      refine ⟨nI (P i w), z_X11_act (e_X11_act_0 (br_f hi0 ⟨p, h14, hP, br_f ca (br_f hw0 (br_t hw3 ?_))⟩)), z_X12_act (e_X12_act_0 ⟨lay_ μ, hl, br_f hi0 ⟨by decide, br_f ma ⟨_, lay_ μ, i1, br_f (by decide) ?_⟩⟩⟩)⟩
      · rw [cc]
        refine ⟨fun z => ⟨vc, ?_⟩, fun z => ⟨vc, ?_⟩, fun z => ⟨vc, ?_⟩, fun z => ⟨vc, ?_⟩⟩
        · have := tog (a := 0) (b := 2) rfl (show w < 2 ^ 31 by omega) z
          obtain rfl : w = 3 := by omega
          rw [q4]
        · obtain rfl : w = 0 := Classical.byContradiction fun hh => no 0 (by omega) hh z
          rw [q1]
        · obtain rfl : w = 1 := Classical.byContradiction fun hh => no 1 (by omega) hh z
          rw [q2]
        · obtain rfl : w = 2 := Classical.byContradiction fun hh => no 2 (by omega) hh z
          rw [q3]
      · rw [ix, cl_ (by omega), lay_put, hv]
        exact ⟨vpin_n (by omega), rfl⟩
    · right
      refine ⟨Or.inr ⟨hi0, p, ⟨hP, h14⟩, Or.inr ⟨ca, hn⟩⟩, ?_⟩
      have i1 := m_isInNo (μ := lay_ μ) (x := x2) (a := 0) (b := 3) (hn.imp id (fun z => Int32.not_le.mp z.2))
      exact z_X12_act (e_X12_act_0 ⟨lay_ μ, hl, br_f hi0 ⟨by decide, br_f ma ⟨_, lay_ μ, i1, br_t rfl ⟨0, _, hrf, rfl⟩⟩⟩⟩)
  · right
    by_cases h0 : x1 < 0
    · exact ⟨Or.inl h0, z_X12_act (e_X12_act_0 ⟨lay_ μ, hl, br_t h0 ⟨0, _, hrf, rfl⟩⟩)⟩
    · have h2 : nI a ≤ x1 := h1.resolve_left h0
      refine ⟨Or.inr ⟨h0, p, ⟨hP, h14⟩, Or.inl (by rw [hp.1]; exact h2)⟩, z_X12_act (e_X12_act_0 ⟨lay_ μ, hl, br_f h0 ⟨by decide, br_t ?_ ⟨0, _, hrf, rfl⟩⟩⟩)⟩
      rw [c390, hpl.1]
      exact h2
end TH
