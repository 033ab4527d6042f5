/-! BEST -/
theorem cpy_0 {f g : Nat → Int32} {m j : Nat} : va_cpy f g 0 0 m j = if j < m then f j else g j := by
  unfold va_cpy
  by_cases h : j < m
  · rw [if_pos ⟨Nat.zero_le _, by omega⟩, if_pos h]
    simp
  · rw [if_neg (fun z => h (by omega)), if_neg h]
theorem c_copyRow {σ : St_} {q0 n0 q1 n1 m : Nat} (hq0 : KC.1 q0 = (14, n0)) (hq1 : KC.1 q1 = (14, n1)) (h0 : m ≤ n0) (h1 : m ≤ n1) (hn0 : n0 < 2 ^ 20) (hn1 : n1 < 2 ^ 20) : ∃ σ', f_X0_copyRow KC [.ref q0, .ref q1, .int (nI m)] σ = some (none, σ') ∧ fr_ [q1] σ σ' ∧ (∀ i, i < m → σ'.1 q1 i = σ.1 q0 i) ∧ (∀ i, ¬ i < m → σ'.1 q1 i = σ.1 q1 i) := by
  by_cases hm : m ≤ 0
  · refine ⟨σ, z_X0_copyRow (e_X0_copyRow_0 hq0 hq1 ?_), fr_rf _ _, fun i hi => by omega, fun _ _ => rfl⟩
    simp (disch := first | assumption | omega) only [hm, Option.some.injEq, Prod.mk.injEq, Value.int.injEq, exists_and_left, exists_eq_left', and_assoc, true_and, and_true, true_implies, false_implies, not_true_eq_false, not_false_eq_true, li_0, li_1, li_2, li_3, li_4, li_5, li_8, li_9, li_10, li_16, li_20, li_80, li_100, li_130, li_144, li_390, li_400, li_M, li_H, li_of, nI_add, pk_mul, cl_, vp_iff, nI_leI, nI_ltI, nI_eq, Nat.add_zero, Nat.zero_add, Nat.reduceEqDiff, Nat.reduceAdd, eq_self, reduceIte, Bool.false_eq_true, li_neg]
  · have e0 : ¬ n0 < m := by omega
    have e1 : ¬ n1 < m := by omega
    have e2 : Int32.toNatClampNeg (0 : Int32) = 0 := by decide
    have e3 : Int32.toNatClampNeg (nI m) = m := cl_ (by omega)
    refine ⟨(fun q j => if q = q1 then va_cpy (σ.1 q0) (σ.1 q1) 0 0 m j else σ.1 q j, σ.2), z_X0_copyRow (e_X0_copyRow_0 hq0 hq1 ?_), ⟨fun o ho => ?_, rfl⟩, fun i hi => ?_, fun i hi => ?_⟩
    · rw [e2, e3]
      refine br_f (fun z => hm ((nI_leI (by omega) (by omega)).mp z)) (br_f (fun z => e0 ((nI_ltI (by omega) (by omega)).mp z)) (br_f (fun z => e1 ((nI_ltI (by omega) (by omega)).mp z)) ⟨⟨⟨by decide, by decide, nI_pos (by omega)⟩, by omega, by omega⟩, rfl⟩))
    · funext j
      show (if o = q1 then _ else σ.1 o j) = _
      rw [if_neg (fun z => ho (by simp [z]))]
    · show (if q1 = q1 then va_cpy (σ.1 q0) (σ.1 q1) 0 0 m i else σ.1 q1 i) = _
      rw [if_pos rfl, cpy_0, if_pos hi]
    · show (if q1 = q1 then va_cpy (σ.1 q0) (σ.1 q1) 0 0 m i else σ.1 q1 i) = _
      rw [if_pos rfl, cpy_0, if_neg hi]
/-- QUARTERS left, what is KNOWN by reading, what is KNOWN in the end, when c is READ by r (w: by nobody) -/
def es_ (B : Nat → Nat → Nat) (w : Nat) (E : (Nat → Int32) × (Nat → Int32) × (Nat → Int32)) (c r : Nat) : (Nat → Int32) × (Nat → Int32) × (Nat → Int32) :=
  (if r = w then E.1 else ud_ E.1 r (E.1 r - nI (tR_ B r c)),
   fun i => if i % 16 = c ∧ i / 16 < w then (if i / 16 = r then vR_ B E.2.1 r c else nI 0) else E.2.1 i,
   fun i => if i % 16 = c ∧ i / 16 < w then (if r = w then nI 0 else if i / 16 = r then vR_ B E.2.1 r c else oM_ (gv_ B r (i / 16) 4 (vR_ B E.2.1 r c)) (nI 1000000 - lk_ B E.2.2 (i / 16) c)) else E.2.2 i)
def st_ (B : Nat → Nat → Nat) (w : Nat) (v : Nat → Nat) : Nat → (Nat → Int32) × (Nat → Int32) × (Nat → Int32)
  | 0 => (fun r => nI (B 7 r), fun _ => nI 0, fun _ => nI 0)
  | c + 1 => es_ B w (st_ B w v c) c (v c)
def wor_ (B : Nat → Nat → Nat) (p : Nat → Int32) (c : Nat) : Nat → Int32
  | 0 => nI 0
  | u + 1 => wor_ B p c u + oM_ (nI (B 2 c)) (p (16 * u + c))
def val_ (B : Nat → Nat → Nat) (w : Nat) (v : Nat → Nat) : Nat → Int32
  | 0 => nI 0
  | c + 1 => val_ B w v c + wor_ B (st_ B w v (c + 1)).2.2 c w
def okv_ (B : Nat → Nat → Nat) (w : Nat) (v : Nat → Nat) (m : Nat) : Prop := ∀ c, c < m → v c = w ∨ ¬ (st_ B w v c).1 (v c) < nI (tR_ B (v c) c)
/-- all ways for CHAPS from c on -/
noncomputable def tl_ (f : Nat → Int32 × (Nat → Nat) → Int32 × (Nat → Nat)) : Nat → Int32 × (Nat → Nat) → Int32 × (Nat → Nat)
  | 0, s => s
  | r + 1, s => f r (tl_ f r s)
noncomputable def tr_ (B : Nat → Nat → Nat) (m w : Nat) : Nat → Nat → (Nat → Nat) → Int32 × (Nat → Nat) → Int32 × (Nat → Nat)
  | 0, _, v, s => @ite _ (okv_ B w v m ∧ s.1 < val_ B w v m) (Classical.propDecidable _) (val_ B w v m, v) s
  | n + 1, c, v, s => tl_ (fun r s => tr_ B m w n (c + 1) (ud_ v c r) s) (w + 1) s
section BE
variable {B : Nat → Nat → Nat} {m w : Nat} {v : Nat → Nat}
theorem st_cg {v v' : Nat → Nat} : ∀ c, (∀ d, d < c → v d = v' d) → st_ B w v c = st_ B w v' c
  | 0, _ => rfl
  | c + 1, h => by rw [st_, st_, st_cg c (fun d hd => h d (by omega)), h c (by omega)]
theorem val_cg {v v' : Nat → Nat} : ∀ c, (∀ d, d < c → v d = v' d) → val_ B w v c = val_ B w v' c
  | 0, _ => rfl
  | c + 1, h => by rw [val_, val_, val_cg c (fun d hd => h d (by omega)), st_cg (c + 1) h]
theorem okv_cg {v v' : Nat → Nat} {c : Nat} (h : ∀ d, d < c → v d = v' d) : okv_ B w v c ↔ okv_ B w v' c := by
  unfold okv_
  refine ⟨fun q d hd => ?_, fun q d hd => ?_⟩
  · have := q d hd
    rw [h d hd, st_cg d (fun e he => h e (by omega))] at this
    exact this
  · have := q d hd
    rw [← h d hd, ← st_cg d (fun e he => h e (by omega))] at this
    exact this
theorem okv_ud {c r : Nat} : okv_ B w (ud_ v c r) (c + 1) ↔ okv_ B w v c ∧ (r = w ∨ ¬ (st_ B w v c).1 r < nI (tR_ B r c)) := by
  have e : ∀ d, d < c → ud_ v c r d = v d := fun d hd => ud_ne _ _ (by omega)
  constructor
  · intro h
    refine ⟨(okv_cg e).mp (fun d hd => h d (by omega)), ?_⟩
    have := h c (by omega)
    rw [ud_eq, st_cg c e] at this
    exact this
  · intro ⟨h1, h2⟩ d hd
    by_cases e2 : d = c
    · rw [e2, ud_eq, st_cg c e]
      exact h2
    · exact (okv_cg e).mpr h1 d (by omega)
theorem okv_le {c d : Nat} (h : okv_ B w v c) (hd : d ≤ c) : okv_ B w v d := fun e he => h e (by omega)
/-- PARTS are a MILLION at most -/
theorem st_n (hO : BO_ B) (hw : w ≤ B 0 1) : ∀ c, c ≤ B 0 0 → (∀ d, d < c → v d ≤ w) → (∀ i, ∃ n, n ≤ 1000000 ∧ (st_ B w v c).2.1 i = nI n) ∧ ∀ i, ∃ n, n ≤ 1000000 ∧ (st_ B w v c).2.2 i = nI n := by
  intro c
  induction c with
  | zero => exact fun _ _ => ⟨fun _ => ⟨0, by omega, rfl⟩, fun _ => ⟨0, by omega, rfl⟩⟩
  | succ c ih =>
    intro hc hv
    obtain ⟨h1, h2⟩ := ih (by omega) (fun d hd => hv d (by omega))
    have h16 := hO.1.1
    have hvc := hv c (by omega)
    refine ⟨fun i => ?_, fun i => ?_⟩
    · show ∃ n, n ≤ 1000000 ∧ (if i % 16 = c ∧ i / 16 < w then (if i / 16 = v c then vR_ B (st_ B w v c).2.1 (v c) c else nI 0) else (st_ B w v c).2.1 i) = nI n
      split
      · split
        · exact vR_n hO _ h1 (by omega) (by omega)
        · exact ⟨0, by omega, rfl⟩
      · exact h1 i
    · show ∃ n, n ≤ 1000000 ∧ (if i % 16 = c ∧ i / 16 < w then (if v c = w then nI 0 else if i / 16 = v c then vR_ B (st_ B w v c).2.1 (v c) c else oM_ (gv_ B (v c) (i / 16) 4 (vR_ B (st_ B w v c).2.1 (v c) c)) (nI 1000000 - lk_ B (st_ B w v c).2.2 (i / 16) c)) else (st_ B w v c).2.2 i) = nI n
      split
      · split
        · exact ⟨0, by omega, rfl⟩
        · split
          · exact vR_n hO _ h1 (by omega) (by omega)
          · obtain ⟨a, a1, a2⟩ := vR_n (r := v c) hO _ h1 (by omega) (show c < B 0 0 by omega)
            obtain ⟨g, g1, g2⟩ := gv_n (t := v c) (l := i / 16) (f := 4) hO (by omega) (by omega) (by omega) a1
            obtain ⟨q, q1, q2⟩ := lk_n (r := i / 16) hO _ h2 (show c < B 0 0 by omega)
            have hm := oM_le (a := g) (b := 1000000 - q) g1 (by omega)
            refine ⟨g * (1000000 - q) / 1000000, by omega, ?_⟩
            rw [a2, g2, q2, pk_sub (by omega), oM_n (by omega) (by omega)]
      · exact h2 i
theorem wor_n (hO : BO_ B) {c : Nat} (hc : c < B 0 0) (p : Nat → Int32) (hp : ∀ i, ∃ n, n ≤ 1000000 ∧ p i = nI n) : ∀ u, ∃ M, M ≤ u * B 2 c ∧ wor_ B p c u = nI M
  | 0 => ⟨0, by omega, rfl⟩
  | u + 1 => by
    obtain ⟨M, h1, h2⟩ := wor_n hO hc p hp u
    obtain ⟨n, h3, h4⟩ := hp (16 * u + c)
    have h5 := BO_cc hO hc
    have h6 := oM_le (a := B 2 c) (b := n) (by omega) h3
    refine ⟨M + B 2 c * n / 1000000, by rw [Nat.add_mul]; omega, ?_⟩
    rw [wor_, h2, h4, oM_n (by omega) (by omega), nI_add]
/-- from c to d at most w times the WORTH grows -/
theorem val_n (hO : BO_ B) (hw : w ≤ B 0 1) : ∀ k c, c + k ≤ B 0 0 → (∀ d, d < c + k → v d ≤ w) → ∀ N, val_ B w v c = nI N → ∃ M, M ≤ w * fb_sm (fun j => B 2 (c + j)) k ∧ val_ B w v (c + k) = nI (N + M) := by
  intro k
  induction k with
  | zero => exact fun c _ _ N h => ⟨0, by omega, h⟩
  | succ k ih =>
    intro c hc hv N h
    obtain ⟨M, h1, h2⟩ := ih c (by omega) (fun d hd => hv d (by omega)) N h
    have hs := (st_n (v := v) hO hw (c + k + 1) (by omega) (fun d hd => hv d (by omega))).2
    obtain ⟨M2, h3, h4⟩ := wor_n hO (show c + k < B 0 0 by omega) _ hs w
    refine ⟨M + M2, ?_, ?_⟩
    · rw [fb_sm_succ, Nat.mul_add]
      omega
    · rw [show c + (k + 1) = c + k + 1 by omega, val_, h2, h4, nI_add, Nat.add_assoc]
theorem tl_id {f : Nat → Int32 × (Nat → Nat) → Int32 × (Nat → Nat)} : ∀ n s, (∀ r, r < n → f r s = s) → tl_ f n s = s
  | 0, _, _ => rfl
  | n + 1, s, h => by rw [tl_, tl_id n s (fun r hr => h r (by omega)), h n (by omega)]
/-- nothing comes of ways whose beginning can't be -/
theorem tr_no : ∀ n c v s, c + n = m → ¬ okv_ B w v c → tr_ B m w n c v s = s
  | 0, c, v, s, hc, h => by
    obtain rfl : c = m := by omega
    rw [tr_, if_neg (fun z => h z.1)]
  | n + 1, c, v, s, hc, h => by
    rw [tr_]
    exact tl_id _ _ (fun r _ => tr_no n (c + 1) (ud_ v c r) s (by omega) (fun z => h (okv_ud.mp z).1))
/-- nor of ways that can't be better -/
theorem tr_low (hO : BO_ B) (hw : w ≤ B 0 1) (hm : m ≤ B 0 0) : ∀ n c v s N, c + n = m → (∀ d, d < c → v d ≤ w) → val_ B w v c = nI N → N + w * fb_sm (fun j => B 2 (c + j)) n < 2 ^ 30 → ¬ s.1 < nI (N + w * fb_sm (fun j => B 2 (c + j)) n) → tr_ B m w n c v s = s
  | 0, c, v, s, N, hc, hv, hN, hb, h => by
    obtain rfl : c = m := by omega
    rw [tr_, if_neg (fun z => h ?_)]
    rw [hN] at z
    exact z.2
  | n + 1, c, v, s, N, hc, hv, hN, hb, h => by
    rw [tr_]
    refine tl_id _ _ (fun r hr => ?_)
    have hv2 : ∀ d, d < c + 1 → ud_ v c r d ≤ w := fun d hd => by
      by_cases e : d = c
      · rw [e, ud_eq]; omega
      · rw [ud_ne _ _ e]; exact hv d (by omega)
    have hN2 : val_ B w (ud_ v c r) c = nI N := by rw [← hN]; exact val_cg c (fun d hd => ud_ne _ _ (by omega))
    obtain ⟨M, h1, h2⟩ := val_n (v := ud_ v c r) hO hw 1 c (by omega) (fun d hd => hv2 d (by omega)) N hN2
    have e1 : fb_sm (fun j => B 2 (c + j)) 1 = B 2 c := by rw [fb_sm_succ]; simp [fb_sm]
    have e2 : fb_sm (fun j => B 2 (c + j)) (n + 1) = B 2 c + fb_sm (fun j => B 2 (c + 1 + j)) n := by
      have := fb_sm_split (fun j => B 2 (c + j)) 1 n
      rw [show 1 + n = n + 1 by omega, e1] at this
      rw [this]
      congr 1
      exact fb_sm_cong (fun k _ => by rw [show c + (1 + k) = c + 1 + k by omega])
    rw [e1] at h1
    rw [e2, Nat.mul_add] at h hb
    refine tr_low hO hw hm n (c + 1) (ud_ v c r) s (N + M) (by omega) hv2 h2 (by omega) (fun z => h ?_)
    refine Int32.lt_of_lt_of_le z ?_
    exact nI_le (by omega) (by omega)
/-- a way is found, where the beginning can be -/
theorem tr_found (hO : BO_ B) (hw : w ≤ B 0 1) (hm : m ≤ B 0 0) : ∀ n c v s, c + n = m → (∀ d, d < c → v d ≤ w) → okv_ B w v c → ¬ (tr_ B m w n c v s).1 < nI 0
  | 0, c, v, s, hc, hv, h => by
    obtain rfl : c = m := by omega
    obtain ⟨M, h1, h2⟩ := val_n (v := v) hO hw c 0 (by omega) (fun d hd => hv d (by omega)) 0 rfl
    rw [Nat.zero_add] at h2
    have h3 : fb_sm (fun j => B 2 (0 + j)) c ≤ c * 999 := fb_sm_bound (fun k hk => by have := BO_cc hO (show 0 + k < B 0 0 by omega); omega)
    have h4 : w * fb_sm (fun j => B 2 (0 + j)) c ≤ 9 * (16 * 999) := Nat.mul_le_mul (by have := hO.1.2.1; omega) (Nat.le_trans h3 (by have := hO.1.1; omega))
    have hb : 0 + M < 2 ^ 30 := by omega
    rw [tr_]
    split
    · rw [h2]
      exact nI_nlt (by omega) (by omega)
    · rename_i hn
      intro z
      refine hn ⟨h, Int32.lt_of_lt_of_le z ?_⟩
      rw [h2]
      exact nI_le (by omega) (by omega)
  | n + 1, c, v, s, hc, hv, h => by
    rw [tr_, tl_]
    refine tr_found hO hw hm n (c + 1) (ud_ v c w) _ (by omega) (fun d hd => ?_) (okv_ud.mpr ⟨h, Or.inl rfl⟩)
    by_cases e : d = c
    · rw [e, ud_eq]
      exact Nat.le_refl _
    · rw [ud_ne _ _ e]
      exact hv d (by omega)
end BE
