/-! each call keeps the relation: the tape, the texts, the calls that may throw -/
section ST2
variable {σ μ : St_}
theorem ly_TA {n : Nat} {t : Nat → Nat} (h : TA_ σ (ly_ μ) n t) : TA_ σ μ n t := by
  obtain ⟨a1, a2, a3, a4⟩ := h
  exact ⟨a1, a2, by rw [← ly_out μ (by omega) (by omega)]; exact a3, fun i => by rw [← ly_out μ (by omega) (by omega)]; exact a4 i⟩
theorem TA_ly {n : Nat} {t : Nat → Nat} (h : TA_ σ μ n t) : TA_ σ (ly_ μ) n t := by
  obtain ⟨a1, a2, a3, a4⟩ := h
  exact ⟨a1, a2, by rw [ly_out μ (by omega) (by omega)]; exact a3, fun i => by rw [ly_out μ (by omega) (by omega)]; exact a4 i⟩
theorem ly_fr {μ' : St_} (h1 : ∀ o, o ≠ 219 → o ≠ 220 → μ'.1 o = μ.1 o) (h2 : ∀ f, f ≠ 0 → f ≠ 2 → μ'.1 219 f = μ.1 219 f) : ∀ o i, o ≠ 220 → ¬ (o = 219 ∧ i = 2) → (ly_ μ').1 o i = (ly_ μ).1 o i := by
  intro o i h3 h4
  by_cases h0 : o = 219 ∧ i = 0
  · obtain ⟨rfl, rfl⟩ := h0
    rw [ly_at, ly_at, if_pos ⟨rfl, rfl⟩, if_pos ⟨rfl, rfl⟩]
  · refine ly_same (h2 21 (by omega) (by omega)) ?_
    by_cases e : o = 219
    · subst e
      exact h2 i (by omega) (by omega)
    · rw [h1 o e h3]
/-- the tape alone has changed -/
theorem st_tape {f g : St_ → Option Out_} (h : G_r σ (ly_ μ)) {v : Int32} {σ' μ' : St_} {n' : Nat} {t' : Nat → Nat} (q1 : f σ = some (some (.int v), σ')) (q2 : g μ = some (some (.int v), μ')) (ta : TA_ σ' μ' n' t') (f1 : fr_ [1, 2] σ σ') (f2 : NF2_ [2] 1 σ σ') (f3 : fr_ [219, 220] μ μ') (f4 : NF2_ [0, 2] 219 μ μ') : Stp_ σ μ f g := by
  obtain ⟨b, b', p, p', s, s', B, P, a, n, t, hob, hnow, hse, hta, hrr⟩ := h
  obtain ⟨⟨iB, iB'⟩, ⟨iP, iP'⟩, ⟨iS, iS'⟩, hlt⟩ := OB_is hob
  have ob := hob.1
  have hr : RU_ σ b B P a := hnow.2.1.2.2
  have lf := ly_fr (μ := μ) (μ' := μ') (fun o h1 h2 => f3.1 o (by simp; omega)) (fun f h1 h2 => f4 f (by simp; omega))
  have l2 : (ly_ μ').2 = (ly_ μ).2 := by rw [ly_2, ly_2, f3.2]
  have cr : ∀ o, ¬ (o = 1 ∨ o = 2) → σ'.1 o = σ.1 o := fun o ho => f1.1 o (by simp; omega)
  refine ⟨v, σ', μ', q1, q2, b, b', p, p', s, s', B, P, a, n', t', OB_k hob (fun i h1 h2 => by rw [f1.2]), NOW_k hnow (by rw [f1.2]) (by rw [f1.2]) (fun o o1 o2 => cr o (by omega)) (fun o o1 o2 => cr o (by omega)) (RU_k hr (by rw [cr 0 (by omega)]) (by rw [f1.2]) (fun o o1 o2 => cr o (by omega)) (by rw [cr 80 (by omega)]) (by rw [cr 80 (by omega)])) (fun i _ => lf _ _ (by omega) (by omega)) (fun i => by rw [l2]), SE_k hse (fun o o1 o2 => cr o (by omega)) (fun i _ => lf _ _ (by omega) (by omega)), TA_ly ta, RR_0 hrr (fun o i z => ?_) (fun o i z => ?_) (fun i => by rw [l2])⟩
  · unfold rcj_ at z
    by_cases e1 : o = 1
    · subst e1
      exact f2 i (by simp; omega)
    rw [cr o (by omega)]
  · unfold rmj_ at z
    exact lf _ _ (by omega) (by omega)
theorem st_feed (h : G_r σ (ly_ μ)) (x1 x2 x3 x4 x5 : Int32) : Stp_ σ μ (f_X11_feed KC [.ref 0, .int x1, .int x2, .int x3, .int x4, .int x5]) (f_X12_feed KC [.ref 219, .int x1, .int x2, .int x3, .int x4, .int x5]) := by
  obtain ⟨b, b', p, p', s, s', B, P, a, n, t, hob, hnow, hse, hta, hrr⟩ := id h
  obtain ⟨v, σ', μ', n', t', q1, q2, ta, f1, f2, f3, f4⟩ := feed_both (ly_TA hta) x1 x2 x3 x4 x5
  exact st_tape h q1 q2 ta f1 f2 f3 f4
theorem st_end (h : G_r σ (ly_ μ)) (x1 : Int32) : Stp_ σ μ (f_X11_end KC [.ref 0, .int x1]) (f_X12_end KC [.ref 219, .int x1]) := by
  obtain ⟨b, b', p, p', s, s', B, P, a, n, t, hob, hnow, hse, hta, hrr⟩ := id h
  obtain ⟨v, σ', μ', n', q1, q2, ta, f1, f2, f3, f4⟩ := end_both (ly_TA hta) x1
  exact st_tape h q1 q2 ta (fr_mono f1 (by simp)) f2 (fr_mono f3 (by simp)) f4
theorem st_book (h : G_r σ (ly_ μ)) : Stp_ σ μ (f_X11_book KC [.ref 0]) (f_X12_book KC [.ref 219]) := by
  obtain ⟨b, b', p, p', s, s', B, P, a, n, t, hob, hnow, hse, hta, hrr⟩ := id h
  obtain ⟨⟨iB, iB'⟩, ⟨iP, iP'⟩, ⟨iS, iS'⟩, hlt⟩ := OB_is hob
  obtain ⟨ob, o12, o13, o14, o15, o16, o17⟩ := id hob
  have hr : RU_ σ b B P a := hnow.2.1.2.2
  obtain ⟨v, σ', μ', q1, q2, ta, hf, hq⟩ := book_both iB iB' iP iS o12 o13 o14 o16 (LY_ly μ) hta hrr.1
  rcases hq with ⟨⟨g1, g2⟩, ⟨k1, k2⟩⟩ | ⟨B', ⟨r12, r13, rr⟩, ⟨nC, nX⟩, ⟨e1, e2, e3, e4, e5, e6⟩, ⟨g1, g2⟩, ⟨k1, k2⟩⟩
  · have cr : ∀ o, ¬ (o = 1 ∨ (b' ≤ o ∧ o ≤ b' + 27)) → σ'.1 o = σ.1 o := fun o ho => g1 o (by omega) (by omega)
    have mr : ∀ o, ¬ (o = 219 ∨ o = 222) → μ'.1 o = (ly_ μ).1 o := fun o ho => k1.1 o (by simp; omega)
    have mc : ∀ f, 13 < f ∧ f ≠ 22 → μ'.1 219 f = (ly_ μ).1 219 f := fun f hf => k2 f (by omega) (by simp; omega)
    refine ⟨v, σ', μ', q1, q2, G_laid ⟨b, b', p, p', s, s', B, P, a, 0, t, OB_k hob (fun i h1 h2 => by rw [g2]), NOW_k hnow (by rw [g2]) (by rw [g2]) (fun o o1 o2 => cr o (by omega)) (fun o o1 o2 => cr o (by omega)) (RU_k hr (by rw [cr 0 (by omega)]) (by rw [g2]) (fun o o1 o2 => cr o (by omega)) (by rw [cr 80 (by omega)]) (by rw [cr 80 (by omega)])) (fun i _ => by rw [mr 221 (by omega)]) (fun i => by rw [k1.2.1 224 (by decide)]), SE_k hse (fun o o1 o2 => cr o (by omega)) (fun i _ => by rw [mr 221 (by omega)]), ta, RR_1 hrr (fun o i z => ?_) (fun o i z => ?_) (fun i => by rw [k1.2.1 226 (by decide)]) hf⟩ (by rw [mc 21 (by omega)]; exact ly_21 μ)⟩
    · unfold rcj_ at z
      rw [cr o (by omega)]
    · unfold rmj_ at z
      by_cases e : o = 219
      · subst e
        exact mc i (by omega)
      · rw [mr o (by omega)]
  · have cr : ∀ o, ¬ (o = 0 ∨ o = 1 ∨ o = p ∨ o = s ∨ (b' ≤ o ∧ o ≤ b' + 27)) → σ'.1 o = σ.1 o := fun o ho => g1 o (by omega) (by omega) (by omega) (by omega) (by omega)
    have mr : ∀ o, ¬ (o = 219 ∨ o = 221 ∨ o = 222) → μ'.1 o = (ly_ μ).1 o := fun o ho => k1.1 o (by simp; omega)
    have mc : ∀ f, 13 < f ∧ f ≠ 22 → μ'.1 219 f = (ly_ μ).1 219 f := fun f hf => k2 f (by omega) (by simp; omega)
    refine ⟨v, σ', μ', q1, q2, G_laid ⟨b', b, p, p', s, s', B', fun _ _ => 0, 0, 0, t, ⟨⟨by omega, by omega, by omega⟩, r12, r13, by rw [rr 0 14 (by omega)]; exact o14, by rw [rr 0 15 (by omega)]; exact o15, by rw [rr 0 16 (by omega)]; exact o16, by rw [rr 0 17 (by omega)]; exact o17⟩, ⟨⟨iB', iP, r12, by rw [rr 0 14 (by omega)]; exact o14⟩, ⟨nC, ⟨e1, fun i hi => absurd hi (Nat.not_lt_zero i)⟩, .inl e4⟩, nX, ⟨e5, fun i hi => absurd hi (Nat.not_lt_zero i)⟩, ⟨Nat.zero_le _, fun i hi => absurd hi (Nat.not_lt_zero i)⟩⟩, Or.inl ⟨e3, e2, e6⟩, ta, RR_1 hrr (fun o i z => ?_) (fun o i z => ?_) (fun i => by rw [k1.2.1 226 (by decide)]) hf⟩ (by rw [mc 21 (by omega)]; exact ly_21 μ)⟩
    · unfold rcj_ at z
      by_cases e0 : o = 0
      · subst e0
        exact g2 i (by omega)
      rw [cr o (by omega)]
    · unfold rmj_ at z
      by_cases e : o = 219
      · subst e
        exact mc i (by omega)
      · rw [mr o (by omega)]
theorem st_plan (h : G_r σ (ly_ μ)) : Stp_ σ μ (f_X11_plan KC [.ref 0]) (f_X12_plan KC [.ref 219]) := by
  obtain ⟨b, b', p, p', s, s', B, P, a, n, t, hob, hnow, hse, hta, hrr⟩ := id h
  obtain ⟨⟨iB, iB'⟩, ⟨iP, iP'⟩, ⟨iS, iS'⟩, hlt⟩ := OB_is hob
  obtain ⟨ob, o12, o13, o14, o15, o16, o17⟩ := id hob
  obtain ⟨⟨hB, hP, h12, h14⟩, ⟨hC, hp, hr⟩, hx, hpm, ho⟩ := id hnow
  obtain ⟨v, σ', μ', q1, q2, ta, hf, hq⟩ := plan_both iB iP iP' o12 o14 o15 hC (LY_ly μ) hx hta hrr.1
  rcases hq with ⟨⟨g1, g2⟩, ⟨k1, k2⟩⟩ | ⟨P', a', ⟨r14, r15, rr⟩, ⟨e1, e2, e3, e4, e5, e6⟩, ⟨g1, g2⟩, ⟨k1, k2⟩, k3⟩
  · have cr : ∀ o, ¬ (o = 1 ∨ (p' ≤ o ∧ o ≤ p' + 4)) → σ'.1 o = σ.1 o := fun o ho => g1 o (by omega) (by omega)
    have mr : ∀ o, ¬ (o = 219 ∨ o = 228) → μ'.1 o = (ly_ μ).1 o := fun o ho => k1.1 o (by simp; omega)
    have mc : ∀ f, 13 < f ∧ f ≠ 24 → μ'.1 219 f = (ly_ μ).1 219 f := fun f hf => k2 f (by omega) (by simp; omega)
    refine ⟨v, σ', μ', q1, q2, G_laid ⟨b, b', p, p', s, s', B, P, a, 0, t, OB_k hob (fun i h1 h2 => by rw [g2]), NOW_k hnow (by rw [g2]) (by rw [g2]) (fun o o1 o2 => cr o (by omega)) (fun o o1 o2 => cr o (by omega)) (RU_k hr (by rw [cr 0 (by omega)]) (by rw [g2]) (fun o o1 o2 => cr o (by omega)) (by rw [cr 80 (by omega)]) (by rw [cr 80 (by omega)])) (fun i _ => by rw [mr 221 (by omega)]) (fun i => by rw [k1.2.1 224 (by decide)]), SE_k hse (fun o o1 o2 => cr o (by omega)) (fun i _ => by rw [mr 221 (by omega)]), ta, RR_1 hrr (fun o i z => ?_) (fun o i z => ?_) (fun i => by rw [k1.2.1 226 (by decide)]) hf⟩ (by rw [mc 21 (by omega)]; exact ly_21 μ)⟩
    · unfold rcj_ at z
      rw [cr o (by omega)]
    · unfold rmj_ at z
      by_cases e : o = 219
      · subst e
        exact mc i (by omega)
      · rw [mr o (by omega)]
  · have cr : ∀ o, ¬ (o = 0 ∨ o = 1 ∨ (p' ≤ o ∧ o ≤ p' + 4)) → σ'.1 o = σ.1 o := fun o ho => g1 o (by omega) (by omega) (by omega)
    have mr : ∀ o, ¬ (o = 219 ∨ o = 221 ∨ o = 228) → μ'.1 o = (ly_ μ).1 o := fun o ho => k1.1 o (by simp; omega)
    have mc : ∀ f, 13 < f ∧ f ≠ 24 → μ'.1 219 f = (ly_ μ).1 219 f := fun f hf => k2 f (by omega) (by simp; omega)
    refine ⟨v, σ', μ', q1, q2, G_laid ⟨b, b', p', p, s, s', B, P', a', 0, t, ⟨⟨by omega, by omega, by omega⟩, by rw [rr 0 12 (by omega)]; exact o12, by rw [rr 0 13 (by omega)]; exact o13, r14, r15, by rw [rr 0 16 (by omega)]; exact o16, by rw [rr 0 17 (by omega)]; exact o17⟩, ⟨⟨iB, iP', by rw [rr 0 12 (by omega)]; exact o12, r14⟩, ⟨e4, e1, .inl e6⟩, e5, e2, e3⟩, SE_k hse (fun o o1 o2 => cr o (by omega)) (fun i hi => k3 i (Or.inr hi)), ta, RR_1 hrr (fun o i z => ?_) (fun o i z => ?_) (fun i => by rw [k1.2.1 226 (by decide)]) hf⟩ (by rw [mc 21 (by omega)]; exact ly_21 μ)⟩
    · unfold rcj_ at z
      by_cases e0 : o = 0
      · subst e0
        exact g2 i (by omega)
      rw [cr o (by omega)]
    · unfold rmj_ at z
      by_cases e : o = 219
      · subst e
        exact mc i (by omega)
      · rw [mr o (by omega)]
theorem st_sentence (h : G_r σ (ly_ μ)) : Stp_ σ μ (f_X11_sentence KC [.ref 0]) (f_X12_sentence KC [.ref 219]) := by
  obtain ⟨b, b', p, p', s, s', B, P, a, n, t, hob, hnow, hse, hta, hrr⟩ := id h
  obtain ⟨⟨iB, iB'⟩, ⟨iP, iP'⟩, ⟨iS, iS'⟩, hlt⟩ := OB_is hob
  obtain ⟨ob, o12, o13, o14, o15, o16, o17⟩ := id hob
  obtain ⟨⟨hB, hP, h12, h14⟩, ⟨hC, hp, hr⟩, hx, hpm, ho⟩ := id hnow
  obtain ⟨v, σ', μ', q1, q2, ta, hf, hq⟩ := sentence_both iB iS iS' o12 o16 o17 hC (LY_ly μ) hx hta hrr.1
  rcases hq with ⟨⟨g1, g2⟩, ⟨k1, k2⟩⟩ | ⟨⟨r16, r17, rr⟩, hse', g1, ⟨k1, k2⟩, k3⟩
  · have cr : ∀ o, ¬ (o = 1 ∨ (s' ≤ o ∧ o ≤ s' + 4)) → σ'.1 o = σ.1 o := fun o ho => g1 o (by omega) (by omega)
    have mr : ∀ o, ¬ (o = 219 ∨ o = 245) → μ'.1 o = (ly_ μ).1 o := fun o ho => k1.1 o (by simp; omega)
    have mc : ∀ f, 13 < f ∧ f < 59 → μ'.1 219 f = (ly_ μ).1 219 f := fun f hf => k2 f (by omega) (by simp; omega)
    refine ⟨v, σ', μ', q1, q2, G_laid ⟨b, b', p, p', s, s', B, P, a, 0, t, OB_k hob (fun i h1 h2 => by rw [g2]), NOW_k hnow (by rw [g2]) (by rw [g2]) (fun o o1 o2 => cr o (by omega)) (fun o o1 o2 => cr o (by omega)) (RU_k hr (by rw [cr 0 (by omega)]) (by rw [g2]) (fun o o1 o2 => cr o (by omega)) (by rw [cr 80 (by omega)]) (by rw [cr 80 (by omega)])) (fun i _ => by rw [mr 221 (by omega)]) (fun i => by rw [k1.2.1 224 (by decide)]), SE_k hse (fun o o1 o2 => cr o (by omega)) (fun i _ => by rw [mr 221 (by omega)]), ta, RR_1 hrr (fun o i z => ?_) (fun o i z => ?_) (fun i => by rw [k1.2.1 226 (by decide)]) hf⟩ (by rw [mc 21 (by omega)]; exact ly_21 μ)⟩
    · unfold rcj_ at z
      rw [cr o (by omega)]
    · unfold rmj_ at z
      by_cases e : o = 219
      · subst e
        exact mc i (by omega)
      · rw [mr o (by omega)]
  · have cr : ∀ o, ¬ (o = 1 ∨ (s' ≤ o ∧ o ≤ s' + 4)) → σ'.1 o = σ.1 o := fun o ho => g1 o (by omega) (by omega)
    have mr : ∀ o, ¬ (o = 219 ∨ o = 221 ∨ o = 245) → μ'.1 o = (ly_ μ).1 o := fun o ho => k1.1 o (by simp; omega)
    have mc : ∀ f, 13 < f ∧ f < 59 → μ'.1 219 f = (ly_ μ).1 219 f := fun f hf => k2 f (by omega) (by simp; omega)
    refine ⟨v, σ', μ', q1, q2, G_laid ⟨b, b', p, p', s', s, B, P, a, 0, t, ⟨⟨by omega, by omega, by omega⟩, by rw [rr 0 12 (by omega)]; exact o12, by rw [rr 0 13 (by omega)]; exact o13, by rw [rr 0 14 (by omega)]; exact o14, by rw [rr 0 15 (by omega)]; exact o15, r16, r17⟩, NOW_k hnow (rr 0 12 (by omega)) (rr 0 14 (by omega)) (fun o o1 o2 => cr o (by omega)) (fun o o1 o2 => cr o (by omega)) (RU_k hr (by rw [cr 0 (by omega)]) (rr 80 9 (by omega)) (fun o o1 o2 => cr o (by omega)) (by rw [cr 80 (by omega)]) (by rw [cr 80 (by omega)])) (fun i hi => k3 i hi) (fun i => by rw [k1.2.1 224 (by decide)]), hse', ta, RR_1 hrr (fun o i z => ?_) (fun o i z => ?_) (fun i => by rw [k1.2.1 226 (by decide)]) hf⟩ (by rw [mc 21 (by omega)]; exact ly_21 μ)⟩
    · unfold rcj_ at z
      rw [cr o (by omega)]
    · unfold rmj_ at z
      by_cases e : o = 219
      · subst e
        exact mc i (by omega)
      · rw [mr o (by omega)]
/-- of a call that may throw: both answer alike, or the class throws and the reference says so -/
def Stt_ (σ μ : St_) (f g : St_ → Option Out_) (T : Prop) : Prop := (∃ v μ', f σ = some (some (.int v), σ) ∧ g μ = some (some (.int v), μ') ∧ μ'.1 219 0 = nI 0 ∧ G_r σ (ly_ μ')) ∨ (T ∧ ∃ μ', g μ = some (some (.int 0), μ') ∧ μ'.1 219 0 = nI 1 ∧ G_r σ (ly_ μ'))
theorem ly_l1 (μ : St_) : ly_ (sI_ (lay_ μ) 219 0 1) = ly_ μ := by
  have h := lay_put μ
  have h1 : ly_ (sI_ (lay_ μ) 219 0 1) = ly_ (lay_ μ) := by
    unfold ly_
    rw [sI_twice]
  have h21 : ¬ (lay_ μ).1 219 21 = 0 := by
    have e : (ly_ μ).1 219 21 = (lay_ μ).1 219 21 := by rw [← h, sI_at, if_neg (by omega)]
    rw [← e]
    exact ly_21 μ
  rw [h1, ly_laid h21]
  exact h
theorem ly_laid0 (μ : St_) : ly_ (ly_ μ) = ly_ μ := by
  rw [ly_laid (ly_21 μ)]
  exact sI_self (ly_at μ 219 0 ▸ rfl)
theorem stt_of {f g : St_ → Option Out_} {T : Prop} (h : G_r σ (ly_ μ)) (hh : (∃ v, f σ = some (some (.int v), σ) ∧ g μ = some (some (.int v), ly_ μ)) ∨ (T ∧ g μ = some (some (.int 0), sI_ (lay_ μ) 219 0 1))) : Stt_ σ μ f g T := by
  rcases hh with ⟨v, q1, q2⟩ | ⟨q1, q2⟩
  · refine Or.inl ⟨v, _, q1, q2, ?_, G_laid h (ly_21 μ)⟩
    rw [ly_at, if_pos ⟨rfl, rfl⟩]
  · exact Or.inr ⟨q1, _, q2, by rw [sI_at, if_pos ⟨rfl, rfl⟩]; rfl, by rw [ly_l1]; exact h⟩
theorem st_chap (h : G_r σ (ly_ μ)) (x1 x2 : Int32) : Stt_ σ μ (f_X11_chap KC [.ref 0, .int x1, .int x2]) (f_X12_chap KC [.ref 219, .int x1, .int x2]) (ThC_ σ x1 x2) := by
  obtain ⟨b, b', p, p', s, s', B, P, a, n, t, hob, hnow, hse, hta, hrr⟩ := id h
  exact stt_of h (chap_both hnow x1 x2)
theorem st_reader (h : G_r σ (ly_ μ)) (x1 x2 : Int32) : Stt_ σ μ (f_X11_reader KC [.ref 0, .int x1, .int x2]) (f_X12_reader KC [.ref 219, .int x1, .int x2]) (ThR_ σ x1 x2) := by
  obtain ⟨b, b', p, p', s, s', B, P, a, n, t, hob, hnow, hse, hta, hrr⟩ := id h
  exact stt_of h (reader_both hnow x1 x2)
theorem st_act (h : G_r σ (ly_ μ)) (x1 x2 : Int32) : Stt_ σ μ (f_X11_act KC [.ref 0, .int x1, .int x2]) (f_X12_act KC [.ref 219, .int x1, .int x2]) (ThA_ σ x1 x2) := by
  obtain ⟨b, b', p, p', s, s', B, P, a, n, t, hob, hnow, hse, hta, hrr⟩ := id h
  exact stt_of h (act_both' hnow x1 x2)
end ST2
