/-! each call keeps the relation -/
def rcj_ (j o i : Nat) : Prop := o = 3 ∨ (¬ 1 = j ∧ o = 1 ∧ i = 9) ∨ (¬ 9 = j ∧ 142 ≤ o ∧ o ≤ 218) ∨ (¬ 2 = j ∧ o = 0 ∧ i = 19) ∨ (¬ 3 = j ∧ ((o = 105 ∧ i = 1) ∨ o = 106)) ∨ (¬ 4 = j ∧ ((o = 99 ∧ i = 1) ∨ o = 100)) ∨ (¬ 5 = j ∧ ((o = 129 ∧ i = 1) ∨ o = 130)) ∨ (¬ 6 = j ∧ o = 105 ∧ i = 2) ∨ (¬ 7 = j ∧ o = 133 ∧ i = 2) ∨ (¬ 8 = j ∧ o = 91)
def rmj_ (j o i : Nat) : Prop := (¬ 1 = j ∧ o = 219 ∧ i = 10) ∨ (¬ 9 = j ∧ (o = 223 ∨ o = 227)) ∨ (¬ 2 = j ∧ o = 219 ∧ i = 31) ∨ (¬ 3 = j ∧ ((o = 219 ∧ i = 44) ∨ o = 238)) ∨ (¬ 4 = j ∧ ((o = 219 ∧ i = 40) ∨ o = 236)) ∨ (¬ 5 = j ∧ ((o = 219 ∧ i = 53) ∨ o = 241)) ∨ (¬ 6 = j ∧ o = 219 ∧ i = 47) ∨ (¬ 7 = j ∧ o = 219 ∧ i = 56)
theorem rrC_j {j o i : Nat} (h : rrC (fun k => k = j) o i) : rcj_ j o i := h
theorem rrM_j {j o i : Nat} (h : rrM (fun k => k = j) o i) : rmj_ j o i := h
theorem RR_0 {σ μ σ' μ' : St_} (h : RR_ σ μ) (hc : ∀ o i, rcj_ 0 o i → σ'.1 o i = σ.1 o i) (hm : ∀ o i, rmj_ 0 o i → μ'.1 o i = μ.1 o i) (hj : ∀ i, μ'.2.1 226 i = μ.2.1 226 i) : RR_ σ' μ' := RR_k (fun k => k = 0) h (fun o i z => hc o i (rrC_j z)) (fun o i z => hm o i (rrM_j z)) (fun _ => hj) (fun z => absurd z (by decide)) (fun z => absurd z (by decide)) (fun z => absurd z (by decide)) (fun z => absurd z (by decide)) (fun z => absurd z (by decide)) (fun z => absurd z (by decide)) (fun z => absurd z (by decide)) (fun z => absurd z (by decide)) (fun z => absurd z (by decide))
theorem RR_1 {σ μ σ' μ' : St_} (h : RR_ σ μ) (hc : ∀ o i, rcj_ 1 o i → σ'.1 o i = σ.1 o i) (hm : ∀ o i, rmj_ 1 o i → μ'.1 o i = μ.1 o i) (hj : ∀ i, μ'.2.1 226 i = μ.2.1 226 i) (hn : σ'.1 1 9 = μ'.1 219 10) : RR_ σ' μ' := RR_k (fun k => k = 1) h (fun o i z => hc o i (rrC_j z)) (fun o i z => hm o i (rrM_j z)) (fun _ => hj) (fun _ => hn) (fun z => absurd z (by decide)) (fun z => absurd z (by decide)) (fun z => absurd z (by decide)) (fun z => absurd z (by decide)) (fun z => absurd z (by decide)) (fun z => absurd z (by decide)) (fun z => absurd z (by decide)) (fun z => absurd z (by decide))
theorem RR_2 {σ μ σ' μ' : St_} (h : RR_ σ μ) (hc : ∀ o i, rcj_ 2 o i → σ'.1 o i = σ.1 o i) (hm : ∀ o i, rmj_ 2 o i → μ'.1 o i = μ.1 o i) (hj : ∀ i, μ'.2.1 226 i = μ.2.1 226 i) (hn : σ'.1 0 19 = μ'.1 219 31) : RR_ σ' μ' := RR_k (fun k => k = 2) h (fun o i z => hc o i (rrC_j z)) (fun o i z => hm o i (rrM_j z)) (fun _ => hj) (fun z => absurd z (by decide)) (fun _ => hn) (fun z => absurd z (by decide)) (fun z => absurd z (by decide)) (fun z => absurd z (by decide)) (fun z => absurd z (by decide)) (fun z => absurd z (by decide)) (fun z => absurd z (by decide)) (fun z => absurd z (by decide))
theorem RR_3 {σ μ σ' μ' : St_} (h : RR_ σ μ) (hc : ∀ o i, rcj_ 3 o i → σ'.1 o i = σ.1 o i) (hm : ∀ o i, rmj_ 3 o i → μ'.1 o i = μ.1 o i) (hj : ∀ i, μ'.2.1 226 i = μ.2.1 226 i) (hn : RC_ σ' μ') : RR_ σ' μ' := RR_k (fun k => k = 3) h (fun o i z => hc o i (rrC_j z)) (fun o i z => hm o i (rrM_j z)) (fun _ => hj) (fun z => absurd z (by decide)) (fun z => absurd z (by decide)) (fun _ => hn) (fun z => absurd z (by decide)) (fun z => absurd z (by decide)) (fun z => absurd z (by decide)) (fun z => absurd z (by decide)) (fun z => absurd z (by decide)) (fun z => absurd z (by decide))
theorem RR_4 {σ μ σ' μ' : St_} (h : RR_ σ μ) (hc : ∀ o i, rcj_ 4 o i → σ'.1 o i = σ.1 o i) (hm : ∀ o i, rmj_ 4 o i → μ'.1 o i = μ.1 o i) (hj : ∀ i, μ'.2.1 226 i = μ.2.1 226 i) (hn : RB_ σ' μ') : RR_ σ' μ' := RR_k (fun k => k = 4) h (fun o i z => hc o i (rrC_j z)) (fun o i z => hm o i (rrM_j z)) (fun _ => hj) (fun z => absurd z (by decide)) (fun z => absurd z (by decide)) (fun z => absurd z (by decide)) (fun _ => hn) (fun z => absurd z (by decide)) (fun z => absurd z (by decide)) (fun z => absurd z (by decide)) (fun z => absurd z (by decide)) (fun z => absurd z (by decide))
theorem RR_5 {σ μ σ' μ' : St_} (h : RR_ σ μ) (hc : ∀ o i, rcj_ 5 o i → σ'.1 o i = σ.1 o i) (hm : ∀ o i, rmj_ 5 o i → μ'.1 o i = μ.1 o i) (hj : ∀ i, μ'.2.1 226 i = μ.2.1 226 i) (hn : RH_ σ' μ') : RR_ σ' μ' := RR_k (fun k => k = 5) h (fun o i z => hc o i (rrC_j z)) (fun o i z => hm o i (rrM_j z)) (fun _ => hj) (fun z => absurd z (by decide)) (fun z => absurd z (by decide)) (fun z => absurd z (by decide)) (fun z => absurd z (by decide)) (fun _ => hn) (fun z => absurd z (by decide)) (fun z => absurd z (by decide)) (fun z => absurd z (by decide)) (fun z => absurd z (by decide))
theorem RR_6 {σ μ σ' μ' : St_} (h : RR_ σ μ) (hc : ∀ o i, rcj_ 6 o i → σ'.1 o i = σ.1 o i) (hm : ∀ o i, rmj_ 6 o i → μ'.1 o i = μ.1 o i) (hj : ∀ i, μ'.2.1 226 i = μ.2.1 226 i) (hn : RN_ σ' μ') : RR_ σ' μ' := RR_k (fun k => k = 6) h (fun o i z => hc o i (rrC_j z)) (fun o i z => hm o i (rrM_j z)) (fun _ => hj) (fun z => absurd z (by decide)) (fun z => absurd z (by decide)) (fun z => absurd z (by decide)) (fun z => absurd z (by decide)) (fun z => absurd z (by decide)) (fun _ => hn) (fun z => absurd z (by decide)) (fun z => absurd z (by decide)) (fun z => absurd z (by decide))
theorem RR_7 {σ μ σ' μ' : St_} (h : RR_ σ μ) (hc : ∀ o i, rcj_ 7 o i → σ'.1 o i = σ.1 o i) (hm : ∀ o i, rmj_ 7 o i → μ'.1 o i = μ.1 o i) (hj : ∀ i, μ'.2.1 226 i = μ.2.1 226 i) (hn : RQ_ σ' μ') : RR_ σ' μ' := RR_k (fun k => k = 7) h (fun o i z => hc o i (rrC_j z)) (fun o i z => hm o i (rrM_j z)) (fun _ => hj) (fun z => absurd z (by decide)) (fun z => absurd z (by decide)) (fun z => absurd z (by decide)) (fun z => absurd z (by decide)) (fun z => absurd z (by decide)) (fun z => absurd z (by decide)) (fun _ => hn) (fun z => absurd z (by decide)) (fun z => absurd z (by decide))
theorem RR_8 {σ μ σ' μ' : St_} (h : RR_ σ μ) (hc : ∀ o i, rcj_ 8 o i → σ'.1 o i = σ.1 o i) (hm : ∀ o i, rmj_ 8 o i → μ'.1 o i = μ.1 o i) (hj : ∀ i, μ'.2.1 226 i = μ.2.1 226 i) (hn : R91_ σ') : RR_ σ' μ' := RR_k (fun k => k = 8) h (fun o i z => hc o i (rrC_j z)) (fun o i z => hm o i (rrM_j z)) (fun _ => hj) (fun z => absurd z (by decide)) (fun z => absurd z (by decide)) (fun z => absurd z (by decide)) (fun z => absurd z (by decide)) (fun z => absurd z (by decide)) (fun z => absurd z (by decide)) (fun z => absurd z (by decide)) (fun _ => hn) (fun z => absurd z (by decide))
theorem RR_9 {σ μ σ' μ' : St_} (h : RR_ σ μ) (hc : ∀ o i, rcj_ 9 o i → σ'.1 o i = σ.1 o i) (hm : ∀ o i, rmj_ 9 o i → μ'.1 o i = μ.1 o i) (hn : KE_ σ' μ' 0 ∧ KE_ σ' μ' 1) : RR_ σ' μ' := RR_k (fun k => k = 9) h (fun o i z => hc o i (rrC_j z)) (fun o i z => hm o i (rrM_j z)) (fun z => absurd rfl z) (fun z => absurd z (by decide)) (fun z => absurd z (by decide)) (fun z => absurd z (by decide)) (fun z => absurd z (by decide)) (fun z => absurd z (by decide)) (fun z => absurd z (by decide)) (fun z => absurd z (by decide)) (fun z => absurd z (by decide)) (fun _ => hn)
section ST
variable {σ μ : St_}
/-- both answer alike, and the relation holds behind it -/
def Stp_ (σ μ : St_) (f g : St_ → Option Out_) : Prop := ∃ v σ' μ', f σ = some (some (.int v), σ') ∧ g μ = some (some (.int v), μ') ∧ G_r σ' (ly_ μ')
theorem ly_0 (μ : St_) : ly_ (sI_ μ 219 0 (nI 0)) = ly_ μ := by
  unfold ly_
  rw [sI_twice]
theorem st_look {f g : St_ → Option Out_} (h : G_r σ (ly_ μ)) {v : Int32} (h1 : f σ = some (some (.int v), σ)) (h2 : g μ = some (some (.int v), sI_ μ 219 0 (nI 0))) : Stp_ σ μ f g := ⟨v, σ, _, h1, h2, by rw [ly_0]; exact h⟩
theorem st_laid {f g : St_ → Option Out_} (h : G_r σ (ly_ μ)) {v : Int32} (h1 : f σ = some (some (.int v), σ)) (h2 : g μ = some (some (.int v), ly_ μ)) : Stp_ σ μ f g := ⟨v, σ, _, h1, h2, G_laid h (ly_21 μ)⟩
theorem st_fault (h : G_r σ (ly_ μ)) : Stp_ σ μ (f_X11_fault KC [.ref 0]) (f_X12_fault KC [.ref 219]) := by
  obtain ⟨b, b', p, p', s, s', B, P, a, n, t, hob, hnow, hse, hta, hrr⟩ := id h
  obtain ⟨v, q1, q2⟩ := fault_both (σ := σ) (μ := μ) (by rw [← ly_out μ (by omega) (by omega)]; exact hrr.2.1)
  exact st_look h q1 q2
theorem st_why (h : G_r σ (ly_ μ)) : Stp_ σ μ (f_X11_why KC [.ref 0]) (f_X12_why KC [.ref 219]) := by
  obtain ⟨b, b', p, p', s, s', B, P, a, n, t, hob, hnow, hse, hta, hrr⟩ := id h
  obtain ⟨v, q1, q2⟩ := why_both (σ := σ) (μ := μ) (by rw [← ly_out μ (by omega) (by omega)]; exact hrr.2.2.2.1)
  exact st_look h q1 q2
theorem st_bestOf (h : G_r σ (ly_ μ)) (x1 : Int32) : Stp_ σ μ (f_X11_bestOf KC [.ref 0, .int x1]) (f_X12_bestOf KC [.ref 219, .int x1]) := by
  obtain ⟨b, b', p, p', s, s', B, P, a, n, t, hob, hnow, hse, hta, hrr⟩ := id h
  obtain ⟨N, n1, n2, n3, n4⟩ := hrr.2.2.2.2.2.1
  have hr : RB_ σ μ := ⟨N, n1, n2, by rw [← ly_out μ (by omega) (by omega)]; exact n3, fun i hi => by rw [← ly_out μ (by omega) (by omega)]; exact n4 i hi⟩
  obtain ⟨v, q1, q2⟩ := bestOf_both hr x1
  exact st_look h q1 q2
theorem st_cutAt (h : G_r σ (ly_ μ)) (x1 : Int32) : Stp_ σ μ (f_X11_cutAt KC [.ref 0, .int x1]) (f_X12_cutAt KC [.ref 219, .int x1]) := by
  obtain ⟨b, b', p, p', s, s', B, P, a, n, t, hob, hnow, hse, hta, hrr⟩ := id h
  obtain ⟨N, n1, n2, n3, n4⟩ := hrr.2.2.2.2.1
  have hr : RC_ σ μ := ⟨N, n1, n2, by rw [← ly_out μ (by omega) (by omega)]; exact n3, fun i hi => by rw [← ly_out μ (by omega) (by omega)]; exact n4 i hi⟩
  obtain ⟨v, q1, q2⟩ := cutAt_both hr x1
  exact st_look h q1 q2
theorem st_chainAt (h : G_r σ (ly_ μ)) (x1 : Int32) : Stp_ σ μ (f_X11_chainAt KC [.ref 0, .int x1]) (f_X12_chainAt KC [.ref 219, .int x1]) := by
  obtain ⟨b, b', p, p', s, s', B, P, a, n, t, hob, hnow, hse, hta, hrr⟩ := id h
  obtain ⟨N, n1, n2, n3, n4⟩ := hrr.2.2.2.2.2.2.1
  have hr : RH_ σ μ := ⟨N, n1, n2, by rw [← ly_out μ (by omega) (by omega)]; exact n3, fun i hi => by rw [← ly_out μ (by omega) (by omega)]; exact n4 i hi⟩
  obtain ⟨v, q1, q2⟩ := chainAt_both hr x1
  exact st_look h q1 q2
theorem st_netSide (h : G_r σ (ly_ μ)) : Stp_ σ μ (f_X11_netSide KC [.ref 0]) (f_X12_netSide KC [.ref 219]) := by
  obtain ⟨b, b', p, p', s, s', B, P, a, n, t, hob, hnow, hse, hta, hrr⟩ := id h
  obtain ⟨v, q1, q2⟩ := netSide_both (σ := σ) (μ := μ) (by rw [← ly_out μ (by omega) (by omega)]; exact hrr.2.2.2.2.2.2.2.1)
  exact st_look h q1 q2
theorem st_asked (h : G_r σ (ly_ μ)) : Stp_ σ μ (f_X11_asked KC [.ref 0]) (f_X12_asked KC [.ref 219]) := by
  obtain ⟨b, b', p, p', s, s', B, P, a, n, t, hob, hnow, hse, hta, hrr⟩ := id h
  obtain ⟨v, q1, q2⟩ := asked_both (σ := σ) (μ := μ) (by rw [← ly_out μ (by omega) (by omega)]; exact hrr.2.2.2.2.2.2.2.2.1)
  exact st_look h q1 q2
theorem st_leans (h : G_r σ (ly_ μ)) (x1 x2 : Int32) : Stp_ σ μ (f_X11_leans KC [.ref 0, .int x1, .int x2]) (f_X12_leans KC [.ref 219, .int x1, .int x2]) := by
  obtain ⟨b, b', p, p', s, s', B, P, a, n, t, hob, hnow, hse, hta, hrr⟩ := id h
  obtain ⟨⟨hB, hP, h12, h14⟩, ⟨hC, hp, hr⟩, hx, hpm, ho⟩ := id hnow
  obtain ⟨v, q1, q2⟩ := leans_both hB h12 hC (LY_ly μ) hx x1 x2
  exact st_laid h q1 q2
theorem st_seen (h : G_r σ (ly_ μ)) (x1 x2 : Int32) : Stp_ σ μ (f_X11_seen KC [.ref 0, .int x1, .int x2]) (f_X12_seen KC [.ref 219, .int x1, .int x2]) := by
  obtain ⟨b, b', p, p', s, s', B, P, a, n, t, hob, hnow, hse, hta, hrr⟩ := id h
  obtain ⟨⟨hB, hP, h12, h14⟩, ⟨hC, hp, hr⟩, hx, hpm, ho⟩ := id hnow
  obtain ⟨v, q1, q2⟩ := seen_both hB h12 hC (LY_ly μ) hx x1 x2
  exact st_laid h q1 q2
theorem st_count (h : G_r σ (ly_ μ)) (x1 : Int32) : Stp_ σ μ (f_X11_count KC [.ref 0, .int x1]) (f_X12_count KC [.ref 219, .int x1]) := by
  obtain ⟨b, b', p, p', s, s', B, P, a, n, t, hob, hnow, hse, hta, hrr⟩ := id h
  obtain ⟨v, q1, q2⟩ := count_both hnow (LY_ly μ) hta x1
  exact st_laid h q1 q2
theorem st_run (h : G_r σ (ly_ μ)) : Stp_ σ μ (f_X11_run KC [.ref 0]) (f_X12_run KC [.ref 219]) := by
  obtain ⟨b, b', p, p', s, s', B, P, a, n, t, hob, hnow, hse, hta, hrr⟩ := id h
  obtain ⟨⟨iB, iB'⟩, ⟨iP, iP'⟩, ⟨iS, iS'⟩, hlt⟩ := OB_is hob
  have ob := hob.1
  obtain ⟨⟨hB, hP, h12, h14⟩, ⟨hC, hp, hr⟩, hx, hpm, ho⟩ := id hnow
  obtain ⟨v, σ', μ', q1, q2, f1, f2, g1, g2, g3⟩ := run_both hnow (LY_ly μ)
  have hru : RU_ σ' b B P a := .inr ⟨g1, g2⟩
  have e21 : μ'.1 219 21 = (ly_ μ).1 219 21 := f2.2 21 (by decide)
  refine ⟨v, σ', μ', q1, q2, G_laid ⟨b, b', p, p', s, s', B, P, a, n, t, OB_k hob (fun i h1 h2 => f1.2.2.2 0 i (by omega)), NOW_k hnow (f1.2.2.2 0 12 (by omega)) (f1.2.2.2 0 14 (by omega)) (fun o o1 o2 => (f1.1.1 o (by simp; omega)).1) (fun o o1 o2 => (f1.1.1 o (by simp; omega)).1) hru (fun i _ => by rw [f2.1.1 221 (by decide)]) (fun i => by rw [f2.1.2]), SE_k hse (fun o o1 o2 => (f1.1.1 o (by simp; omega)).1) (fun i _ => by rw [f2.1.1 221 (by decide)]), TA_k hta (by rw [(f1.1.1 1 (by decide)).1]) (f1.1.1 2 (by decide)).1 (f2.2 2 (by decide)) (f2.1.1 220 (by decide)), ?_⟩ (by rw [e21]; exact ly_21 μ)⟩
  refine RR_2 hrr (fun o i z => ?_) (fun o i z => ?_) (fun i => by rw [f2.1.2]) g3
  · unfold rcj_ at z
    rw [(f1.1.1 o (by simp; omega)).1]
  · unfold rmj_ at z
    by_cases e : o = 219
    · subst e
      exact f2.2 i (by simp; omega)
    · rw [f2.1.1 o (by simp; omega)]
theorem st_known (h : G_r σ (ly_ μ)) (x1 x2 : Int32) : Stp_ σ μ (f_X11_known KC [.ref 0, .int x1, .int x2]) (f_X12_known KC [.ref 219, .int x1, .int x2]) := by
  obtain ⟨b, b', p, p', s, s', B, P, a, n, t, hob, hnow, hse, hta, hrr⟩ := id h
  obtain ⟨⟨iB, iB'⟩, ⟨iP, iP'⟩, ⟨iS, iS'⟩, hlt⟩ := OB_is hob
  have ob := hob.1
  obtain ⟨⟨hB, hP, h12, h14⟩, ⟨hC, hp, hr⟩, hx, hpm, ho⟩ := id hnow
  obtain ⟨v, σ', μ', q1, q2, f1, f2, hru, g1, g2⟩ := known_both hnow (LY_ly μ) x1 x2
  have e21 : μ'.1 219 21 = (ly_ μ).1 219 21 := f2.2 21 (by decide)
  refine ⟨v, σ', μ', q1, q2, G_laid ⟨b, b', p, p', s, s', B, P, a, n, t, OB_k hob (fun i h1 h2 => f1.2.2.2 0 i (by omega)), NOW_k hnow (f1.2.2.2 0 12 (by omega)) (f1.2.2.2 0 14 (by omega)) (fun o o1 o2 => (f1.1.1 o (by simp; omega)).1) (fun o o1 o2 => (f1.1.1 o (by simp; omega)).1) hru (fun i _ => by rw [f2.1.1 221 (by decide)]) (fun i => by rw [f2.1.2]), SE_k hse (fun o o1 o2 => (f1.1.1 o (by simp; omega)).1) (fun i _ => by rw [f2.1.1 221 (by decide)]), TA_k hta (by rw [(f1.1.1 1 (by decide)).1]) (f1.1.1 2 (by decide)).1 (f2.2 2 (by decide)) (f2.1.1 220 (by decide)), ?_⟩ (by rw [e21]; exact ly_21 μ)⟩
  refine RR_2 hrr (fun o i z => ?_) (fun o i z => ?_) (fun i => by rw [f2.1.2]) (by rw [g1, g2]; exact hrr.2.2.2.1)
  · unfold rcj_ at z
    rw [(f1.1.1 o (by simp; omega)).1]
  · unfold rmj_ at z
    by_cases e : o = 219
    · subst e
      exact f2.2 i (by simp; omega)
    · rw [f2.1.1 o (by simp; omega)]
theorem st_after (h : G_r σ (ly_ μ)) (x1 x2 : Int32) : Stp_ σ μ (f_X11_after KC [.ref 0, .int x1, .int x2]) (f_X12_after KC [.ref 219, .int x1, .int x2]) := by
  obtain ⟨b, b', p, p', s, s', B, P, a, n, t, hob, hnow, hse, hta, hrr⟩ := id h
  obtain ⟨⟨iB, iB'⟩, ⟨iP, iP'⟩, ⟨iS, iS'⟩, hlt⟩ := OB_is hob
  have ob := hob.1
  obtain ⟨⟨hB, hP, h12, h14⟩, ⟨hC, hp, hr⟩, hx, hpm, ho⟩ := id hnow
  obtain ⟨v, σ', μ', q1, q2, f1, f2, hru, g1, g2⟩ := after_both hnow (LY_ly μ) x1 x2
  have e21 : μ'.1 219 21 = (ly_ μ).1 219 21 := f2.2 21 (by decide)
  refine ⟨v, σ', μ', q1, q2, G_laid ⟨b, b', p, p', s, s', B, P, a, n, t, OB_k hob (fun i h1 h2 => f1.2.2.2 0 i (by omega)), NOW_k hnow (f1.2.2.2 0 12 (by omega)) (f1.2.2.2 0 14 (by omega)) (fun o o1 o2 => (f1.1.1 o (by simp; omega)).1) (fun o o1 o2 => (f1.1.1 o (by simp; omega)).1) hru (fun i _ => by rw [f2.1.1 221 (by decide)]) (fun i => by rw [f2.1.2]), SE_k hse (fun o o1 o2 => (f1.1.1 o (by simp; omega)).1) (fun i _ => by rw [f2.1.1 221 (by decide)]), TA_k hta (by rw [(f1.1.1 1 (by decide)).1]) (f1.1.1 2 (by decide)).1 (f2.2 2 (by decide)) (f2.1.1 220 (by decide)), ?_⟩ (by rw [e21]; exact ly_21 μ)⟩
  refine RR_2 hrr (fun o i z => ?_) (fun o i z => ?_) (fun i => by rw [f2.1.2]) (by rw [g1, g2]; exact hrr.2.2.2.1)
  · unfold rcj_ at z
    rw [(f1.1.1 o (by simp; omega)).1]
  · unfold rmj_ at z
    by_cases e : o = 219
    · subst e
      exact f2.2 i (by simp; omega)
    · rw [f2.1.1 o (by simp; omega)]
theorem st_all (h : G_r σ (ly_ μ)) (x1 : Int32) : Stp_ σ μ (f_X11_all KC [.ref 0, .int x1]) (f_X12_all KC [.ref 219, .int x1]) := by
  obtain ⟨b, b', p, p', s, s', B, P, a, n, t, hob, hnow, hse, hta, hrr⟩ := id h
  obtain ⟨⟨iB, iB'⟩, ⟨iP, iP'⟩, ⟨iS, iS'⟩, hlt⟩ := OB_is hob
  have ob := hob.1
  obtain ⟨⟨hB, hP, h12, h14⟩, ⟨hC, hp, hr⟩, hx, hpm, ho⟩ := id hnow
  obtain ⟨v, σ', μ', q1, q2, f1, f2, hru, g1, g2⟩ := all_both hnow (LY_ly μ) x1
  have e21 : μ'.1 219 21 = (ly_ μ).1 219 21 := f2.2 21 (by decide)
  refine ⟨v, σ', μ', q1, q2, G_laid ⟨b, b', p, p', s, s', B, P, a, n, t, OB_k hob (fun i h1 h2 => f1.2.2.2 0 i (by omega)), NOW_k hnow (f1.2.2.2 0 12 (by omega)) (f1.2.2.2 0 14 (by omega)) (fun o o1 o2 => (f1.1.1 o (by simp; omega)).1) (fun o o1 o2 => (f1.1.1 o (by simp; omega)).1) hru (fun i _ => by rw [f2.1.1 221 (by decide)]) (fun i => by rw [f2.1.2]), SE_k hse (fun o o1 o2 => (f1.1.1 o (by simp; omega)).1) (fun i _ => by rw [f2.1.1 221 (by decide)]), TA_k hta (by rw [(f1.1.1 1 (by decide)).1]) (f1.1.1 2 (by decide)).1 (f2.2 2 (by decide)) (f2.1.1 220 (by decide)), ?_⟩ (by rw [e21]; exact ly_21 μ)⟩
  refine RR_2 hrr (fun o i z => ?_) (fun o i z => ?_) (fun i => by rw [f2.1.2]) (by rw [g1, g2]; exact hrr.2.2.2.1)
  · unfold rcj_ at z
    rw [(f1.1.1 o (by simp; omega)).1]
  · unfold rmj_ at z
    by_cases e : o = 219
    · subst e
      exact f2.2 i (by simp; omega)
    · rw [f2.1.1 o (by simp; omega)]
theorem st_extra (h : G_r σ (ly_ μ)) (x1 : Int32) : Stp_ σ μ (f_X11_extra KC [.ref 0, .int x1]) (f_X12_extra KC [.ref 219, .int x1]) := by
  obtain ⟨b, b', p, p', s, s', B, P, a, n, t, hob, hnow, hse, hta, hrr⟩ := id h
  obtain ⟨⟨iB, iB'⟩, ⟨iP, iP'⟩, ⟨iS, iS'⟩, hlt⟩ := OB_is hob
  have ob := hob.1
  obtain ⟨⟨hB, hP, h12, h14⟩, ⟨hC, hp, hr⟩, hx, hpm, ho⟩ := id hnow
  obtain ⟨v, σ', μ', q1, q2, f1, f2, hru, g1, g2⟩ := extra_both hnow (LY_ly μ) x1
  have e21 : μ'.1 219 21 = (ly_ μ).1 219 21 := f2.2 21 (by decide)
  refine ⟨v, σ', μ', q1, q2, G_laid ⟨b, b', p, p', s, s', B, P, a, n, t, OB_k hob (fun i h1 h2 => f1.2.2.2 0 i (by omega)), NOW_k hnow (f1.2.2.2 0 12 (by omega)) (f1.2.2.2 0 14 (by omega)) (fun o o1 o2 => (f1.1.1 o (by simp; omega)).1) (fun o o1 o2 => (f1.1.1 o (by simp; omega)).1) hru (fun i _ => by rw [f2.1.1 221 (by decide)]) (fun i => by rw [f2.1.2]), SE_k hse (fun o o1 o2 => (f1.1.1 o (by simp; omega)).1) (fun i _ => by rw [f2.1.1 221 (by decide)]), TA_k hta (by rw [(f1.1.1 1 (by decide)).1]) (f1.1.1 2 (by decide)).1 (f2.2 2 (by decide)) (f2.1.1 220 (by decide)), ?_⟩ (by rw [e21]; exact ly_21 μ)⟩
  refine RR_2 hrr (fun o i z => ?_) (fun o i z => ?_) (fun i => by rw [f2.1.2]) (by rw [g1, g2]; exact hrr.2.2.2.1)
  · unfold rcj_ at z
    rw [(f1.1.1 o (by simp; omega)).1]
  · unfold rmj_ at z
    by_cases e : o = 219
    · subst e
      exact f2.2 i (by simp; omega)
    · rw [f2.1.1 o (by simp; omega)]
theorem st_said (h : G_r σ (ly_ μ)) : Stp_ σ μ (f_X11_said KC [.ref 0]) (f_X12_said KC [.ref 219]) := by
  obtain ⟨b, b', p, p', s, s', B, P, a, n, t, hob, hnow, hse, hta, hrr⟩ := id h
  obtain ⟨⟨iB, iB'⟩, ⟨iP, iP'⟩, ⟨iS, iS'⟩, hlt⟩ := OB_is hob
  have ob := hob.1
  obtain ⟨⟨hB, hP, h12, h14⟩, ⟨hC, hp, hr⟩, hx, hpm, ho⟩ := id hnow
  obtain ⟨v, σ', μ', q1, q2, f1, f2, hru, g1, g2⟩ := said_both hnow (LY_ly μ) iS hob.2.2.2.2.2.1 hse
  have e21 : μ'.1 219 21 = (ly_ μ).1 219 21 := f2.2 21 (by decide)
  refine ⟨v, σ', μ', q1, q2, G_laid ⟨b, b', p, p', s, s', B, P, a, n, t, OB_k hob (fun i h1 h2 => f1.2.2.2 0 i (by omega)), NOW_k hnow (f1.2.2.2 0 12 (by omega)) (f1.2.2.2 0 14 (by omega)) (fun o o1 o2 => (f1.1.1 o (by simp; omega)).1) (fun o o1 o2 => (f1.1.1 o (by simp; omega)).1) hru (fun i _ => by rw [f2.1.1 221 (by decide)]) (fun i => by rw [f2.1.2]), SE_k hse (fun o o1 o2 => (f1.1.1 o (by simp; omega)).1) (fun i _ => by rw [f2.1.1 221 (by decide)]), TA_k hta (by rw [(f1.1.1 1 (by decide)).1]) (f1.1.1 2 (by decide)).1 (f2.2 2 (by decide)) (f2.1.1 220 (by decide)), ?_⟩ (by rw [e21]; exact ly_21 μ)⟩
  refine RR_2 hrr (fun o i z => ?_) (fun o i z => ?_) (fun i => by rw [f2.1.2]) (by rw [g1, g2]; exact hrr.2.2.2.1)
  · unfold rcj_ at z
    rw [(f1.1.1 o (by simp; omega)).1]
  · unfold rmj_ at z
    by_cases e : o = 219
    · subst e
      exact f2.2 i (by simp; omega)
    · rw [f2.1.1 o (by simp; omega)]
theorem st_best (h : G_r σ (ly_ μ)) (x1 x2 : Int32) : Stp_ σ μ (f_X11_best KC [.ref 0, .int x1, .int x2]) (f_X12_best KC [.ref 219, .int x1, .int x2]) := by
  obtain ⟨b, b', p, p', s, s', B, P, a, n, t, hob, hnow, hse, hta, hrr⟩ := id h
  obtain ⟨⟨iB, iB'⟩, ⟨iP, iP'⟩, ⟨iS, iS'⟩, hlt⟩ := OB_is hob
  have ob := hob.1
  obtain ⟨⟨hB, hP, h12, h14⟩, ⟨hC, hp, hr⟩, hx, hpm, ho⟩ := id hnow
  obtain ⟨v, σ', μ', q1, q2, f1, f2, f3, f4⟩ := best_both hB h12 hC (LY_ly μ) hx x1 x2
  have cr : ∀ o, ¬ (99 ≤ o ∧ o ≤ 104) → σ'.1 o = σ.1 o := fun o ho => (f1.1 o (by simp; omega)).1
  have rr : ∀ o i, ¬ (99 ≤ o ∧ o ≤ 104) → σ'.2.2 o i = σ.2.2 o i := fun o i ho => by rw [(f1.1 o (by simp; omega)).2]
  have mr : ∀ o, ¬ (o = 219 ∨ (229 ≤ o ∧ o ≤ 232) ∨ (234 ≤ o ∧ o ≤ 236)) → μ'.1 o = (ly_ μ).1 o := fun o ho => f2.1 o (by simp; omega)
  have mc : ∀ f, ¬ (37 ≤ f ∧ f ≤ 40) → μ'.1 219 f = (ly_ μ).1 219 f := fun f hf => f3 f (by simp; omega)
  have ml : μ'.2.1 = (ly_ μ).2.1 := by rw [f2.2]
  refine ⟨v, σ', μ', q1, q2, G_laid ⟨b, b', p, p', s, s', B, P, a, n, t, OB_k hob (fun i h1 h2 => rr 0 i (by omega)), NOW_k hnow (rr 0 12 (by omega)) (rr 0 14 (by omega)) (fun o o1 o2 => cr o (by omega)) (fun o o1 o2 => cr o (by omega)) (RU_k hr (by rw [cr 0 (by omega)]) (rr 80 9 (by omega)) (fun o o1 o2 => cr o (by omega)) (by rw [cr 80 (by omega)]) (by rw [cr 80 (by omega)])) (fun i _ => by rw [mr 221 (by omega)]) (fun i => by rw [ml]), SE_k hse (fun o o1 o2 => cr o (by omega)) (fun i _ => by rw [mr 221 (by omega)]), TA_k hta (by rw [cr 1 (by omega)]) (cr 2 (by omega)) (mc 2 (by omega)) (mr 220 (by omega)), ?_⟩ (by rw [mc 21 (by omega)]; exact ly_21 μ)⟩
  refine RR_4 hrr (fun o i z => ?_) (fun o i z => ?_) (fun i => by rw [ml]) (f4 hrr.2.2.2.2.2.1)
  · unfold rcj_ at z
    rw [cr o (by omega)]
  · unfold rmj_ at z
    by_cases e : o = 219
    · subst e
      exact mc i (by omega)
    · rw [mr o (by omega)]
theorem st_cut (h : G_r σ (ly_ μ)) (x1 x2 : Int32) : Stp_ σ μ (f_X11_cut KC [.ref 0, .int x1, .int x2]) (f_X12_cut KC [.ref 219, .int x1, .int x2]) := by
  obtain ⟨b, b', p, p', s, s', B, P, a, n, t, hob, hnow, hse, hta, hrr⟩ := id h
  obtain ⟨⟨iB, iB'⟩, ⟨iP, iP'⟩, ⟨iS, iS'⟩, hlt⟩ := OB_is hob
  have ob := hob.1
  obtain ⟨⟨hB, hP, h12, h14⟩, ⟨hC, hp, hr⟩, hx, hpm, ho⟩ := id hnow
  obtain ⟨v, σ', μ', q1, q2, f1, f0, f2, f3, f4⟩ := cut_both hB h12 hC (LY_ly μ) hx x1 x2
  have cr : ∀ o, ¬ (105 ≤ o ∧ o ≤ 128) → σ'.1 o = σ.1 o := fun o ho => f1.1 o (by unfold cutS_; simp; omega)
  have rr : ∀ o i, o = o → σ'.2.2 o i = σ.2.2 o i := fun o i ho => by rw [f1.2]
  have mr : ∀ o, ¬ (o = 219 ∨ (237 ≤ o ∧ o ≤ 239)) → μ'.1 o = (ly_ μ).1 o := fun o ho => f2.1 o (by simp; omega)
  have mc : ∀ f, ¬ (43 ≤ f ∧ f ≤ 45) → μ'.1 219 f = (ly_ μ).1 219 f := fun f hf => f3 f (by simp; omega)
  have ml : μ'.2.1 = (ly_ μ).2.1 := by rw [f2.2]
  refine ⟨v, σ', μ', q1, q2, G_laid ⟨b, b', p, p', s, s', B, P, a, n, t, OB_k hob (fun i h1 h2 => rr 0 i (by omega)), NOW_k hnow (rr 0 12 (by omega)) (rr 0 14 (by omega)) (fun o o1 o2 => cr o (by omega)) (fun o o1 o2 => cr o (by omega)) (RU_k hr (by rw [cr 0 (by omega)]) (rr 80 9 (by omega)) (fun o o1 o2 => cr o (by omega)) (by rw [cr 80 (by omega)]) (by rw [cr 80 (by omega)])) (fun i _ => by rw [mr 221 (by omega)]) (fun i => by rw [ml]), SE_k hse (fun o o1 o2 => cr o (by omega)) (fun i _ => by rw [mr 221 (by omega)]), TA_k hta (by rw [cr 1 (by omega)]) (cr 2 (by omega)) (mc 2 (by omega)) (mr 220 (by omega)), ?_⟩ (by rw [mc 21 (by omega)]; exact ly_21 μ)⟩
  refine RR_3 hrr (fun o i z => ?_) (fun o i z => ?_) (fun i => by rw [ml]) (f4 hrr.2.2.2.2.1)
  · unfold rcj_ at z
    by_cases e105 : o = 105
    · subst e105
      exact f0 i (by simp; omega)
    rw [cr o (by omega)]
  · unfold rmj_ at z
    by_cases e : o = 219
    · subst e
      exact mc i (by omega)
    · rw [mr o (by omega)]
theorem st_net (h : G_r σ (ly_ μ)) (x1 : Int32) : Stp_ σ μ (f_X11_net KC [.ref 0, .int x1]) (f_X12_net KC [.ref 219, .int x1]) := by
  obtain ⟨b, b', p, p', s, s', B, P, a, n, t, hob, hnow, hse, hta, hrr⟩ := id h
  obtain ⟨⟨iB, iB'⟩, ⟨iP, iP'⟩, ⟨iS, iS'⟩, hlt⟩ := OB_is hob
  have ob := hob.1
  obtain ⟨⟨hB, hP, h12, h14⟩, ⟨hC, hp, hr⟩, hx, hpm, ho⟩ := id hnow
  obtain ⟨v, σ', μ', q1, q2, ta, g1, g2, g3, f2, f3, f4⟩ := net_both hB h12 hC (LY_ly μ) hx hta x1
  have cr : ∀ o, ¬ (o = 1 ∨ o = 105) → σ'.1 o = σ.1 o := fun o ho => g1.1 o (by simp; omega)
  have rr : ∀ o i, o = o → σ'.2.2 o i = σ.2.2 o i := fun o i ho => by rw [g1.2]
  have mr : ∀ o, ¬ (o = 219) → μ'.1 o = (ly_ μ).1 o := fun o ho => f2.1 o (by simp; omega)
  have mc : ∀ f, ¬ (f = 2 ∨ f = 47) → μ'.1 219 f = (ly_ μ).1 219 f := fun f hf => f3 f (by simp; omega)
  have ml : μ'.2.1 = (ly_ μ).2.1 := by rw [f2.2]
  refine ⟨v, σ', μ', q1, q2, G_laid ⟨b, b', p, p', s, s', B, P, a, 0, t, OB_k hob (fun i h1 h2 => rr 0 i (by omega)), NOW_k hnow (rr 0 12 (by omega)) (rr 0 14 (by omega)) (fun o o1 o2 => cr o (by omega)) (fun o o1 o2 => cr o (by omega)) (RU_k hr (by rw [cr 0 (by omega)]) (rr 80 9 (by omega)) (fun o o1 o2 => cr o (by omega)) (by rw [cr 80 (by omega)]) (by rw [cr 80 (by omega)])) (fun i _ => by rw [mr 221 (by omega)]) (fun i => by rw [ml]), SE_k hse (fun o o1 o2 => cr o (by omega)) (fun i _ => by rw [mr 221 (by omega)]), ta, ?_⟩ (by rw [mc 21 (by omega)]; exact ly_21 μ)⟩
  refine RR_6 hrr (fun o i z => ?_) (fun o i z => ?_) (fun i => by rw [ml]) (f4 hrr.2.2.2.2.2.2.2.1)
  · unfold rcj_ at z
    by_cases e1 : o = 1
    · subst e1
      exact g2 i (by simp; omega)
    by_cases e105 : o = 105
    · subst e105
      exact g3 i (by simp; omega)
    rw [cr o (by omega)]
  · unfold rmj_ at z
    by_cases e : o = 219
    · subst e
      exact mc i (by omega)
    · rw [mr o (by omega)]
theorem st_chain (h : G_r σ (ly_ μ)) : Stp_ σ μ (f_X11_chain KC [.ref 0]) (f_X12_chain KC [.ref 219]) := by
  obtain ⟨b, b', p, p', s, s', B, P, a, n, t, hob, hnow, hse, hta, hrr⟩ := id h
  obtain ⟨⟨iB, iB'⟩, ⟨iP, iP'⟩, ⟨iS, iS'⟩, hlt⟩ := OB_is hob
  have ob := hob.1
  obtain ⟨⟨hB, hP, h12, h14⟩, ⟨hC, hp, hr⟩, hx, hpm, ho⟩ := id hnow
  obtain ⟨v, σ', μ', q1, q2, ta, g1, g2, f2, f3, f4⟩ := chain_both hB h12 hC (LY_ly μ) hx hta
  have cr : ∀ o, ¬ (o = 1 ∨ (129 ≤ o ∧ o ≤ 132)) → σ'.1 o = σ.1 o := fun o ho => (g1.1 o (by simp; omega)).1
  have rr : ∀ o i, ¬ (o = 1 ∨ (129 ≤ o ∧ o ≤ 132)) → σ'.2.2 o i = σ.2.2 o i := fun o i ho => by rw [(g1.1 o (by simp; omega)).2]
  have mr : ∀ o, ¬ (o = 219 ∨ (240 ≤ o ∧ o ≤ 243)) → μ'.1 o = (ly_ μ).1 o := fun o ho => f2.1 o (by simp; omega)
  have mc : ∀ f, ¬ (f = 2 ∨ (52 ≤ f ∧ f ≤ 54)) → μ'.1 219 f = (ly_ μ).1 219 f := fun f hf => f3 f (by simp; omega)
  have ml : μ'.2.1 = (ly_ μ).2.1 := by rw [f2.2]
  refine ⟨v, σ', μ', q1, q2, G_laid ⟨b, b', p, p', s, s', B, P, a, 0, t, OB_k hob (fun i h1 h2 => rr 0 i (by omega)), NOW_k hnow (rr 0 12 (by omega)) (rr 0 14 (by omega)) (fun o o1 o2 => cr o (by omega)) (fun o o1 o2 => cr o (by omega)) (RU_k hr (by rw [cr 0 (by omega)]) (rr 80 9 (by omega)) (fun o o1 o2 => cr o (by omega)) (by rw [cr 80 (by omega)]) (by rw [cr 80 (by omega)])) (fun i _ => by rw [mr 221 (by omega)]) (fun i => by rw [ml]), SE_k hse (fun o o1 o2 => cr o (by omega)) (fun i _ => by rw [mr 221 (by omega)]), ta, ?_⟩ (by rw [mc 21 (by omega)]; exact ly_21 μ)⟩
  refine RR_5 hrr (fun o i z => ?_) (fun o i z => ?_) (fun i => by rw [ml]) (f4 hrr.2.2.2.2.2.2.1)
  · unfold rcj_ at z
    by_cases e1 : o = 1
    · subst e1
      exact g2 i (by simp; omega)
    rw [cr o (by omega)]
  · unfold rmj_ at z
    by_cases e : o = 219
    · subst e
      exact mc i (by omega)
    · rw [mr o (by omega)]
theorem st_ask (h : G_r σ (ly_ μ)) : Stp_ σ μ (f_X11_ask KC [.ref 0]) (f_X12_ask KC [.ref 219]) := by
  obtain ⟨b, b', p, p', s, s', B, P, a, n, t, hob, hnow, hse, hta, hrr⟩ := id h
  obtain ⟨⟨iB, iB'⟩, ⟨iP, iP'⟩, ⟨iS, iS'⟩, hlt⟩ := OB_is hob
  have ob := hob.1
  obtain ⟨⟨hB, hP, h12, h14⟩, ⟨hC, hp, hr⟩, hx, hpm, ho⟩ := id hnow
  obtain ⟨v, σ', μ', q1, q2, ta, ⟨g1, g2, g3, g4, g5, g6⟩, ⟨f2, f3⟩, hru, f4⟩ := ask_both hnow (LY_ly μ) hta
  have cr : ∀ o, ¬ (o = 0 ∨ o = 1 ∨ (80 ≤ o ∧ o ≤ 84) ∨ o = 133 ∨ o = 136) → σ'.1 o = σ.1 o := fun o ho => (g1.1 o (by simp; omega)).1
  have rr : ∀ o i, ¬ (o = 80 ∧ i = 9) → σ'.2.2 o i = σ.2.2 o i := fun o i ho => g6 o i ho
  have mr : ∀ o, ¬ (o = 219 ∨ (229 ≤ o ∧ o ≤ 232)) → μ'.1 o = (ly_ μ).1 o := fun o ho => f2.1 o (by simp; omega)
  have mc : ∀ f, ¬ (f = 2 ∨ f = 29 ∨ f = 30 ∨ f = 56) → μ'.1 219 f = (ly_ μ).1 219 f := fun f hf => f3 f (by simp; omega)
  have ml : μ'.2.1 = (ly_ μ).2.1 := by rw [f2.2]
  refine ⟨v, σ', μ', q1, q2, G_laid ⟨b, b', p, p', s, s', B, P, a, 0, t, OB_k hob (fun i h1 h2 => rr 0 i (by omega)), NOW_k hnow (rr 0 12 (by omega)) (rr 0 14 (by omega)) (fun o o1 o2 => cr o (by omega)) (fun o o1 o2 => cr o (by omega)) (hru) (fun i _ => by rw [mr 221 (by omega)]) (fun i => by rw [ml]), SE_k hse (fun o o1 o2 => cr o (by omega)) (fun i _ => by rw [mr 221 (by omega)]), ta, ?_⟩ (by rw [mc 21 (by omega)]; exact ly_21 μ)⟩
  refine RR_7 hrr (fun o i z => ?_) (fun o i z => ?_) (fun i => by rw [ml]) (f4 hrr.2.2.2.2.2.2.2.2.1)
  · unfold rcj_ at z
    by_cases e0 : o = 0
    · subst e0
      exact g2 i (by simp; omega)
    by_cases e1 : o = 1
    · subst e1
      exact g3 i (by simp; omega)
    rw [cr o (by omega)]
  · unfold rmj_ at z
    by_cases e : o = 219
    · subst e
      exact mc i (by omega)
    · rw [mr o (by omega)]
theorem st_leave (h : G_r σ (ly_ μ)) (x1 : Int32) : Stp_ σ μ (f_X11_leave KC [.ref 0, .int x1]) (f_X12_leave KC [.ref 219, .int x1]) := by
  obtain ⟨b, b', p, p', s, s', B, P, a, n, t, hob, hnow, hse, hta, hrr⟩ := id h
  obtain ⟨⟨iB, iB'⟩, ⟨iP, iP'⟩, ⟨iS, iS'⟩, hlt⟩ := OB_is hob
  have ob := hob.1
  obtain ⟨⟨hB, hP, h12, h14⟩, ⟨hC, hp, hr⟩, hx, hpm, ho⟩ := id hnow
  obtain ⟨v, σ', μ', q1, q2, g1, g2, g3, f2⟩ := leave_both hB h12 hC (LY_ly μ) hx x1
  have cr : ∀ o, ¬ (o = 133 ∨ o = 137 ∨ o = 138) → σ'.1 o = σ.1 o := fun o ho => (g1.1 o (by simp; omega)).1
  have rr : ∀ o i, ¬ (o = 133 ∨ o = 137 ∨ o = 138) → σ'.2.2 o i = σ.2.2 o i := fun o i ho => by rw [(g1.1 o (by simp; omega)).2]
  have mr : ∀ o, ¬ (o = 244) → μ'.1 o = (ly_ μ).1 o := fun o ho => f2.1 o (by simp; omega)
  have mc : ∀ f, f = f → μ'.1 219 f = (ly_ μ).1 219 f := fun f hf => by rw [f2.1 219 (by decide)]
  have ml : μ'.2.1 = (ly_ μ).2.1 := by rw [f2.2]
  refine ⟨v, σ', μ', q1, q2, G_laid ⟨b, b', p, p', s, s', B, P, a, n, t, OB_k hob (fun i h1 h2 => rr 0 i (by omega)), NOW_k hnow (rr 0 12 (by omega)) (rr 0 14 (by omega)) (fun o o1 o2 => cr o (by omega)) (fun o o1 o2 => cr o (by omega)) (RU_k hr (by rw [cr 0 (by omega)]) (rr 80 9 (by omega)) (fun o o1 o2 => cr o (by omega)) (by rw [cr 80 (by omega)]) (by rw [cr 80 (by omega)])) (fun i _ => by rw [mr 221 (by omega)]) (fun i => by rw [ml]), SE_k hse (fun o o1 o2 => cr o (by omega)) (fun i _ => by rw [mr 221 (by omega)]), TA_k hta (by rw [cr 1 (by omega)]) (cr 2 (by omega)) (mc 2 (by omega)) (mr 220 (by omega)), ?_⟩ (by rw [mc 21 (by omega)]; exact ly_21 μ)⟩
  refine RR_0 hrr (fun o i z => ?_) (fun o i z => ?_) (fun i => by rw [ml])
  · unfold rcj_ at z
    by_cases e133 : o = 133
    · subst e133
      exact g2 i (by simp; omega)
    rw [cr o (by omega)]
  · unfold rmj_ at z
    by_cases e : o = 219
    · subst e
      exact mc i (by omega)
    · rw [mr o (by omega)]
theorem st_ill (h : G_r σ (ly_ μ)) (x1 x2 x3 : Int32) : Stp_ σ μ (f_X11_ill KC [.ref 0, .int x1, .int x2, .int x3]) (f_X12_ill KC [.ref 219, .int x1, .int x2, .int x3]) := by
  obtain ⟨b, b', p, p', s, s', B, P, a, n, t, hob, hnow, hse, hta, hrr⟩ := id h
  obtain ⟨⟨iB, iB'⟩, ⟨iP, iP'⟩, ⟨iS, iS'⟩, hlt⟩ := OB_is hob
  have ob := hob.1
  obtain ⟨⟨hB, hP, h12, h14⟩, ⟨hC, hp, hr⟩, hx, hpm, ho⟩ := id hnow
  obtain ⟨v, σ', μ', q1, q2, g1, f2, f3⟩ := ill_both hnow (LY_ly μ) x1 x2 x3
  have cr : ∀ o, ¬ (92 ≤ o ∧ o ≤ 98) → σ'.1 o = σ.1 o := fun o ho => (g1.1 o (by simp; omega)).1
  have rr : ∀ o i, ¬ (92 ≤ o ∧ o ≤ 98) → σ'.2.2 o i = σ.2.2 o i := fun o i ho => by rw [(g1.1 o (by simp; omega)).2]
  have mr : ∀ o, ¬ (o = 219 ∨ (229 ≤ o ∧ o ≤ 232)) → μ'.1 o = (ly_ μ).1 o := fun o ho => f2.1 o (by simp; omega)
  have mc : ∀ f, ¬ (f = 57) → μ'.1 219 f = (ly_ μ).1 219 f := fun f hf => f3 f (by simp; omega)
  have ml : μ'.2.1 = (ly_ μ).2.1 := by rw [f2.2]
  refine ⟨v, σ', μ', q1, q2, G_laid ⟨b, b', p, p', s, s', B, P, a, n, t, OB_k hob (fun i h1 h2 => rr 0 i (by omega)), NOW_k hnow (rr 0 12 (by omega)) (rr 0 14 (by omega)) (fun o o1 o2 => cr o (by omega)) (fun o o1 o2 => cr o (by omega)) (RU_k hr (by rw [cr 0 (by omega)]) (rr 80 9 (by omega)) (fun o o1 o2 => cr o (by omega)) (by rw [cr 80 (by omega)]) (by rw [cr 80 (by omega)])) (fun i _ => by rw [mr 221 (by omega)]) (fun i => by rw [ml]), SE_k hse (fun o o1 o2 => cr o (by omega)) (fun i _ => by rw [mr 221 (by omega)]), TA_k hta (by rw [cr 1 (by omega)]) (cr 2 (by omega)) (mc 2 (by omega)) (mr 220 (by omega)), ?_⟩ (by rw [mc 21 (by omega)]; exact ly_21 μ)⟩
  refine RR_0 hrr (fun o i z => ?_) (fun o i z => ?_) (fun i => by rw [ml])
  · unfold rcj_ at z
    rw [cr o (by omega)]
  · unfold rmj_ at z
    by_cases e : o = 219
    · subst e
      exact mc i (by omega)
    · rw [mr o (by omega)]
theorem st_alone (h : G_r σ (ly_ μ)) (x1 x2 : Int32) : Stp_ σ μ (f_X11_alone KC [.ref 0, .int x1, .int x2]) (f_X12_alone KC [.ref 219, .int x1, .int x2]) := by
  obtain ⟨b, b', p, p', s, s', B, P, a, n, t, hob, hnow, hse, hta, hrr⟩ := id h
  obtain ⟨⟨iB, iB'⟩, ⟨iP, iP'⟩, ⟨iS, iS'⟩, hlt⟩ := OB_is hob
  have ob := hob.1
  obtain ⟨⟨hB, hP, h12, h14⟩, ⟨hC, hp, hr⟩, hx, hpm, ho⟩ := id hnow
  obtain ⟨v, σ', q1, q2, g1, g2⟩ := alone_both hB h12 hC (LY_ly μ) hx x1 x2
  have cr : ∀ o, ¬ (133 ≤ o ∧ o ≤ 135) → σ'.1 o = σ.1 o := fun o ho => g1.1 o (by simp; omega)
  refine ⟨v, σ', _, q1, q2, G_laid ⟨b, b', p, p', s, s', B, P, a, n, t, OB_k hob (fun i h1 h2 => by rw [g1.2]), NOW_k hnow (by rw [g1.2]) (by rw [g1.2]) (fun o o1 o2 => cr o (by omega)) (fun o o1 o2 => cr o (by omega)) (RU_k hr (by rw [cr 0 (by omega)]) (by rw [g1.2]) (fun o o1 o2 => cr o (by omega)) (by rw [cr 80 (by omega)]) (by rw [cr 80 (by omega)])) (fun i _ => rfl) (fun i => rfl), SE_k hse (fun o o1 o2 => cr o (by omega)) (fun i _ => rfl), TA_k hta (by rw [cr 1 (by omega)]) (cr 2 (by omega)) rfl rfl, RR_0 hrr (fun o i z => ?_) (fun _ _ _ => rfl) (fun _ => rfl)⟩ (ly_21 μ)⟩
  unfold rcj_ at z
  by_cases e133 : o = 133
  · subst e133
    exact g2 i (by simp; omega)
  rw [cr o (by omega)]
theorem st_make (h : G_r σ (ly_ μ)) (x1 x2 : Int32) : Stp_ σ μ (f_X11_make KC [.ref 0, .int x1, .int x2]) (f_X12_make KC [.ref 219, .int x1, .int x2]) := by
  obtain ⟨b, b', p, p', s, s', B, P, a, n, t, hob, hnow, hse, hta, hrr⟩ := id h
  obtain ⟨⟨iB, iB'⟩, ⟨iP, iP'⟩, ⟨iS, iS'⟩, hlt⟩ := OB_is hob
  have ob := hob.1
  obtain ⟨⟨hB, hP, h12, h14⟩, ⟨hC, hp, hr⟩, hx, hpm, ho⟩ := id hnow
  obtain ⟨v, σ', μ', P', a', q1, q2, hnow', ⟨g1, g2, g3, g4⟩, ⟨f2, f3, f4⟩⟩ := make_both hnow (LY_ly μ) hrr.2.2.2.2.2.2.2.2.2 x1 x2
  have cr : ∀ o, ¬ (o = 0 ∨ (85 ≤ o ∧ o ≤ 91) ∨ (p ≤ o ∧ o ≤ p + 4)) → σ'.1 o = σ.1 o := fun o ho => (g1.1 o (by simp; omega)).1
  have mr : ∀ o, ¬ (o = 219 ∨ o = 221 ∨ (228 ≤ o ∧ o ≤ 233)) → μ'.1 o = (ly_ μ).1 o := fun o ho => f2.1 o (by simp; omega)
  have mc : ∀ f, ¬ (f = 24 ∨ f = 33) → μ'.1 219 f = (ly_ μ).1 219 f := fun f hf => f4 f (by simp; omega)
  refine ⟨v, σ', μ', q1, q2, G_laid ⟨b, b', p, p', s, s', B, P', a', n, t, OB_k hob (fun i h1 h2 => g3 0 i (by omega) (by omega)), hnow', SE_k hse (fun o o1 o2 => cr o (by omega)) (fun i hi => f3 i (Or.inr hi)), TA_k hta (by rw [cr 1 (by omega)]) (cr 2 (by omega)) (mc 2 (by omega)) (mr 220 (by omega)), RR_8 hrr (fun o i z => ?_) (fun o i z => ?_) (fun i => by rw [f2.2]) g4⟩ (by rw [mc 21 (by omega)]; exact ly_21 μ)⟩
  · unfold rcj_ at z
    by_cases e0 : o = 0
    · subst e0
      exact g2 i (by simp; omega)
    rw [cr o (by omega)]
  · unfold rmj_ at z
    by_cases e : o = 219
    · subst e
      exact mc i (by omega)
    · rw [mr o (by omega)]
theorem st_drawn (h : G_r σ (ly_ μ)) (x1 x2 : Int32) : Stp_ σ μ (f_X11_drawn KC [.ref 0, .int x1, .int x2]) (f_X12_drawn KC [.ref 219, .int x1, .int x2]) := by
  obtain ⟨b, b', p, p', s, s', B, P, a, n, t, hob, hnow, hse, hta, hrr⟩ := id h
  obtain ⟨⟨iB, iB'⟩, ⟨iP, iP'⟩, ⟨iS, iS'⟩, hlt⟩ := OB_is hob
  have ob := hob.1
  obtain ⟨⟨hB, hP, h12, h14⟩, ⟨hC, hp, hr⟩, hx, hpm, ho⟩ := id hnow
  obtain ⟨v, σ', μ', P', a', q1, q2, hnow', ⟨g1, g2, g3⟩, f2, f3, f4⟩ := drawn_both hnow (LY_ly μ) x1 x2
  have cr : ∀ o, ¬ (o = 0 ∨ (85 ≤ o ∧ o ≤ 90) ∨ (p ≤ o ∧ o ≤ p + 4)) → σ'.1 o = σ.1 o := fun o ho => (g1.1 o (by simp; omega)).1
  have mr : ∀ o, ¬ (o = 219 ∨ o = 221 ∨ (228 ≤ o ∧ o ≤ 233)) → μ'.1 o = (ly_ μ).1 o := fun o ho => f2.1 o (by simp; omega)
  have mc : ∀ f, ¬ (f = 24 ∨ f = 33) → μ'.1 219 f = (ly_ μ).1 219 f := fun f hf => f4 f (by simp; omega)
  refine ⟨v, σ', μ', q1, q2, G_laid ⟨b, b', p, p', s, s', B, P', a', n, t, OB_k hob (fun i h1 h2 => g3 0 i (by omega) (by omega)), hnow', SE_k hse (fun o o1 o2 => cr o (by omega)) (fun i hi => f3 i (Or.inr hi)), TA_k hta (by rw [cr 1 (by omega)]) (cr 2 (by omega)) (mc 2 (by omega)) (mr 220 (by omega)), RR_8 hrr (fun o i z => ?_) (fun o i z => ?_) (fun i => by rw [f2.2]) ?_⟩ (by rw [mc 21 (by omega)]; exact ly_21 μ)⟩
  · unfold rcj_ at z
    by_cases e0 : o = 0
    · subst e0
      exact g2 i (by simp; omega)
    rw [cr o (by omega)]
  · unfold rmj_ at z
    by_cases e : o = 219
    · subst e
      exact mc i (by omega)
    · rw [mr o (by omega)]
  · intro x hx
    rw [cr 91 (by omega)]
    exact hrr.2.2.2.2.2.2.2.2.2 x hx
theorem st_image (h : G_r σ (ly_ μ)) (x1 : Int32) : Stp_ σ μ (f_X11_image KC [.ref 0, .int x1]) (f_X12_image KC [.ref 219, .int x1]) := by
  obtain ⟨b, b', p, p', s, s', B, P, a, n, t, hob, hnow, hse, hta, hrr⟩ := id h
  obtain ⟨⟨iB, iB'⟩, ⟨iP, iP'⟩, ⟨iS, iS'⟩, hlt⟩ := OB_is hob
  have ob := hob.1
  obtain ⟨⟨hB, hP, h12, h14⟩, ⟨hC, hp, hr⟩, hx, hpm, ho⟩ := id hnow
  obtain ⟨v, σ', μ', q1, q2, hke, ⟨g1, g2⟩, f2⟩ := image_both hnow (by omega) (by omega) (by omega) (LY_ly μ) iS hob.2.2.2.2.2.1 hse hrr.2.2.1.1 hrr.2.2.1.2 x1
  have cr : ∀ o, ¬ (142 ≤ o ∧ o ≤ 218) → σ'.1 o = σ.1 o := fun o ho => g1 o ho
  have mr : ∀ o, ¬ (o = 223 ∨ o = 227) → μ'.1 o = (ly_ μ).1 o := fun o ho => f2.1 o (by simp; omega)
  refine ⟨v, σ', μ', q1, q2, G_laid ⟨b, b', p, p', s, s', B, P, a, n, t, OB_k hob (fun i h1 h2 => by rw [g2]), NOW_k hnow (by rw [g2]) (by rw [g2]) (fun o o1 o2 => cr o (by omega)) (fun o o1 o2 => cr o (by omega)) (RU_k hr (by rw [cr 0 (by omega)]) (by rw [g2]) (fun o o1 o2 => cr o (by omega)) (by rw [cr 80 (by omega)]) (by rw [cr 80 (by omega)])) (fun i _ => by rw [mr 221 (by omega)]) (fun i => by rw [f2.2.1 224 (by decide)]), SE_k hse (fun o o1 o2 => cr o (by omega)) (fun i _ => by rw [mr 221 (by omega)]), TA_k hta (by rw [cr 1 (by omega)]) (cr 2 (by omega)) (by rw [mr 219 (by omega)]) (mr 220 (by omega)), RR_9 hrr (fun o i z => ?_) (fun o i z => ?_) hke⟩ (by rw [mr 219 (by omega)]; exact ly_21 μ)⟩
  · unfold rcj_ at z
    rw [cr o (by omega)]
  · unfold rmj_ at z
    rw [mr o (by omega)]
theorem st_restore (h : G_r σ (ly_ μ)) (x1 : Int32) : Stp_ σ μ (f_X11_restore KC [.ref 0, .int x1]) (f_X12_restore KC [.ref 219, .int x1]) := by
  obtain ⟨b, b', p, p', s, s', B, P, a, n, t, hob, hnow, hse, hta, hrr⟩ := id h
  obtain ⟨⟨iB, iB'⟩, ⟨iP, iP'⟩, ⟨iS, iS'⟩, hlt⟩ := OB_is hob
  have ob := hob.1
  obtain ⟨⟨hB, hP, h12, h14⟩, ⟨hC, hp, hr⟩, hx, hpm, ho⟩ := id hnow
  obtain ⟨v, σ', μ', q1, q2, hv⟩ := restore_both hnow (by omega) (by omega) (by omega) (LY_ly μ) iS hob.2.2.2.2.2.1 hrr.2.2.1.1 hrr.2.2.1.2 x1
  rcases hv with ⟨rfl, rfl⟩ | ⟨⟨B', P', a', hn, hs'⟩, ⟨g1, g3, g2⟩, f2⟩
  · exact st_laid h q1 q2
  have cr : ∀ o, ¬ (o = 0 ∨ (b ≤ o ∧ o ≤ b + 27) ∨ (p ≤ o ∧ o ≤ p + 4) ∨ (s ≤ o ∧ o ≤ s + 4)) → σ'.1 o = σ.1 o := fun o ho => g1 o (by omega) (by omega) (by omega) (by omega)
  have mr : ∀ o, ¬ (o = 221) → μ'.1 o = (ly_ μ).1 o := fun o ho => f2.1 o (by simp; omega)
  refine ⟨v, σ', μ', q1, q2, G_laid ⟨b, b', p, p', s, s', B', P', a', n, t, OB_k hob (fun i h1 h2 => by rw [g2]), hn, hs', TA_k hta (by rw [cr 1 (by omega)]) (cr 2 (by omega)) (by rw [mr 219 (by omega)]) (mr 220 (by omega)), RR_0 hrr (fun o i z => ?_) (fun o i z => ?_) (fun i => by rw [f2.2.1 226 (by decide)])⟩ (by rw [mr 219 (by omega)]; exact ly_21 μ)⟩
  · unfold rcj_ at z
    by_cases e0 : o = 0
    · subst e0
      exact g3 i (by omega)
    rw [cr o (by omega)]
  · unfold rmj_ at z
    rw [mr o (by omega)]
end ST
