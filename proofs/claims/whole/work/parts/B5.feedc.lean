/-! feed, on both sides -/
section CP2
variable {σ μ : St_} {n : Nat} {t : Nat → Nat}
theorem tw_lt {t : Nat → Nat} (h : ∀ i, t i < 256) (n : Nat) (x : Int32) : ∀ i, tw_ t n x i < 256 := fun i => by
  unfold tw_ tu_
  have b1 := bN_lt x 24
  have b2 := bN_lt x 16
  have b3 := bN_lt x 8
  have b4 := bN_lt x 0
  have h1 := h i
  split
  · exact b4
  · split
    · exact b3
    · split
      · exact b2
      · split
        · exact b1
        · exact h1
theorem feed_both (hT : TA_ σ μ n t) (a b c d e : Int32) : ∃ v σ' μ' n' t', f_X11_feed KC [.ref 0, .int a, .int b, .int c, .int d, .int e] σ = some (some (.int v), σ') ∧ f_X12_feed KC [.ref 219, .int a, .int b, .int c, .int d, .int e] μ = some (some (.int v), μ') ∧ TA_ σ' μ' n' t' ∧ fr_ [1, 2] σ σ' ∧ NF2_ [2] 1 σ σ' ∧ fr_ [219, 220] μ μ' ∧ NF2_ [0, 2] 219 μ μ' := by
  obtain ⟨⟨hn, ht⟩, ⟨t1, t2⟩, t3, t4⟩ := hT
  obtain ⟨σ', a1, a2, a3, a4⟩ := c_feed a b c d e (show CT σ n t from ⟨t1, hn, t2⟩)
  obtain ⟨μ', b1, b2, b3, b4⟩ := m_feed a b c d e (show MT μ n t from ⟨t3, hn, t4⟩)
  have f1 : NF2_ [2] 1 σ σ' := fun f hf => a4 f (fun z => hf (by rw [z]; simp))
  have f2 : NF2_ [0, 2] 219 μ μ' := fun f hf => b4 f (fun z => hf (by rw [z]; simp)) (fun z => hf (by rw [z]; simp))
  by_cases h : n + 20 ≤ 1040
  · rw [if_pos h] at a2 b2
    exact ⟨_, σ', μ', n + 20, tf_ t n a b c d e, a1, b1, ⟨⟨h, tw_lt (tw_lt (tw_lt (tw_lt (tw_lt ht _ _) _ _) _ _) _ _) _ _⟩, ⟨a2.1, a2.2.2⟩, b2.1, b2.2.2⟩, a3, f1, b3, f2⟩
  · rw [if_neg h] at a2 b2
    exact ⟨_, σ', μ', n, t, a1, b1, ⟨⟨hn, ht⟩, ⟨a2.1, a2.2.2⟩, b2.1, b2.2.2⟩, a3, f1, b3, f2⟩
end CP2
