/-! walking a tree of evaluation: T holds of an end that is as Q wants -/
def W1_ (T : Out_ → Prop) (Q : Out_ → Prop) : Prop := ∃ o, T o ∧ Q o
section WALK
variable {T T' U A B : Out_ → Prop} {Q : Out_ → Prop}
theorem w1e (he : ∀ o, T' o → T o) (h : W1_ T' Q) : W1_ T Q := by
  obtain ⟨o, h1, h2⟩ := h
  exact ⟨o, he o h1, h2⟩
theorem w1q {Q' : Out_ → Prop} (h : W1_ T Q') (hq : ∀ o, Q' o → Q o) : W1_ T Q := by
  obtain ⟨o, h1, h2⟩ := h
  exact ⟨o, h1, hq o h2⟩
theorem w1l {X : Out_} (h : Q X) : W1_ (fun o => o = X) Q := ⟨X, rfl, h⟩
theorem w1a {p : Prop} (hp : p) (h : W1_ T Q) : W1_ (fun o => p ∧ T o) Q := by
  obtain ⟨o, h1, h2⟩ := h
  exact ⟨o, ⟨hp, h1⟩, h2⟩
theorem w1x {α : Type} {R : α → Out_ → Prop} (a : α) (h : W1_ (R a) Q) : W1_ (fun o => ∃ a, R a o) Q := by
  obtain ⟨o, h1, h2⟩ := h
  exact ⟨o, ⟨a, h1⟩, h2⟩
theorem w1c {x : Option Out_} {v : Int32} {σ' : St_} {R : Int32 → St_ → Out_ → Prop} (hf : x = some (some (.int v), σ')) (h : W1_ (R v σ') Q) : W1_ (fun o => ∃ (v : Int32) (σ' : St_), x = some (some (.int v), σ') ∧ R v σ' o) Q := by
  obtain ⟨o, h1, h2⟩ := h
  exact ⟨o, ⟨v, σ', hf, h1⟩, h2⟩
theorem w1v {x : Option Out_} {σ' : St_} {R : St_ → Out_ → Prop} (hf : x = some (none, σ')) (h : W1_ (R σ') Q) : W1_ (fun o => ∃ (σ' : St_), x = some (none, σ') ∧ R σ' o) Q := by
  obtain ⟨o, h1, h2⟩ := h
  exact ⟨o, ⟨σ', hf, h1⟩, h2⟩
theorem w1t {c : Prop} (hc : c) (h : W1_ A Q) : W1_ (fun o => (c → A o) ∧ (¬ c → B o)) Q := by
  obtain ⟨o, h1, h2⟩ := h
  exact ⟨o, ⟨fun _ => h1, fun z => absurd hc z⟩, h2⟩
theorem w1f {c : Prop} (hc : ¬ c) (h : W1_ B Q) : W1_ (fun o => (c → A o) ∧ (¬ c → B o)) Q := by
  obtain ⟨o, h1, h2⟩ := h
  exact ⟨o, ⟨fun z => absurd z hc, fun _ => h1⟩, h2⟩
theorem w1i {c p : Prop} (hi : c ↔ p) (f : p → W1_ A Q) (g : ¬ p → W1_ B Q) : W1_ (fun o => (c → A o) ∧ (¬ c → B o)) Q := by
  by_cases hp : p
  · exact w1t (hi.mpr hp) (f hp)
  · exact w1f (fun z => hp (hi.mp z)) (g hp)
theorem w1lt {x y : Int32} (a b : Nat) (f : a < b → W1_ A Q) (g : b ≤ a → W1_ B Q) (hx : x = nI a := by rfl) (hy : y = nI b := by rfl) (ha : a < 2 ^ 31 := by omega) (hb : b < 2 ^ 31 := by omega) : W1_ (fun o => (x < y → A o) ∧ (¬ x < y → B o)) Q := by
  subst hx
  subst hy
  exact w1i (nI_ltI ha hb) f (fun z => g (by omega))
theorem w1le {x y : Int32} (a b : Nat) (f : a ≤ b → W1_ A Q) (g : b < a → W1_ B Q) (hx : x = nI a := by rfl) (hy : y = nI b := by rfl) (ha : a < 2 ^ 31 := by omega) (hb : b < 2 ^ 31 := by omega) : W1_ (fun o => (x ≤ y → A o) ∧ (¬ x ≤ y → B o)) Q := by
  subst hx
  subst hy
  exact w1i (nI_leI ha hb) f (fun z => g (by omega))
theorem w1eq {x y : Int32} (a b : Nat) (f : a = b → W1_ A Q) (g : a ≠ b → W1_ B Q) (hx : x = nI a := by rfl) (hy : y = nI b := by rfl) (ha : a < 2 ^ 31 := by omega) (hb : b < 2 ^ 31 := by omega) : W1_ (fun o => (x = y → A o) ∧ (¬ x = y → B o)) Q := by
  subst hx
  subst hy
  exact w1i (nI_eq ha hb) f g
/-- of many ways: not this; this, and no other; the last -/
theorem w1n {p : Prop} (hp : ¬ p) (h : W1_ T Q) : W1_ (fun o => (p → A o) ∧ T o) Q := by
  obtain ⟨o, h1, h2⟩ := h
  exact ⟨o, ⟨fun z => absurd z hp, h1⟩, h2⟩
theorem w1y {p : Prop} (hp : p) (hr : ∀ o, T o) (h : W1_ A Q) : W1_ (fun o => (p → A o) ∧ T o) Q := by
  obtain ⟨o, h1, h2⟩ := h
  exact ⟨o, ⟨fun _ => h1, hr o⟩, h2⟩
theorem w1m {p : Prop} (hp : p) (h : W1_ A Q) : W1_ (fun o => p → A o) Q := by
  obtain ⟨o, h1, h2⟩ := h
  exact ⟨o, fun _ => h1, h2⟩
end WALK
/-- two trees: the other first -/
theorem sw_ {T U : Out_ → Prop} {Q : Out_ → Out_ → Prop} (h : W1_ U (fun u => W1_ T (fun o => Q o u))) : W1_ T (fun o => W1_ U (fun u => Q o u)) := by
  obtain ⟨u, h1, o, h2, h3⟩ := h
  exact ⟨o, h2, u, h1, h3⟩
/-- a loop that counts -/
theorem lp_ {T : Nat → St_ → Out_ → Prop} {Q : Out_ → Prop} {n : Nat} (I : Nat → St_ → Prop) (hs : ∀ i σ, i < n → I i σ → (∀ σ', I (i + 1) σ' → W1_ (T (i + 1) σ') Q) → W1_ (T i σ) Q) (he : ∀ σ, I n σ → W1_ (T n σ) Q) : ∀ i σ, i ≤ n → I i σ → W1_ (T i σ) Q := by
  have key : ∀ k i σ, i + k = n → I i σ → W1_ (T i σ) Q := by
    intro k
    induction k with
    | zero =>
      intro i σ h hi
      obtain rfl : i = n := by omega
      exact he σ hi
    | succ k ih =>
      intro i σ h hi
      exact hs i σ (by omega) hi (fun σ' h' => ih (i + 1) σ' (by omega) h')
  intro i σ h hi
  exact key (n - i) i σ (by omega) hi
