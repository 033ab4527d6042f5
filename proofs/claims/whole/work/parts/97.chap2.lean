def BF_ (b : Nat) (ff : List Nat) (σ σ' : St_) : Prop := (∀ o, o ≠ 1 → ¬ (b ≤ o ∧ o ≤ b + 27) → σ'.1 o = σ.1 o) ∧ σ'.2 = σ.2 ∧ (∀ f, f < 4 → σ'.1 1 f = σ.1 1 f) ∧ ∀ f, f ∉ ff → σ'.1 b f = σ.1 b f
def BM_ (ff : List Nat) (μ μ' : St_) : Prop := fm_ [219, 222] [219, 225] μ μ' ∧ ∀ f, (f < 5 ∨ 13 < f) → f ∉ ff → μ'.1 219 f = μ.1 219 f
theorem BF_tr {b : Nat} {ff : List Nat} {x y z : St_} (h : BF_ b ff x y) (h2 : BF_ b ff y z) : BF_ b ff x z := ⟨fun o h3 h4 => (h2.1 o h3 h4).trans (h.1 o h3 h4), h2.2.1.trans h.2.1, fun f hf => (h2.2.2.1 f hf).trans (h.2.2.1 f hf), fun f hf => (h2.2.2.2 f hf).trans (h.2.2.2 f hf)⟩
theorem BM_tr {ff : List Nat} {x y z : St_} (h : BM_ ff x y) (h2 : BM_ ff y z) : BM_ ff x z := ⟨fm_tr h.1 h2.1, fun f h3 h4 => (h2.2 f h3 h4).trans (h.2 f h3 h4)⟩
theorem BF_SF {b : Nat} {ff : List Nat} {x y : St_} (hb : isB b) (h : SF_ x y) : BF_ b ff x y := by
  have := isB_ge hb
  exact ⟨fun o h1 _ => h.1.1 o (by simp [h1]), h.1.2, h.2.1, fun f _ => by rw [h.1.1 b (by simp; omega)]⟩
theorem BM_MF {ff : List Nat} {x y : St_} (h : MF_ x y) : BM_ ff x y := ⟨fm_mono h.1 (fun o ho => by simp at ho; simp [ho]) (fun o ho => by simp at ho; simp [ho]), fun f hf _ => h.2 f hf⟩
theorem BF_sI {b : Nat} {ff : List Nat} {x : St_} {o i : Nat} {v : Int32} (hb : isB b) (ho : b < o ∧ o ≤ b + 27) : BF_ b ff x (sI_ x o i v) := by
  have := isB_ge hb
  exact ⟨fun a _ h2 => sI_row _ _ _ _ (fun z => h2 (by omega)), rfl, fun f _ => by rw [sI_row _ _ _ _ (show (1 : Nat) ≠ o by omega)], fun f _ => by rw [sI_row _ _ _ _ (show b ≠ o by omega)]⟩
theorem BF_sb {b : Nat} {ff : List Nat} {x : St_} {i : Nat} {v : Int32} (hb : isB b) (hi : i ∈ ff) : BF_ b ff x (sI_ x b i v) := by
  have := isB_ge hb
  exact ⟨fun a _ h2 => sI_row _ _ _ _ (fun z => h2 (by omega)), rfl, fun f _ => by rw [sI_row _ _ _ _ (show (1 : Nat) ≠ b by omega)], fun f hf => by rw [sI_at]; exact if_neg (fun z : b = b ∧ f = i => hf (z.2.symm ▸ hi))⟩
theorem BM_sI {ff : List Nat} {x : St_} {i : Nat} {v : Int32} : BM_ ff x (sI_ x 222 i v) := ⟨fm_sI (by simp), fun f _ _ => by rw [sI_row _ _ _ _ (by decide)]⟩
theorem BM_sJ {ff : List Nat} {x : St_} {i : Nat} {v : Int64} : BM_ ff x (sJ_ x 225 i v) := ⟨fm_sJ (by simp), fun f _ _ => rfl⟩
theorem BF_LF {b c0 : Nat} {ff : List Nat} {x y : St_} (hb : isB b) (hc : c0 < 16) (h : LF_ b c0 x y) : BF_ b ff x y := by
  have := isB_ge hb
  exact ⟨fun o h1 h2 => h.1.1 o (by simp; omega), h.1.2, h.2.1, fun f _ => by rw [h.1.1 b (by simp; omega)]⟩
theorem BM_LM {c0 : Nat} {ff : List Nat} {x y : St_} (h : LM_ c0 x y) : BM_ ff x y := ⟨fm_mono h.1 (fun o ho => ho) (fun o ho => by simp at ho; simp [ho]), fun f hf _ => h.2.1 f hf⟩
/-- what a BOOK's relation looks at is as it was -/
def kC_ (b : Nat) (B : Nat → Nat → Nat) (σ σ' : St_) : Prop := ∀ o i, rC_ b B o i → σ'.1 o i = σ.1 o i
def kM_ (B : Nat → Nat → Nat) (μ μ' : St_) : Prop := (∀ i, rM_ B i → μ'.1 222 i = μ.1 222 i) ∧ ∀ i, rN_ B i → μ'.2.1 225 i = μ.2.1 225 i
theorem kC_tr {b : Nat} {B : Nat → Nat → Nat} {x y z : St_} (h : kC_ b B x y) (h2 : kC_ b B y z) : kC_ b B x z := fun o i hr => (h2 o i hr).trans (h o i hr)
theorem kM_tr {B : Nat → Nat → Nat} {x y z : St_} (h : kM_ B x y) (h2 : kM_ B y z) : kM_ B x z := ⟨fun i hr => (h2.1 i hr).trans (h.1 i hr), fun i hr => (h2.2 i hr).trans (h.2 i hr)⟩
theorem kC_SF {b : Nat} {B : Nat → Nat → Nat} {x y : St_} (hb : isB b) (h : SF_ x y) : kC_ b B x y := fun o i hr => by
  have := isB_ge hb
  rw [h.1.1 o (by unfold rC_ at hr; simp; omega)]
theorem kM_MF {B : Nat → Nat → Nat} {x y : St_} (h : MF_ x y) : kM_ B x y := ⟨fun i _ => by rw [h.1.1 222 (by decide)], fun i _ => by rw [h.1.2.1 225 (by decide)]⟩
theorem kC_LF {b : Nat} {B : Nat → Nat → Nat} {x y : St_} (hb : isB b) (hc : B 0 0 < 16) (h : LF_ b (B 0 0) x y) : kC_ b B x y := fun o i hr => by
  have := isB_ge hb
  rw [h.1.1 o (by unfold rC_ at hr; simp; omega)]
theorem kM_LM {B : Nat → Nat → Nat} {x y : St_} (hO : BO_ B) (h : LM_ (B 0 0) x y) : kM_ B x y := ⟨fun i hi => by
  have := hO.1.1
  have := hO.1.2.1
  unfold rM_ at hi
  exact h.2.2 _ (by omega), fun i _ => by rw [h.1.2.1 225 (by decide)]⟩
theorem CB_k {b : Nat} {B : Nat → Nat → Nat} {x y : St_} (h : CB_ x b B) (hk : kC_ b B x y) : CB_ y b B := CB_cg h hk
theorem MB_k {B : Nat → Nat → Nat} {x y : St_} (h : MB_ x 222 0 225 0 B) (hk : kM_ B x y) : MB_ y 222 0 225 0 B := MB_cg h (fun i hi => by rw [Nat.zero_add]; exact hk.1 i hi) (fun i hi => by rw [Nat.zero_add]; exact hk.2 i hi)
theorem kC_at {b o i : Nat} {B : Nat → Nat → Nat} {x : St_} {v : Int32} (h : ¬ rC_ b B o i) : kC_ b B x (sI_ x o i v) := fun a j hr => by
  rw [sI_at, if_neg (fun z => h (by rw [← z.1, ← z.2]; exact hr))]
theorem kM_at {i : Nat} {B : Nat → Nat → Nat} {x : St_} {v : Int32} (h : ¬ rM_ B i) : kM_ B x (sI_ x 222 i v) := ⟨fun j hr => by
  rw [sI_at, if_neg (fun z => h (by rw [← z.2]; exact hr))], fun _ _ => rfl⟩
theorem kM_J {i : Nat} {B : Nat → Nat → Nat} {x : St_} {v : Int64} (h : ¬ rN_ B i) : kM_ B x (sJ_ x 225 i v) := ⟨fun _ _ => rfl, fun j hr => by
  rw [sJ_at, if_neg (fun z => h (by rw [← z.2]; exact hr))]⟩
theorem ix10 (c d : Nat) : ((10 : Int32) + (4 : Int32) * nI c) + nI d = nI (10 + 4 * c + d) := by
  rw [show (4 : Int32) = nI 4 from rfl, pk_mul, show (10 : Int32) = nI 10 from rfl, nI_add, nI_add]
theorem PR_b {σ μ : St_} {n : Nat} {t : Nat → Nat} {L κ pl e c : Nat} (h : PR_ σ μ n t L κ pl e c) {o : Nat} (ho : 4 ≤ o) (i : Nat) (x : Int32) : PR_ (sI_ σ o i x) μ n t L κ pl e c := PR_cg h (fun f _ _ => by rw [sI_row _ _ _ _ (show (1 : Nat) ≠ o by omega)]) (sI_row _ _ _ _ (by omega)) (sI_row _ _ _ _ (by omega)) (fun _ _ _ => rfl) rfl rfl
theorem PR_r {σ μ : St_} {n : Nat} {t : Nat → Nat} {L κ pl e c : Nat} (h : PR_ σ μ n t L κ pl e c) (i : Nat) (x : Int32) : PR_ σ (sI_ μ 222 i x) n t L κ pl e c := PR_cg h (fun _ _ _ => rfl) rfl rfl (fun f _ _ => by rw [sI_row _ _ _ _ (show (219 : Nat) ≠ 222 by decide)]) (sI_row _ _ _ _ (by decide)) rfl
