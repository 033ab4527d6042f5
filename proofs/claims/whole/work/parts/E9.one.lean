/-! both halves in one state -/
theorem G_cg {σ μ σ' μ' : St_} (h : G_r σ μ) (hc : ∀ o, o < 219 → σ'.1 o = σ.1 o ∧ σ'.2.2 o = σ.2.2 o) (hm : ∀ o, 219 ≤ o → μ'.1 o = μ.1 o ∧ μ'.2.1 o = μ.2.1 o) : G_r σ' μ' := by
  obtain ⟨b, b', p, p', s, s', B, P, a, n, t, a1, a2, a3, a4, a5⟩ := h
  obtain ⟨-, -, -, hb, hp, hs⟩ := OB_is a1
  have hr : RU_ σ' b B P a := RU_k a2.2.1.2.2 (by rw [(hc 0 (by omega)).1]) (by rw [(hc 80 (by omega)).2]) (fun o _ _ => (hc o (by omega)).1) (by rw [(hc 80 (by omega)).1]) (by rw [(hc 80 (by omega)).1])
  refine ⟨b, b', p, p', s, s', B, P, a, n, t, OB_k a1 (fun i _ _ => by rw [(hc 0 (by omega)).2]), NOW_k a2 (by rw [(hc 0 (by omega)).2]) (by rw [(hc 0 (by omega)).2]) (fun o _ _ => (hc o (by omega)).1) (fun o _ _ => (hc o (by omega)).1) hr (fun i _ => by rw [(hm 221 (by omega)).1]) (fun i => by rw [(hm 224 (by omega)).2]), SE_k a3 (fun o _ _ => (hc o (by omega)).1) (fun i _ => by rw [(hm 221 (by omega)).1]), TA_k a4 (by rw [(hc 1 (by omega)).1]) (hc 2 (by omega)).1 (by rw [(hm 219 (by omega)).1]) (hm 220 (by omega)).1, RR_k (fun _ => False) a5 (fun o i z => ?_) (fun o i z => ?_) (fun _ i => by rw [(hm 226 (by omega)).2]) (fun z => z.elim) (fun z => z.elim) (fun z => z.elim) (fun z => z.elim) (fun z => z.elim) (fun z => z.elim) (fun z => z.elim) (fun z => z.elim) (fun z => z.elim)⟩
  · have ho : o < 219 := by
      unfold rrC at z
      simp only [not_false_eq_true, true_and] at z
      omega
    rw [(hc o ho).1]
  · have ho : 219 ≤ o := by
      unfold rrM at z
      simp only [not_false_eq_true, true_and] at z
      omega
    rw [(hm o ho).1]
theorem ly_cg {μ μ' : St_} (hm : ∀ o, 219 ≤ o → μ'.1 o = μ.1 o ∧ μ'.2.1 o = μ.2.1 o) : ∀ o, 219 ≤ o → (ly_ μ').1 o = (ly_ μ).1 o ∧ (ly_ μ').2.1 o = (ly_ μ).2.1 o := fun o ho => ⟨by
    funext i
    exact ly_same (by rw [(hm 219 (by omega)).1]) (by rw [(hm o ho).1]), by rw [ly_2, ly_2]; exact (hm o ho).2⟩
/-- what holds between two calls -/
def GI_ (τ : St_) : Prop := G_r τ (ly_ τ) ∧ RO_ τ
theorem cla_t {q : Nat} (h : q < 219) : cla_ q = true := decide_eq_true h
theorem cla_f {q : Nat} (h : 219 ≤ q) : cla_ q = false := decide_eq_false (by omega)
theorem one_c {τ τ1 : St_} (h : Fm_ true τ τ1) : ∀ o, 219 ≤ o → τ1.1 o = τ.1 o ∧ τ1.2.1 o = τ.2.1 o := fun o ho => ⟨(h o (by rw [cla_f ho]; decide)).1, (h o (by rw [cla_f ho]; decide)).2.1⟩
theorem one_m {τ τ1 : St_} (h : Fm_ false τ τ1) : ∀ o, o < 219 → τ1.1 o = τ.1 o ∧ τ1.2.2 o = τ.2.2 o := fun o ho => ⟨(h o (by rw [cla_t ho]; decide)).1, (h o (by rw [cla_t ho]; decide)).2.2⟩
theorem one_step' {f g : Fn_} {as bs : List Value} {τ : St_} (hs : ∀ σ μ, G_r σ (ly_ μ) → Stp_ σ μ (f as) (g bs)) (hf : RspF_ f) (hg : RspF_ g) (ha : hkv_ true as) (hb : hkv_ false bs) (h : GI_ τ) : ∃ v τ1 τ2, f as τ = some (some (.int v), τ1) ∧ g bs τ1 = some (some (.int v), τ2) ∧ GI_ τ2 := by
  obtain ⟨v, τ1, μ', h1, -, -⟩ := hs τ τ h.1
  obtain ⟨-, r1, m1⟩ := hf true as τ _ ha h.2 h1
  obtain ⟨v2, σ2, τ2, e1, e2, e3⟩ := hs τ τ1 (G_cg h.1 (fun _ _ => ⟨rfl, rfl⟩) (ly_cg (one_c m1)))
  rw [h1] at e1
  cases e1
  obtain ⟨-, r2, m2⟩ := hg false bs τ1 _ hb r1 e2
  exact ⟨v, τ1, τ2, h1, e2, G_cg e3 (one_m m2) (fun _ _ => ⟨rfl, rfl⟩), r2⟩
theorem hk_c {as : List Value} (h : as.all (fun v => match v with | .ref _ => false | _ => true) = true) : hkv_ true (.ref 0 :: as) := hkv_r (by decide) (fun q hq => by
  have := List.all_eq_true.mp h _ hq
  cases this)
theorem hk_m {as : List Value} (h : as.all (fun v => match v with | .ref _ => false | _ => true) = true) : hkv_ false (.ref 219 :: as) := hkv_r (by decide) (fun q hq => by
  have := List.all_eq_true.mp h _ hq
  cases this)
/-- a call that may throw -/
theorem one_thr {f g : Fn_} {as bs : List Value} {T : St_ → Prop} {τ : St_} (hs : ∀ σ μ, G_r σ (ly_ μ) → Stt_ σ μ (f as) (g bs) (T σ)) (hg : RspF_ g) (hb : hkv_ false bs) (h : GI_ τ) : (∃ v τ2, f as τ = some (some (.int v), τ) ∧ g bs τ = some (some (.int v), τ2) ∧ τ2.1 219 0 = nI 0 ∧ GI_ τ2) ∨ (T τ ∧ ∃ τ2, g bs τ = some (some (.int 0), τ2) ∧ τ2.1 219 0 = nI 1 ∧ GI_ τ2) := by
  rcases hs τ τ h.1 with ⟨v, τ2, h1, h2, h3, h4⟩ | ⟨ht, τ2, h2, h3, h4⟩
  · obtain ⟨-, r2, m2⟩ := hg false bs τ _ hb h.2 h2
    exact Or.inl ⟨v, τ2, h1, h2, h3, G_cg h4 (one_m m2) (fun _ _ => ⟨rfl, rfl⟩), r2⟩
  · obtain ⟨-, r2, m2⟩ := hg false bs τ _ hb h.2 h2
    exact Or.inr ⟨ht, τ2, h2, h3, G_cg h4 (one_m m2) (fun _ _ => ⟨rfl, rfl⟩), r2⟩
theorem gs_fault {τ : St_} (h : GI_ τ) : ∃ v τ1 τ2, f_X11_fault KC [.ref 0] τ = some (some (.int v), τ1) ∧ f_X12_fault KC [.ref 219] τ1 = some (some (.int v), τ2) ∧ GI_ τ2 := one_step' (fun σ μ q => st_fault q) hh_X11_fault hh_X12_fault (hk_c rfl) (hk_m rfl) h
theorem gs_why {τ : St_} (h : GI_ τ) : ∃ v τ1 τ2, f_X11_why KC [.ref 0] τ = some (some (.int v), τ1) ∧ f_X12_why KC [.ref 219] τ1 = some (some (.int v), τ2) ∧ GI_ τ2 := one_step' (fun σ μ q => st_why q) hh_X11_why hh_X12_why (hk_c rfl) (hk_m rfl) h
theorem gs_bestOf {τ : St_} (h : GI_ τ) (x1 : Int32) : ∃ v τ1 τ2, f_X11_bestOf KC [.ref 0, .int x1] τ = some (some (.int v), τ1) ∧ f_X12_bestOf KC [.ref 219, .int x1] τ1 = some (some (.int v), τ2) ∧ GI_ τ2 := one_step' (fun σ μ q => st_bestOf q x1) hh_X11_bestOf hh_X12_bestOf (hk_c rfl) (hk_m rfl) h
theorem gs_cutAt {τ : St_} (h : GI_ τ) (x1 : Int32) : ∃ v τ1 τ2, f_X11_cutAt KC [.ref 0, .int x1] τ = some (some (.int v), τ1) ∧ f_X12_cutAt KC [.ref 219, .int x1] τ1 = some (some (.int v), τ2) ∧ GI_ τ2 := one_step' (fun σ μ q => st_cutAt q x1) hh_X11_cutAt hh_X12_cutAt (hk_c rfl) (hk_m rfl) h
theorem gs_chainAt {τ : St_} (h : GI_ τ) (x1 : Int32) : ∃ v τ1 τ2, f_X11_chainAt KC [.ref 0, .int x1] τ = some (some (.int v), τ1) ∧ f_X12_chainAt KC [.ref 219, .int x1] τ1 = some (some (.int v), τ2) ∧ GI_ τ2 := one_step' (fun σ μ q => st_chainAt q x1) hh_X11_chainAt hh_X12_chainAt (hk_c rfl) (hk_m rfl) h
theorem gs_netSide {τ : St_} (h : GI_ τ) : ∃ v τ1 τ2, f_X11_netSide KC [.ref 0] τ = some (some (.int v), τ1) ∧ f_X12_netSide KC [.ref 219] τ1 = some (some (.int v), τ2) ∧ GI_ τ2 := one_step' (fun σ μ q => st_netSide q) hh_X11_netSide hh_X12_netSide (hk_c rfl) (hk_m rfl) h
theorem gs_asked {τ : St_} (h : GI_ τ) : ∃ v τ1 τ2, f_X11_asked KC [.ref 0] τ = some (some (.int v), τ1) ∧ f_X12_asked KC [.ref 219] τ1 = some (some (.int v), τ2) ∧ GI_ τ2 := one_step' (fun σ μ q => st_asked q) hh_X11_asked hh_X12_asked (hk_c rfl) (hk_m rfl) h
theorem gs_leans {τ : St_} (h : GI_ τ) (x1 x2 : Int32) : ∃ v τ1 τ2, f_X11_leans KC [.ref 0, .int x1, .int x2] τ = some (some (.int v), τ1) ∧ f_X12_leans KC [.ref 219, .int x1, .int x2] τ1 = some (some (.int v), τ2) ∧ GI_ τ2 := one_step' (fun σ μ q => st_leans q x1 x2) hh_X11_leans hh_X12_leans (hk_c rfl) (hk_m rfl) h
theorem gs_seen {τ : St_} (h : GI_ τ) (x1 x2 : Int32) : ∃ v τ1 τ2, f_X11_seen KC [.ref 0, .int x1, .int x2] τ = some (some (.int v), τ1) ∧ f_X12_seen KC [.ref 219, .int x1, .int x2] τ1 = some (some (.int v), τ2) ∧ GI_ τ2 := one_step' (fun σ μ q => st_seen q x1 x2) hh_X11_seen hh_X12_seen (hk_c rfl) (hk_m rfl) h
theorem gs_count {τ : St_} (h : GI_ τ) (x1 : Int32) : ∃ v τ1 τ2, f_X11_count KC [.ref 0, .int x1] τ = some (some (.int v), τ1) ∧ f_X12_count KC [.ref 219, .int x1] τ1 = some (some (.int v), τ2) ∧ GI_ τ2 := one_step' (fun σ μ q => st_count q x1) hh_X11_count hh_X12_count (hk_c rfl) (hk_m rfl) h
theorem gs_run {τ : St_} (h : GI_ τ) : ∃ v τ1 τ2, f_X11_run KC [.ref 0] τ = some (some (.int v), τ1) ∧ f_X12_run KC [.ref 219] τ1 = some (some (.int v), τ2) ∧ GI_ τ2 := one_step' (fun σ μ q => st_run q) hh_X11_run hh_X12_run (hk_c rfl) (hk_m rfl) h
theorem gs_known {τ : St_} (h : GI_ τ) (x1 x2 : Int32) : ∃ v τ1 τ2, f_X11_known KC [.ref 0, .int x1, .int x2] τ = some (some (.int v), τ1) ∧ f_X12_known KC [.ref 219, .int x1, .int x2] τ1 = some (some (.int v), τ2) ∧ GI_ τ2 := one_step' (fun σ μ q => st_known q x1 x2) hh_X11_known hh_X12_known (hk_c rfl) (hk_m rfl) h
theorem gs_after {τ : St_} (h : GI_ τ) (x1 x2 : Int32) : ∃ v τ1 τ2, f_X11_after KC [.ref 0, .int x1, .int x2] τ = some (some (.int v), τ1) ∧ f_X12_after KC [.ref 219, .int x1, .int x2] τ1 = some (some (.int v), τ2) ∧ GI_ τ2 := one_step' (fun σ μ q => st_after q x1 x2) hh_X11_after hh_X12_after (hk_c rfl) (hk_m rfl) h
theorem gs_all {τ : St_} (h : GI_ τ) (x1 : Int32) : ∃ v τ1 τ2, f_X11_all KC [.ref 0, .int x1] τ = some (some (.int v), τ1) ∧ f_X12_all KC [.ref 219, .int x1] τ1 = some (some (.int v), τ2) ∧ GI_ τ2 := one_step' (fun σ μ q => st_all q x1) hh_X11_all hh_X12_all (hk_c rfl) (hk_m rfl) h
theorem gs_extra {τ : St_} (h : GI_ τ) (x1 : Int32) : ∃ v τ1 τ2, f_X11_extra KC [.ref 0, .int x1] τ = some (some (.int v), τ1) ∧ f_X12_extra KC [.ref 219, .int x1] τ1 = some (some (.int v), τ2) ∧ GI_ τ2 := one_step' (fun σ μ q => st_extra q x1) hh_X11_extra hh_X12_extra (hk_c rfl) (hk_m rfl) h
theorem gs_said {τ : St_} (h : GI_ τ) : ∃ v τ1 τ2, f_X11_said KC [.ref 0] τ = some (some (.int v), τ1) ∧ f_X12_said KC [.ref 219] τ1 = some (some (.int v), τ2) ∧ GI_ τ2 := one_step' (fun σ μ q => st_said q) hh_X11_said hh_X12_said (hk_c rfl) (hk_m rfl) h
theorem gs_best {τ : St_} (h : GI_ τ) (x1 x2 : Int32) : ∃ v τ1 τ2, f_X11_best KC [.ref 0, .int x1, .int x2] τ = some (some (.int v), τ1) ∧ f_X12_best KC [.ref 219, .int x1, .int x2] τ1 = some (some (.int v), τ2) ∧ GI_ τ2 := one_step' (fun σ μ q => st_best q x1 x2) hh_X11_best hh_X12_best (hk_c rfl) (hk_m rfl) h
theorem gs_cut {τ : St_} (h : GI_ τ) (x1 x2 : Int32) : ∃ v τ1 τ2, f_X11_cut KC [.ref 0, .int x1, .int x2] τ = some (some (.int v), τ1) ∧ f_X12_cut KC [.ref 219, .int x1, .int x2] τ1 = some (some (.int v), τ2) ∧ GI_ τ2 := one_step' (fun σ μ q => st_cut q x1 x2) hh_X11_cut hh_X12_cut (hk_c rfl) (hk_m rfl) h
theorem gs_net {τ : St_} (h : GI_ τ) (x1 : Int32) : ∃ v τ1 τ2, f_X11_net KC [.ref 0, .int x1] τ = some (some (.int v), τ1) ∧ f_X12_net KC [.ref 219, .int x1] τ1 = some (some (.int v), τ2) ∧ GI_ τ2 := one_step' (fun σ μ q => st_net q x1) hh_X11_net hh_X12_net (hk_c rfl) (hk_m rfl) h
theorem gs_chain {τ : St_} (h : GI_ τ) : ∃ v τ1 τ2, f_X11_chain KC [.ref 0] τ = some (some (.int v), τ1) ∧ f_X12_chain KC [.ref 219] τ1 = some (some (.int v), τ2) ∧ GI_ τ2 := one_step' (fun σ μ q => st_chain q) hh_X11_chain hh_X12_chain (hk_c rfl) (hk_m rfl) h
theorem gs_ask {τ : St_} (h : GI_ τ) : ∃ v τ1 τ2, f_X11_ask KC [.ref 0] τ = some (some (.int v), τ1) ∧ f_X12_ask KC [.ref 219] τ1 = some (some (.int v), τ2) ∧ GI_ τ2 := one_step' (fun σ μ q => st_ask q) hh_X11_ask hh_X12_ask (hk_c rfl) (hk_m rfl) h
theorem gs_leave {τ : St_} (h : GI_ τ) (x1 : Int32) : ∃ v τ1 τ2, f_X11_leave KC [.ref 0, .int x1] τ = some (some (.int v), τ1) ∧ f_X12_leave KC [.ref 219, .int x1] τ1 = some (some (.int v), τ2) ∧ GI_ τ2 := one_step' (fun σ μ q => st_leave q x1) hh_X11_leave hh_X12_leave (hk_c rfl) (hk_m rfl) h
theorem gs_ill {τ : St_} (h : GI_ τ) (x1 x2 x3 : Int32) : ∃ v τ1 τ2, f_X11_ill KC [.ref 0, .int x1, .int x2, .int x3] τ = some (some (.int v), τ1) ∧ f_X12_ill KC [.ref 219, .int x1, .int x2, .int x3] τ1 = some (some (.int v), τ2) ∧ GI_ τ2 := one_step' (fun σ μ q => st_ill q x1 x2 x3) hh_X11_ill hh_X12_ill (hk_c rfl) (hk_m rfl) h
theorem gs_alone {τ : St_} (h : GI_ τ) (x1 x2 : Int32) : ∃ v τ1 τ2, f_X11_alone KC [.ref 0, .int x1, .int x2] τ = some (some (.int v), τ1) ∧ f_X12_alone KC [.ref 219, .int x1, .int x2] τ1 = some (some (.int v), τ2) ∧ GI_ τ2 := one_step' (fun σ μ q => st_alone q x1 x2) hh_X11_alone hh_X12_alone (hk_c rfl) (hk_m rfl) h
theorem gs_make {τ : St_} (h : GI_ τ) (x1 x2 : Int32) : ∃ v τ1 τ2, f_X11_make KC [.ref 0, .int x1, .int x2] τ = some (some (.int v), τ1) ∧ f_X12_make KC [.ref 219, .int x1, .int x2] τ1 = some (some (.int v), τ2) ∧ GI_ τ2 := one_step' (fun σ μ q => st_make q x1 x2) hh_X11_make hh_X12_make (hk_c rfl) (hk_m rfl) h
theorem gs_drawn {τ : St_} (h : GI_ τ) (x1 x2 : Int32) : ∃ v τ1 τ2, f_X11_drawn KC [.ref 0, .int x1, .int x2] τ = some (some (.int v), τ1) ∧ f_X12_drawn KC [.ref 219, .int x1, .int x2] τ1 = some (some (.int v), τ2) ∧ GI_ τ2 := one_step' (fun σ μ q => st_drawn q x1 x2) hh_X11_drawn hh_X12_drawn (hk_c rfl) (hk_m rfl) h
theorem gs_image {τ : St_} (h : GI_ τ) (x1 : Int32) : ∃ v τ1 τ2, f_X11_image KC [.ref 0, .int x1] τ = some (some (.int v), τ1) ∧ f_X12_image KC [.ref 219, .int x1] τ1 = some (some (.int v), τ2) ∧ GI_ τ2 := one_step' (fun σ μ q => st_image q x1) hh_X11_image hh_X12_image (hk_c rfl) (hk_m rfl) h
theorem gs_restore {τ : St_} (h : GI_ τ) (x1 : Int32) : ∃ v τ1 τ2, f_X11_restore KC [.ref 0, .int x1] τ = some (some (.int v), τ1) ∧ f_X12_restore KC [.ref 219, .int x1] τ1 = some (some (.int v), τ2) ∧ GI_ τ2 := one_step' (fun σ μ q => st_restore q x1) hh_X11_restore hh_X12_restore (hk_c rfl) (hk_m rfl) h
theorem gs_feed {τ : St_} (h : GI_ τ) (x1 x2 x3 x4 x5 : Int32) : ∃ v τ1 τ2, f_X11_feed KC [.ref 0, .int x1, .int x2, .int x3, .int x4, .int x5] τ = some (some (.int v), τ1) ∧ f_X12_feed KC [.ref 219, .int x1, .int x2, .int x3, .int x4, .int x5] τ1 = some (some (.int v), τ2) ∧ GI_ τ2 := one_step' (fun σ μ q => st_feed q x1 x2 x3 x4 x5) hh_X11_feed hh_X12_feed (hk_c rfl) (hk_m rfl) h
theorem gs_end {τ : St_} (h : GI_ τ) (x1 : Int32) : ∃ v τ1 τ2, f_X11_end KC [.ref 0, .int x1] τ = some (some (.int v), τ1) ∧ f_X12_end KC [.ref 219, .int x1] τ1 = some (some (.int v), τ2) ∧ GI_ τ2 := one_step' (fun σ μ q => st_end q x1) hh_X11_end hh_X12_end (hk_c rfl) (hk_m rfl) h
theorem gs_book {τ : St_} (h : GI_ τ) : ∃ v τ1 τ2, f_X11_book KC [.ref 0] τ = some (some (.int v), τ1) ∧ f_X12_book KC [.ref 219] τ1 = some (some (.int v), τ2) ∧ GI_ τ2 := one_step' (fun σ μ q => st_book q) hh_X11_book hh_X12_book (hk_c rfl) (hk_m rfl) h
theorem gs_plan {τ : St_} (h : GI_ τ) : ∃ v τ1 τ2, f_X11_plan KC [.ref 0] τ = some (some (.int v), τ1) ∧ f_X12_plan KC [.ref 219] τ1 = some (some (.int v), τ2) ∧ GI_ τ2 := one_step' (fun σ μ q => st_plan q) hh_X11_plan hh_X12_plan (hk_c rfl) (hk_m rfl) h
theorem gs_sentence {τ : St_} (h : GI_ τ) : ∃ v τ1 τ2, f_X11_sentence KC [.ref 0] τ = some (some (.int v), τ1) ∧ f_X12_sentence KC [.ref 219] τ1 = some (some (.int v), τ2) ∧ GI_ τ2 := one_step' (fun σ μ q => st_sentence q) hh_X11_sentence hh_X12_sentence (hk_c rfl) (hk_m rfl) h
theorem gs_chap {τ : St_} (h : GI_ τ) (x1 x2 : Int32) : (∃ v τ2, f_X11_chap KC [.ref 0, .int x1, .int x2] τ = some (some (.int v), τ) ∧ f_X12_chap KC [.ref 219, .int x1, .int x2] τ = some (some (.int v), τ2) ∧ τ2.1 219 0 = nI 0 ∧ GI_ τ2) ∨ (ThC_ τ x1 x2 ∧ ∃ τ2, f_X12_chap KC [.ref 219, .int x1, .int x2] τ = some (some (.int 0), τ2) ∧ τ2.1 219 0 = nI 1 ∧ GI_ τ2) := one_thr (T := fun σ => ThC_ σ x1 x2) (fun σ μ q => st_chap q x1 x2) hh_X12_chap (hk_m rfl) h
theorem gs_reader {τ : St_} (h : GI_ τ) (x1 x2 : Int32) : (∃ v τ2, f_X11_reader KC [.ref 0, .int x1, .int x2] τ = some (some (.int v), τ) ∧ f_X12_reader KC [.ref 219, .int x1, .int x2] τ = some (some (.int v), τ2) ∧ τ2.1 219 0 = nI 0 ∧ GI_ τ2) ∨ (ThR_ τ x1 x2 ∧ ∃ τ2, f_X12_reader KC [.ref 219, .int x1, .int x2] τ = some (some (.int 0), τ2) ∧ τ2.1 219 0 = nI 1 ∧ GI_ τ2) := one_thr (T := fun σ => ThR_ σ x1 x2) (fun σ μ q => st_reader q x1 x2) hh_X12_reader (hk_m rfl) h
theorem gs_act {τ : St_} (h : GI_ τ) (x1 x2 : Int32) : (∃ v τ2, f_X11_act KC [.ref 0, .int x1, .int x2] τ = some (some (.int v), τ) ∧ f_X12_act KC [.ref 219, .int x1, .int x2] τ = some (some (.int v), τ2) ∧ τ2.1 219 0 = nI 0 ∧ GI_ τ2) ∨ (ThA_ τ x1 x2 ∧ ∃ τ2, f_X12_act KC [.ref 219, .int x1, .int x2] τ = some (some (.int 0), τ2) ∧ τ2.1 219 0 = nI 1 ∧ GI_ τ2) := one_thr (T := fun σ => ThA_ σ x1 x2) (fun σ μ q => st_act q x1 x2) hh_X12_act (hk_m rfl) h
