/-! single steps at the machine -/
section STEP
variable {p : Program} {l : Launch} {e : Env} {R : Room} {s : State} {m : MethodId} {args : Array Value} {below : List Frame} {meth : Method} {c : Code} {E : En_} {own : String} {cc : ByteArray} {nL : Nat} {ret : Option FieldType} {ws : List Cond} {cl sl : Nat} {Q : State → Prop}
theorem GW_op {pc pc1 : Nat} {lo lo1 : Lo_} {st st1 : List Value} {σ σ1 : St_} {o : Op_} (hS : Snd_ l E own cc nL ret ws R pc o) (X : Fx_ p s m args meth c E own cc nL ret ws) (hcs : cl ≤ R.cells ∧ sl ≤ R.slots) (hr : ret ≠ none) (h : ∀ k : Ct_, o k pc lo st σ = k pc1 lo1 st1 σ1) (hk : GW_ p l e R s m args below meth c E nL cl sl Q pc1 lo1 st1 σ1) : GW_ p l e R s m args below meth c E nL cl sl Q pc lo st σ := by
  have hrt : Rt_ p l e R s m args below meth c E cc ret cl sl Q (none, σ1) := fun H locs ls pc _ _ => ⟨(fun v hv => by cases hv), (fun v hv => by cases hv), fun _ _ z => absurd z hr⟩
  refine hS.2 p e s m args below meth c X cl sl Q hcs (fun a b d f => @ite _ (a = pc1 ∧ b = lo1 ∧ d = st1 ∧ f = σ1) (Classical.propDecidable _) (some (none, σ1)) none) (none, σ1) hrt (fun a b d f hz => ?_) lo st σ ?_
  · by_cases hc : a = pc1 ∧ b = lo1 ∧ d = st1 ∧ f = σ1
    · obtain ⟨rfl, rfl, rfl, rfl⟩ := hc
      exact hk
    · rw [if_neg hc] at hz
      cases hz
  · rw [h]
    exact if_pos ⟨rfl, rfl, rfl, rfl⟩
theorem GW_cl (ds : List Nat) {pc : Nat} {lo : Lo_} {st : List Value} {σ : St_} (hk : GW_ p l e R s m args below meth c E nL cl sl Q pc (clr_ ds lo) st σ) : GW_ p l e R s m args below meth c E nL cl sl Q pc lo st σ := fun H locs ls hP hS hl => hk H locs ls hP hS (hl_clr hl)
end STEP
theorem q_gR {K : Sh_} {ci f pc q z : Nat} {lo : Lo_} {r : List Value} {σ : St_} (hc : (K.1 q).1 = ci) (h : σ.2.2 q f = some z) (k : Ct_) : o_gR K ci f k pc lo (.ref q :: r) σ = k (pc + 3) lo (.ref z :: r) σ := by
  unfold o_gR
  dsimp only
  rw [if_pos hc, h]
theorem q_gI {K : Sh_} {ci f pc q : Nat} {lo : Lo_} {r : List Value} {σ : St_} (hc : (K.1 q).1 = ci) (k : Ct_) : o_gI K ci f k pc lo (.ref q :: r) σ = k (pc + 3) lo (.int (σ.1 q f) :: r) σ := by
  unfold o_gI
  dsimp only
  rw [if_pos hc]
theorem q_lald {K : Sh_} {pc q : Nat} {i : Int32} {lo : Lo_} {r : List Value} {σ : St_} (hc : (K.1 q).1 = 15 ∧ vpin_ i (K.1 q).2 = true) (k : Ct_) : o_lald K k pc lo (.int i :: .ref q :: r) σ = k (pc + 1) lo (.long (σ.2.1 q i.toNatClampNeg) :: r) σ := by
  unfold o_lald
  dsimp only
  rw [if_pos hc]
theorem q_last {K : Sh_} {pc q : Nat} {i : Int32} {x : Int64} {lo : Lo_} {r : List Value} {σ : St_} (hc : (K.1 q).1 = 15 ∧ vpin_ i (K.1 q).2 = true) (k : Ct_) : o_last K k pc lo (.long x :: .int i :: .ref q :: r) σ = k (pc + 1) lo r (sJ_ σ q i.toNatClampNeg x) := by
  unfold o_last
  dsimp only
  rw [if_pos hc]
theorem q_callV {K : Sh_} {ci na pc b : Nat} {f : Fn_} {lo : Lo_} {st r as : List Value} {σ σ1 : St_} {rv : Option Value} (hst : st.drop na = .ref b :: r) (hc : (K.1 b).1 = ci ∧ (r.map fun v => v.category).sum ≤ 8) (has : .ref b :: (st.take na).reverse = as) (hf : f as σ = some (rv, σ1)) (k : Ct_) : o_callV K ci f na k pc lo st σ = k (pc + 3) lo (rv.toList ++ r) σ1 := by
  subst has
  unfold o_callV
  rw [hst]
  dsimp only
  rw [if_pos hc, hf]
/-- one step of an evaluation that ends -/
theorem ev_inv {P : List (Nat × Op_)} {n pc : Nat} {lo : Lo_} {st : List Value} {σ : St_} {out : Out_} {o : Op_} (h : ev_ P n pc lo st σ = some out) (hp : P.lookup pc = some o) : ∃ m, o (ev_ P m) pc lo st σ = some out := by
  cases n with
  | zero => cases h
  | succ n =>
    unfold ev_ at h
    rw [hp] at h
    exact ⟨n, h⟩
theorem ThC_no {σ : St_} {x1 x2 : Int32} {out : Out_} (hT : ThC_ σ x1 x2) (hf : f_X11_chap KC [.ref 0, .int x1, .int x2] σ = some out) : False := by
  obtain ⟨b, v, ⟨hB, h12, hc⟩, hv⟩ := hT
  obtain ⟨-, n, h⟩ := fn_ev hf
  obtain ⟨n, h⟩ := ev_inv h (o := o_ald 0 1) rfl
  obtain ⟨n, h⟩ := ev_inv (P := P_X11_chap KC) (pc := 1) (lo := [some (.ref 0), some (.int x1), some (.int x2)]) (st := [.ref 0]) (o := o_gR KC 11 12) h rfl
  rw [q_gR (by decide) h12] at h
  obtain ⟨n, h⟩ := ev_inv h (o := o_ild 1 1) rfl
  obtain ⟨n, h⟩ := ev_inv (P := P_X11_chap KC) (pc := 5) (lo := [some (.ref 0), some (.int x1), some (.int x2)]) (st := [.int x1, .ref b]) (o := o_callV KC 0 (f_X0_hasChap KC) 1) h rfl
  rw [q_callV (b := b) (r := []) (as := [.ref b, .int x1]) rfl ⟨by rcases hB with rfl | rfl | rfl | rfl <;> decide, by decide⟩ rfl hc] at h
  obtain ⟨n, h⟩ := ev_inv (P := P_X11_chap KC) (pc := 8) (lo := [some (.ref 0), some (.int x1), some (.int x2)]) (st := [.int v]) (o := o_ifeq 20) h rfl
  have h : (if v = 0 then ev_ (P_X11_chap KC) n 20 [some (.ref 0), some (.int x1), some (.int x2)] [] σ else ev_ (P_X11_chap KC) n 11 [some (.ref 0), some (.int x1), some (.int x2)] [] σ) = some out := h
  have no : ∀ n, ¬ ev_ (P_X11_chap KC) n 20 [some (.ref 0), some (.int x1), some (.int x2)] [] σ = some out := fun n z => by
    obtain ⟨n, z⟩ := ev_inv z (o := o_x) rfl
    cases z
  rcases hv with hv | ⟨hv, hx⟩
  · rw [if_pos hv] at h
    exact no _ h
  · rw [if_neg hv] at h
    obtain ⟨n, h⟩ := ev_inv h (o := o_ild 2 1) rfl
    obtain ⟨n, h⟩ := ev_inv (P := P_X11_chap KC) (pc := 12) (lo := [some (.ref 0), some (.int x1), some (.int x2)]) (st := [.int x2]) (o := o_iflt 20) h rfl
    have h : (if x2 < 0 then ev_ (P_X11_chap KC) n 20 [some (.ref 0), some (.int x1), some (.int x2)] [] σ else ev_ (P_X11_chap KC) n 15 [some (.ref 0), some (.int x1), some (.int x2)] [] σ) = some out := h
    rcases hx with hx | ⟨hx, hy⟩
    · rw [if_pos hx] at h
      exact no _ h
    · rw [if_neg hx] at h
      obtain ⟨n, h⟩ := ev_inv h (o := o_ild 2 1) rfl
      obtain ⟨n, h⟩ := ev_inv (P := P_X11_chap KC) (pc := 16) (lo := [some (.ref 0), some (.int x1), some (.int x2)]) (st := [.int x2]) (o := o_ic 3 1) h rfl
      obtain ⟨n, h⟩ := ev_inv (P := P_X11_chap KC) (pc := 17) (lo := [some (.ref 0), some (.int x1), some (.int x2)]) (st := [.int 3, .int x2]) (o := o_cmple 28) h rfl
      have h : (if x2 ≤ 3 then ev_ (P_X11_chap KC) n 28 [some (.ref 0), some (.int x1), some (.int x2)] [] σ else ev_ (P_X11_chap KC) n 20 [some (.ref 0), some (.int x1), some (.int x2)] [] σ) = some out := h
      rw [if_neg hy] at h
      exact no _ h
theorem ThR_no {σ : St_} {x1 x2 : Int32} {out : Out_} (hT : ThR_ σ x1 x2) (hf : f_X11_reader KC [.ref 0, .int x1, .int x2] σ = some out) : False := by
  obtain ⟨b, v, ⟨hB, h12, hc⟩, hv⟩ := hT
  obtain ⟨-, n, h⟩ := fn_ev hf
  obtain ⟨n, h⟩ := ev_inv h (o := o_ald 0 1) rfl
  obtain ⟨n, h⟩ := ev_inv (P := P_X11_reader KC) (pc := 1) (lo := [some (.ref 0), some (.int x1), some (.int x2)]) (st := [.ref 0]) (o := o_gR KC 11 12) h rfl
  rw [q_gR (by decide) h12] at h
  obtain ⟨n, h⟩ := ev_inv h (o := o_ild 1 1) rfl
  obtain ⟨n, h⟩ := ev_inv (P := P_X11_reader KC) (pc := 5) (lo := [some (.ref 0), some (.int x1), some (.int x2)]) (st := [.int x1, .ref b]) (o := o_callV KC 0 (f_X0_hasReader KC) 1) h rfl
  rw [q_callV (b := b) (r := []) (as := [.ref b, .int x1]) rfl ⟨by rcases hB with rfl | rfl | rfl | rfl <;> decide, by decide⟩ rfl hc] at h
  obtain ⟨n, h⟩ := ev_inv (P := P_X11_reader KC) (pc := 8) (lo := [some (.ref 0), some (.int x1), some (.int x2)]) (st := [.int v]) (o := o_ifeq 20) h rfl
  have h : (if v = 0 then ev_ (P_X11_reader KC) n 20 [some (.ref 0), some (.int x1), some (.int x2)] [] σ else ev_ (P_X11_reader KC) n 11 [some (.ref 0), some (.int x1), some (.int x2)] [] σ) = some out := h
  have no : ∀ n, ¬ ev_ (P_X11_reader KC) n 20 [some (.ref 0), some (.int x1), some (.int x2)] [] σ = some out := fun n z => by
    obtain ⟨n, z⟩ := ev_inv z (o := o_x) rfl
    cases z
  rcases hv with hv | ⟨hv, hx⟩
  · rw [if_pos hv] at h
    exact no _ h
  · rw [if_neg hv] at h
    obtain ⟨n, h⟩ := ev_inv h (o := o_ild 2 1) rfl
    obtain ⟨n, h⟩ := ev_inv (P := P_X11_reader KC) (pc := 12) (lo := [some (.ref 0), some (.int x1), some (.int x2)]) (st := [.int x2]) (o := o_iflt 20) h rfl
    have h : (if x2 < 0 then ev_ (P_X11_reader KC) n 20 [some (.ref 0), some (.int x1), some (.int x2)] [] σ else ev_ (P_X11_reader KC) n 15 [some (.ref 0), some (.int x1), some (.int x2)] [] σ) = some out := h
    rcases hx with hx | ⟨hx, hy⟩
    · rw [if_pos hx] at h
      exact no _ h
    · rw [if_neg hx] at h
      obtain ⟨n, h⟩ := ev_inv h (o := o_ild 2 1) rfl
      obtain ⟨n, h⟩ := ev_inv (P := P_X11_reader KC) (pc := 16) (lo := [some (.ref 0), some (.int x1), some (.int x2)]) (st := [.int x2]) (o := o_ic 4 1) h rfl
      obtain ⟨n, h⟩ := ev_inv (P := P_X11_reader KC) (pc := 17) (lo := [some (.ref 0), some (.int x1), some (.int x2)]) (st := [.int 4, .int x2]) (o := o_cmple 28) h rfl
      have h : (if x2 ≤ 4 then ev_ (P_X11_reader KC) n 28 [some (.ref 0), some (.int x1), some (.int x2)] [] σ else ev_ (P_X11_reader KC) n 20 [some (.ref 0), some (.int x1), some (.int x2)] [] σ) = some out := h
      rw [if_neg hy] at h
      exact no _ h
theorem ThA_no {σ : St_} {x1 x2 : Int32} {out : Out_} (hT : ThA_ σ x1 x2) (hf : f_X11_act KC [.ref 0, .int x1, .int x2] σ = some out) : False := by
  obtain ⟨-, n, h⟩ := fn_ev hf
  have no : ∀ n, ¬ ev_ (P_X11_act KC) n 24 [some (.ref 0), some (.int x1), some (.int x2)] [] σ = some out := fun n z => by
    obtain ⟨n, z⟩ := ev_inv z (o := o_x) rfl
    cases z
  obtain ⟨n, h⟩ := ev_inv h (o := o_ild 1 1) rfl
  obtain ⟨n, h⟩ := ev_inv (P := P_X11_act KC) (pc := 1) (lo := [some (.ref 0), some (.int x1), some (.int x2)]) (st := [.int x1]) (o := o_iflt 24) h rfl
  have h : (if x1 < 0 then ev_ (P_X11_act KC) n 24 [some (.ref 0), some (.int x1), some (.int x2)] [] σ else ev_ (P_X11_act KC) n 4 [some (.ref 0), some (.int x1), some (.int x2)] [] σ) = some out := h
  rcases hT with hx | ⟨hx, p, ⟨hP, h14⟩, hT⟩
  · rw [if_pos hx] at h
    exact no _ h
  rw [if_neg hx] at h
  obtain ⟨n, h⟩ := ev_inv h (o := o_ild 1 1) rfl
  obtain ⟨n, h⟩ := ev_inv (P := P_X11_act KC) (pc := 5) (lo := [some (.ref 0), some (.int x1), some (.int x2)]) (st := [.int x1]) (o := o_ald 0 1) h rfl
  obtain ⟨n, h⟩ := ev_inv (P := P_X11_act KC) (pc := 6) (lo := [some (.ref 0), some (.int x1), some (.int x2)]) (st := [.ref 0, .int x1]) (o := o_gR KC 11 14) h rfl
  rw [q_gR (by decide) h14] at h
  obtain ⟨n, h⟩ := ev_inv h (o := o_gI KC 6 4) rfl
  rw [q_gI (by rcases hP with rfl | rfl | rfl | rfl <;> decide)] at h
  obtain ⟨n, h⟩ := ev_inv (P := P_X11_act KC) (pc := 12) (lo := [some (.ref 0), some (.int x1), some (.int x2)]) (st := [.int (σ.1 p 4), .int x1]) (o := o_cmpge 24) h rfl
  have h : (if σ.1 p 4 ≤ x1 then ev_ (P_X11_act KC) n 24 [some (.ref 0), some (.int x1), some (.int x2)] [] σ else ev_ (P_X11_act KC) n 15 [some (.ref 0), some (.int x1), some (.int x2)] [] σ) = some out := h
  rcases hT with hv | ⟨hv, hx⟩
  · rw [if_pos hv] at h
    exact no _ h
  · rw [if_neg hv] at h
    obtain ⟨n, h⟩ := ev_inv h (o := o_ild 2 1) rfl
    obtain ⟨n, h⟩ := ev_inv (P := P_X11_act KC) (pc := 16) (lo := [some (.ref 0), some (.int x1), some (.int x2)]) (st := [.int x2]) (o := o_iflt 24) h rfl
    have h : (if x2 < 0 then ev_ (P_X11_act KC) n 24 [some (.ref 0), some (.int x1), some (.int x2)] [] σ else ev_ (P_X11_act KC) n 19 [some (.ref 0), some (.int x1), some (.int x2)] [] σ) = some out := h
    rcases hx with hx | ⟨hx, hy⟩
    · rw [if_pos hx] at h
      exact no _ h
    · rw [if_neg hx] at h
      obtain ⟨n, h⟩ := ev_inv h (o := o_ild 2 1) rfl
      obtain ⟨n, h⟩ := ev_inv (P := P_X11_act KC) (pc := 20) (lo := [some (.ref 0), some (.int x1), some (.int x2)]) (st := [.int x2]) (o := o_ic 3 1) h rfl
      obtain ⟨n, h⟩ := ev_inv (P := P_X11_act KC) (pc := 21) (lo := [some (.ref 0), some (.int x1), some (.int x2)]) (st := [.int 3, .int x2]) (o := o_cmple 32) h rfl
      have h : (if x2 ≤ 3 then ev_ (P_X11_act KC) n 32 [some (.ref 0), some (.int x1), some (.int x2)] [] σ else ev_ (P_X11_act KC) n 24 [some (.ref 0), some (.int x1), some (.int x2)] [] σ) = some out := h
      rw [if_neg hy] at h
      exact no _ h
/-! the law's long at 246 -/
theorem G_J {τ : St_} {j : Nat} {x : Int64} (h : G_r τ (ly_ τ)) : G_r τ (ly_ (sJ_ τ 246 j x)) := by
  have e : (ly_ (sJ_ τ 246 j x)).1 = (ly_ τ).1 := by
    unfold ly_ lay_
    by_cases c : (sI_ τ 219 0 (nI 0)).1 219 21 = 0
    · rw [if_pos (show (sI_ (sJ_ τ 246 j x) 219 0 (nI 0)).1 219 21 = 0 from c), if_pos c]
      rfl
    · rw [if_neg (show ¬ (sI_ (sJ_ τ 246 j x) 219 0 (nI 0)).1 219 21 = 0 from c), if_neg c]
      rfl
  have e2 : ∀ o, o ≠ 246 → (ly_ (sJ_ τ 246 j x)).2.1 o = (ly_ τ).2.1 o := fun o ho => by
    rw [ly_2, ly_2]
    exact u2_row _ _ _ _ ho
  obtain ⟨b, b', p, p', s, s', B, P, a, n, t, a1, a2, a3, a4, a5⟩ := h
  exact ⟨b, b', p, p', s, s', B, P, a, n, t, a1, NOW_k a2 rfl rfl (fun _ _ _ => rfl) (fun _ _ _ => rfl) a2.2.1.2.2 (fun i _ => by rw [e]) (fun i => by rw [e2 224 (by decide)]), SE_k a3 (fun _ _ _ => rfl) (fun i _ => by rw [e]), TA_k a4 rfl rfl (by rw [e]) (by rw [e]), RR_k (fun _ => False) a5 (fun _ _ _ => rfl) (fun o i _ => by rw [e]) (fun _ i => by rw [e2 226 (by decide)]) (fun z => z.elim) (fun z => z.elim) (fun z => z.elim) (fun z => z.elim) (fun z => z.elim) (fun z => z.elim) (fun z => z.elim) (fun z => z.elim) (fun z => z.elim)⟩
theorem GI_J {τ : St_} {j : Nat} {x : Int64} (h : GI_ τ) : GI_ (sJ_ τ 246 j x) := ⟨G_cg (G_J h.1) (fun _ _ => ⟨rfl, rfl⟩) (fun _ _ => ⟨rfl, rfl⟩), h.2⟩
theorem sJ_246 (τ : St_) (x : Int64) : (sJ_ τ 246 0 x).2.1 246 0 = x := by
  show (if (246 : Nat) = 246 ∧ (0 : Nat) = 0 then x else τ.2.1 246 0) = x
  rw [if_pos ⟨rfl, rfl⟩]
theorem two_chap {τ : St_} (h : GI_ τ) (x1 x2 : Int32) : (∃ v, f_X11_chap KC [.ref 0, .int x1, .int x2] τ = some (some (.int v), τ) ∧ ∃ τ2, f_X12_chap KC [.ref 219, .int x1, .int x2] (sJ_ τ 246 0 v.toInt64) = some (some (.int v), τ2) ∧ τ2.1 219 0 = nI 0 ∧ τ2.2.1 246 0 = v.toInt64 ∧ GI_ τ2) ∨ (ThC_ τ x1 x2 ∧ ∃ τ2, f_X12_chap KC [.ref 219, .int x1, .int x2] τ = some (some (.int 0), τ2) ∧ τ2.1 219 0 = nI 1 ∧ GI_ τ2) := by
  rcases gs_chap h x1 x2 with ⟨v, τ2, h1, -⟩ | hT
  · refine Or.inl ⟨v, h1, ?_⟩
    have hG := G_J (j := 0) (x := v.toInt64) h.1
    rcases st_chap hG x1 x2 with ⟨v2, τ2, e1, e2, e3, e4⟩ | ⟨hT, -⟩
    · rw [h1] at e1
      cases e1
      obtain ⟨-, r2, m2⟩ := hh_X12_chap false _ (sJ_ τ 246 0 v.toInt64) _ (hk_m rfl) h.2 e2
      have hx := e2
      have m3 := one_m m2
      obtain ⟨b, b', p, p', s, s', B, P, a, n, t, -, hN, -⟩ := hG
      rcases chap_both hN x1 x2 with ⟨v3, d1, d2⟩ | ⟨hT, -⟩
      · rw [d2] at hx
        cases hx
        exact ⟨_, e2, e3, (by rw [ly_2]; exact sJ_246 _ _), G_cg e4 m3 (fun _ _ => ⟨rfl, rfl⟩), r2⟩
      · exact (ThC_no hT h1).elim
    · exact (ThC_no hT h1).elim
  · exact Or.inr hT
theorem two_reader {τ : St_} (h : GI_ τ) (x1 x2 : Int32) : (∃ v, f_X11_reader KC [.ref 0, .int x1, .int x2] τ = some (some (.int v), τ) ∧ ∃ τ2, f_X12_reader KC [.ref 219, .int x1, .int x2] (sJ_ τ 246 0 v.toInt64) = some (some (.int v), τ2) ∧ τ2.1 219 0 = nI 0 ∧ τ2.2.1 246 0 = v.toInt64 ∧ GI_ τ2) ∨ (ThR_ τ x1 x2 ∧ ∃ τ2, f_X12_reader KC [.ref 219, .int x1, .int x2] τ = some (some (.int 0), τ2) ∧ τ2.1 219 0 = nI 1 ∧ GI_ τ2) := by
  rcases gs_reader h x1 x2 with ⟨v, τ2, h1, -⟩ | hT
  · refine Or.inl ⟨v, h1, ?_⟩
    have hG := G_J (j := 0) (x := v.toInt64) h.1
    rcases st_reader hG x1 x2 with ⟨v2, τ2, e1, e2, e3, e4⟩ | ⟨hT, -⟩
    · rw [h1] at e1
      cases e1
      obtain ⟨-, r2, m2⟩ := hh_X12_reader false _ (sJ_ τ 246 0 v.toInt64) _ (hk_m rfl) h.2 e2
      have hx := e2
      have m3 := one_m m2
      obtain ⟨b, b', p, p', s, s', B, P, a, n, t, -, hN, -⟩ := hG
      rcases reader_both hN x1 x2 with ⟨v3, d1, d2⟩ | ⟨hT, -⟩
      · rw [d2] at hx
        cases hx
        exact ⟨_, e2, e3, (by rw [ly_2]; exact sJ_246 _ _), G_cg e4 m3 (fun _ _ => ⟨rfl, rfl⟩), r2⟩
      · exact (ThR_no hT h1).elim
    · exact (ThR_no hT h1).elim
  · exact Or.inr hT
theorem two_act {τ : St_} (h : GI_ τ) (x1 x2 : Int32) : (∃ v, f_X11_act KC [.ref 0, .int x1, .int x2] τ = some (some (.int v), τ) ∧ ∃ τ2, f_X12_act KC [.ref 219, .int x1, .int x2] (sJ_ τ 246 0 v.toInt64) = some (some (.int v), τ2) ∧ τ2.1 219 0 = nI 0 ∧ τ2.2.1 246 0 = v.toInt64 ∧ GI_ τ2) ∨ (ThA_ τ x1 x2 ∧ ∃ τ2, f_X12_act KC [.ref 219, .int x1, .int x2] τ = some (some (.int 0), τ2) ∧ τ2.1 219 0 = nI 1 ∧ GI_ τ2) := by
  rcases gs_act h x1 x2 with ⟨v, τ2, h1, -⟩ | hT
  · refine Or.inl ⟨v, h1, ?_⟩
    have hG := G_J (j := 0) (x := v.toInt64) h.1
    rcases st_act hG x1 x2 with ⟨v2, τ2, e1, e2, e3, e4⟩ | ⟨hT, -⟩
    · rw [h1] at e1
      cases e1
      obtain ⟨-, r2, m2⟩ := hh_X12_act false _ (sJ_ τ 246 0 v.toInt64) _ (hk_m rfl) h.2 e2
      have hx := e2
      have m3 := one_m m2
      obtain ⟨b, b', p, p', s, s', B, P, a, n, t, -, hN, -⟩ := hG
      rcases act_both' hN x1 x2 with ⟨v3, d1, d2⟩ | ⟨hT, -⟩
      · rw [d2] at hx
        cases hx
        exact ⟨_, e2, e3, (by rw [ly_2]; exact sJ_246 _ _), G_cg e4 m3 (fun _ _ => ⟨rfl, rfl⟩), r2⟩
      · exact (ThA_no hT h1).elim
    · exact (ThA_no hT h1).elim
  · exact Or.inr hT
