theorem m_skip {n : Nat} {t : Nat → Nat} (ht : ∀ i, t i < 256) : ∀ (k p : Nat) (σ : St_) (out : Out_), p + k = n → MX σ n t → σ.1 219 5 = nI p → Ev_ (P_X12_go KC) 52 [some (.ref 219), none, none, none, none] [] (sI_ σ 219 5 (nI (sk_ t k p))) out → Ev_ (P_X12_go KC) 0 [some (.ref 219), none, none, none, none] [] σ out
  | 0, p, σ, out, hp, hC, h4, h => by
    have := hC.2.1
    refine e_X12_go_0 (pk_le n p (fun _ => ?_) (fun z => by omega) hC.1 h4)
    rw [show sk_ t 0 p = p from rfl, sI_self h4] at h
    exact h
  | k + 1, p, σ, out, hp, hC, h4, h => by
    have := hC.2.1
    have hcp : Int32.toNatClampNeg (σ.1 219 5) = p := pk_cl p h4
    have hb : σ.1 220 p = nI (t p) := hC.2.2 p
    have htp := ht p
    refine e_X12_go_0 (pk_le n p (fun z => by omega) (fun _ => ⟨vpin_e p (by omega) h4, ?_⟩) hC.1 h4)
    have step : (t p = 32 ∨ t p = 10) → Ev_ (P_X12_go KC) 0 [some (.ref 219), none, none, none, none] [] (sI_ σ 219 5 (σ.1 219 5 + 1)) out := by
      intro hc
      rw [h4, nI_1]
      refine m_skip ht k (p + 1) _ out (by omega) (MX_1 hC (by decide) _) (by simp [sI_at]) ?_
      rw [sI_twice]
      rw [sk_, if_pos hc] at h
      exact h
    rw [hcp, hb]
    refine pk_eq (t p) 32 (fun z => step (Or.inl z)) (fun z1 => ⟨vpin_e p (by omega) h4, ?_⟩)
    refine pk_eq (t p) 10 (fun z => step (Or.inr z)) (fun z2 => ?_)
    rw [sk_, if_neg (by omega), sI_self h4] at h
    exact h
/-- what the reference has of a TOKEN: kind, place, end -/
def mtk_ (t : Nat → Nat) (n L q : Nat) : Int32 × Nat × Nat :=
  if L < n ∧ L ≤ q then (1, L, q)
  else if n ≤ q then (0, q, q)
  else if ¬ isL_ (t q) ∧ ¬ isD_ (t q) then (if sg_ (t q) then 4 else 1, q, q + 1)
  else (srK (rl_ (t q)) (sr_ t q (rl_ (t q)) (n - q) q 1 0 0).2.1 ((sr_ t q (rl_ (t q)) (n - q) q 1 0 0).1 - q), q, (sr_ t q (rl_ (t q)) (n - q) q 1 0 0).1)
theorem m_go {n L p : Nat} {t : Nat → Nat} {σ : St_} (ht : ∀ i, t i < 256) (hC : MX σ n t) (hL : σ.1 219 4 = nI L) (hL0 : L ≤ 1040) (h4 : σ.1 219 5 = nI p) (hp : p ≤ n) : ∃ σ', f_X12_go KC [.ref 219] σ = some (none, σ') ∧ fm_ [219] [219] σ σ' ∧ (∀ f, f ≠ 5 → f ≠ 6 → f ≠ 7 → f ≠ 8 → f ≠ 9 → σ'.1 219 f = σ.1 219 f) ∧ σ'.1 219 7 = (mtk_ t n L (sk_ t (n - p) p)).1 ∧ σ'.1 219 6 = nI (mtk_ t n L (sk_ t (n - p) p)).2.1 ∧ σ'.1 219 5 = nI (mtk_ t n L (sk_ t (n - p) p)).2.2 ∧ (¬ (L < n ∧ L ≤ sk_ t (n - p) p) → ¬ n ≤ sk_ t (n - p) p → (sg_ (t (sk_ t (n - p) p)) → σ'.1 219 9 = nI (t (sk_ t (n - p) p))) ∧ (isL_ (t (sk_ t (n - p) p)) ∨ isD_ (t (sk_ t (n - p) p)) → σ'.1 219 8 = (sr_ t (sk_ t (n - p) p) (rl_ (t (sk_ t (n - p) p))) (n - sk_ t (n - p) p) (sk_ t (n - p) p) 1 0 0).2.2.1 ∧ σ'.2.1 219 12 = (sr_ t (sk_ t (n - p) p) (rl_ (t (sk_ t (n - p) p))) (n - sk_ t (n - p) p) (sk_ t (n - p) p) 1 0 0).2.2.2)) := by
  have hn := hC.2.1
  have hsk := sk_le t (n - p) p
  have start : ∀ out, Ev_ (P_X12_go KC) 52 [some (.ref 219), none, none, none, none] [] (sI_ σ 219 5 (nI (sk_ t (n - p) p))) out → f_X12_go KC [.ref 219] σ = some out := fun out h => z_X12_go (m_skip ht (n - p) p σ out (by omega) hC h4 h)
  generalize hq : sk_ t (n - p) p = q at hsk start ⊢
  have hC1 : MX (sI_ σ 219 5 (nI q)) n t := MX_1 hC (by decide) _
  have hA : (sI_ σ 219 5 (nI q)).1 219 5 = nI q := by simp [sI_at]
  have hC2 : MX (sI_ (sI_ σ 219 5 (nI q)) 219 6 (nI q)) n t := MX_1 hC1 (by decide) _
  have hA2 : (sI_ (sI_ σ 219 5 (nI q)) 219 6 (nI q)).1 219 5 = nI q := by simp [sI_at]
  have hB2 : (sI_ (sI_ σ 219 5 (nI q)) 219 6 (nI q)).1 219 6 = nI q := by simp [sI_at]
  have hL2 : (sI_ (sI_ σ 219 5 (nI q)) 219 6 (nI q)).1 219 4 = nI L := by simp [sI_at, hL]
  have hfm2 : fm_ [219] [219] σ (sI_ (sI_ σ 219 5 (nI q)) 219 6 (nI q)) := fm_tr (fm_sI (by simp)) (fm_sI (by simp))
  by_cases c1 : L < n ∧ L ≤ q
  · rw [mtk_, if_pos c1]
    refine ⟨sI_ (sI_ (sI_ (sI_ σ 219 5 (nI q)) 219 6 (nI q)) 219 6 (nI L)) 219 7 1, start _ (e_X12_go_52 ?_), fm_tr hfm2 (fm_tr (fm_sI (by simp)) (fm_sI (by simp))), fun f f5 f6 f7 f8 f9 => by simp [sI_at, f5, f6, f7], by simp [sI_at], by simp [sI_at], by simp [sI_at], fun z => absurd c1 z⟩
    rw [hA, hL2]
    exact pk_le n L (fun z => by omega) (fun _ => pk_lt q L (fun z => by omega) (fun _ => rfl) hB2) hC2.1
  · rw [mtk_, if_neg c1]
    have go96 : ∀ out, Ev_ (P_X12_go KC) 96 [some (.ref 219), none, none, none, none] [] (sI_ (sI_ σ 219 5 (nI q)) 219 6 (nI q)) out → f_X12_go KC [.ref 219] σ = some out := by
      intro out h
      refine start _ (e_X12_go_52 ?_)
      rw [hA, hL2]
      exact pk_le n L (fun z => h) (fun _ => pk_lt q L (fun z => h) (fun _ => by omega) hB2) hC2.1
    by_cases c2 : n ≤ q
    · rw [if_pos c2]
      refine ⟨sI_ (sI_ (sI_ σ 219 5 (nI q)) 219 6 (nI q)) 219 7 0, go96 _ (e_X12_go_96 (pk_lt q n (fun z => by omega) (fun _ => rfl) hA2 hC2.1)), fm_tr hfm2 (fm_sI (by simp)), fun f f5 f6 f7 f8 f9 => by simp [sI_at, f5, f6, f7], by simp [sI_at], by simp [sI_at], by simp [sI_at], fun _ z => absurd c2 z⟩
    · rw [if_neg c2]
      have hF : ∀ f, f ≠ 5 → f ≠ 6 → (sI_ (sI_ σ 219 5 (nI q)) 219 6 (nI q)).1 219 f = σ.1 219 f := fun f f5 f6 => by simp [sI_at, f5, f6]
      generalize sI_ (sI_ σ 219 5 (nI q)) 219 6 (nI q) = σ2 at hC2 hA2 hB2 hL2 hfm2 go96 hF
      have hcl : Int32.toNatClampNeg (σ2.1 219 5) = q := pk_cl q hA2
      have hby : σ2.1 220 q = nI (t q) := hC2.2.2 q
      have htq := ht q
      have hl := m_isLetter (σ := σ2) htq
      have hd := m_isDigit (σ := σ2) htq
      by_cases c3 : ¬ isL_ (t q) ∧ ¬ isD_ (t q)
      · rw [if_pos c3]
        rw [if_neg c3.2] at hd
        have hr : rl_ (t q) = 0 := by rw [rl_, if_neg c3.1]
        rw [hr] at hl
        refine ⟨sI_ (sI_ (sI_ σ2 219 7 (if sg_ (t q) then 4 else 1)) 219 9 (nI (t q))) 219 5 (nI (q + 1)), go96 _ (e_X12_go_96 (pk_lt q n (fun _ => ⟨vpin_e q (by omega) hA2, 0, σ2, by rw [hcl, hby]; exact hl, br_t rfl ⟨0, σ2, by rw [hcl, hby]; exact hd, br_t rfl ?_⟩⟩) (fun z => by omega) hA2 hC2.1)), fm_tr hfm2 (fm_tr (fm_sI (by simp)) (fm_tr (fm_sI (by simp)) (fm_sI (by simp)))), fun f f5 f6 f7 f8 f9 => by simp [sI_at, f5, f7, f9, hF f f5 f6], by simp [sI_at], by simp [sI_at, hB2], by simp [sI_at], fun _ _ => ⟨fun _ => by simp [sI_at], fun z => absurd z (by omega)⟩⟩
        rw [hcl, hby]
        have e4 : (sI_ (sI_ σ2 219 7 4) 219 9 (nI (t q))).1 219 5 = nI q := by simp [sI_at, hA2]
        have e1 : (sI_ (sI_ σ2 219 7 1) 219 9 (nI (t q))).1 219 5 = nI q := by simp [sI_at, hA2]
        rw [e4, e1, nI_1]
        exact pk_eq (t q) 59 (fun z => by rw [if_pos (by omega)]) (fun z1 => pk_eq (t q) 60 (fun z => by rw [if_pos (by omega)]) (fun z2 => pk_eq (t q) 61 (fun z => by rw [if_pos (by omega)]) (fun z3 => pk_eq (t q) 62 (fun z => by rw [if_pos (by omega)]) (fun z4 => pk_eq (t q) 40 (fun z => by rw [if_pos (by omega)]) (fun z5 => pk_eq (t q) 41 (fun z => by rw [if_pos (by omega)]) (fun z6 => by rw [if_neg (by omega)]))))))
      · rw [if_neg c3]
        have hX3 : MX (sI_ (sJ_ σ2 219 12 0) 219 8 0) n t := MX_1 (MX_J hC2 _) (by decide) _
        obtain ⟨σ', h1, h2, h3, h5, h6, h7, h8⟩ := m_sr (q := q) (x2 := rl_ (t q)) ht (n - q) q 1 (sI_ (sJ_ σ2 219 12 0) 219 8 0) (by omega) (Nat.le_refl _) hX3 (by simp [sI_at, sJ_1, hA2]) (by simp [sI_at, sJ_1, hB2])
        have e8 : (sI_ (sJ_ σ2 219 12 0) 219 8 0).1 219 8 = 0 := by simp [sI_at]
        have e12 : (sI_ (sJ_ σ2 219 12 0) 219 8 0).2.1 219 12 = 0 := by simp [sI_J, sJ_at]
        rw [e8, e12] at h2 h3 h5 h6
        refine ⟨σ', go96 _ (e_X12_go_96 (pk_lt q n (fun _ => ⟨vpin_e q (by omega) hA2, rl_ (t q), σ2, by rw [hcl, hby]; exact hl, ?_⟩) (fun z => by omega) hA2 hC2.1)), fm_tr (fm_tr hfm2 (fm_tr (fm_sJ (by simp)) (fm_sI (by simp)))) h7, fun f f5 f6 f7 f8 f9 => by rw [h8 f f5 f7 f8]; simp [sI_at, sJ_1, f8, hF f f5 f6], h2, by rw [h8 6 (by decide) (by decide) (by decide)]; simp [sI_at, sJ_1, hB2], h3, fun _ _ => ⟨fun z => absurd z (by omega), fun _ => ⟨h5, h6⟩⟩⟩
        rw [hcl, hby]
        refine br_c (fun z => ?_) (fun z => ⟨rl_ (t q), σ2, hl, h1⟩)
        have : isD_ (t q) := by
          rcases Decidable.em (isL_ (t q)) with hc | hc
          · rw [rl_, if_pos hc] at z
            exact absurd z (by decide)
          · omega
        rw [if_pos this] at hd
        exact ⟨1, σ2, hd, br_f (by decide) ⟨rl_ (t q), σ2, hl, h1⟩⟩
