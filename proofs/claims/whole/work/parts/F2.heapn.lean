theorem new_ad {E : En_} {n q : Nat} {σ : St_} {e : va_E} (hE : EX_ E) (hn : n < 247) (hD : va_D (AN_ E) (wlN_ E (n, σ) ++ [(q, e)])) (hlt : q < E.2.2.1 0 + n + 1) : q = E.2.2.1 n := by
  have hg : (wlN_ E (n, σ) ++ [(q, e)])[n]? = some (q, e) := by
    rw [List.getElem?_append_right (by rw [wlN_len]; exact Nat.le_refl _), wlN_len]
    show [(q, e)][n - n]? = _
    rw [Nat.sub_self]
    rfl
  have h0 : E.2.2.1 0 ≤ q := hD.2 n _ hg
  have hn1 := hE n hn
  by_cases h : q = E.2.2.1 0 + n
  · omega
  · exfalso
    have ho : q - E.2.2.1 0 < n := by omega
    have hg2 : (wlN_ E (n, σ) ++ [(q, e)])[q - E.2.2.1 0]? = some (E.2.2.1 (q - E.2.2.1 0), enN_ E σ (q - E.2.2.1 0)) := by
      rw [List.getElem?_append_left (by rw [wlN_len]; exact ho)]
      exact wlN_get (τ := (n, σ)) ho
    have := hD.1 _ _ _ _ hg2 hg (by show E.2.2.1 (q - E.2.2.1 0) = q; rw [hE _ (by omega)]; omega)
    omega
theorem vpV_map {N j : Nat} {f : Nat → Value} (h : j < N) : vp_V ((List.range N).map f) j = f j := by
  unfold vp_V
  rw [List.getD_eq_getElem?_getD, List.getElem?_map, List.getElem?_range h]
  rfl
theorem sz_obj {n ci : Nat} (h : (KC.1 n).1 = ci) (hc : ci < 13) : sz_ n = cN_ ci := by
  unfold sz_
  rw [h, if_pos hc]
theorem sz_arr {n ci : Nat} (h : (KC.1 n).1 = ci) (hc : 13 ≤ ci) : sz_ n = (KC.1 n).2 := by
  unfold sz_
  rw [h, if_neg (by omega)]
theorem rm_c {n n0 cl top rc : Nat} (hc : cl + n0 = n) (h1 : n + 1 ≤ top) (h2 : top ≤ rc + n0) : cl + 1 ≤ rc := by omega
theorem rm_s {n n0 sl top rs z : Nat} (hs : sl + slN_ n0 = slN_ n) (hz : sz_ n = z) (h1 : n + 1 ≤ top) (h2 : slN_ top ≤ rs + slN_ n0) : sl + z ≤ rs := by
  have := slN_le h1
  have h3 : slN_ (n + 1) = slN_ n + sz_ n := rfl
  omega
section NHEAP
variable {l : Launch} {E : En_} {own : String} {cc : ByteArray} {nL : Nat} {ws : List Cond} {R : Room} {ini : Bool} {pc : Nat}
def n_new (ci : Nat) : On_ := fun k pc lo st τ => if (KC.1 τ.1).1 = ci ∧ τ.1 < 247 then k (pc + 3) lo (.ref τ.1 :: st) (τ.1 + 1, zr_ τ.2 τ.1) else none
theorem ns_new {ci index : Nat} (hd : decode cc pc = .ok (.new index, 3)) (hci : ci < 13) (hws : ∀ w ∈ u_ws (cR_ ci) (cT_ ci) (cN_ ci), w ∈ ws) (hcl : Cond.classLink own index (cR_ ci) ∈ ws) (hins : Cond.instantiable (cR_ ci) (cN_ ci) ∈ ws) (hini : Cond.initialized (cR_ ci) ∈ ws) : SnN_ l E own cc nL ws R ini pc (n_new ci) := by
  intro p e s m args below meth c n0 out ⟨hx, hb, hml, hown, hts, hK, hlk, ⟨hE, hKC, hA0, hXS⟩, hR⟩ hin Q k hrt hk lo st τ h
  obtain ⟨n, σ⟩ := τ
  unfold n_new at h
  dsimp only at h
  split at h
  · rename_i hq
    have hk1 := hk _ _ _ _ h
    have h1 : n + 1 ≤ out.1 := hk1.1
    refine ⟨Nat.le_of_succ_le h1, fun H locs ls cl sl hP hS hc hs hl => ?_⟩
    have ht : n < 247 := hq.2
    have hkd : (E.2.2.2.1.1 n).1 = ci := by rw [hKC]; exact hq.1
    refine va_new (ci := ci) (fs := (List.range (cN_ ci)).map (fvN_ E ci n (zr_ σ n))) (C := cR_ ci) (T := cT_ ci) (N := cN_ ci) (A := AN_ E) hx hb hts hws (cY_ ci) (c_ty ci hci) hown (hts _ hcl) (hts _ hins) (hts _ hini) hK hP (wlN_D hE (Nat.le_of_lt ht)) hS (fun q hq => Nat.le_trans (by omega) hq) (c_cl ci hci) (fun j hj => ?_) (rm_c hc h1 hR.2.1) (rm_s hs (sz_obj hq.1 hci) h1 hR.2.2) hd (fun q H1 hP1 hD1 hS1 => ?_)
    · rw [vpV_map hj]
      exact fvN_0 hci hj (by simp [zr_]) (by simp [zr_]) (by simp [zr_])
    · refine W_sz (fun hsz => ?_)
      have hqn : q = E.2.2.1 n := new_ad hE ht hD1 (by
        have hg : (wlN_ E (n, σ) ++ [(q, Sum.inr (ci, (List.range (cN_ ci)).map (fvN_ E ci n (zr_ σ n))))])[n]? = some (q, Sum.inr (ci, (List.range (cN_ ci)).map (fvN_ E ci n (zr_ σ n)))) := by
          rw [List.getElem?_append_right (by rw [wlN_len]; exact Nat.le_refl _), wlN_len]
          show [_][n - n]? = _
          rw [Nat.sub_self]
          rfl
        have h2 : q < H1.size := (hP1 n _ hg).lt
        have hc : cl + n0 = n := hc
        omega)
      subst hqn
      have e1 : enN_ E (zr_ σ n) n = .inr (ci, (List.range (cN_ ci)).map (fvN_ E ci n (zr_ σ n))) := enN_obj hkd hci
      rw [← e1, ← wlN_push (fun o ho => enN_zr (Nat.ne_of_lt ho))] at hP1
      exact hk1.2 H1 locs ls (cl + 1) (sl + cN_ ci) hP1 hS1 (by show cl + 1 + n0 = n + 1; have hc : cl + n0 = n := hc; omega) (by
        show sl + cN_ ci + slN_ n0 = slN_ n + sz_ n
        rw [sz_obj hq.1 hci]
        have hs : sl + slN_ n0 = slN_ n := hs
        omega) hl
  · cases h
def n_newa (ki : Nat) : On_ := fun k pc lo st τ => match st with
  | .int x :: r => if (KC.1 τ.1).1 = ki ∧ τ.1 < 247 ∧ (¬ x < 0 ∧ x.toNatClampNeg = (KC.1 τ.1).2) ∧ (KC.1 τ.1).2 ≤ 100000 then k (pc + 2) lo (.ref τ.1 :: r) (τ.1 + 1, zr_ τ.2 τ.1) else none
  | _ => none
theorem ns_newa_int (hd : decode cc pc = .ok (.newarray .int, 2)) (har : Cond.arrayClass .int ∈ ws) : SnN_ l E own cc nL ws R ini pc (n_newa 14) := by
  intro p e s m args below meth c n0 out ⟨hx, hb, hml, hown, hts, hK, hlk, ⟨hE, hKC, hA0, hXS⟩, hR⟩ hin Q k hrt hk lo st τ h
  obtain ⟨n, σ⟩ := τ
  unfold n_newa at h
  dsimp only at h
  split at h
  · rename_i x r
    split at h
    · rename_i hq
      have hk1 := hk _ _ _ _ h
      have h1 : n + 1 ≤ out.1 := hk1.1
      refine ⟨Nat.le_of_succ_le h1, fun H locs ls cl sl hP hS hc hs hl => ?_⟩
      have ht : n < 247 := hq.2.1
      have hkd : (E.2.2.2.1.1 n).1 = 14 := by rw [hKC]; exact hq.1
      have hln : (E.2.2.2.1.1 n).2 = (KC.1 n).2 := by rw [hKC]
      have hbig : (KC.1 n).2 ≤ 100000 := hq.2.2.2
      refine va_newa (atype := .int) (ty := .int) (a0 := ((KC.1 n).2, .inl ((zr_ σ n).1 n))) (A := AN_ E) hx hb (hts _ har) rfl hK hP (wlN_D hE (Nat.le_of_lt ht)) hS (fun q hq => Nat.le_trans (by omega) hq) (fun cA => ?_) hq.2.2.1.1 hq.2.2.1.2 (by show (KC.1 n).2 * 4 ≤ 536870912; omega) (rm_c hc h1 hR.2.1) (rm_s hs (sz_arr hq.1 (by omega)) h1 hR.2.2) hd (fun q cA H1 hK1 hP1 hD1 hS1 => ?_)
      · rw [vp_cell_i]
        congr 1
        funext j
        simp [zr_, defaultValue]
      · refine W_sz (fun hsz => ?_)
        have hcA : cA = E.1 14 := by
          have a1 : va_RA s cA .int := (hK1.2 8 (cA, .int) rfl).2
          have a2 : va_RA s (E.1 14) .int := (hK.2 1 (E.1 14, .int) rfl).2
          exact Option.some.inj (Eq.trans (Eq.symm a1) a2)
        subst hcA
        have hqn : q = E.2.2.1 n := new_ad hE ht hD1 (by
          have h2 : q < H1.size := (hP1 n (q, .inl (E.1 14, (KC.1 n).2, .inl ((zr_ σ n).1 n))) (by
            rw [List.getElem?_append_right (by rw [wlN_len]; exact Nat.le_refl _), wlN_len]
            show [_][n - n]? = _
            rw [Nat.sub_self]
            rfl)).lt
          have hc : cl + n0 = n := hc
          omega)
        subst hqn
        have e1 : enN_ E (zr_ σ n) n = .inl (E.1 14, (KC.1 n).2, .inl ((zr_ σ n).1 n)) := by rw [enN_int hkd (by omega), hln]
        rw [← e1, ← wlN_push (fun o ho => enN_zr (Nat.ne_of_lt ho))] at hP1
        exact hk1.2 H1 locs ls (cl + 1) (sl + (KC.1 n).2) hP1 hS1 (by show cl + 1 + n0 = n + 1; have hc : cl + n0 = n := hc; omega) (by
          show sl + (KC.1 n).2 + slN_ n0 = slN_ n + sz_ n
          rw [sz_arr hq.1 (by omega)]
          have hs : sl + slN_ n0 = slN_ n := hs
          omega) hl
    · cases h
  · cases h
theorem ns_newa_long (hd : decode cc pc = .ok (.newarray .long, 2)) (har : Cond.arrayClass .long ∈ ws) : SnN_ l E own cc nL ws R ini pc (n_newa 15) := by
  intro p e s m args below meth c n0 out ⟨hx, hb, hml, hown, hts, hK, hlk, ⟨hE, hKC, hA0, hXS⟩, hR⟩ hin Q k hrt hk lo st τ h
  obtain ⟨n, σ⟩ := τ
  unfold n_newa at h
  dsimp only at h
  split at h
  · rename_i x r
    split at h
    · rename_i hq
      have hk1 := hk _ _ _ _ h
      have h1 : n + 1 ≤ out.1 := hk1.1
      refine ⟨Nat.le_of_succ_le h1, fun H locs ls cl sl hP hS hc hs hl => ?_⟩
      have ht : n < 247 := hq.2.1
      have hkd : (E.2.2.2.1.1 n).1 = 15 := by rw [hKC]; exact hq.1
      have hln : (E.2.2.2.1.1 n).2 = (KC.1 n).2 := by rw [hKC]
      have hbig : (KC.1 n).2 ≤ 100000 := hq.2.2.2
      refine va_newa (atype := .long) (ty := .long) (a0 := ((KC.1 n).2, .inr (.inl ((zr_ σ n).2.1 n)))) (A := AN_ E) hx hb (hts _ har) rfl hK hP (wlN_D hE (Nat.le_of_lt ht)) hS (fun q hq => Nat.le_trans (by omega) hq) (fun cA => ?_) hq.2.2.1.1 hq.2.2.1.2 (by show (KC.1 n).2 * 8 ≤ 536870912; omega) (rm_c hc h1 hR.2.1) (rm_s hs (sz_arr hq.1 (by omega)) h1 hR.2.2) hd (fun q cA H1 hK1 hP1 hD1 hS1 => ?_)
      · rw [vp_cell_l]
        congr 1
        funext j
        simp [zr_, defaultValue]
      · refine W_sz (fun hsz => ?_)
        have hcA : cA = E.1 15 := by
          have a1 : va_RA s cA .long := (hK1.2 8 (cA, .long) rfl).2
          have a2 : va_RA s (E.1 15) .long := (hK.2 2 (E.1 15, .long) rfl).2
          exact Option.some.inj (Eq.trans (Eq.symm a1) a2)
        subst hcA
        have hqn : q = E.2.2.1 n := new_ad hE ht hD1 (by
          have h2 : q < H1.size := (hP1 n (q, .inl (E.1 15, (KC.1 n).2, .inr (.inl ((zr_ σ n).2.1 n)))) (by
            rw [List.getElem?_append_right (by rw [wlN_len]; exact Nat.le_refl _), wlN_len]
            show [_][n - n]? = _
            rw [Nat.sub_self]
            rfl)).lt
          have hc : cl + n0 = n := hc
          omega)
        subst hqn
        have e1 : enN_ E (zr_ σ n) n = .inl (E.1 15, (KC.1 n).2, .inr (.inl ((zr_ σ n).2.1 n))) := by rw [enN_long hkd, hln]
        rw [← e1, ← wlN_push (fun o ho => enN_zr (Nat.ne_of_lt ho))] at hP1
        exact hk1.2 H1 locs ls (cl + 1) (sl + (KC.1 n).2) hP1 hS1 (by show cl + 1 + n0 = n + 1; have hc : cl + n0 = n := hc; omega) (by
          show sl + (KC.1 n).2 + slN_ n0 = slN_ n + sz_ n
          rw [sz_arr hq.1 (by omega)]
          have hs : sl + slN_ n0 = slN_ n := hs
          omega) hl
    · cases h
  · cases h
theorem ns_newa_boolean (hd : decode cc pc = .ok (.newarray .boolean, 2)) (har : Cond.arrayClass .boolean ∈ ws) : SnN_ l E own cc nL ws R ini pc (n_newa 16) := by
  intro p e s m args below meth c n0 out ⟨hx, hb, hml, hown, hts, hK, hlk, ⟨hE, hKC, hA0, hXS⟩, hR⟩ hin Q k hrt hk lo st τ h
  obtain ⟨n, σ⟩ := τ
  unfold n_newa at h
  dsimp only at h
  split at h
  · rename_i x r
    split at h
    · rename_i hq
      have hk1 := hk _ _ _ _ h
      have h1 : n + 1 ≤ out.1 := hk1.1
      refine ⟨Nat.le_of_succ_le h1, fun H locs ls cl sl hP hS hc hs hl => ?_⟩
      have ht : n < 247 := hq.2.1
      have hkd : (E.2.2.2.1.1 n).1 = 16 := by rw [hKC]; exact hq.1
      have hln : (E.2.2.2.1.1 n).2 = (KC.1 n).2 := by rw [hKC]
      have hbig : (KC.1 n).2 ≤ 100000 := hq.2.2.2
      refine va_newa (atype := .boolean) (ty := .boolean) (a0 := ((KC.1 n).2, .inl ((zr_ σ n).1 n))) (A := AN_ E) hx hb (hts _ har) rfl hK hP (wlN_D hE (Nat.le_of_lt ht)) hS (fun q hq => Nat.le_trans (by omega) hq) (fun cA => ?_) hq.2.2.1.1 hq.2.2.1.2 (by show (KC.1 n).2 * 1 ≤ 536870912; omega) (rm_c hc h1 hR.2.1) (rm_s hs (sz_arr hq.1 (by omega)) h1 hR.2.2) hd (fun q cA H1 hK1 hP1 hD1 hS1 => ?_)
      · rw [vp_cell_i]
        congr 1
        funext j
        simp [zr_, defaultValue]
      · refine W_sz (fun hsz => ?_)
        have hcA : cA = E.1 16 := by
          have a1 : va_RA s cA .boolean := (hK1.2 8 (cA, .boolean) rfl).2
          have a2 : va_RA s (E.1 16) .boolean := (hK.2 3 (E.1 16, .boolean) rfl).2
          exact Option.some.inj (Eq.trans (Eq.symm a1) a2)
        subst hcA
        have hqn : q = E.2.2.1 n := new_ad hE ht hD1 (by
          have h2 : q < H1.size := (hP1 n (q, .inl (E.1 16, (KC.1 n).2, .inl ((zr_ σ n).1 n))) (by
            rw [List.getElem?_append_right (by rw [wlN_len]; exact Nat.le_refl _), wlN_len]
            show [_][n - n]? = _
            rw [Nat.sub_self]
            rfl)).lt
          have hc : cl + n0 = n := hc
          omega)
        subst hqn
        have e1 : enN_ E (zr_ σ n) n = .inl (E.1 16, (KC.1 n).2, .inl ((zr_ σ n).1 n)) := by rw [enN_int hkd (by omega), hln]
        rw [← e1, ← wlN_push (fun o ho => enN_zr (Nat.ne_of_lt ho))] at hP1
        exact hk1.2 H1 locs ls (cl + 1) (sl + (KC.1 n).2) hP1 hS1 (by show cl + 1 + n0 = n + 1; have hc : cl + n0 = n := hc; omega) (by
          show sl + (KC.1 n).2 + slN_ n0 = slN_ n + sz_ n
          rw [sz_arr hq.1 (by omega)]
          have hs : sl + slN_ n0 = slN_ n := hs
          omega) hl
    · cases h
  · cases h
theorem ns_newa_byte (hd : decode cc pc = .ok (.newarray .byte, 2)) (har : Cond.arrayClass .byte ∈ ws) : SnN_ l E own cc nL ws R ini pc (n_newa 13) := by
  intro p e s m args below meth c n0 out ⟨hx, hb, hml, hown, hts, hK, hlk, ⟨hE, hKC, hA0, hXS⟩, hR⟩ hin Q k hrt hk lo st τ h
  obtain ⟨n, σ⟩ := τ
  unfold n_newa at h
  dsimp only at h
  split at h
  · rename_i x r
    split at h
    · rename_i hq
      have hk1 := hk _ _ _ _ h
      have h1 : n + 1 ≤ out.1 := hk1.1
      refine ⟨Nat.le_of_succ_le h1, fun H locs ls cl sl hP hS hc hs hl => ?_⟩
      have ht : n < 247 := hq.2.1
      have hkd : (E.2.2.2.1.1 n).1 = 13 := by rw [hKC]; exact hq.1
      have hln : (E.2.2.2.1.1 n).2 = (KC.1 n).2 := by rw [hKC]
      have hbig : (KC.1 n).2 ≤ 100000 := hq.2.2.2
      refine va_newa (atype := .byte) (ty := .byte) (a0 := ((KC.1 n).2, .inl ((zr_ σ n).1 n))) (A := AN_ E) hx hb (hts _ har) rfl hK hP (wlN_D hE (Nat.le_of_lt ht)) hS (fun q hq => Nat.le_trans (by omega) hq) (fun cA => ?_) hq.2.2.1.1 hq.2.2.1.2 (by show (KC.1 n).2 * 1 ≤ 536870912; omega) (rm_c hc h1 hR.2.1) (rm_s hs (sz_arr hq.1 (by omega)) h1 hR.2.2) hd (fun q cA H1 hK1 hP1 hD1 hS1 => ?_)
      · rw [vp_cell_i]
        congr 1
        funext j
        simp [zr_, defaultValue]
      · refine W_sz (fun hsz => ?_)
        have hcA : cA = E.1 13 := by
          have a1 : va_RA s cA .byte := (hK1.2 8 (cA, .byte) rfl).2
          have a2 : va_RA s (E.1 13) .byte := (hK.2 0 (E.1 13, .byte) rfl).2
          exact Option.some.inj (Eq.trans (Eq.symm a1) a2)
        subst hcA
        have hqn : q = E.2.2.1 n := new_ad hE ht hD1 (by
          have h2 : q < H1.size := (hP1 n (q, .inl (E.1 13, (KC.1 n).2, .inl ((zr_ σ n).1 n))) (by
            rw [List.getElem?_append_right (by rw [wlN_len]; exact Nat.le_refl _), wlN_len]
            show [_][n - n]? = _
            rw [Nat.sub_self]
            rfl)).lt
          have hc : cl + n0 = n := hc
          omega)
        subst hqn
        have e1 : enN_ E (zr_ σ n) n = .inl (E.1 13, (KC.1 n).2, .inl ((zr_ σ n).1 n)) := by rw [enN_int hkd (by omega), hln]
        rw [← e1, ← wlN_push (fun o ho => enN_zr (Nat.ne_of_lt ho))] at hP1
        exact hk1.2 H1 locs ls (cl + 1) (sl + (KC.1 n).2) hP1 hS1 (by show cl + 1 + n0 = n + 1; have hc : cl + n0 = n := hc; omega) (by
          show sl + (KC.1 n).2 + slN_ n0 = slN_ n + sz_ n
          rw [sz_arr hq.1 (by omega)]
          have hs : sl + slN_ n0 = slN_ n := hs
          omega) hl
    · cases h
  · cases h
end NHEAP
