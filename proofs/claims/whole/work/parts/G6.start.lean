/-! the law's start -/
theorem tb_1 {w : Cond} {i : Nat} (h : tables_1_1[i]? = some w) : w ∈ lw_tbl := List.mem_append_right _ (List.mem_append_left _ (List.mem_of_getElem? h))
theorem tb_2 {w : Cond} {i : Nat} (h : tables_1_2[i]? = some w) : w ∈ lw_tbl := List.mem_append_right _ (List.mem_append_right _ (List.mem_append_left _ (List.mem_of_getElem? h)))
theorem tb_3 {w : Cond} {i : Nat} (h : tables_1_3[i]? = some w) : w ∈ lw_tbl := List.mem_append_right _ (List.mem_append_right _ (List.mem_append_right _ (List.mem_append_left _ (List.mem_of_getElem? h))))
theorem tb_4 {w : Cond} {i : Nat} (h : tables_1_4[i]? = some w) : w ∈ lw_tbl := List.mem_append_right _ (List.mem_append_right _ (List.mem_append_right _ (List.mem_append_right _ (List.mem_append_left _ (List.mem_of_getElem? h)))))
theorem tb_5 {w : Cond} {i : Nat} (h : tables_1_5[i]? = some w) : w ∈ lw_tbl := List.mem_append_right _ (List.mem_append_right _ (List.mem_append_right _ (List.mem_append_right _ (List.mem_append_right _ (List.mem_append_left _ (List.mem_of_getElem? h))))))
theorem tb_6 {w : Cond} {i : Nat} (h : tables_1_6[i]? = some w) : w ∈ lw_tbl := List.mem_append_right _ (List.mem_append_right _ (List.mem_append_right _ (List.mem_append_right _ (List.mem_append_right _ (List.mem_append_right _ (List.mem_append_left _ (List.mem_of_getElem? h)))))))
theorem tb_7 {w : Cond} {i : Nat} (h : tables_1_7[i]? = some w) : w ∈ lw_tbl := List.mem_append_right _ (List.mem_append_right _ (List.mem_append_right _ (List.mem_append_right _ (List.mem_append_right _ (List.mem_append_right _ (List.mem_append_right _ (List.mem_append_left _ (List.mem_of_getElem? h))))))))
theorem tb_8 {w : Cond} {i : Nat} (h : tables_1_8[i]? = some w) : w ∈ lw_tbl := List.mem_append_right _ (List.mem_append_right _ (List.mem_append_right _ (List.mem_append_right _ (List.mem_append_right _ (List.mem_append_right _ (List.mem_append_right _ (List.mem_append_right _ (List.mem_append_left _ (List.mem_of_getElem? h)))))))))
theorem tb_9 {w : Cond} {i : Nat} (h : tables_1_9[i]? = some w) : w ∈ lw_tbl := List.mem_append_right _ (List.mem_append_right _ (List.mem_append_right _ (List.mem_append_right _ (List.mem_append_right _ (List.mem_append_right _ (List.mem_append_right _ (List.mem_append_right _ (List.mem_append_right _ (List.mem_of_getElem? h)))))))))
theorem arr_prim {s : State} {args : Array Value} {ty : FieldType} (hp : ∀ C, ty ≠ .object C) (h : (Cond.arrayClass ty).before args s = true) : ∃ cA, ArrOfT s cA ty ∧ va_RA s cA ty := by
  obtain ⟨cA, kA, comp, h1, h2, h3⟩ := Cond.arrayClass_spec h
  refine ⟨cA, fun n z => ⟨(fun k h => by cases h), kA, h2, comp, h3⟩, ?_⟩
  cases ty <;> first | exact h1 | exact absurd rfl (hp _)
theorem arr_obj {s : State} {args : Array Value} {C : String} (h : (Cond.arrayOver (.object C)).before args s = true) : ∃ cA, ArrOfT s cA (.object C) ∧ va_RA s cA (.object C) := by
  obtain ⟨comp, c, k, h1, h2, h3, h4, h5⟩ := Cond.arrayOver_spec h
  exact ⟨c, fun n z => ⟨(fun k h => by cases h), k, h3, comp, h4⟩, k, comp, h3, h4, h1, h5⟩
theorem arr_arr {s : State} {args : Array Value} (h : (Cond.arrayOver (.array .int)).before args s = true) : ∃ cA, ArrOfT s cA (.array .int) ∧ va_RA s cA (.array .int) := by
  obtain ⟨comp, c, k, h1, h2, h3, h4, h5⟩ := arrayOverA_spec h
  exact ⟨c, fun n z => ⟨(fun k h => by cases h), k, h3, comp, h4⟩, h5⟩
section START
variable {s : State} {args : Array Value}
theorem c0L_G : c0L_ ∈ G_ := G_1 (i := 1) rfl rfl
theorem hts_G (hts : ∀ w ∈ lw_tbl, w.before args s = true) : ∀ w ∈ (c0L_ :: G_ : List Cond), w.before args s = true := fun w hw => by
  rcases List.mem_cons.mp hw with rfl | h
  · exact hts _ (List.mem_filter.mp c0L_G).1
  · exact hts _ (List.mem_filter.mp h).1
theorem st_cls (hts : ∀ w ∈ lw_tbl, w.before args s = true) : ∀ i, i < 13 → ∃ q : ClassId × (Nat → Nat), u_Kn s (cR_ i) (cT_ i) (cN_ i) q.1 q.2 := by
  have h2 := hts_G hts
  refine lt13_ ⟨?_, ?_, ?_, ?_, ?_, ?_, ?_, ?_, ?_, ?_, ?_, ?_, ?_⟩
  · obtain ⟨a, b, h⟩ := u_known (n := cN_ 0) h2 iw0 (h2 _ (G_w (G_1 (i := 135) rfl rfl)))
    exact ⟨(a, b), h⟩
  · obtain ⟨a, b, h⟩ := u_known (n := cN_ 1) h2 iw1 (h2 _ (G_w (G_3 (i := 27) rfl rfl)))
    exact ⟨(a, b), h⟩
  · obtain ⟨a, b, h⟩ := u_known (n := cN_ 2) h2 iw2 (h2 _ (G_w (G_2 (i := 211) rfl rfl)))
    exact ⟨(a, b), h⟩
  · obtain ⟨a, b, h⟩ := u_known (n := cN_ 3) h2 iw3 (h2 _ (G_w (G_2 (i := 138) rfl rfl)))
    exact ⟨(a, b), h⟩
  · obtain ⟨a, b, h⟩ := u_known (n := cN_ 4) h2 iw4 (h2 _ (G_w (G_2 (i := 114) rfl rfl)))
    exact ⟨(a, b), h⟩
  · obtain ⟨a, b, h⟩ := u_known (n := cN_ 5) h2 iw5 (h2 _ (G_w (G_2 (i := 61) rfl rfl)))
    exact ⟨(a, b), h⟩
  · obtain ⟨a, b, h⟩ := u_known (n := cN_ 6) h2 iw6 (h2 _ (G_w (G_1 (i := 238) rfl rfl)))
    exact ⟨(a, b), h⟩
  · obtain ⟨a, b, h⟩ := u_known (n := cN_ 7) h2 iw7 (h2 _ (G_w (G_2 (i := 237) rfl rfl)))
    exact ⟨(a, b), h⟩
  · obtain ⟨a, b, h⟩ := u_known (n := cN_ 8) h2 iw8 (h2 _ (G_w (G_1 (i := 34) rfl rfl)))
    exact ⟨(a, b), h⟩
  · obtain ⟨a, b, h⟩ := u_known (n := cN_ 9) h2 iw9 (h2 _ (G_w (G_2 (i := 35) rfl rfl)))
    exact ⟨(a, b), h⟩
  · obtain ⟨a, b, h⟩ := u_known (n := cN_ 10) h2 iw10 (h2 _ (G_w (G_2 (i := 172) rfl rfl)))
    exact ⟨(a, b), h⟩
  · obtain ⟨a, b, h⟩ := u_known (n := cN_ 11) h2 iw11 (h2 _ (G_w (G_1 (i := 26) rfl rfl)))
    exact ⟨(a, b), h⟩
  · obtain ⟨a, b, h⟩ := u_known (n := cN_ 12) h2 iw12 (h2 _ (G_w (G_6 (i := 130) rfl rfl)))
    exact ⟨(a, b), h⟩
theorem st_K (hts : ∀ w ∈ lw_tbl, w.before args s = true) : ∃ (ar : Nat → ClassId) (D : va_G), ∀ (ad : Nat → Nat) (sh : Sh_) (n : Nat), va_K D vwCl (tys_ (ar, D, ad, sh, n)) s := by
  have h0 : ∀ i : Nat, ∃ q : ClassId × (Nat → Nat), i < 13 → u_Kn s (cR_ i) (cT_ i) (cN_ i) q.1 q.2 := fun i => by
    by_cases hi : i < 13
    · obtain ⟨q, h⟩ := st_cls hts i hi
      exact ⟨q, fun _ => h⟩
    · exact ⟨(0, fun _ => 0), fun z => absurd z hi⟩
  obtain ⟨f, hf⟩ := Classical.axiomOfChoice h0
  obtain ⟨a13, p13⟩ := arr_prim (ty := .byte) (fun C h => by cases h) (hts _ (tb_1 (i := 132) rfl))
  obtain ⟨a14, p14⟩ := arr_prim (ty := .int) (fun C h => by cases h) (hts _ (tb_1 (i := 133) rfl))
  obtain ⟨a15, p15⟩ := arr_prim (ty := .long) (fun C h => by cases h) (hts _ (tb_7 (i := 85) rfl))
  obtain ⟨a16, p16⟩ := arr_prim (ty := .boolean) (fun C h => by cases h) (hts _ (tb_3 (i := 130) rfl))
  obtain ⟨a17, p17⟩ := arr_obj (hts _ (tb_3 (i := 66) rfl))
  obtain ⟨a18, p18⟩ := arr_obj (hts _ (tb_3 (i := 67) rfl))
  obtain ⟨a19, p19⟩ := arr_obj (hts _ (tb_3 (i := 68) rfl))
  obtain ⟨a20, p20⟩ := arr_arr (hts _ (tb_1 (i := 141) rfl))
  refine ⟨fun i => if i = 13 then a13 else if i = 14 then a14 else if i = 15 then a15 else if i = 16 then a16 else if i = 17 then a17 else if i = 18 then a18 else if i = 19 then a19 else a20, (fun i => (f i).1, fun i => (f i).2), fun ad sh n => ⟨fun c q hq => ?_, fun k q hk => ?_⟩⟩
  · have hc : c < 13 := (List.getElem?_eq_some_iff.mp hq).1
    rw [c_cl c hc] at hq
    cases hq
    exact hf c hc
  · have key : ∀ q ∈ ([(a13, .byte), (a14, .int), (a15, .long), (a16, .boolean), (a17, .object "NineReaders$Book"), (a18, .object "NineReaders$Plan"), (a19, .object "NineReaders$Sentence"), (a20, .array .int)] : List (ClassId × FieldType)), ArrOfT s q.1 q.2 ∧ va_RA s q.1 q.2 := by
      simp only [List.mem_cons, List.not_mem_nil, or_false]
      rintro q (rfl | rfl | rfl | rfl | rfl | rfl | rfl | rfl) <;> assumption
    exact key q (List.mem_of_getElem? hk)
abbrev fl0_ : List Cond := flatC (Jvm.Cond.and given_1 narrow_1)
theorem fl0_el : (List.range 98).all (fun j => decide (Cond.eq (.elem (.field (Term.string "NineReaders$Scan" 19) "java/lang/String" "value" "[B") (.int (Int32.ofNat j))) (.int (bS_.getD j 0)) ∈ fl0_)) = true := by decide +kernel
theorem st_XS (hts : ∀ w ∈ lw_tbl, w.before args s = true) (hg : (Jvm.Cond.and given_1 narrow_1).before args s = true) {A : Nat → Prop} (hA : ∀ a : Nat, a < s.heap.size → ¬ A a) : XS_ A s s.heap := by
  have hs := flat_of_before _ hg
  obtain ⟨adK, adV, hS, ht⟩ := vk_Sof (args := args) (s := s) (N := 1) (tm := fun _ => (Term.string "NineReaders$Scan" 19)) (len := [98]) (byt := [bS_]) (A := A)
    (fun i hi => by obtain rfl : i = 0 := (by omega); decide)
    (fun i hi => hs _ (by decide +kernel)) (fun i hi => hs _ (by decide +kernel)) (fun i hi => hs _ (by decide +kernel))
    (fun i hi => by obtain rfl : i = 0 := (by omega); exact hs _ (by decide +kernel))
    (fun i hi j hj => by obtain rfl : i = 0 := (by omega); exact hs _ (of_decide_eq_true (List.all_eq_true.mp fl0_el j (List.mem_range.mpr hj))))
    (fun i j hi hj h => absurd (by omega) h) hA
  obtain ⟨s1, s2, s3, s4⟩ := hS.1 0 (by decide)
  exact ⟨⟨hts _ (tb_1 (i := 141) rfl), hts _ (tb_3 (i := 66) rfl), hts _ (tb_3 (i := 67) rfl), hts _ (tb_3 (i := 68) rfl)⟩, adK 0, adV 0, vk_R.of (hts _ (tb_1 (i := 39) rfl)) (ht 0 (by decide)), s1, s2, s3, s4, va_Zof (hts _ (tb_1 (i := 49) rfl)) (hts _ (tb_1 (i := 3) rfl)) (va_eqt (hs _ (by decide +kernel))) hA, va_Zqof (hts _ (tb_1 (i := 65) rfl)) (hts _ (tb_1 (i := 5) rfl)) (hs _ (by decide +kernel)) hA⟩
theorem st_TZ (hts : ∀ w ∈ lw_tbl, w.before args s = true) (hg : (Jvm.Cond.and given_1 narrow_1).before args s = true) {A : Nat → Prop} (hA : ∀ a : Nat, a < s.heap.size → ¬ A a) : TZ_ A s s.heap := by
  have hs := flat_of_before _ hg
  refine ⟨fun w hw => ?_, vx_Zqof (hts _ (tb_6 (i := 77) rfl)) (hts _ (tb_1 (i := 18) rfl)) (hs _ (by decide +kernel)) hA, vx_Zqof (hts _ (tb_6 (i := 79) rfl)) (hts _ (tb_1 (i := 18) rfl)) (hs _ (by decide +kernel)) hA⟩
  have ho := List.all_eq_true.mp faN_tab w hw
  refine va_tabs ho rfl (hts w ?_)
  rcases List.mem_cons.mp hw with rfl | hw
  · exact tb_6 (i := 53) rfl
  · rcases List.mem_cons.mp hw with rfl | hw
    · exact tb_6 (i := 55) rfl
    · rcases List.mem_cons.mp hw with rfl | hw
      · exact tb_6 (i := 57) rfl
      · rcases List.mem_cons.mp hw with rfl | hw
        · exact tb_6 (i := 52) rfl
        · cases hw
end START
/-- as SnN_, of an operation that does not return -/
def SnQ_ (l : Launch) (E : En_) (own : String) (cc : ByteArray) (nL : Nat) (ws : List Cond) (R : Room) (ini : Bool) (pc : Nat) (o : On_) : Prop := ∀ (p : Program) (e : Env) (s : State) (m : MethodId) (args : Array Value) (below : List Frame) (meth : Method) (c : Code) (n0 : Nat) (out : Tn_), FxN_ p R s m args meth c E own cc nL ws n0 out.1 → (ini = true → meth.name = "<init>") → ∀ (Q : State → Prop) (k : Cn_), (∀ pc lo st τ, k pc lo st τ = some out → τ.1 ≤ out.1 ∧ GN_ p l e R s m args below meth c E nL n0 Q pc lo st τ) → ∀ lo st τ, o k pc lo st τ = some out → τ.1 ≤ out.1 ∧ GN_ p l e R s m args below meth c E nL n0 Q pc lo st τ
theorem stQ_snd {l : Launch} {E : En_} {own : String} {cc : ByteArray} {nL : Nat} {ws : List Cond} {R : Room} {ini : Bool} {P : List (Nat × On_)} (h : ∀ pc o, P.lookup pc = some o → SnQ_ l E own cc nL ws R ini pc o) {p : Program} {e : Env} {s : State} {m : MethodId} {args : Array Value} {below : List Frame} {meth : Method} {c : Code} {n0 : Nat} {out : Tn_} (X : FxN_ p R s m args meth c E own cc nL ws n0 out.1) (hin : ini = true → meth.name = "<init>") {Q : State → Prop} {k : Cn_} (hk : ∀ pc lo st τ, k pc lo st τ = some out → τ.1 ≤ out.1 ∧ GN_ p l e R s m args below meth c E nL n0 Q pc lo st τ) : ∀ n pc lo st τ, stN_ P k n pc lo st τ = some out → τ.1 ≤ out.1 ∧ GN_ p l e R s m args below meth c E nL n0 Q pc lo st τ := by
  intro n
  induction n with
  | zero => exact hk
  | succ n ih =>
    intro pc lo st τ h1
    unfold stN_ at h1
    split at h1
    · rename_i o ho
      exact h pc o ho p e s m args below meth c n0 out X hin Q _ ih lo st τ h1
    · cases h1
section NQ
variable {l : Launch} {E : En_} {own : String} {cc : ByteArray} {nL : Nat} {ws : List Cond} {R : Room} {ini : Bool} {pc : Nat}
theorem nq_iconst {n : Int} {v : Int32} (hd : decode cc pc = .ok (.iconst n, 1)) (hv : Int32.ofInt n = v) : SnQ_ l E own cc nL ws R ini pc (n_ic v 1) := by
  intro p e s m args below meth c n0 out ⟨hx, hb, hml, hown, hts, hK, hlk, ⟨hE, hKC, hA0, hXS⟩, hR⟩ hin Q k hk lo st τ h
  exact ⟨(hk _ _ _ _ h).1, fun H locs ls cl sl hP hS hc hs hl => lv_iconst hx hb hd hv ((hk _ _ _ _ h).2 H locs ls cl sl hP hS hc hs hl)⟩
theorem nq_ast_n {q : Fin 4} {i : Nat} (hd : decode cc pc = .ok (.astore_n q, 1)) (hi : (q : Nat) = i) : SnQ_ l E own cc nL ws R ini pc (n_ast i 1) := by
  intro p e s m args below meth c n0 out ⟨hx, hb, hml, hown, hts, hK, hlk, ⟨hE, hKC, hA0, hXS⟩, hR⟩ hin Q k hk lo st τ h
  unfold n_ast at h
  split at h
  · rename_i x r
    split at h
    · rename_i hg
      simp only [Bool.and_eq_true, decide_eq_true_eq] at hg
      exact ⟨(hk _ _ _ _ h).1, fun H locs ls cl sl hP hS hc hs hl => lv_astore_n hx hb hd hi (hl_has hl) (by rw [← hl.1]; exact hg.2) rfl (fun ls1 hl1 => (hk _ _ _ _ h).2 H locs ls1 cl sl hP hS hc hs (hl_st1 (w := .ref x) hl.1 hg.1 hl1))⟩
    · cases h
  · cases h
theorem nq_dup (hd : decode cc pc = .ok (.dup, 1)) : SnQ_ l E own cc nL ws R ini pc (n_dup) := by
  intro p e s m args below meth c n0 out ⟨hx, hb, hml, hown, hts, hK, hlk, ⟨hE, hKC, hA0, hXS⟩, hR⟩ hin Q k hk lo st τ h
  unfold n_dup at h
  split at h
  · split at h
    · rename_i hg
      exact ⟨(hk _ _ _ _ h).1, fun H locs ls cl sl hP hS hc hs hl => lv_dup hx hb hd (by rw [rn_cat]; exact hg) ((hk _ _ _ _ h).2 H locs ls cl sl hP hS hc hs hl)⟩
    · cases h
  · cases h
theorem nq_new {ci index : Nat} (hd : decode cc pc = .ok (.new index, 3)) (hci : ci < 13) (hws : ∀ w ∈ u_ws (cR_ ci) (cT_ ci) (cN_ ci), w ∈ ws) (hcl : Cond.classLink own index (cR_ ci) ∈ ws) (hins : Cond.instantiable (cR_ ci) (cN_ ci) ∈ ws) (hini : Cond.initialized (cR_ ci) ∈ ws) : SnQ_ l E own cc nL ws R ini pc (n_new ci) := by
  intro p e s m args below meth c n0 out ⟨hx, hb, hml, hown, hts, hK, hlk, ⟨hE, hKC, hA0, hXS⟩, hR⟩ hin Q k hk lo st τ h
  obtain ⟨n, σ⟩ := τ
  unfold n_new at h
  dsimp only at h
  split at h
  · rename_i hq
    have hk1 := hk _ _ _ _ h
    have h1 : n + 1 ≤ out.1 := hk1.1
    refine ⟨Nat.le_of_succ_le h1, fun H locs ls cl sl hP hS hc hs hl => ?_⟩
    have ht : n < 247 := hq.2
    have hkd : (E.2.2.2.1.1 n).1 = ci := by rw [hKC]; exact hq.1
    refine va_new (ci := ci) (fs := (List.range (cN_ ci)).map (fvN_ E ci n (zr_ σ n))) (C := cR_ ci) (T := cT_ ci) (N := cN_ ci) (A := AN_ E) hx hb hts hws (cY_ ci) (c_ty ci hci) hown (hts _ hcl) (hts _ hins) (hts _ hini) hK hP (wlN_D hE (Nat.le_of_lt ht)) hS (fun q hq => Nat.le_trans (by omega) hq) (c_cl ci hci) (fun j hj => ?_) (rm_c hc h1 hR.2.1) (rm_s hs (sz_obj hq.1 hci) h1 hR.2.2) hd (fun q H1 hP1 hD1 hS1 => ?_)
    · rw [vpV_map hj]
      exact fvN_0 hci hj (by simp [zr_]) (by simp [zr_]) (by simp [zr_])
    · refine W_sz (fun hsz => ?_)
      have hqn : q = E.2.2.1 n := new_ad hE ht hD1 (by
        have hg : (wlN_ E (n, σ) ++ [(q, Sum.inr (ci, (List.range (cN_ ci)).map (fvN_ E ci n (zr_ σ n))))])[n]? = some (q, Sum.inr (ci, (List.range (cN_ ci)).map (fvN_ E ci n (zr_ σ n)))) := by
          rw [List.getElem?_append_right (by rw [wlN_len]; exact Nat.le_refl _), wlN_len]
          show [_][n - n]? = _
          rw [Nat.sub_self]
          rfl
        have h2 : q < H1.size := (hP1 n _ hg).lt
        have hc : cl + n0 = n := hc
        omega)
      subst hqn
      have e1 : enN_ E (zr_ σ n) n = .inr (ci, (List.range (cN_ ci)).map (fvN_ E ci n (zr_ σ n))) := enN_obj hkd hci
      rw [← e1, ← wlN_push (fun o ho => enN_zr (Nat.ne_of_lt ho))] at hP1
      exact hk1.2 H1 locs ls (cl + 1) (sl + cN_ ci) hP1 hS1 (by show cl + 1 + n0 = n + 1; have hc : cl + n0 = n := hc; omega) (by
        show sl + cN_ ci + slN_ n0 = slN_ n + sz_ n
        rw [sz_obj hq.1 hci]
        have hs : sl + slN_ n0 = slN_ n := hs
        omega) hl
  · cases h
theorem nq_newa_long (hd : decode cc pc = .ok (.newarray .long, 2)) (har : Cond.arrayClass .long ∈ ws) : SnQ_ l E own cc nL ws R ini pc (n_newa 15) := by
  intro p e s m args below meth c n0 out ⟨hx, hb, hml, hown, hts, hK, hlk, ⟨hE, hKC, hA0, hXS⟩, hR⟩ hin Q k hk lo st τ h
  obtain ⟨n, σ⟩ := τ
  unfold n_newa at h
  dsimp only at h
  split at h
  · rename_i x r
    split at h
    · rename_i hq
      have hk1 := hk _ _ _ _ h
      have h1 : n + 1 ≤ out.1 := hk1.1
      refine ⟨Nat.le_of_succ_le h1, fun H locs ls cl sl hP hS hc hs hl => ?_⟩
      have ht : n < 247 := hq.2.1
      have hkd : (E.2.2.2.1.1 n).1 = 15 := by rw [hKC]; exact hq.1
      have hln : (E.2.2.2.1.1 n).2 = (KC.1 n).2 := by rw [hKC]
      have hbig : (KC.1 n).2 ≤ 100000 := hq.2.2.2
      refine va_newa (atype := .long) (ty := .long) (a0 := ((KC.1 n).2, .inr (.inl ((zr_ σ n).2.1 n)))) (A := AN_ E) hx hb (hts _ har) rfl hK hP (wlN_D hE (Nat.le_of_lt ht)) hS (fun q hq => Nat.le_trans (by omega) hq) (fun cA => ?_) hq.2.2.1.1 hq.2.2.1.2 (by show (KC.1 n).2 * 8 ≤ 536870912; omega) (rm_c hc h1 hR.2.1) (rm_s hs (sz_arr hq.1 (by omega)) h1 hR.2.2) hd (fun q cA H1 hK1 hP1 hD1 hS1 => ?_)
      · rw [vp_cell_l]
        congr 1
        funext j
        simp [zr_, defaultValue]
      · refine W_sz (fun hsz => ?_)
        have hcA : cA = E.1 15 := by
          have a1 : va_RA s cA .long := (hK1.2 8 (cA, .long) rfl).2
          have a2 : va_RA s (E.1 15) .long := (hK.2 2 (E.1 15, .long) rfl).2
          exact Option.some.inj (Eq.trans (Eq.symm a1) a2)
        subst hcA
        have hqn : q = E.2.2.1 n := new_ad hE ht hD1 (by
          have h2 : q < H1.size := (hP1 n (q, .inl (E.1 15, (KC.1 n).2, .inr (.inl ((zr_ σ n).2.1 n)))) (by
            rw [List.getElem?_append_right (by rw [wlN_len]; exact Nat.le_refl _), wlN_len]
            show [_][n - n]? = _
            rw [Nat.sub_self]
            rfl)).lt
          have hc : cl + n0 = n := hc
          omega)
        subst hqn
        have e1 : enN_ E (zr_ σ n) n = .inl (E.1 15, (KC.1 n).2, .inr (.inl ((zr_ σ n).2.1 n))) := by rw [enN_long hkd, hln]
        rw [← e1, ← wlN_push (fun o ho => enN_zr (Nat.ne_of_lt ho))] at hP1
        exact hk1.2 H1 locs ls (cl + 1) (sl + (KC.1 n).2) hP1 hS1 (by show cl + 1 + n0 = n + 1; have hc : cl + n0 = n := hc; omega) (by
          show sl + (KC.1 n).2 + slN_ n0 = slN_ n + sz_ n
          rw [sz_arr hq.1 (by omega)]
          have hs : sl + slN_ n0 = slN_ n := hs
          omega) hl
    · cases h
  · cases h
theorem nq_callI {c0 : Cond} {y : MethodName} {cy : ByteArray} {ny : Nat} {np index lv : Nat} {f : Hn_} (hd : decode cc pc = .ok (.invokespecial index, 3)) (hM : MtN_ l E y (.code y cy ny none :: G_) lv f) (hC : Cl_ y cy ny none np) (hl0 : Cond.methodLink own index y ∈ G_) (hnm : y.name = "<init>") (hst : Cond.instanceMethod y ∈ G_) (hlv : lv + 1 ≤ R.frames ∧ 64 * (lv + 1) ≤ R.locals) : SnQ_ l E own cc nL (c0 :: G_) R ini pc (n_callI f np) := by
  intro p e s m args below meth c n0 out ⟨hx, hb, hml, hown, hts, hK, hlk, ⟨hE, hKC, hA0, hXS⟩, hR⟩ hin Q k hk lo st τ h
  unfold n_callI at h
  split at h
  · rename_i b r hdr
    split at h
    · rename_i hg
      split at h
      · rename_i τ1 hf
        split at h
        · rename_i hle
          have hk1 := hk _ _ _ _ h
          refine ⟨Nat.le_trans hle hk1.1, fun H locs ls cl sl hP hS hc hs hl => ?_⟩
          have ht : τ.1 ≤ 247 := by have := hk1.1; have := hR.1; omega
          refine W_sz (fun hsz => ?_)
          have hlo := sz_lo hE ht hA0 (by omega) hP hS
          have hHs : H.size = E.2.2.1 0 + τ.1 := by omega
          have hst0 : st = st.take np ++ .ref b :: r := by rw [← hdr, List.take_append_drop]
          have hpre := preN_ (as := .ref b :: (st.take np).reverse) hHs hP hK hXS hS
          have hsl := slN_le hle
          have hsl2 := slN_le hk1.1
          have hRun := va_runI (l := l) (m := m) (below := below) (meth := meth) (H := H) (locs := locs) (cells := cl) (slots := sl) (e := e) (b := E.2.2.1 b) (As := (st.take np).reverse.map (rn_ E.2.2.1)) (rest := r.map (rn_ E.2.2.1)) (g := F0 m pc ls (st.map (rn_ E.2.2.1))) (index := index) (own := own) ⟨hx, hb, hml, hown, hts⟩ (hM (.ref b :: (st.take np).reverse) τ τ1 hf (Nat.le_trans hk1.1 hR.1)) ⟨callBN_ hts hC hl0 hlv, hnm, hts _ (List.mem_cons_of_mem _ hst)⟩ hpre rfl (by rw [List.length_map, List.length_reverse, List.length_take]; omega) (hl.2.1) (by rw [← List.map_reverse, List.reverse_reverse]; show st.map _ = (st.take np).map _ ++ (Value.ref b :: r).map (rn_ E.2.2.1); rw [← List.map_append, ← hst0]) (by rw [rn_sum]; show 2 * 0 + _ ≤ 8; omega) hd ⟨by have := hk1.1; have := hR.2.1; omega, by have := hR.2.2; omega⟩
          refine runN_ hRun hS (fun H1 locs1 hP1 hS1 => ?_)
          exact hk1.2 H1 locs1 ls _ _ hP1 hS1 (by omega) (by omega) hl
        · cases h
      · cases h
    · cases h
  · cases h
end NQ
def PN_law : List (Nat × On_) := [(0, n_new 11), (3, n_dup), (4, n_callI hn_X11_init 0), (7, n_ast 1 1), (8, n_new 12), (11, n_dup), (12, n_callI hn_X12_init 0), (15, n_ast 2 1), (16, n_ic 1 1), (17, n_newa 15), (19, n_ast 3 1)]
theorem an_law {l : Launch} {E : En_} (hE : EX_ E) (hKC : E.2.2.2.1 = KC) : AllN_ (SnQ_ l E RL cL_law 7 (c0L_ :: G_) room_1 false) PN_law :=
  alN_c (nq_new (by decide +kernel) (by decide) iw11 (G_w (G_1 (i := 25) rfl rfl)) (G_w (G_1 (i := 26) rfl rfl)) (G_w (G_1 (i := 1) rfl rfl))) <|
  alN_c (nq_dup (by decide +kernel)) <|
  alN_c (nq_callI (by decide +kernel) (mt_X11_init hE hKC) cln_X11_init ml_RL_21 rfl imn_X11_init ⟨by decide, by decide⟩) <|
  alN_c (nq_ast_n (q := 1) (by decide +kernel) rfl) <|
  alN_c (nq_new (by decide +kernel) (by decide) iw12 (G_w (G_6 (i := 129) rfl rfl)) (G_w (G_6 (i := 130) rfl rfl)) (G_w (G_1 (i := 17) rfl rfl))) <|
  alN_c (nq_dup (by decide +kernel)) <|
  alN_c (nq_callI (by decide +kernel) (mt_X12_init hE hKC) cln_X12_init ml_RL_24 rfl imn_X12_init ⟨by decide, by decide⟩) <|
  alN_c (nq_ast_n (q := 2) (by decide +kernel) rfl) <|
  alN_c (nq_iconst (n := 1) (by decide +kernel) (by decide)) <|
  alN_c (nq_newa_long (by decide +kernel) (G_w (G_7 (i := 85) rfl rfl))) <|
  alN_c (nq_ast_n (q := 3) (by decide +kernel) rfl) <|
  alN_n
theorem n_callI_st {P : List (Nat × On_)} {K : Cn_} {f : Hn_} {na m pc : Nat} {lo : Lo_} {st r : List Value} {τ τ1 : Tn_} {b : Nat} (hp : P.lookup pc = some (n_callI f na)) (hst : st.drop na = .ref b :: r) (hc : (r.map fun v => v.category).sum ≤ 8 ∧ na ≤ st.length) {as : List Value} (has : .ref b :: (st.take na).reverse = as) (hf : f as τ = some τ1) (hle : τ.1 ≤ τ1.1) : stN_ P K (m + 1) pc lo st τ = stN_ P K m (pc + 3) lo r τ1 := by
  subst has
  show (match P.lookup pc with | some o => o (stN_ P K m) pc lo st τ | none => none) = _
  rw [hp]
  show n_callI f na (stN_ P K m) pc lo st τ = _
  unfold n_callI
  rw [hst]
  dsimp only
  rw [if_pos hc, hf]
  exact if_pos hle
set_option maxRecDepth 100000 in
theorem pl_0 (K : Cn_) (m : Nat) (σ : St_) : stN_ PN_law K (m + 2) 0 [some (.ref 247), none, none, none, none, none, none] [] (0, σ) = stN_ PN_law K m 4 [some (.ref 247), none, none, none, none, none, none] [.ref 0, .ref 0] (1, zr_ σ 0) := rfl
set_option maxRecDepth 100000 in
theorem pl_1 (K : Cn_) (m : Nat) (σ : St_) : stN_ PN_law K (m + 3) 7 [some (.ref 247), none, none, none, none, none, none] [.ref 0] (219, σ) = stN_ PN_law K m 12 [some (.ref 247), some (.ref 0), none, none, none, none, none] [.ref 219, .ref 219] (220, zr_ σ 219) := rfl
set_option maxRecDepth 100000 in
theorem pl_2 (K : Cn_) (m : Nat) (σ : St_) : stN_ PN_law K (m + 4) 15 [some (.ref 247), some (.ref 0), none, none, none, none, none] [.ref 219] (246, σ) = stN_ PN_law K m 20 [some (.ref 247), some (.ref 0), some (.ref 219), some (.ref 246), none, none, none] [] (247, zr_ σ 246) := rfl
theorem pl_all (K : Cn_) : stN_ PN_law K 11 0 [some (.ref 247), none, none, none, none, none, none] [] (0, sz0_) = K 20 [some (.ref 247), some (.ref 0), some (.ref 219), some (.ref 246), none, none, none] [] (247, st0_) :=
  (pl_0 K 9 _).trans ((n_callI_st (P := PN_law) (f := hn_X11_init) (na := 0) (m := 8) (pc := 4) (st := [.ref 0, .ref 0]) (r := [.ref 0]) (b := 0) (as := [.ref 0]) rfl rfl ⟨by decide, by decide⟩ rfl (ev_X11 _) (by show 1 ≤ 219; decide)).trans ((pl_1 K 5 _).trans ((n_callI_st (P := PN_law) (f := hn_X12_init) (na := 0) (m := 4) (pc := 12) (st := [.ref 219, .ref 219]) (r := [.ref 219]) (b := 219) (as := [.ref 219]) rfl rfl ⟨by decide, by decide⟩ rfl (ev_X12 _) (by show 220 ≤ 246; decide)).trans (pl_2 K 0 _))))
theorem law_pre {p : Program} {l : Launch} {e : Env} {s : State} {m : MethodId} {args : Array Value} {below : List Frame} {meth : Method} {c : Code} {E : En_} {Q : State → Prop} (hE : EX_ E) (hKC : E.2.2.2.1 = KC) (X : FxN_ p room_1 s m args meth c E RL cL_law 7 (c0L_ :: G_) 0 247) (hk : GN_ p l e room_1 s m args below meth c E 7 0 Q 20 [some (.ref 247), some (.ref 0), some (.ref 219), some (.ref 246), none, none, none] [] (247, st0_)) : GN_ p l e room_1 s m args below meth c E 7 0 Q 0 [some (.ref 247), none, none, none, none, none, none] [] (0, sz0_) := by
  refine (stQ_snd (P := PN_law) (out := (247, st0_)) (fun pc o ho => alN_get (an_law (l := l) hE hKC) ho) X (fun z => by cases z) (k := fun a b d t => @ite _ (a = 20 ∧ b = [some (.ref 247), some (.ref 0), some (.ref 219), some (.ref 246), none, none, none] ∧ d = [] ∧ t = (247, st0_)) (Classical.propDecidable _) (some (247, st0_)) none) (fun a b d t hz => ?_) 11 0 [some (.ref 247), none, none, none, none, none, none] [] (0, sz0_) ?_).2
  · by_cases hc : a = 20 ∧ b = [some (.ref 247), some (.ref 0), some (.ref 219), some (.ref 246), none, none, none] ∧ d = [] ∧ t = (247, st0_)
    · obtain ⟨rfl, rfl, rfl, rfl⟩ := hc
      exact ⟨Nat.le_refl _, hk⟩
    · rw [if_neg hc] at hz
      cases hz
  · rw [pl_all]
    exact if_pos ⟨rfl, rfl, rfl, rfl⟩
