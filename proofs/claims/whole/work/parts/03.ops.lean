section OPS
variable {l : Launch} {E : En_} {own : String} {cc : ByteArray} {nL : Nat} {ret : Option FieldType} {ws : List Cond} {R : Room} {pc : Nat}
def o_x : Op_ := fun _ _ _ _ _ => none
theorem s_x  : Snd_ l E own cc nL ret ws R pc (o_x) := by
  refine ⟨?_, ?_⟩
  · intro k k1 hkk pc lo st σ out
    unfold o_x
    repeat' split
    all_goals first | exact hkk _ _ _ _ _ | exact id | (intro h; cases h; done) | (simp_all; done)
  intro p e s m args below meth c ⟨hx, hb, hml, hown, hts, hK, hr, hlk, hE⟩ cl sl Q hcs k out hrt hk lo st σ h
  cases h
def o_ic (v : Int32) (n : Nat) : Op_ := fun k pc lo st σ => k (pc + n) lo (.int v :: st) σ
def o_lc (v : Int64) (n : Nat) : Op_ := fun k pc lo st σ => k (pc + n) lo (.long v :: st) σ
theorem s_iconst {n : Int} {v : Int32} (hd : decode cc pc = .ok (.iconst n, 1)) (hv : Int32.ofInt n = v) : Snd_ l E own cc nL ret ws R pc (o_ic v 1) := by
  refine ⟨?_, ?_⟩
  · intro k k1 hkk pc lo st σ out
    unfold o_ic
    repeat' split
    all_goals first | exact hkk _ _ _ _ _ | exact id | (intro h; cases h; done) | (simp_all; done)
  intro p e s m args below meth c ⟨hx, hb, hml, hown, hts, hK, hr, hlk, hE⟩ cl sl Q hcs k out hrt hk lo st σ h
  exact fun H locs ls hP hS hl => lv_iconst hx hb hd hv (hk _ _ _ _ h H locs ls hP hS hl)
theorem s_bipush {n : Int} {v : Int32} (hd : decode cc pc = .ok (.bipush n, 2)) (hv : (Int8.ofInt n).toInt32 = v) : Snd_ l E own cc nL ret ws R pc (o_ic v 2) := by
  refine ⟨?_, ?_⟩
  · intro k k1 hkk pc lo st σ out
    unfold o_ic
    repeat' split
    all_goals first | exact hkk _ _ _ _ _ | exact id | (intro h; cases h; done) | (simp_all; done)
  intro p e s m args below meth c ⟨hx, hb, hml, hown, hts, hK, hr, hlk, hE⟩ cl sl Q hcs k out hrt hk lo st σ h
  exact fun H locs ls hP hS hl => lv_bipush hx hb hd hv (hk _ _ _ _ h H locs ls hP hS hl)
theorem s_sipush {n : Int} {v : Int32} (hd : decode cc pc = .ok (.sipush n, 3)) (hv : (Int16.ofInt n).toInt32 = v) : Snd_ l E own cc nL ret ws R pc (o_ic v 3) := by
  refine ⟨?_, ?_⟩
  · intro k k1 hkk pc lo st σ out
    unfold o_ic
    repeat' split
    all_goals first | exact hkk _ _ _ _ _ | exact id | (intro h; cases h; done) | (simp_all; done)
  intro p e s m args below meth c ⟨hx, hb, hml, hown, hts, hK, hr, hlk, hE⟩ cl sl Q hcs k out hrt hk lo st σ h
  exact fun H locs ls hP hS hl => lv_sipush hx hb hd hv (hk _ _ _ _ h H locs ls hP hS hl)
theorem s_ldc {n : Nat} {v : Int32} (hd : decode cc pc = .ok (.ldc n, 2)) (hw : Cond.constant own n v ∈ ws) : Snd_ l E own cc nL ret ws R pc (o_ic v 2) := by
  refine ⟨?_, ?_⟩
  · intro k k1 hkk pc lo st σ out
    unfold o_ic
    repeat' split
    all_goals first | exact hkk _ _ _ _ _ | exact id | (intro h; cases h; done) | (simp_all; done)
  intro p e s m args below meth c ⟨hx, hb, hml, hown, hts, hK, hr, hlk, hE⟩ cl sl Q hcs k out hrt hk lo st σ h
  exact fun H locs ls hP hS hl => lv_ldc hx hb hown (hts _ hw) hd (hk _ _ _ _ h H locs ls hP hS hl)
theorem s_ldcw {n : Nat} {v : Int32} (hd : decode cc pc = .ok (.ldc_w n, 3)) (hw : Cond.constant own n v ∈ ws) : Snd_ l E own cc nL ret ws R pc (o_ic v 3) := by
  refine ⟨?_, ?_⟩
  · intro k k1 hkk pc lo st σ out
    unfold o_ic
    repeat' split
    all_goals first | exact hkk _ _ _ _ _ | exact id | (intro h; cases h; done) | (simp_all; done)
  intro p e s m args below meth c ⟨hx, hb, hml, hown, hts, hK, hr, hlk, hE⟩ cl sl Q hcs k out hrt hk lo st σ h
  exact fun H locs ls hP hS hl => lv_ldcw hx hb hown (hts _ hw) hd (hk _ _ _ _ h H locs ls hP hS hl)
theorem s_lconst {n : Fin 2} {v : Int64} (hd : decode cc pc = .ok (.lconst n, 1)) (hv : Int64.ofNat (n : Nat) = v) : Snd_ l E own cc nL ret ws R pc (o_lc v 1) := by
  refine ⟨?_, ?_⟩
  · intro k k1 hkk pc lo st σ out
    unfold o_lc
    repeat' split
    all_goals first | exact hkk _ _ _ _ _ | exact id | (intro h; cases h; done) | (simp_all; done)
  intro p e s m args below meth c ⟨hx, hb, hml, hown, hts, hK, hr, hlk, hE⟩ cl sl Q hcs k out hrt hk lo st σ h
  exact fun H locs ls hP hS hl => lv_lconst hx hb hd hv (hk _ _ _ _ h H locs ls hP hS hl)
theorem s_ldc2 {n : Nat} {v : Int64} (hd : decode cc pc = .ok (.ldc2_w n, 3)) (hw : Cond.constantLong own n v ∈ ws) : Snd_ l E own cc nL ret ws R pc (o_lc v 3) := by
  refine ⟨?_, ?_⟩
  · intro k k1 hkk pc lo st σ out
    unfold o_lc
    repeat' split
    all_goals first | exact hkk _ _ _ _ _ | exact id | (intro h; cases h; done) | (simp_all; done)
  intro p e s m args below meth c ⟨hx, hb, hml, hown, hts, hK, hr, hlk, hE⟩ cl sl Q hcs k out hrt hk lo st σ h
  exact fun H locs ls hP hS hl => lv_ldc2 hx hb hown (hts _ hw) hd (hk _ _ _ _ h H locs ls hP hS hl)
def o_ild (i n : Nat) : Op_ := fun k pc lo st σ => match lo[i]? with
  | some (some (.int x)) => k (pc + n) lo (.int x :: st) σ
  | _ => none
theorem s_ild_n {q : Fin 4} {i : Nat} (hd : decode cc pc = .ok (.iload_n q, 1)) (hi : (q : Nat) = i)  : Snd_ l E own cc nL ret ws R pc (o_ild i 1) := by
  refine ⟨?_, ?_⟩
  · intro k k1 hkk pc lo st σ out
    unfold o_ild
    repeat' split
    all_goals first | exact hkk _ _ _ _ _ | exact id | (intro h; cases h; done) | (simp_all; done)
  intro p e s m args below meth c ⟨hx, hb, hml, hown, hts, hK, hr, hlk, hE⟩ cl sl Q hcs k out hrt hk lo st σ h
  unfold o_ild at h
  split at h
  · rename_i x hx0
    exact fun H locs ls hP hS hl => lv_iload_n hx hb hd hi (hl.2.2.2 _ _ hx0) (hk _ _ _ _ h H locs ls hP hS hl)
  · cases h
theorem s_ild {i : Nat} (hd : decode cc pc = .ok (.iload i, 2))  : Snd_ l E own cc nL ret ws R pc (o_ild i 2) := by
  refine ⟨?_, ?_⟩
  · intro k k1 hkk pc lo st σ out
    unfold o_ild
    repeat' split
    all_goals first | exact hkk _ _ _ _ _ | exact id | (intro h; cases h; done) | (simp_all; done)
  intro p e s m args below meth c ⟨hx, hb, hml, hown, hts, hK, hr, hlk, hE⟩ cl sl Q hcs k out hrt hk lo st σ h
  unfold o_ild at h
  split at h
  · rename_i x hx0
    exact fun H locs ls hP hS hl => lv_iload hx hb hd (hl.2.2.2 _ _ hx0) (hk _ _ _ _ h H locs ls hP hS hl)
  · cases h
def o_lld (i n : Nat) : Op_ := fun k pc lo st σ => match lo[i]? with
  | some (some (.long x)) => k (pc + n) lo (.long x :: st) σ
  | _ => none
theorem s_lld_n {q : Fin 4} {i : Nat} (hd : decode cc pc = .ok (.lload_n q, 1)) (hi : (q : Nat) = i)  : Snd_ l E own cc nL ret ws R pc (o_lld i 1) := by
  refine ⟨?_, ?_⟩
  · intro k k1 hkk pc lo st σ out
    unfold o_lld
    repeat' split
    all_goals first | exact hkk _ _ _ _ _ | exact id | (intro h; cases h; done) | (simp_all; done)
  intro p e s m args below meth c ⟨hx, hb, hml, hown, hts, hK, hr, hlk, hE⟩ cl sl Q hcs k out hrt hk lo st σ h
  unfold o_lld at h
  split at h
  · rename_i x hx0
    exact fun H locs ls hP hS hl => lv_lload_n hx hb hd hi (hl.2.2.2 _ _ hx0) (hk _ _ _ _ h H locs ls hP hS hl)
  · cases h
theorem s_lld {i : Nat} (hd : decode cc pc = .ok (.lload i, 2))  : Snd_ l E own cc nL ret ws R pc (o_lld i 2) := by
  refine ⟨?_, ?_⟩
  · intro k k1 hkk pc lo st σ out
    unfold o_lld
    repeat' split
    all_goals first | exact hkk _ _ _ _ _ | exact id | (intro h; cases h; done) | (simp_all; done)
  intro p e s m args below meth c ⟨hx, hb, hml, hown, hts, hK, hr, hlk, hE⟩ cl sl Q hcs k out hrt hk lo st σ h
  unfold o_lld at h
  split at h
  · rename_i x hx0
    exact fun H locs ls hP hS hl => lv_lload hx hb hd (hl.2.2.2 _ _ hx0) (hk _ _ _ _ h H locs ls hP hS hl)
  · cases h
def o_ald (i n : Nat) : Op_ := fun k pc lo st σ => match lo[i]? with
  | some (some (.ref x)) => k (pc + n) lo (.ref x :: st) σ
  | _ => none
theorem s_ald_n {q : Fin 4} {i : Nat} (hd : decode cc pc = .ok (.aload_n q, 1)) (hi : (q : Nat) = i)  : Snd_ l E own cc nL ret ws R pc (o_ald i 1) := by
  refine ⟨?_, ?_⟩
  · intro k k1 hkk pc lo st σ out
    unfold o_ald
    repeat' split
    all_goals first | exact hkk _ _ _ _ _ | exact id | (intro h; cases h; done) | (simp_all; done)
  intro p e s m args below meth c ⟨hx, hb, hml, hown, hts, hK, hr, hlk, hE⟩ cl sl Q hcs k out hrt hk lo st σ h
  unfold o_ald at h
  split at h
  · rename_i x hx0
    exact fun H locs ls hP hS hl => lv_aload_n hx hb hd hi (hl.2.2.2 _ _ hx0) (hk _ _ _ _ h H locs ls hP hS hl)
  · cases h
theorem s_ald {i : Nat} (hd : decode cc pc = .ok (.aload i, 2))  : Snd_ l E own cc nL ret ws R pc (o_ald i 2) := by
  refine ⟨?_, ?_⟩
  · intro k k1 hkk pc lo st σ out
    unfold o_ald
    repeat' split
    all_goals first | exact hkk _ _ _ _ _ | exact id | (intro h; cases h; done) | (simp_all; done)
  intro p e s m args below meth c ⟨hx, hb, hml, hown, hts, hK, hr, hlk, hE⟩ cl sl Q hcs k out hrt hk lo st σ h
  unfold o_ald at h
  split at h
  · rename_i x hx0
    exact fun H locs ls hP hS hl => lv_aload hx hb hd (hl.2.2.2 _ _ hx0) (hk _ _ _ _ h H locs ls hP hS hl)
  · cases h
def o_ist (i n : Nat) : Op_ := fun k pc lo st σ => match st with
  | .int x :: r => if okS_ lo i && decide (i < lo.length) then k (pc + n) (lo.set i (some (.int x))) r σ else none
  | _ => none
theorem s_ist_n {q : Fin 4} {i : Nat} (hd : decode cc pc = .ok (.istore_n q, 1)) (hi : (q : Nat) = i)  : Snd_ l E own cc nL ret ws R pc (o_ist i 1) := by
  refine ⟨?_, ?_⟩
  · intro k k1 hkk pc lo st σ out
    unfold o_ist
    repeat' split
    all_goals first | exact hkk _ _ _ _ _ | exact id | (intro h; cases h; done) | (simp_all; done)
  intro p e s m args below meth c ⟨hx, hb, hml, hown, hts, hK, hr, hlk, hE⟩ cl sl Q hcs k out hrt hk lo st σ h
  unfold o_ist at h
  split at h
  · rename_i x r
    split at h
    · rename_i hg
      simp only [Bool.and_eq_true, decide_eq_true_eq] at hg
      exact fun H locs ls hP hS hl => lv_istore_n hx hb hd hi (hl_has hl) (by rw [← hl.1]; exact hg.2) rfl (fun ls1 hl1 => hk _ _ _ _ h H locs ls1 hP hS (hl_st1 (w := .int x) hl.1 hg.1 hl1))
    · cases h
  · cases h
theorem s_ist {i : Nat} (hd : decode cc pc = .ok (.istore i, 2))  : Snd_ l E own cc nL ret ws R pc (o_ist i 2) := by
  refine ⟨?_, ?_⟩
  · intro k k1 hkk pc lo st σ out
    unfold o_ist
    repeat' split
    all_goals first | exact hkk _ _ _ _ _ | exact id | (intro h; cases h; done) | (simp_all; done)
  intro p e s m args below meth c ⟨hx, hb, hml, hown, hts, hK, hr, hlk, hE⟩ cl sl Q hcs k out hrt hk lo st σ h
  unfold o_ist at h
  split at h
  · rename_i x r
    split at h
    · rename_i hg
      simp only [Bool.and_eq_true, decide_eq_true_eq] at hg
      exact fun H locs ls hP hS hl => lv_istore hx hb hd (hl_has hl) (by rw [← hl.1]; exact hg.2) rfl (fun ls1 hl1 => hk _ _ _ _ h H locs ls1 hP hS (hl_st1 (w := .int x) hl.1 hg.1 hl1))
    · cases h
  · cases h
def o_ast (i n : Nat) : Op_ := fun k pc lo st σ => match st with
  | .ref x :: r => if okS_ lo i && decide (i < lo.length) then k (pc + n) (lo.set i (some (.ref x))) r σ else none
  | _ => none
theorem s_ast_n {q : Fin 4} {i : Nat} (hd : decode cc pc = .ok (.astore_n q, 1)) (hi : (q : Nat) = i)  : Snd_ l E own cc nL ret ws R pc (o_ast i 1) := by
  refine ⟨?_, ?_⟩
  · intro k k1 hkk pc lo st σ out
    unfold o_ast
    repeat' split
    all_goals first | exact hkk _ _ _ _ _ | exact id | (intro h; cases h; done) | (simp_all; done)
  intro p e s m args below meth c ⟨hx, hb, hml, hown, hts, hK, hr, hlk, hE⟩ cl sl Q hcs k out hrt hk lo st σ h
  unfold o_ast at h
  split at h
  · rename_i x r
    split at h
    · rename_i hg
      simp only [Bool.and_eq_true, decide_eq_true_eq] at hg
      exact fun H locs ls hP hS hl => lv_astore_n hx hb hd hi (hl_has hl) (by rw [← hl.1]; exact hg.2) rfl (fun ls1 hl1 => hk _ _ _ _ h H locs ls1 hP hS (hl_st1 (w := .ref x) hl.1 hg.1 hl1))
    · cases h
  · cases h
theorem s_ast {i : Nat} (hd : decode cc pc = .ok (.astore i, 2))  : Snd_ l E own cc nL ret ws R pc (o_ast i 2) := by
  refine ⟨?_, ?_⟩
  · intro k k1 hkk pc lo st σ out
    unfold o_ast
    repeat' split
    all_goals first | exact hkk _ _ _ _ _ | exact id | (intro h; cases h; done) | (simp_all; done)
  intro p e s m args below meth c ⟨hx, hb, hml, hown, hts, hK, hr, hlk, hE⟩ cl sl Q hcs k out hrt hk lo st σ h
  unfold o_ast at h
  split at h
  · rename_i x r
    split at h
    · rename_i hg
      simp only [Bool.and_eq_true, decide_eq_true_eq] at hg
      exact fun H locs ls hP hS hl => lv_astore hx hb hd (hl_has hl) (by rw [← hl.1]; exact hg.2) rfl (fun ls1 hl1 => hk _ _ _ _ h H locs ls1 hP hS (hl_st1 (w := .ref x) hl.1 hg.1 hl1))
    · cases h
  · cases h
def o_lst (i n : Nat) : Op_ := fun k pc lo st σ => match st with
  | .long x :: r => if okS_ lo i && decide (i + 1 < lo.length) then k (pc + n) ((lo.set i (some (.long x))).set (i + 1) none) r σ else none
  | _ => none
theorem s_lst_n {q : Fin 4} {i : Nat} (hd : decode cc pc = .ok (.lstore_n q, 1)) (hi : (q : Nat) = i)  : Snd_ l E own cc nL ret ws R pc (o_lst i 1) := by
  refine ⟨?_, ?_⟩
  · intro k k1 hkk pc lo st σ out
    unfold o_lst
    repeat' split
    all_goals first | exact hkk _ _ _ _ _ | exact id | (intro h; cases h; done) | (simp_all; done)
  intro p e s m args below meth c ⟨hx, hb, hml, hown, hts, hK, hr, hlk, hE⟩ cl sl Q hcs k out hrt hk lo st σ h
  unfold o_lst at h
  split at h
  · rename_i x r
    split at h
    · rename_i hg
      simp only [Bool.and_eq_true, decide_eq_true_eq] at hg
      exact fun H locs ls hP hS hl => lv_lstore_n hx hb hd hi (hl_has hl) (by rw [← hl.1]; exact hg.2) rfl (fun ls1 hl1 => hk _ _ _ _ h H locs ls1 hP hS (hl_st2 (w := .long x) hl.1 hg.1 hl1))
    · cases h
  · cases h
theorem s_lst {i : Nat} (hd : decode cc pc = .ok (.lstore i, 2))  : Snd_ l E own cc nL ret ws R pc (o_lst i 2) := by
  refine ⟨?_, ?_⟩
  · intro k k1 hkk pc lo st σ out
    unfold o_lst
    repeat' split
    all_goals first | exact hkk _ _ _ _ _ | exact id | (intro h; cases h; done) | (simp_all; done)
  intro p e s m args below meth c ⟨hx, hb, hml, hown, hts, hK, hr, hlk, hE⟩ cl sl Q hcs k out hrt hk lo st σ h
  unfold o_lst at h
  split at h
  · rename_i x r
    split at h
    · rename_i hg
      simp only [Bool.and_eq_true, decide_eq_true_eq] at hg
      exact fun H locs ls hP hS hl => lv_lstore hx hb hd (hl_has hl) (by rw [← hl.1]; exact hg.2) rfl (fun ls1 hl1 => hk _ _ _ _ h H locs ls1 hP hS (hl_st2 (w := .long x) hl.1 hg.1 hl1))
    · cases h
  · cases h
def o_inc (i : Nat) (v : Int32) : Op_ := fun k pc lo st σ => match lo[i]? with
  | some (some (.int x)) => if okS_ lo i then k (pc + 3) (lo.set i (some (.int (x + v)))) st σ else none
  | _ => none
theorem s_inc {i : Nat} {n : Int} {v : Int32} (hd : decode cc pc = .ok (.iinc i n, 3)) (hv : Int32.ofInt n = v) : Snd_ l E own cc nL ret ws R pc (o_inc i v) := by
  refine ⟨?_, ?_⟩
  · intro k k1 hkk pc lo st σ out
    unfold o_inc
    repeat' split
    all_goals first | exact hkk _ _ _ _ _ | exact id | (intro h; cases h; done) | (simp_all; done)
  intro p e s m args below meth c ⟨hx, hb, hml, hown, hts, hK, hr, hlk, hE⟩ cl sl Q hcs k out hrt hk lo st σ h
  unfold o_inc at h
  split at h
  · rename_i x hx0
    split at h
    · rename_i hg
      intro H locs ls hP hS hl
      have hm : (i, Value.int x) ∈ pl_ E.2.2.1 lo := pl_mem.mpr ⟨_, hx0, rfl⟩
      obtain ⟨q, hq⟩ := List.getElem?_of_mem hm
      exact lv_iinc hx hb hd (hl_has hl) hq (by rw [hv]) (by rw [← hl.1]; exact (List.getElem?_eq_some_iff.mp hx0).1) rfl (fun ls1 hl1 => hk _ _ _ _ h H locs ls1 hP hS (hl_st1 (w := .int (x + v)) hl.1 hg hl1))
    · cases h
  · cases h
def o_iadd : Op_ := fun k pc lo st σ => match st with
  | .int y :: .int x :: r => k (pc + 1) lo (.int (x + y) :: r) σ
  | _ => none
theorem s_iadd (hd : decode cc pc = .ok (.iadd, 1)) : Snd_ l E own cc nL ret ws R pc (o_iadd) := by
  refine ⟨?_, ?_⟩
  · intro k k1 hkk pc lo st σ out
    unfold o_iadd
    repeat' split
    all_goals first | exact hkk _ _ _ _ _ | exact id | (intro h; cases h; done) | (simp_all; done)
  intro p e s m args below meth c ⟨hx, hb, hml, hown, hts, hK, hr, hlk, hE⟩ cl sl Q hcs k out hrt hk lo st σ h
  unfold o_iadd at h
  split at h
  · exact fun H locs ls hP hS hl => lv_iadd hx hb hd (hk _ _ _ _ h H locs ls hP hS hl)
  · cases h
def o_isub : Op_ := fun k pc lo st σ => match st with
  | .int y :: .int x :: r => k (pc + 1) lo (.int (x - y) :: r) σ
  | _ => none
theorem s_isub (hd : decode cc pc = .ok (.isub, 1)) : Snd_ l E own cc nL ret ws R pc (o_isub) := by
  refine ⟨?_, ?_⟩
  · intro k k1 hkk pc lo st σ out
    unfold o_isub
    repeat' split
    all_goals first | exact hkk _ _ _ _ _ | exact id | (intro h; cases h; done) | (simp_all; done)
  intro p e s m args below meth c ⟨hx, hb, hml, hown, hts, hK, hr, hlk, hE⟩ cl sl Q hcs k out hrt hk lo st σ h
  unfold o_isub at h
  split at h
  · exact fun H locs ls hP hS hl => lv_isub hx hb hd (hk _ _ _ _ h H locs ls hP hS hl)
  · cases h
def o_imul : Op_ := fun k pc lo st σ => match st with
  | .int y :: .int x :: r => k (pc + 1) lo (.int (x * y) :: r) σ
  | _ => none
theorem s_imul (hd : decode cc pc = .ok (.imul, 1)) : Snd_ l E own cc nL ret ws R pc (o_imul) := by
  refine ⟨?_, ?_⟩
  · intro k k1 hkk pc lo st σ out
    unfold o_imul
    repeat' split
    all_goals first | exact hkk _ _ _ _ _ | exact id | (intro h; cases h; done) | (simp_all; done)
  intro p e s m args below meth c ⟨hx, hb, hml, hown, hts, hK, hr, hlk, hE⟩ cl sl Q hcs k out hrt hk lo st σ h
  unfold o_imul at h
  split at h
  · exact fun H locs ls hP hS hl => lv_imul hx hb hd (hk _ _ _ _ h H locs ls hP hS hl)
  · cases h
def o_iand : Op_ := fun k pc lo st σ => match st with
  | .int y :: .int x :: r => k (pc + 1) lo (.int (x &&& y) :: r) σ
  | _ => none
theorem s_iand (hd : decode cc pc = .ok (.iand, 1)) : Snd_ l E own cc nL ret ws R pc (o_iand) := by
  refine ⟨?_, ?_⟩
  · intro k k1 hkk pc lo st σ out
    unfold o_iand
    repeat' split
    all_goals first | exact hkk _ _ _ _ _ | exact id | (intro h; cases h; done) | (simp_all; done)
  intro p e s m args below meth c ⟨hx, hb, hml, hown, hts, hK, hr, hlk, hE⟩ cl sl Q hcs k out hrt hk lo st σ h
  unfold o_iand at h
  split at h
  · exact fun H locs ls hP hS hl => lv_iand hx hb hd (hk _ _ _ _ h H locs ls hP hS hl)
  · cases h
def o_ior : Op_ := fun k pc lo st σ => match st with
  | .int y :: .int x :: r => k (pc + 1) lo (.int (x ||| y) :: r) σ
  | _ => none
theorem s_ior (hd : decode cc pc = .ok (.ior, 1)) : Snd_ l E own cc nL ret ws R pc (o_ior) := by
  refine ⟨?_, ?_⟩
  · intro k k1 hkk pc lo st σ out
    unfold o_ior
    repeat' split
    all_goals first | exact hkk _ _ _ _ _ | exact id | (intro h; cases h; done) | (simp_all; done)
  intro p e s m args below meth c ⟨hx, hb, hml, hown, hts, hK, hr, hlk, hE⟩ cl sl Q hcs k out hrt hk lo st σ h
  unfold o_ior at h
  split at h
  · exact fun H locs ls hP hS hl => lv_ior hx hb hd (hk _ _ _ _ h H locs ls hP hS hl)
  · cases h
def o_ixor : Op_ := fun k pc lo st σ => match st with
  | .int y :: .int x :: r => k (pc + 1) lo (.int (x ^^^ y) :: r) σ
  | _ => none
theorem s_ixor (hd : decode cc pc = .ok (.ixor, 1)) : Snd_ l E own cc nL ret ws R pc (o_ixor) := by
  refine ⟨?_, ?_⟩
  · intro k k1 hkk pc lo st σ out
    unfold o_ixor
    repeat' split
    all_goals first | exact hkk _ _ _ _ _ | exact id | (intro h; cases h; done) | (simp_all; done)
  intro p e s m args below meth c ⟨hx, hb, hml, hown, hts, hK, hr, hlk, hE⟩ cl sl Q hcs k out hrt hk lo st σ h
  unfold o_ixor at h
  split at h
  · exact fun H locs ls hP hS hl => lv_ixor hx hb hd (hk _ _ _ _ h H locs ls hP hS hl)
  · cases h
def o_ishl : Op_ := fun k pc lo st σ => match st with
  | .int y :: .int x :: r => k (pc + 1) lo (.int (x <<< (y &&& 31)) :: r) σ
  | _ => none
theorem s_ishl (hd : decode cc pc = .ok (.ishl, 1)) : Snd_ l E own cc nL ret ws R pc (o_ishl) := by
  refine ⟨?_, ?_⟩
  · intro k k1 hkk pc lo st σ out
    unfold o_ishl
    repeat' split
    all_goals first | exact hkk _ _ _ _ _ | exact id | (intro h; cases h; done) | (simp_all; done)
  intro p e s m args below meth c ⟨hx, hb, hml, hown, hts, hK, hr, hlk, hE⟩ cl sl Q hcs k out hrt hk lo st σ h
  unfold o_ishl at h
  split at h
  · exact fun H locs ls hP hS hl => lv_ishl hx hb hd (hk _ _ _ _ h H locs ls hP hS hl)
  · cases h
def o_ishr : Op_ := fun k pc lo st σ => match st with
  | .int y :: .int x :: r => k (pc + 1) lo (.int (x >>> (y &&& 31)) :: r) σ
  | _ => none
theorem s_ishr (hd : decode cc pc = .ok (.ishr, 1)) : Snd_ l E own cc nL ret ws R pc (o_ishr) := by
  refine ⟨?_, ?_⟩
  · intro k k1 hkk pc lo st σ out
    unfold o_ishr
    repeat' split
    all_goals first | exact hkk _ _ _ _ _ | exact id | (intro h; cases h; done) | (simp_all; done)
  intro p e s m args below meth c ⟨hx, hb, hml, hown, hts, hK, hr, hlk, hE⟩ cl sl Q hcs k out hrt hk lo st σ h
  unfold o_ishr at h
  split at h
  · exact fun H locs ls hP hS hl => lv_ishr hx hb hd (hk _ _ _ _ h H locs ls hP hS hl)
  · cases h
def o_iushr : Op_ := fun k pc lo st σ => match st with
  | .int y :: .int x :: r => k (pc + 1) lo (.int ((x.toUInt32 >>> (y.toUInt32 &&& Int32.toUInt32 31)).toInt32) :: r) σ
  | _ => none
theorem s_iushr (hd : decode cc pc = .ok (.iushr, 1)) : Snd_ l E own cc nL ret ws R pc (o_iushr) := by
  refine ⟨?_, ?_⟩
  · intro k k1 hkk pc lo st σ out
    unfold o_iushr
    repeat' split
    all_goals first | exact hkk _ _ _ _ _ | exact id | (intro h; cases h; done) | (simp_all; done)
  intro p e s m args below meth c ⟨hx, hb, hml, hown, hts, hK, hr, hlk, hE⟩ cl sl Q hcs k out hrt hk lo st σ h
  unfold o_iushr at h
  split at h
  · exact fun H locs ls hP hS hl => lv_iushr hx hb hd rfl (hk _ _ _ _ h H locs ls hP hS hl)
  · cases h
def o_idiv : Op_ := fun k pc lo st σ => match st with
  | .int y :: .int x :: r => if y = 0 then none else k (pc + 1) lo (.int (x / y) :: r) σ
  | _ => none
theorem s_idiv (hd : decode cc pc = .ok (.idiv, 1)) : Snd_ l E own cc nL ret ws R pc (o_idiv) := by
  refine ⟨?_, ?_⟩
  · intro k k1 hkk pc lo st σ out
    unfold o_idiv
    repeat' split
    all_goals first | exact hkk _ _ _ _ _ | exact id | (intro h; cases h; done) | (simp_all; done)
  intro p e s m args below meth c ⟨hx, hb, hml, hown, hts, hK, hr, hlk, hE⟩ cl sl Q hcs k out hrt hk lo st σ h
  unfold o_idiv at h
  split at h
  · split at h
    · cases h
    · rename_i hg
      exact fun H locs ls hP hS hl => lv_idiv hx hb hd hg (hk _ _ _ _ h H locs ls hP hS hl)
  · cases h
def o_irem : Op_ := fun k pc lo st σ => match st with
  | .int y :: .int x :: r => if y = 0 then none else k (pc + 1) lo (.int (x - x / y * y) :: r) σ
  | _ => none
theorem s_irem (hd : decode cc pc = .ok (.irem, 1)) : Snd_ l E own cc nL ret ws R pc (o_irem) := by
  refine ⟨?_, ?_⟩
  · intro k k1 hkk pc lo st σ out
    unfold o_irem
    repeat' split
    all_goals first | exact hkk _ _ _ _ _ | exact id | (intro h; cases h; done) | (simp_all; done)
  intro p e s m args below meth c ⟨hx, hb, hml, hown, hts, hK, hr, hlk, hE⟩ cl sl Q hcs k out hrt hk lo st σ h
  unfold o_irem at h
  split at h
  · split at h
    · cases h
    · rename_i hg
      exact fun H locs ls hP hS hl => lv_irem hx hb hd hg (hk _ _ _ _ h H locs ls hP hS hl)
  · cases h
def o_ladd : Op_ := fun k pc lo st σ => match st with
  | .long y :: .long x :: r => k (pc + 1) lo (.long (x + y) :: r) σ
  | _ => none
theorem s_ladd (hd : decode cc pc = .ok (.ladd, 1)) : Snd_ l E own cc nL ret ws R pc (o_ladd) := by
  refine ⟨?_, ?_⟩
  · intro k k1 hkk pc lo st σ out
    unfold o_ladd
    repeat' split
    all_goals first | exact hkk _ _ _ _ _ | exact id | (intro h; cases h; done) | (simp_all; done)
  intro p e s m args below meth c ⟨hx, hb, hml, hown, hts, hK, hr, hlk, hE⟩ cl sl Q hcs k out hrt hk lo st σ h
  unfold o_ladd at h
  split at h
  · exact fun H locs ls hP hS hl => lv_ladd hx hb hd (hk _ _ _ _ h H locs ls hP hS hl)
  · cases h
def o_lsub : Op_ := fun k pc lo st σ => match st with
  | .long y :: .long x :: r => k (pc + 1) lo (.long (x - y) :: r) σ
  | _ => none
theorem s_lsub (hd : decode cc pc = .ok (.lsub, 1)) : Snd_ l E own cc nL ret ws R pc (o_lsub) := by
  refine ⟨?_, ?_⟩
  · intro k k1 hkk pc lo st σ out
    unfold o_lsub
    repeat' split
    all_goals first | exact hkk _ _ _ _ _ | exact id | (intro h; cases h; done) | (simp_all; done)
  intro p e s m args below meth c ⟨hx, hb, hml, hown, hts, hK, hr, hlk, hE⟩ cl sl Q hcs k out hrt hk lo st σ h
  unfold o_lsub at h
  split at h
  · exact fun H locs ls hP hS hl => lv_lsub hx hb hd (hk _ _ _ _ h H locs ls hP hS hl)
  · cases h
def o_lmul : Op_ := fun k pc lo st σ => match st with
  | .long y :: .long x :: r => k (pc + 1) lo (.long (x * y) :: r) σ
  | _ => none
theorem s_lmul (hd : decode cc pc = .ok (.lmul, 1)) : Snd_ l E own cc nL ret ws R pc (o_lmul) := by
  refine ⟨?_, ?_⟩
  · intro k k1 hkk pc lo st σ out
    unfold o_lmul
    repeat' split
    all_goals first | exact hkk _ _ _ _ _ | exact id | (intro h; cases h; done) | (simp_all; done)
  intro p e s m args below meth c ⟨hx, hb, hml, hown, hts, hK, hr, hlk, hE⟩ cl sl Q hcs k out hrt hk lo st σ h
  unfold o_lmul at h
  split at h
  · exact fun H locs ls hP hS hl => lv_lmul hx hb hd (hk _ _ _ _ h H locs ls hP hS hl)
  · cases h
def o_ldiv : Op_ := fun k pc lo st σ => match st with
  | .long y :: .long x :: r => if y = 0 then none else k (pc + 1) lo (.long (x / y) :: r) σ
  | _ => none
theorem s_ldiv (hd : decode cc pc = .ok (.ldiv, 1)) : Snd_ l E own cc nL ret ws R pc (o_ldiv) := by
  refine ⟨?_, ?_⟩
  · intro k k1 hkk pc lo st σ out
    unfold o_ldiv
    repeat' split
    all_goals first | exact hkk _ _ _ _ _ | exact id | (intro h; cases h; done) | (simp_all; done)
  intro p e s m args below meth c ⟨hx, hb, hml, hown, hts, hK, hr, hlk, hE⟩ cl sl Q hcs k out hrt hk lo st σ h
  unfold o_ldiv at h
  split at h
  · split at h
    · cases h
    · rename_i hg
      exact fun H locs ls hP hS hl => lv_ldiv hx hb hd hg (hk _ _ _ _ h H locs ls hP hS hl)
  · cases h
def o_lcmp : Op_ := fun k pc lo st σ => match st with
  | .long y :: .long x :: r => k (pc + 1) lo (.int (lg_cmp x y) :: r) σ
  | _ => none
theorem s_lcmp (hd : decode cc pc = .ok (.lcmp, 1)) : Snd_ l E own cc nL ret ws R pc (o_lcmp) := by
  refine ⟨?_, ?_⟩
  · intro k k1 hkk pc lo st σ out
    unfold o_lcmp
    repeat' split
    all_goals first | exact hkk _ _ _ _ _ | exact id | (intro h; cases h; done) | (simp_all; done)
  intro p e s m args below meth c ⟨hx, hb, hml, hown, hts, hK, hr, hlk, hE⟩ cl sl Q hcs k out hrt hk lo st σ h
  unfold o_lcmp at h
  split at h
  · exact fun H locs ls hP hS hl => W.lcmp hx hb hd (hk _ _ _ _ h H locs ls hP hS hl)
  · cases h
def o_ineg : Op_ := fun k pc lo st σ => match st with
  | .int x :: r => k (pc + 1) lo (.int (-x) :: r) σ
  | _ => none
theorem s_ineg (hd : decode cc pc = .ok (.ineg, 1)) : Snd_ l E own cc nL ret ws R pc (o_ineg) := by
  refine ⟨?_, ?_⟩
  · intro k k1 hkk pc lo st σ out
    unfold o_ineg
    repeat' split
    all_goals first | exact hkk _ _ _ _ _ | exact id | (intro h; cases h; done) | (simp_all; done)
  intro p e s m args below meth c ⟨hx, hb, hml, hown, hts, hK, hr, hlk, hE⟩ cl sl Q hcs k out hrt hk lo st σ h
  unfold o_ineg at h
  split at h
  · exact fun H locs ls hP hS hl => lv_ineg hx hb hd (hk _ _ _ _ h H locs ls hP hS hl)
  · cases h
def o_i2l : Op_ := fun k pc lo st σ => match st with
  | .int x :: r => k (pc + 1) lo (.long (x.toInt64) :: r) σ
  | _ => none
theorem s_i2l (hd : decode cc pc = .ok (.i2l, 1)) : Snd_ l E own cc nL ret ws R pc (o_i2l) := by
  refine ⟨?_, ?_⟩
  · intro k k1 hkk pc lo st σ out
    unfold o_i2l
    repeat' split
    all_goals first | exact hkk _ _ _ _ _ | exact id | (intro h; cases h; done) | (simp_all; done)
  intro p e s m args below meth c ⟨hx, hb, hml, hown, hts, hK, hr, hlk, hE⟩ cl sl Q hcs k out hrt hk lo st σ h
  unfold o_i2l at h
  split at h
  · exact fun H locs ls hP hS hl => lv_i2l hx hb hd rfl (hk _ _ _ _ h H locs ls hP hS hl)
  · cases h
def o_l2i : Op_ := fun k pc lo st σ => match st with
  | .long x :: r => k (pc + 1) lo (.int (x.toInt32) :: r) σ
  | _ => none
theorem s_l2i (hd : decode cc pc = .ok (.l2i, 1)) : Snd_ l E own cc nL ret ws R pc (o_l2i) := by
  refine ⟨?_, ?_⟩
  · intro k k1 hkk pc lo st σ out
    unfold o_l2i
    repeat' split
    all_goals first | exact hkk _ _ _ _ _ | exact id | (intro h; cases h; done) | (simp_all; done)
  intro p e s m args below meth c ⟨hx, hb, hml, hown, hts, hK, hr, hlk, hE⟩ cl sl Q hcs k out hrt hk lo st σ h
  unfold o_l2i at h
  split at h
  · exact fun H locs ls hP hS hl => lv_l2i hx hb hd rfl (hk _ _ _ _ h H locs ls hP hS hl)
  · cases h
def o_i2b : Op_ := fun k pc lo st σ => match st with
  | .int x :: r => k (pc + 1) lo (.int (x.toInt8.toInt32) :: r) σ
  | _ => none
theorem s_i2b (hd : decode cc pc = .ok (.i2b, 1)) : Snd_ l E own cc nL ret ws R pc (o_i2b) := by
  refine ⟨?_, ?_⟩
  · intro k k1 hkk pc lo st σ out
    unfold o_i2b
    repeat' split
    all_goals first | exact hkk _ _ _ _ _ | exact id | (intro h; cases h; done) | (simp_all; done)
  intro p e s m args below meth c ⟨hx, hb, hml, hown, hts, hK, hr, hlk, hE⟩ cl sl Q hcs k out hrt hk lo st σ h
  unfold o_i2b at h
  split at h
  · exact fun H locs ls hP hS hl => lv_i2b hx hb hd rfl (hk _ _ _ _ h H locs ls hP hS hl)
  · cases h
def o_dup : Op_ := fun k pc lo st σ => match st with
  | v :: r => if v.category = 1 then k (pc + 1) lo (v :: v :: r) σ else none
  | _ => none
theorem s_dup (hd : decode cc pc = .ok (.dup, 1)) : Snd_ l E own cc nL ret ws R pc (o_dup) := by
  refine ⟨?_, ?_⟩
  · intro k k1 hkk pc lo st σ out
    unfold o_dup
    repeat' split
    all_goals first | exact hkk _ _ _ _ _ | exact id | (intro h; cases h; done) | (simp_all; done)
  intro p e s m args below meth c ⟨hx, hb, hml, hown, hts, hK, hr, hlk, hE⟩ cl sl Q hcs k out hrt hk lo st σ h
  unfold o_dup at h
  split at h
  · split at h
    · rename_i hg
      exact fun H locs ls hP hS hl => lv_dup hx hb hd (by rw [rn_cat]; exact hg) (hk _ _ _ _ h H locs ls hP hS hl)
    · cases h
  · cases h
def o_pop : Op_ := fun k pc lo st σ => match st with
  | v :: r => if v.category = 1 then k (pc + 1) lo r σ else none
  | _ => none
theorem s_pop (hd : decode cc pc = .ok (.pop, 1)) : Snd_ l E own cc nL ret ws R pc (o_pop) := by
  refine ⟨?_, ?_⟩
  · intro k k1 hkk pc lo st σ out
    unfold o_pop
    repeat' split
    all_goals first | exact hkk _ _ _ _ _ | exact id | (intro h; cases h; done) | (simp_all; done)
  intro p e s m args below meth c ⟨hx, hb, hml, hown, hts, hK, hr, hlk, hE⟩ cl sl Q hcs k out hrt hk lo st σ h
  unfold o_pop at h
  split at h
  · split at h
    · rename_i hg
      exact fun H locs ls hP hS hl => lv_pop hx hb hd (by rw [rn_cat]; exact hg) (hk _ _ _ _ h H locs ls hP hS hl)
    · cases h
  · cases h
def o_dup2 : Op_ := fun k pc lo st σ => match st with
  | v :: w :: r => if v.category = 1 ∧ w.category = 1 then k (pc + 1) lo (v :: w :: v :: w :: r) σ else none
  | _ => none
theorem s_dup2 (hd : decode cc pc = .ok (.dup2, 1)) : Snd_ l E own cc nL ret ws R pc (o_dup2) := by
  refine ⟨?_, ?_⟩
  · intro k k1 hkk pc lo st σ out
    unfold o_dup2
    repeat' split
    all_goals first | exact hkk _ _ _ _ _ | exact id | (intro h; cases h; done) | (simp_all; done)
  intro p e s m args below meth c ⟨hx, hb, hml, hown, hts, hK, hr, hlk, hE⟩ cl sl Q hcs k out hrt hk lo st σ h
  unfold o_dup2 at h
  split at h
  · split at h
    · rename_i hg
      exact fun H locs ls hP hS hl => lv_dup2_11 hx hb hd (by rw [rn_cat]; exact hg.1) (by rw [rn_cat]; exact hg.2) (hk _ _ _ _ h H locs ls hP hS hl)
    · cases h
  · cases h
def o_ifeq (t : Nat) : Op_ := fun k pc lo st σ => match st with
  | .int x :: r => if x = 0 then k t lo r σ else k (pc + 3) lo r σ
  | _ => none
theorem s_ifeq {off : Int} {t : Nat} (hd : decode cc pc = .ok (.ifCond .eq off, 3)) (ht : (pc : Int) + off = (t : Int)) : Snd_ l E own cc nL ret ws R pc (o_ifeq t) := by
  refine ⟨?_, ?_⟩
  · intro k k1 hkk pc lo st σ out
    unfold o_ifeq
    repeat' split
    all_goals first | exact hkk _ _ _ _ _ | exact id | (intro h; cases h; done) | (simp_all; done)
  intro p e s m args below meth c ⟨hx, hb, hml, hown, hts, hK, hr, hlk, hE⟩ cl sl Q hcs k out hrt hk lo st σ h
  unfold o_ifeq at h
  split at h
  · exact fun H locs ls hP hS hl => lv_if_eq hx hb hd ht (fun hc => by rw [if_pos hc] at h; exact hk _ _ _ _ h H locs ls hP hS hl) (fun hc => by rw [if_neg hc] at h; exact hk _ _ _ _ h H locs ls hP hS hl)
  · cases h
def o_cmpeq (t : Nat) : Op_ := fun k pc lo st σ => match st with
  | .int y :: .int x :: r => if x = y then k t lo r σ else k (pc + 3) lo r σ
  | _ => none
theorem s_cmpeq {off : Int} {t : Nat} (hd : decode cc pc = .ok (.if_icmp .eq off, 3)) (ht : (pc : Int) + off = (t : Int)) : Snd_ l E own cc nL ret ws R pc (o_cmpeq t) := by
  refine ⟨?_, ?_⟩
  · intro k k1 hkk pc lo st σ out
    unfold o_cmpeq
    repeat' split
    all_goals first | exact hkk _ _ _ _ _ | exact id | (intro h; cases h; done) | (simp_all; done)
  intro p e s m args below meth c ⟨hx, hb, hml, hown, hts, hK, hr, hlk, hE⟩ cl sl Q hcs k out hrt hk lo st σ h
  unfold o_cmpeq at h
  split at h
  · exact fun H locs ls hP hS hl => lv_icmp_eq hx hb hd ht (fun hc => by rw [if_pos hc] at h; exact hk _ _ _ _ h H locs ls hP hS hl) (fun hc => by rw [if_neg hc] at h; exact hk _ _ _ _ h H locs ls hP hS hl)
  · cases h
def o_ifne (t : Nat) : Op_ := fun k pc lo st σ => match st with
  | .int x :: r => if x = 0 then k (pc + 3) lo r σ else k t lo r σ
  | _ => none
theorem s_ifne {off : Int} {t : Nat} (hd : decode cc pc = .ok (.ifCond .ne off, 3)) (ht : (pc : Int) + off = (t : Int)) : Snd_ l E own cc nL ret ws R pc (o_ifne t) := by
  refine ⟨?_, ?_⟩
  · intro k k1 hkk pc lo st σ out
    unfold o_ifne
    repeat' split
    all_goals first | exact hkk _ _ _ _ _ | exact id | (intro h; cases h; done) | (simp_all; done)
  intro p e s m args below meth c ⟨hx, hb, hml, hown, hts, hK, hr, hlk, hE⟩ cl sl Q hcs k out hrt hk lo st σ h
  unfold o_ifne at h
  split at h
  · exact fun H locs ls hP hS hl => lv_if_ne hx hb hd ht (fun hc => by rw [if_neg hc] at h; exact hk _ _ _ _ h H locs ls hP hS hl) (fun hc => by rw [if_pos hc] at h; exact hk _ _ _ _ h H locs ls hP hS hl)
  · cases h
def o_cmpne (t : Nat) : Op_ := fun k pc lo st σ => match st with
  | .int y :: .int x :: r => if x = y then k (pc + 3) lo r σ else k t lo r σ
  | _ => none
theorem s_cmpne {off : Int} {t : Nat} (hd : decode cc pc = .ok (.if_icmp .ne off, 3)) (ht : (pc : Int) + off = (t : Int)) : Snd_ l E own cc nL ret ws R pc (o_cmpne t) := by
  refine ⟨?_, ?_⟩
  · intro k k1 hkk pc lo st σ out
    unfold o_cmpne
    repeat' split
    all_goals first | exact hkk _ _ _ _ _ | exact id | (intro h; cases h; done) | (simp_all; done)
  intro p e s m args below meth c ⟨hx, hb, hml, hown, hts, hK, hr, hlk, hE⟩ cl sl Q hcs k out hrt hk lo st σ h
  unfold o_cmpne at h
  split at h
  · exact fun H locs ls hP hS hl => lv_icmp_ne hx hb hd ht (fun hc => by rw [if_neg hc] at h; exact hk _ _ _ _ h H locs ls hP hS hl) (fun hc => by rw [if_pos hc] at h; exact hk _ _ _ _ h H locs ls hP hS hl)
  · cases h
def o_iflt (t : Nat) : Op_ := fun k pc lo st σ => match st with
  | .int x :: r => if x < 0 then k t lo r σ else k (pc + 3) lo r σ
  | _ => none
theorem s_iflt {off : Int} {t : Nat} (hd : decode cc pc = .ok (.ifCond .lt off, 3)) (ht : (pc : Int) + off = (t : Int)) : Snd_ l E own cc nL ret ws R pc (o_iflt t) := by
  refine ⟨?_, ?_⟩
  · intro k k1 hkk pc lo st σ out
    unfold o_iflt
    repeat' split
    all_goals first | exact hkk _ _ _ _ _ | exact id | (intro h; cases h; done) | (simp_all; done)
  intro p e s m args below meth c ⟨hx, hb, hml, hown, hts, hK, hr, hlk, hE⟩ cl sl Q hcs k out hrt hk lo st σ h
  unfold o_iflt at h
  split at h
  · exact fun H locs ls hP hS hl => lv_if_lt hx hb hd ht (fun hc => by rw [if_pos hc] at h; exact hk _ _ _ _ h H locs ls hP hS hl) (fun hc => by rw [if_neg hc] at h; exact hk _ _ _ _ h H locs ls hP hS hl)
  · cases h
def o_cmplt (t : Nat) : Op_ := fun k pc lo st σ => match st with
  | .int y :: .int x :: r => if x < y then k t lo r σ else k (pc + 3) lo r σ
  | _ => none
theorem s_cmplt {off : Int} {t : Nat} (hd : decode cc pc = .ok (.if_icmp .lt off, 3)) (ht : (pc : Int) + off = (t : Int)) : Snd_ l E own cc nL ret ws R pc (o_cmplt t) := by
  refine ⟨?_, ?_⟩
  · intro k k1 hkk pc lo st σ out
    unfold o_cmplt
    repeat' split
    all_goals first | exact hkk _ _ _ _ _ | exact id | (intro h; cases h; done) | (simp_all; done)
  intro p e s m args below meth c ⟨hx, hb, hml, hown, hts, hK, hr, hlk, hE⟩ cl sl Q hcs k out hrt hk lo st σ h
  unfold o_cmplt at h
  split at h
  · exact fun H locs ls hP hS hl => lv_icmp_lt hx hb hd ht (fun hc => by rw [if_pos hc] at h; exact hk _ _ _ _ h H locs ls hP hS hl) (fun hc => by rw [if_neg hc] at h; exact hk _ _ _ _ h H locs ls hP hS hl)
  · cases h
def o_ifge (t : Nat) : Op_ := fun k pc lo st σ => match st with
  | .int x :: r => if 0 ≤ x then k t lo r σ else k (pc + 3) lo r σ
  | _ => none
theorem s_ifge {off : Int} {t : Nat} (hd : decode cc pc = .ok (.ifCond .ge off, 3)) (ht : (pc : Int) + off = (t : Int)) : Snd_ l E own cc nL ret ws R pc (o_ifge t) := by
  refine ⟨?_, ?_⟩
  · intro k k1 hkk pc lo st σ out
    unfold o_ifge
    repeat' split
    all_goals first | exact hkk _ _ _ _ _ | exact id | (intro h; cases h; done) | (simp_all; done)
  intro p e s m args below meth c ⟨hx, hb, hml, hown, hts, hK, hr, hlk, hE⟩ cl sl Q hcs k out hrt hk lo st σ h
  unfold o_ifge at h
  split at h
  · exact fun H locs ls hP hS hl => lv_if_ge hx hb hd ht (fun hc => by rw [if_pos hc] at h; exact hk _ _ _ _ h H locs ls hP hS hl) (fun hc => by rw [if_neg hc] at h; exact hk _ _ _ _ h H locs ls hP hS hl)
  · cases h
def o_cmpge (t : Nat) : Op_ := fun k pc lo st σ => match st with
  | .int y :: .int x :: r => if y ≤ x then k t lo r σ else k (pc + 3) lo r σ
  | _ => none
theorem s_cmpge {off : Int} {t : Nat} (hd : decode cc pc = .ok (.if_icmp .ge off, 3)) (ht : (pc : Int) + off = (t : Int)) : Snd_ l E own cc nL ret ws R pc (o_cmpge t) := by
  refine ⟨?_, ?_⟩
  · intro k k1 hkk pc lo st σ out
    unfold o_cmpge
    repeat' split
    all_goals first | exact hkk _ _ _ _ _ | exact id | (intro h; cases h; done) | (simp_all; done)
  intro p e s m args below meth c ⟨hx, hb, hml, hown, hts, hK, hr, hlk, hE⟩ cl sl Q hcs k out hrt hk lo st σ h
  unfold o_cmpge at h
  split at h
  · exact fun H locs ls hP hS hl => lv_icmp_ge hx hb hd ht (fun hc => by rw [if_pos hc] at h; exact hk _ _ _ _ h H locs ls hP hS hl) (fun hc => by rw [if_neg hc] at h; exact hk _ _ _ _ h H locs ls hP hS hl)
  · cases h
def o_ifgt (t : Nat) : Op_ := fun k pc lo st σ => match st with
  | .int x :: r => if 0 < x then k t lo r σ else k (pc + 3) lo r σ
  | _ => none
theorem s_ifgt {off : Int} {t : Nat} (hd : decode cc pc = .ok (.ifCond .gt off, 3)) (ht : (pc : Int) + off = (t : Int)) : Snd_ l E own cc nL ret ws R pc (o_ifgt t) := by
  refine ⟨?_, ?_⟩
  · intro k k1 hkk pc lo st σ out
    unfold o_ifgt
    repeat' split
    all_goals first | exact hkk _ _ _ _ _ | exact id | (intro h; cases h; done) | (simp_all; done)
  intro p e s m args below meth c ⟨hx, hb, hml, hown, hts, hK, hr, hlk, hE⟩ cl sl Q hcs k out hrt hk lo st σ h
  unfold o_ifgt at h
  split at h
  · exact fun H locs ls hP hS hl => lv_if_gt hx hb hd ht (fun hc => by rw [if_pos hc] at h; exact hk _ _ _ _ h H locs ls hP hS hl) (fun hc => by rw [if_neg hc] at h; exact hk _ _ _ _ h H locs ls hP hS hl)
  · cases h
def o_cmpgt (t : Nat) : Op_ := fun k pc lo st σ => match st with
  | .int y :: .int x :: r => if y < x then k t lo r σ else k (pc + 3) lo r σ
  | _ => none
theorem s_cmpgt {off : Int} {t : Nat} (hd : decode cc pc = .ok (.if_icmp .gt off, 3)) (ht : (pc : Int) + off = (t : Int)) : Snd_ l E own cc nL ret ws R pc (o_cmpgt t) := by
  refine ⟨?_, ?_⟩
  · intro k k1 hkk pc lo st σ out
    unfold o_cmpgt
    repeat' split
    all_goals first | exact hkk _ _ _ _ _ | exact id | (intro h; cases h; done) | (simp_all; done)
  intro p e s m args below meth c ⟨hx, hb, hml, hown, hts, hK, hr, hlk, hE⟩ cl sl Q hcs k out hrt hk lo st σ h
  unfold o_cmpgt at h
  split at h
  · exact fun H locs ls hP hS hl => lv_icmp_gt hx hb hd ht (fun hc => by rw [if_pos hc] at h; exact hk _ _ _ _ h H locs ls hP hS hl) (fun hc => by rw [if_neg hc] at h; exact hk _ _ _ _ h H locs ls hP hS hl)
  · cases h
def o_ifle (t : Nat) : Op_ := fun k pc lo st σ => match st with
  | .int x :: r => if x ≤ 0 then k t lo r σ else k (pc + 3) lo r σ
  | _ => none
theorem s_ifle {off : Int} {t : Nat} (hd : decode cc pc = .ok (.ifCond .le off, 3)) (ht : (pc : Int) + off = (t : Int)) : Snd_ l E own cc nL ret ws R pc (o_ifle t) := by
  refine ⟨?_, ?_⟩
  · intro k k1 hkk pc lo st σ out
    unfold o_ifle
    repeat' split
    all_goals first | exact hkk _ _ _ _ _ | exact id | (intro h; cases h; done) | (simp_all; done)
  intro p e s m args below meth c ⟨hx, hb, hml, hown, hts, hK, hr, hlk, hE⟩ cl sl Q hcs k out hrt hk lo st σ h
  unfold o_ifle at h
  split at h
  · exact fun H locs ls hP hS hl => lv_if_le hx hb hd ht (fun hc => by rw [if_pos hc] at h; exact hk _ _ _ _ h H locs ls hP hS hl) (fun hc => by rw [if_neg hc] at h; exact hk _ _ _ _ h H locs ls hP hS hl)
  · cases h
def o_cmple (t : Nat) : Op_ := fun k pc lo st σ => match st with
  | .int y :: .int x :: r => if x ≤ y then k t lo r σ else k (pc + 3) lo r σ
  | _ => none
theorem s_cmple {off : Int} {t : Nat} (hd : decode cc pc = .ok (.if_icmp .le off, 3)) (ht : (pc : Int) + off = (t : Int)) : Snd_ l E own cc nL ret ws R pc (o_cmple t) := by
  refine ⟨?_, ?_⟩
  · intro k k1 hkk pc lo st σ out
    unfold o_cmple
    repeat' split
    all_goals first | exact hkk _ _ _ _ _ | exact id | (intro h; cases h; done) | (simp_all; done)
  intro p e s m args below meth c ⟨hx, hb, hml, hown, hts, hK, hr, hlk, hE⟩ cl sl Q hcs k out hrt hk lo st σ h
  unfold o_cmple at h
  split at h
  · exact fun H locs ls hP hS hl => lv_icmp_le hx hb hd ht (fun hc => by rw [if_pos hc] at h; exact hk _ _ _ _ h H locs ls hP hS hl) (fun hc => by rw [if_neg hc] at h; exact hk _ _ _ _ h H locs ls hP hS hl)
  · cases h
def o_goto (t : Nat) : Op_ := fun k _ lo st σ => k t lo st σ
theorem s_goto {off : Int} {t : Nat} (hd : decode cc pc = .ok (.goto off, 3)) (ht : (pc : Int) + off = (t : Int)) : Snd_ l E own cc nL ret ws R pc (o_goto t) := by
  refine ⟨?_, ?_⟩
  · intro k k1 hkk pc lo st σ out
    unfold o_goto
    repeat' split
    all_goals first | exact hkk _ _ _ _ _ | exact id | (intro h; cases h; done) | (simp_all; done)
  intro p e s m args below meth c ⟨hx, hb, hml, hown, hts, hK, hr, hlk, hE⟩ cl sl Q hcs k out hrt hk lo st σ h
  exact fun H locs ls hP hS hl => lv_goto hx hb hd ht (hk _ _ _ _ h H locs ls hP hS hl)
def o_tsw (a b : Int) (d : Nat) (ts : List Nat) : Op_ := fun k _ lo st σ => match st with
  | .int x :: r => if x.toInt < a ∨ b < x.toInt then k d lo r σ else match ts[(x.toInt - a).toNat]? with
    | some t => k t lo r σ
    | none => none
  | _ => none
theorem s_tsw {a b df : Int} {offs : Array Int} {n d : Nat} {ts : List Nat} (hd : decode cc pc = .ok (.tableswitch df a b offs, n)) (h0 : (pc : Int) + df = (d : Int)) (hts0 : ts.map (fun (t : Nat) => (t : Int) - (pc : Int)) = offs.toList) : Snd_ l E own cc nL ret ws R pc (o_tsw a b d ts) := by
  refine ⟨?_, ?_⟩
  · intro k k1 hkk pc lo st σ out
    unfold o_tsw
    repeat' split
    all_goals first | exact hkk _ _ _ _ _ | exact id | (intro h; cases h; done) | (simp_all; done)
  intro p e s m args below meth c ⟨hx, hb, hml, hown, hts, hK, hr, hlk, hE⟩ cl sl Q hcs k out hrt hk lo st σ h
  unfold o_tsw at h
  split at h
  · rename_i x r
    split at h
    · rename_i hc
      exact fun H locs ls hP hS hl => lv_tableOut hx hb hd hc h0 (hk _ _ _ _ h H locs ls hP hS hl)
    · rename_i hc
      split at h
      · rename_i t ht
        have ho : offs[(x.toInt - a).toNat]? = some ((t : Int) - (pc : Int)) := by rw [← Array.getElem?_toList, ← hts0, List.getElem?_map, ht]; rfl
        exact fun H locs ls hP hS hl => lv_tableIn hx hb hd (fun z => hc (Or.inl z)) (fun z => hc (Or.inr z)) ho (by omega) (hk _ _ _ _ h H locs ls hP hS hl)
      · cases h
  · cases h
def o_lsw (df : Int) (ps : List (Int × Int)) : Op_ := fun k pc lo st σ => match st with
  | .int x :: r => if 0 ≤ (pc : Int) + Op.lookupswitch.offset ps df x.toInt then k ((pc : Int) + Op.lookupswitch.offset ps df x.toInt).toNat lo r σ else none
  | _ => none
theorem s_lsw {df : Int} {qs : Array (Int × Int)} {n : Nat} {ps : List (Int × Int)} (hd : decode cc pc = .ok (.lookupswitch df qs, n)) (hq : qs.toList = ps) (hp : (ps.zip (ps.drop 1)).all (fun (a, next) => a.1 < next.1) = true) : Snd_ l E own cc nL ret ws R pc (o_lsw df ps) := by
  refine ⟨?_, ?_⟩
  · intro k k1 hkk pc lo st σ out
    unfold o_lsw
    repeat' split
    all_goals first | exact hkk _ _ _ _ _ | exact id | (intro h; cases h; done) | (simp_all; done)
  intro p e s m args below meth c ⟨hx, hb, hml, hown, hts, hK, hr, hlk, hE⟩ cl sl Q hcs k out hrt hk lo st σ h
  unfold o_lsw at h
  split at h
  · rename_i x r
    split at h
    · rename_i hc
      subst hq
      exact fun H locs ls hP hS hl => lv_lookup hx hb hd hp rfl (Int.toNat_of_nonneg hc).symm (hk _ _ _ _ h H locs ls hP hS hl)
    · cases h
  · cases h
def o_iret : Op_ := fun _ _ _ st σ => match st with
  | [.int v] => some (some (.int v), σ)
  | _ => none
theorem s_iret (hd : decode cc pc = .ok (.ireturn, 1)) (hty : ret = some .int) : Snd_ l E own cc nL ret ws R pc (o_iret) := by
  refine ⟨?_, ?_⟩
  · intro k k1 hkk pc lo st σ out
    unfold o_iret
    repeat' split
    all_goals first | exact hkk _ _ _ _ _ | exact id | (intro h; cases h; done) | (simp_all; done)
  intro p e s m args below meth c ⟨hx, hb, hml, hown, hts, hK, hr, hlk, hE⟩ cl sl Q hcs k out hrt hk lo st σ h
  unfold o_iret at h
  split at h
  · cases h
    exact fun H locs ls hP hS hl => (hrt H locs ls pc hP hS).1 _ rfl hd (Or.inl hty)
  · cases h
def o_lret : Op_ := fun _ _ _ st σ => match st with
  | [.long v] => some (some (.long v), σ)
  | _ => none
theorem s_lret (hd : decode cc pc = .ok (.lreturn, 1)) (hty : ret = some .long) : Snd_ l E own cc nL ret ws R pc (o_lret) := by
  refine ⟨?_, ?_⟩
  · intro k k1 hkk pc lo st σ out
    unfold o_lret
    repeat' split
    all_goals first | exact hkk _ _ _ _ _ | exact id | (intro h; cases h; done) | (simp_all; done)
  intro p e s m args below meth c ⟨hx, hb, hml, hown, hts, hK, hr, hlk, hE⟩ cl sl Q hcs k out hrt hk lo st σ h
  unfold o_lret at h
  split at h
  · cases h
    exact fun H locs ls hP hS hl => (hrt H locs ls pc hP hS).2.1 _ rfl hd hty
  · cases h
def o_zret : Op_ := fun _ _ _ st σ => match st with
  | [.int v] => if v = 0 ∨ v = 1 then some (some (.int v), σ) else none
  | _ => none
theorem s_zret (hd : decode cc pc = .ok (.ireturn, 1)) (hty : ret = some .boolean) : Snd_ l E own cc nL ret ws R pc (o_zret) := by
  refine ⟨?_, ?_⟩
  · intro k k1 hkk pc lo st σ out
    unfold o_zret
    repeat' split
    all_goals first | exact hkk _ _ _ _ _ | exact id | (intro h; cases h; done) | (simp_all; done)
  intro p e s m args below meth c ⟨hx, hb, hml, hown, hts, hK, hr, hlk, hE⟩ cl sl Q hcs k out hrt hk lo st σ h
  unfold o_zret at h
  split at h
  · split at h
    · rename_i hv
      cases h
      exact fun H locs ls hP hS hl => (hrt H locs ls pc hP hS).1 _ rfl hd (Or.inr ⟨hty, hv⟩)
    · cases h
  · cases h
def o_vret : Op_ := fun _ _ _ st σ => match st with
  | [] => some (none, σ)
  | _ => none
theorem s_vret (hd : decode cc pc = .ok (.return_, 1)) (hty : ret = none) : Snd_ l E own cc nL ret ws R pc (o_vret) := by
  refine ⟨?_, ?_⟩
  · intro k k1 hkk pc lo st σ out
    unfold o_vret
    repeat' split
    all_goals first | exact hkk _ _ _ _ _ | exact id | (intro h; cases h; done) | (simp_all; done)
  intro p e s m args below meth c ⟨hx, hb, hml, hown, hts, hK, hr, hlk, hE⟩ cl sl Q hcs k out hrt hk lo st σ h
  unfold o_vret at h
  split at h
  · cases h
    exact fun H locs ls hP hS hl => (hrt H locs ls pc hP hS).2.2 rfl hd hty
  · cases h
def o_aft (ds : List Nat) (o : Op_) : Op_ := fun k pc lo st σ => o (fun pc lo st σ => k pc (clr_ ds lo) st σ) pc lo st σ
theorem s_aft {ds : List Nat} {o : Op_} (ho : Snd_ l E own cc nL ret ws R pc o) : Snd_ l E own cc nL ret ws R pc (o_aft ds o) := by
  refine ⟨fun k k1 hkk pc lo st σ out h => ho.1 _ _ (fun pc lo st σ out h1 => hkk _ _ _ _ _ h1) pc lo st σ out h, ?_⟩
  intro p e s m args below meth c X cl sl Q hcs k out hrt hk lo st σ h
  exact ho.2 p e s m args below meth c X cl sl Q hcs _ out hrt (fun pc lo st σ h1 H locs ls hP hS hl => hk pc _ st σ h1 H locs ls hP hS (hl_clr hl)) lo st σ h
end OPS
