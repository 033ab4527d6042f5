/-! multianewarray of two dimensions: a row of rows, all of zeros -/
/-- what stands in the outer row when i inner ones are made -/
def mnf_ (h i : Nat) : Nat → Value := fun j => if j < i then .ref (h + 1 + j) else .null
theorem mnf_up (h i : Nat) : updV (mnf_ h i) i (.ref (h + 1 + i)) = mnf_ h (i + 1) := by
  funext j
  unfold updV mnf_
  by_cases c : j = i
  · subst c
    rw [if_pos rfl, if_pos (by omega)]
  · rw [if_neg c]
    by_cases d : j < i
    · rw [if_pos d, if_pos (by omega)]
    · rw [if_neg d, if_neg (by omega)]
def mnw_ (u : State) (c d : ClassId) (N M : Nat) (v : Value) : Nat → State
  | 0 => u.pushCell (arrV c N (mnf_ u.heap.size 0))
  | i + 1 => ((mnw_ u c d N M v i).pushCell (arrV d M (fun _ => v))).setCell u.heap.size (arrV c N (mnf_ u.heap.size (i + 1)))
section MW
variable {u : State} {c d : ClassId} {N M : Nat} {v : Value}
theorem mnw_sz : ∀ i, (mnw_ u c d N M v i).heap.size = u.heap.size + 1 + i
  | 0 => by simp [mnw_]
  | i + 1 => by
    have h := mnw_sz i
    show (((mnw_ u c d N M v i).pushCell (arrV d M (fun _ => v))).setCell u.heap.size _).heap.size = _
    simp [State.setCell, h]
    omega
theorem mnw_top : ∀ i, (mnw_ u c d N M v i).heap[u.heap.size]? = some (arrV c N (mnf_ u.heap.size i))
  | 0 => by simp [mnw_]
  | i + 1 => by
    have hlt : u.heap.size < (mnw_ u c d N M v i).heap.size := by rw [mnw_sz]; omega
    have h : ((mnw_ u c d N M v i).pushCell (arrV d M (fun _ => v))).heap[u.heap.size]? = some (arrV c N (mnf_ u.heap.size i)) := by
      rw [State.heap_pushCell_of_lt (h := hlt)]
      exact mnw_top i
    exact State.heap_setCell_self h
theorem mnw_vm : ∀ i, (mnw_ u c d N M v i).vm = u.vm
  | 0 => rfl
  | i + 1 => by
    show (((mnw_ u c d N M v i).pushCell (arrV d M (fun _ => v))).setCell u.heap.size _).vm = _
    simp [mnw_vm i]
theorem mnw_used : ∀ i, (mnw_ u c d N M v i).slotsUsed = u.slotsUsed + N + i * M
  | 0 => by simp [mnw_, arrV_size]
  | i + 1 => by
    show (((mnw_ u c d N M v i).pushCell (arrV d M (fun _ => v))).setCell u.heap.size _).slotsUsed = _
    simp [mnw_used i, arrV_size, Nat.succ_mul]
    omega
theorem mnw_setTop (f : JFrame) : ∀ i, mnw_ (u.setTop f) c d N M v i = (mnw_ u c d N M v i).setTop f
  | 0 => rfl
  | i + 1 => by simp only [mnw_, mnw_setTop f i, State.heap_setTop, State.pushCell_setTop, State.setCell_setTop]
theorem mnw_old {a : Addr} (ha : a < u.heap.size) : ∀ i, (mnw_ u c d N M v i).heap[a]? = u.heap[a]?
  | 0 => State.heap_pushCell_of_lt _ _ ha
  | i + 1 => by
    have hlt : a < (mnw_ u c d N M v i).heap.size := Nat.lt_of_lt_of_le ha (by rw [mnw_sz]; omega)
    show (((mnw_ u c d N M v i).pushCell (arrV d M (fun _ => v))).setCell u.heap.size _).heap[a]? = _
    rw [State.heap_setCell_other (Nat.ne_of_gt ha), State.heap_pushCell_of_lt (h := hlt)]
    exact mnw_old ha i
theorem mnw_in : ∀ i j, j < i → (mnw_ u c d N M v i).heap[u.heap.size + 1 + j]? = some (arrV d M (fun _ => v))
  | 0, _, h => absurd h (Nat.not_lt_zero _)
  | i + 1, j, h => by
    show (((mnw_ u c d N M v i).pushCell (arrV d M (fun _ => v))).setCell u.heap.size _).heap[u.heap.size + 1 + j]? = _
    rw [State.heap_setCell_other (show u.heap.size ≠ u.heap.size + 1 + j by omega)]
    by_cases hj : j < i
    · have hlt : u.heap.size + 1 + j < (mnw_ u c d N M v i).heap.size := by rw [mnw_sz]; omega
      rw [State.heap_pushCell_of_lt (h := hlt)]
      exact mnw_in i j hj
    · have e : u.heap.size + 1 + j = (mnw_ u c d N M v i).heap.size := by rw [mnw_sz]; omega
      rw [e]
      exact State.heap_pushCell_size _ _
end MW
section MWP
variable {E : CtlPost} {e : Env} {dd : Bool} {acts : List Action} {u : State}
/-- one row, on the machine -/
theorem mnw_wp0 {c comp : ClassId} {k : Class} {t : FieldType} {n : Nat} {x : Value} (hk : u.vm.classes[c]? = some k) (hkind : k.kind = .array comp t) (hl : ¬ n > e.platform.arrayLengthLimit) (hb : ¬ n * componentBytes t > e.platform.maxHeapBytes) (hfit : fits t x = true) (hdef : x.isDefault = true) {Q : Addr → Pre} (h1 : u.heap.size < e.platform.maxCells) (h2 : u.slotsUsed + n ≤ e.platform.maxSlots) (hq : Q u.heap.size dd acts (u.pushCell (arrV c n (fun _ => x)))) : wp (Jvm.newArray c n x) Q E e dd acts u := by
  have hall : ((Array.replicate n x).all (·.isDefault)) = true := by
    rw [Array.all_replicate]
    split <;> simp [hdef]
  have hact : allocActs (Array.replicate n x) u.heap.size acts = acts := by
    unfold allocActs
    rw [if_pos hall]
  rw [← arrV_new] at hq
  simp only [Jvm.newArray, Jvm.arrayFits, wp_bind', W.ask, W.ite, hl, if_false, wp_pure', W.theClass, hk, hkind, hb, W.alloc, W.stop, Option.some.injEq, exists_eq_left', Array.size_replicate, hact]
  rw [if_neg (by omega)]
  refine ⟨h1, h2, fun i y hy => ?_, hq⟩
  rw [Array.getElem?_replicate] at hy
  split at hy
  · cases hy
    simp [State.fitsSlot, State.slotType?, hk, hkind, hfit]
  · cases hy
theorem mnw_wp {c comp cc : ClassId} {k kc : Class} {n m : Int32} (hk : u.vm.classes[c]? = some k) (hkind : k.kind = .array comp (.array .int)) (hkc : u.vm.classes[comp]? = some kc) (hkindc : kc.kind = .array cc .int) (hn : ¬ n < 0) (hm : ¬ m < 0)
    (hl1 : ¬ n.toNatClampNeg > e.platform.arrayLengthLimit) (hb1 : ¬ n.toNatClampNeg * componentBytes (.array .int) > e.platform.maxHeapBytes) (hl2 : ¬ m.toNatClampNeg > e.platform.arrayLengthLimit) (hb2 : ¬ m.toNatClampNeg * componentBytes .int > e.platform.maxHeapBytes)
    (hc : u.heap.size + (1 + n.toNatClampNeg) ≤ e.platform.maxCells) (hs : u.slotsUsed + (n.toNatClampNeg + n.toNatClampNeg * m.toNatClampNeg) ≤ e.platform.maxSlots)
    {Q : Addr → Pre} (hq : ∀ d' acts', Q u.heap.size d' acts' (mnw_ u c comp n.toNatClampNeg m.toNatClampNeg (.int 0) n.toNatClampNeg)) : wp (multianewarray.make c [n, m]) Q E e dd acts u := by
  have hfind : ([m].find? (· < 0)) = none := by simp [hm]
  generalize hN : n.toNatClampNeg = N at *
  generalize hM : m.toNatClampNeg = M at *
  have hpos : 0 ≤ N * M := Nat.zero_le _
  rw [multianewarray.make]
  simp only [wp_bind', W.ite, hn, if_false, wp_pure', W.theClass, hk, hkind, Option.some.injEq, exists_eq_left', hN]
  refine mnw_wp0 hk hkind hl1 hb1 rfl rfl (by omega) (by omega) ?_
  simp only [hfind]
  rw [ite_self, wp_bind', Std.Legacy.Range.forIn_eq_forIn_range']
  rw [show ([:N] : Std.Legacy.Range).size = N by simp [Std.Legacy.Range.size]]
  show wp (forIn (List.range' 0 N 1) PUnit.unit _) _ E e dd acts _
  refine wp_forIn_inv (fun rest u' => ∃ i, i + rest.length = N ∧ rest = List.range' i rest.length ∧ u' = mnw_ u c comp N M (.int 0) i) _ _ ⟨0, by simp, by simp, ?_⟩ ?_ ?_
  · show _ = u.pushCell (arrV c N (mnf_ u.heap.size 0))
    congr 1
  · rintro x rest u' d' acts' Q' ⟨i, hi, hl, rfl⟩ hnext
    simp only [List.length_cons] at hi hl
    rw [List.range'_succ] at hl
    obtain ⟨rfl, hrest⟩ := List.cons.inj hl
    have hmul : x * M + M ≤ N * M := by
      have := Nat.mul_le_mul_right M (show x + 1 ≤ N by omega)
      rwa [Nat.succ_mul] at this
    rw [multianewarray.make]
    simp only [wp_bind', W.ite, hm, if_false, wp_pure', W.theClass, mnw_vm, hkc, hkindc, Option.some.injEq, exists_eq_left', hM]
    refine mnw_wp0 (by rw [mnw_vm]; exact hkc) hkindc hl2 hb2 rfl rfl (by rw [mnw_sz]; omega) (by rw [mnw_used]; omega) ?_
    have hlt : u.heap.size < (mnw_ u c comp N M (.int 0) x).heap.size := by rw [mnw_sz]; omega
    simp only [wp_bind', W.writeLoc, wp_pure']
    refine ⟨arrV c N (mnf_ u.heap.size x), by rw [State.heap_pushCell_of_lt (h := hlt)]; exact mnw_top x, ?_, ?_, ?_, ?_⟩
    · show VmData.none ≠ VmData.unknown
      simp
    · rw [arrV_size]
      omega
    · show State.fitsSlot _ c VmData.none x _ = true
      simp [State.fitsSlot, State.slotType?, mnw_vm, hk, hkind, fits]
    · refine hnext _ _ _ ⟨x + 1, by omega, hrest, ?_⟩
      rw [arrV_store, mnw_sz, mnf_up]
      rfl
  · rintro u' d' acts' ⟨i, hi, hl, rfl⟩
    simp only [List.length_nil, Nat.add_zero] at hi
    subst hi
    simp only [wp_pure']
    exact hq _ _
end MWP
section MNW
variable {p : Program} {l : Launch} {e : Env} {R : Room} {s : State} {m : MethodId} {args : Array Value} {below : List Frame} {meth : Method} {c : Code} {H : Heap} {locs : List Loc} {cells slots : Nat} {Q : State → Prop} {cc : ByteArray} {pc : Nat} {ls : Array Slot} {rest : List Value}
theorem mnw_st {T : State} (X : Stand p l e R s m args below meth c T locs cells slots) (cA comp : ClassId) (N M : Nat) (v : Value) : ∀ i, Stand p l e R s m args below meth c (mnw_ T cA comp N M v i) (locs ++ (List.range i).map fun j => ⟨T.heap.size, j⟩) (cells + 1 + i) (slots + N + i * M)
  | 0 => by
    have h := X.pushed (arrV cA N (mnf_ T.heap.size 0))
    rw [arrV_size] at h
    simpa [mnw_] using h
  | i + 1 => by
    have hlt : T.heap.size < (mnw_ T cA comp N M v i).heap.size := by rw [mnw_sz]; omega
    have hcell : ((mnw_ T cA comp N M v i).pushCell (arrV comp M (fun _ => v))).heap[T.heap.size]? = some (arrV cA N (mnf_ T.heap.size i)) := by
      rw [State.heap_pushCell_of_lt (h := hlt)]
      exact mnw_top i
    have h := ((mnw_st X cA comp N M v i).pushed (arrV comp M (fun _ => v))).stored hcell i (.ref (T.heap.size + 1 + i))
    rw [arrV_size, arrV_store, mnf_up] at h
    rw [List.range_succ, List.map_append, ← List.append_assoc, Nat.succ_mul, ← Nat.add_assoc, ← Nat.add_assoc]
    exact h
theorem W_mna (hexec : p.tables.exec = Jvm.exec) (hb : c.code = cc) {own : String} {index : Nat} (hown : s.vm.findClass own = some m.cls) (hlink : (Cond.classLink own index ("[" ++ (FieldType.array .int).toString)).before args s = true) (hover : (Cond.arrayOver (.array .int)).before args s = true) (harr : (Cond.arrayClass .int).before args s = true)
    (hdg : decode cc pc = .ok (.multianewarray index 2, 4)) {n k : Int32} {N M : Nat} (hn : ¬ n < 0) (hk : ¬ k < 0) (hN : n.toNatClampNeg = N) (hM : k.toNatClampNeg = M) (hsm : N ≤ 100000 ∧ M ≤ 100000) (hcells : cells + (1 + N) ≤ R.cells) (hslots : slots + (N + N * M) ≤ R.slots)
    (kk : ∀ (H1 : Heap) (cA comp : ClassId) (L : List Loc), H1.size = H.size + 1 + N → (∀ q, q < H.size → H1[q]? = H[q]?) → H1[H.size]? = some (arrV cA N (mnf_ H.size N)) → (∀ j, j < N → H1[H.size + 1 + j]? = some (arrV comp M (fun _ => .int 0))) → s.vm.findClass ("[" ++ (FieldType.array .int).toString) = some cA → s.vm.findClass (FieldType.array .int).toString = some comp → (∀ q ∈ L, q.base = H.size) →
      W p l e R s m args below meth c H1 (locs ++ L) (cells + 1 + N) (slots + N + N * M) Q (F0 m (pc + 4) ls (.ref H.size :: rest))) : W p l e R s m args below meth c H locs cells slots Q (F0 m pc ls (.int k :: .int n :: rest)) := by
  intro T hT X
  subst hT; subst hb; subst hN; subst hM
  have hpl : e.platform.magicAccessors = ({} : Platform).magicAccessors := by rw [X.admits.platform]
  obtain ⟨comp, cA, kA, hcomp, -, hkA, hkindA, hnameA⟩ := arrayOverA_spec hover
  obtain ⟨comp', kC, cc', hcomp', hkC, hkindC⟩ := Cond.arrayClass_spec harr
  have ecomp : comp' = comp := Option.some.inj (hcomp'.symm.trans hcomp)
  subst ecomp
  obtain ⟨c0, hfc0, hcl⟩ := Cond.classLink_spec hown hlink e.platform hpl
  cases hnameA.symm.trans hfc0
  obtain ⟨hg1, hwarm1, hready1⟩ := State.classEntry (e := e) X.warmed hcl
  generalize T.vm.noted m.cls index (.cls cA) = vm1 at hg1 hwarm1 hready1
  obtain ⟨kA1, hkA1, heA⟩ := hwarm1.alike.2.2 _ _ hkA
  obtain ⟨kC1, hkC1, heC⟩ := hwarm1.alike.2.2 _ _ hkC
  have X1 := X.noted hwarm1
  obtain ⟨hr1, hr2⟩ := X.roomAbove hcells hslots
  have XF := mnw_st X1 cA comp' n.toNatClampNeg k.toNatClampNeg (.int 0) n.toNatClampNeg
  obtain ⟨t, a1, b1⟩ := kk (mnw_ (T.setVm vm1) cA comp' n.toNatClampNeg k.toNatClampNeg (.int 0) n.toNatClampNeg).heap cA comp' _ (mnw_sz _) (fun q hq => mnw_old (u := T.setVm vm1) hq _) (mnw_top _) (fun j hj => mnw_in _ j hj) hnameA hcomp (fun q hq => by
    obtain ⟨j, -, rfl⟩ := List.mem_map.mp hq
    rfl) _ rfl XF
  refine ⟨t, ?_, b1⟩
  have hl1 : ¬ n.toNatClampNeg > e.platform.arrayLengthLimit := by rw [Launch.admits_arrayLengthLimit X.admits]; omega
  have hb1 : ¬ n.toNatClampNeg * componentBytes (.array .int) > e.platform.maxHeapBytes := by
    rw [Launch.admits_maxHeapBytes X.admits]
    show ¬ n.toNatClampNeg * 4 > 536870912
    omega
  have hl2 : ¬ k.toNatClampNeg > e.platform.arrayLengthLimit := by rw [Launch.admits_arrayLengthLimit X.admits]; omega
  have hb2 : ¬ k.toNatClampNeg * componentBytes .int > e.platform.maxHeapBytes := by
    rw [Launch.admits_maxHeapBytes X.admits]
    show ¬ k.toNatClampNeg * 4 > 536870912
    omega
  have g0 := F0 m pc ls (.int k :: .int n :: rest)
  jvm_step X.here [hexec, hdg]
  simp only [multianewarray.sem, wp_bind', W.resolveClassAt_links (State.method?_setTop (F0 m pc ls (.int k :: .int n :: rest)) X.here.top) hg1]
  rw [W.popN, if_neg (by decide)]
  refine ⟨F0 m pc ls (.int k :: .int n :: rest), State.topJava?_setTop' (s := T.setVm vm1) (F0 m pc ls (.int k :: .int n :: rest)) X.here.top, [.int n, .int k], rest, rfl, rfl, ?_⟩
  simp only [List.mapM_cons, List.mapM_nil, wp_bind', wp_pure']
  refine mnw_wp (k := kA1) (kc := kC1) (comp := comp') (cc := cc') hkA1 (by rw [heA]; exact hkindA) hkC1 (by rw [heC]; exact hkindC) hn hk hl1 hb1 hl2 hb2 (by show T.heap.size + _ ≤ _; omega) (by show T.slotsUsed + _ ≤ _; omega) (fun d' acts' => ?_)
  have eS : ((T.setTop (F0 m pc ls (.int k :: .int n :: rest))).setVm vm1).setTop (F0 m pc ls rest) = (T.setVm vm1).setTop (F0 m pc ls rest) := by
    show ((T.setVm vm1).setTop (F0 m pc ls (.int k :: .int n :: rest))).setTop _ = _
    rw [State.setTop_setTop]
  show wp _ _ _ _ _ _ (mnw_ (((T.setTop (F0 m pc ls (.int k :: .int n :: rest))).setVm vm1).setTop (F0 m pc ls rest)) _ _ _ _ _ _)
  rw [eS, mnw_setTop]
  simp only [wp_bind', W.mark, W.pushRef, State.topJava?_setTop' _ XF.here.top, Option.some.injEq, exists_eq_left', State.setTop_setTop, State.heap_setTop]
  intro acts
  simp [jvm, XF.here.top]
  exact a1
end MNW
