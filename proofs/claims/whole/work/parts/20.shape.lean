def kcK : List (Nat × Nat) := [(11, 0), (8, 0), (13, 1040), (14, 20), (0, 0), (14, 16), (14, 16), (14, 16), (14, 16), (20, 16), (14, 16), (14, 16), (14, 16), (14, 16), (14, 16), (14, 16), (14, 16), (14, 16), (14, 16), (14, 16), (14, 16), (14, 16), (14, 16), (14, 16), (14, 16), (14, 16), (14, 9), (14, 9), (14, 9), (14, 9), (14, 9), (14, 9), (0, 0), (14, 16), (14, 16), (14, 16), (14, 16), (20, 16), (14, 16), (14, 16), (14, 16), (14, 16), (14, 16), (14, 16), (14, 16), (14, 16), (14, 16), (14, 16), (14, 16), (14, 16), (14, 16), (14, 16), (14, 16), (14, 16), (14, 9), (14, 9), (14, 9), (14, 9), (14, 9), (14, 9), (6, 0), (14, 100), (14, 100), (14, 100), (14, 100), (6, 0), (14, 100), (14, 100), (14, 100), (14, 100), (9, 0), (14, 40), (14, 40), (14, 40), (14, 40), (9, 0), (14, 40), (14, 40), (14, 40), (14, 40), (5, 0), (14, 9), (14, 9), (14, 9), (14, 144), (4, 0), (5, 0), (14, 9), (14, 9), (14, 9), (14, 144), (14, 16), (3, 0), (5, 0), (14, 9), (14, 9), (14, 9), (14, 144), (14, 100), (10, 0), (14, 6), (14, 6), (14, 4), (14, 64), (14, 64), (2, 0), (14, 9), (20, 10), (14, 17), (14, 17), (14, 17), (14, 17), (14, 17), (14, 17), (14, 17), (14, 17), (14, 17), (14, 17), (20, 10), (14, 17), (14, 17), (14, 17), (14, 17), (14, 17), (14, 17), (14, 17), (14, 17), (14, 17), (14, 17), (7, 0), (14, 7), (14, 7), (14, 7), (1, 0), (14, 241), (14, 241), (14, 1024), (14, 16), (14, 16), (17, 2), (18, 2), (19, 2), (16, 2), (0, 0), (14, 16), (14, 16), (14, 16), (14, 16), (20, 16), (14, 16), (14, 16), (14, 16), (14, 16), (14, 16), (14, 16), (14, 16), (14, 16), (14, 16), (14, 16), (14, 16), (14, 16), (14, 16), (14, 16), (14, 16), (14, 16), (14, 9), (14, 9), (14, 9), (14, 9), (14, 9), (14, 9), (6, 0), (14, 100), (14, 100), (14, 100), (14, 100), (9, 0), (14, 40), (14, 40), (14, 40), (14, 40), (0, 0), (14, 16), (14, 16), (14, 16), (14, 16), (20, 16), (14, 16), (14, 16), (14, 16), (14, 16), (14, 16), (14, 16), (14, 16), (14, 16), (14, 16), (14, 16), (14, 16), (14, 16), (14, 16), (14, 16), (14, 16), (14, 16), (14, 9), (14, 9), (14, 9), (14, 9), (14, 9), (14, 9), (6, 0), (14, 100), (14, 100), (14, 100), (14, 100), (9, 0), (14, 40), (14, 40), (14, 40), (14, 40), (12, 0), (14, 1040), (14, 1050), (14, 390), (14, 2100), (15, 25), (15, 25), (15, 50), (16, 2), (14, 400), (14, 144), (14, 9), (14, 9), (14, 9), (14, 16), (14, 6), (14, 6), (14, 6), (14, 9), (14, 9), (14, 9), (14, 7), (14, 7), (14, 7), (14, 7), (14, 16), (14, 240), (15, 1)]
def kcR : List (List (Option Nat)) := [[some 1, some 80, some 85, some 92, some 99, some 105, some 129, some 133, some 139, some 140, some 141, some 142], [some 2, some 3], [], [], [some 5, some 6, some 7, some 8, some 9, some 26, some 27, some 28, some 29, some 30, some 31], [], [], [], [], [some 10, some 11, some 12, some 13, some 14, some 15, some 16, some 17, some 18, some 19, some 20, some 21, some 22, some 23, some 24, some 25], [], [], [], [], [], [], [], [], [], [], [], [], [], [], [], [], [], [], [], [], [], [], [some 33, some 34, some 35, some 36, some 37, some 54, some 55, some 56, some 57, some 58, some 59], [], [], [], [], [some 38, some 39, some 40, some 41, some 42, some 43, some 44, some 45, some 46, some 47, some 48, some 49, some 50, some 51, some 52, some 53], [], [], [], [], [], [], [], [], [], [], [], [], [], [], [], [], [], [], [], [], [], [], [some 61, some 62, some 63, some 64], [], [], [], [], [some 66, some 67, some 68, some 69], [], [], [], [], [some 71, some 72, some 73, some 74], [], [], [], [], [some 76, some 77, some 78, some 79], [], [], [], [], [some 81, some 82, some 83, some 84], [], [], [], [], [some 86, some 91], [some 87, some 88, some 89, some 90], [], [], [], [], [], [some 93, some 98], [some 94, some 95, some 96, some 97], [], [], [], [], [], [some 100, none, some 101, some 102, some 103, some 104], [], [], [], [], [], [some 106, none, none, some 107, some 118], [], [some 108, some 109, some 110, some 111, some 112, some 113, some 114, some 115, some 116, some 117], [], [], [], [], [], [], [], [], [], [], [some 119, some 120, some 121, some 122, some 123, some 124, some 125, some 126, some 127, some 128], [], [], [], [], [], [], [], [], [], [], [some 130, none, some 131, some 132], [], [], [], [none, none, none, some 134, some 135, some 136, some 137, some 138], [], [], [], [], [], [some 143, some 181], [some 171, some 209], [some 176, some 214], [], [some 144, some 145, some 146, some 147, some 148, some 165, some 166, some 167, some 168, some 169, some 170], [], [], [], [], [some 149, some 150, some 151, some 152, some 153, some 154, some 155, some 156, some 157, some 158, some 159, some 160, some 161, some 162, some 163, some 164], [], [], [], [], [], [], [], [], [], [], [], [], [], [], [], [], [], [], [], [], [], [], [some 172, some 173, some 174, some 175], [], [], [], [], [some 177, some 178, some 179, some 180], [], [], [], [], [some 182, some 183, some 184, some 185, some 186, some 203, some 204, some 205, some 206, some 207, some 208], [], [], [], [], [some 187, some 188, some 189, some 190, some 191, some 192, some 193, some 194, some 195, some 196, some 197, some 198, some 199, some 200, some 201, some 202], [], [], [], [], [], [], [], [], [], [], [], [], [], [], [], [], [], [], [], [], [], [], [some 210, some 211, some 212, some 213], [], [], [], [], [some 215, some 216, some 217, some 218], [], [], [], [], [none, some 220, none, none, none, none, none, none, none, none, none, none, none, none, some 221, some 222, some 223, some 224, some 225, some 226, some 227, none, none, some 228, none, some 229, some 230, some 231, some 232, none, none, none, some 233, none, some 234, some 235, some 236, none, none, none, none, some 237, some 238, none, none, none, some 239, none, some 240, some 241, some 242, some 243, none, none, none, some 244, none, none, some 245, none, none, none, none], [], [], [], [], [], [], [], [], [], [], [], [], [], [], [], [], [], [], [], [], [], [], [], [], [], [], []]
def KC : Sh_ := (fun o => kcK.getD o (99, 0), fun o i => (kcR.getD o []).getD i none)
def EC0 : En_ := (fun _ => 0, (fun _ => 0, fun _ _ => 0), id, KC, 247)
theorem KC_hi {o : Nat} (h : 247 ≤ o) : KC.1 o = (99, 0) := by
  show kcK.getD o (99, 0) = _
  rw [List.getD_eq_getElem?_getD, List.getElem?_eq_none (by rw [show kcK.length = 247 by decide +kernel]; exact h)]
  rfl
theorem EC0_ok : EOK_ EC0 := ⟨fun _ _ _ _ h => h, fun o h => by show 21 ≤ (KC.1 o).1; rw [KC_hi h]; decide⟩
theorem KC_len : kcK.length = 247 := by decide +kernel
def isB (b : Nat) : Prop := b = 4 ∨ b = 32 ∨ b = 143 ∨ b = 181
def isP (b : Nat) : Prop := b = 60 ∨ b = 65 ∨ b = 171 ∨ b = 209
def isS (b : Nat) : Prop := b = 70 ∨ b = 75 ∨ b = 176 ∨ b = 214
def isM (b : Nat) : Prop := b = 80 ∨ b = 86 ∨ b = 93
theorem kb_0 {b : Nat} (hb : isB b) : KC.1 b = (0, 0) := by rcases hb with rfl | rfl | rfl | rfl <;> rfl
theorem kb_r0 {b : Nat} (hb : isB b) : KC.2 b 0 = some (b + 1) := by rcases hb with rfl | rfl | rfl | rfl <;> rfl
theorem kb_k0 {b : Nat} (hb : isB b) : KC.1 (b + 1) = (14, 16) := by rcases hb with rfl | rfl | rfl | rfl <;> rfl
theorem kb_r1 {b : Nat} (hb : isB b) : KC.2 b 1 = some (b + 2) := by rcases hb with rfl | rfl | rfl | rfl <;> rfl
theorem kb_k1 {b : Nat} (hb : isB b) : KC.1 (b + 2) = (14, 16) := by rcases hb with rfl | rfl | rfl | rfl <;> rfl
theorem kb_r2 {b : Nat} (hb : isB b) : KC.2 b 2 = some (b + 3) := by rcases hb with rfl | rfl | rfl | rfl <;> rfl
theorem kb_k2 {b : Nat} (hb : isB b) : KC.1 (b + 3) = (14, 16) := by rcases hb with rfl | rfl | rfl | rfl <;> rfl
theorem kb_r3 {b : Nat} (hb : isB b) : KC.2 b 3 = some (b + 4) := by rcases hb with rfl | rfl | rfl | rfl <;> rfl
theorem kb_k3 {b : Nat} (hb : isB b) : KC.1 (b + 4) = (14, 16) := by rcases hb with rfl | rfl | rfl | rfl <;> rfl
theorem kb_r4 {b : Nat} (hb : isB b) : KC.2 b 4 = some (b + 5) := by rcases hb with rfl | rfl | rfl | rfl <;> rfl
theorem kb_k4 {b : Nat} (hb : isB b) : KC.1 (b + 5) = (20, 16) := by rcases hb with rfl | rfl | rfl | rfl <;> rfl
theorem kb_r5 {b : Nat} (hb : isB b) : KC.2 b 5 = some (b + 22) := by rcases hb with rfl | rfl | rfl | rfl <;> rfl
theorem kb_k5 {b : Nat} (hb : isB b) : KC.1 (b + 22) = (14, 9) := by rcases hb with rfl | rfl | rfl | rfl <;> rfl
theorem kb_r6 {b : Nat} (hb : isB b) : KC.2 b 6 = some (b + 23) := by rcases hb with rfl | rfl | rfl | rfl <;> rfl
theorem kb_k6 {b : Nat} (hb : isB b) : KC.1 (b + 23) = (14, 9) := by rcases hb with rfl | rfl | rfl | rfl <;> rfl
theorem kb_r7 {b : Nat} (hb : isB b) : KC.2 b 7 = some (b + 24) := by rcases hb with rfl | rfl | rfl | rfl <;> rfl
theorem kb_k7 {b : Nat} (hb : isB b) : KC.1 (b + 24) = (14, 9) := by rcases hb with rfl | rfl | rfl | rfl <;> rfl
theorem kb_r8 {b : Nat} (hb : isB b) : KC.2 b 8 = some (b + 25) := by rcases hb with rfl | rfl | rfl | rfl <;> rfl
theorem kb_k8 {b : Nat} (hb : isB b) : KC.1 (b + 25) = (14, 9) := by rcases hb with rfl | rfl | rfl | rfl <;> rfl
theorem kb_r9 {b : Nat} (hb : isB b) : KC.2 b 9 = some (b + 26) := by rcases hb with rfl | rfl | rfl | rfl <;> rfl
theorem kb_k9 {b : Nat} (hb : isB b) : KC.1 (b + 26) = (14, 9) := by rcases hb with rfl | rfl | rfl | rfl <;> rfl
theorem kb_r10 {b : Nat} (hb : isB b) : KC.2 b 10 = some (b + 27) := by rcases hb with rfl | rfl | rfl | rfl <;> rfl
theorem kb_k10 {b : Nat} (hb : isB b) : KC.1 (b + 27) = (14, 9) := by rcases hb with rfl | rfl | rfl | rfl <;> rfl
theorem lt16_ {P : Nat → Prop} (h : P 0 ∧ P 1 ∧ P 2 ∧ P 3 ∧ P 4 ∧ P 5 ∧ P 6 ∧ P 7 ∧ P 8 ∧ P 9 ∧ P 10 ∧ P 11 ∧ P 12 ∧ P 13 ∧ P 14 ∧ P 15) : ∀ i, i < 16 → P i := by
  intro i hi
  obtain ⟨h0, h1, h2, h3, h4, h5, h6, h7, h8, h9, h10, h11, h12, h13, h14, h15⟩ := h
  rcases (show i = 0 ∨ i = 1 ∨ i = 2 ∨ i = 3 ∨ i = 4 ∨ i = 5 ∨ i = 6 ∨ i = 7 ∨ i = 8 ∨ i = 9 ∨ i = 10 ∨ i = 11 ∨ i = 12 ∨ i = 13 ∨ i = 14 ∨ i = 15 by omega) with rfl | rfl | rfl | rfl | rfl | rfl | rfl | rfl | rfl | rfl | rfl | rfl | rfl | rfl | rfl | rfl <;> assumption
theorem kb_row {b : Nat} (hb : isB b) : ∀ i, i < 16 → KC.2 (b + 5) i = some (b + 6 + i) := by rcases hb with rfl | rfl | rfl | rfl <;> exact lt16_ ⟨rfl, rfl, rfl, rfl, rfl, rfl, rfl, rfl, rfl, rfl, rfl, rfl, rfl, rfl, rfl, rfl⟩
theorem kb_rk {b : Nat} (hb : isB b) : ∀ i, i < 16 → KC.1 (b + 6 + i) = (14, 16) := by rcases hb with rfl | rfl | rfl | rfl <;> exact lt16_ ⟨rfl, rfl, rfl, rfl, rfl, rfl, rfl, rfl, rfl, rfl, rfl, rfl, rfl, rfl, rfl, rfl⟩
theorem kp_0 {b : Nat} (hb : isP b) : KC.1 b = (6, 0) := by rcases hb with rfl | rfl | rfl | rfl <;> rfl
theorem kp_r0 {b : Nat} (hb : isP b) : KC.2 b 0 = some (b + 1) := by rcases hb with rfl | rfl | rfl | rfl <;> rfl
theorem kp_k0 {b : Nat} (hb : isP b) : KC.1 (b + 1) = (14, 100) := by rcases hb with rfl | rfl | rfl | rfl <;> rfl
theorem kp_r1 {b : Nat} (hb : isP b) : KC.2 b 1 = some (b + 2) := by rcases hb with rfl | rfl | rfl | rfl <;> rfl
theorem kp_k1 {b : Nat} (hb : isP b) : KC.1 (b + 2) = (14, 100) := by rcases hb with rfl | rfl | rfl | rfl <;> rfl
theorem kp_r2 {b : Nat} (hb : isP b) : KC.2 b 2 = some (b + 3) := by rcases hb with rfl | rfl | rfl | rfl <;> rfl
theorem kp_k2 {b : Nat} (hb : isP b) : KC.1 (b + 3) = (14, 100) := by rcases hb with rfl | rfl | rfl | rfl <;> rfl
theorem kp_r3 {b : Nat} (hb : isP b) : KC.2 b 3 = some (b + 4) := by rcases hb with rfl | rfl | rfl | rfl <;> rfl
theorem kp_k3 {b : Nat} (hb : isP b) : KC.1 (b + 4) = (14, 100) := by rcases hb with rfl | rfl | rfl | rfl <;> rfl
theorem ks_0 {b : Nat} (hb : isS b) : KC.1 b = (9, 0) := by rcases hb with rfl | rfl | rfl | rfl <;> rfl
theorem ks_r0 {b : Nat} (hb : isS b) : KC.2 b 0 = some (b + 1) := by rcases hb with rfl | rfl | rfl | rfl <;> rfl
theorem ks_k0 {b : Nat} (hb : isS b) : KC.1 (b + 1) = (14, 40) := by rcases hb with rfl | rfl | rfl | rfl <;> rfl
theorem ks_r1 {b : Nat} (hb : isS b) : KC.2 b 1 = some (b + 2) := by rcases hb with rfl | rfl | rfl | rfl <;> rfl
theorem ks_k1 {b : Nat} (hb : isS b) : KC.1 (b + 2) = (14, 40) := by rcases hb with rfl | rfl | rfl | rfl <;> rfl
theorem ks_r2 {b : Nat} (hb : isS b) : KC.2 b 2 = some (b + 3) := by rcases hb with rfl | rfl | rfl | rfl <;> rfl
theorem ks_k2 {b : Nat} (hb : isS b) : KC.1 (b + 3) = (14, 40) := by rcases hb with rfl | rfl | rfl | rfl <;> rfl
theorem ks_r3 {b : Nat} (hb : isS b) : KC.2 b 3 = some (b + 4) := by rcases hb with rfl | rfl | rfl | rfl <;> rfl
theorem ks_k3 {b : Nat} (hb : isS b) : KC.1 (b + 4) = (14, 40) := by rcases hb with rfl | rfl | rfl | rfl <;> rfl
theorem km_0 {b : Nat} (hb : isM b) : KC.1 b = (5, 0) := by rcases hb with rfl | rfl | rfl <;> rfl
theorem km_r0 {b : Nat} (hb : isM b) : KC.2 b 0 = some (b + 1) := by rcases hb with rfl | rfl | rfl <;> rfl
theorem km_k0 {b : Nat} (hb : isM b) : KC.1 (b + 1) = (14, 9) := by rcases hb with rfl | rfl | rfl <;> rfl
theorem km_r1 {b : Nat} (hb : isM b) : KC.2 b 1 = some (b + 2) := by rcases hb with rfl | rfl | rfl <;> rfl
theorem km_k1 {b : Nat} (hb : isM b) : KC.1 (b + 2) = (14, 9) := by rcases hb with rfl | rfl | rfl <;> rfl
theorem km_r2 {b : Nat} (hb : isM b) : KC.2 b 2 = some (b + 3) := by rcases hb with rfl | rfl | rfl <;> rfl
theorem km_k2 {b : Nat} (hb : isM b) : KC.1 (b + 3) = (14, 9) := by rcases hb with rfl | rfl | rfl <;> rfl
theorem km_r3 {b : Nat} (hb : isM b) : KC.2 b 3 = some (b + 4) := by rcases hb with rfl | rfl | rfl <;> rfl
theorem km_k3 {b : Nat} (hb : isM b) : KC.1 (b + 4) = (14, 144) := by rcases hb with rfl | rfl | rfl <;> rfl
/-! rows of Ev_ -/
theorem ev_go {P : List (Nat × Op_)} {pc : Nat} {lo : Lo_} {st : List Value} {σ : St_} {out : Out_} {o : Op_} {pc' : Nat} {lo' : Lo_} {st' : List Value} {σ' : St_} (hl : P.lookup pc = some o) (ho : ∀ k : Ct_, o k pc lo st σ = k pc' lo' st' σ') (h : Ev_ P pc' lo' st' σ' out) : Ev_ P pc lo st σ out := by
  obtain ⟨n, h⟩ := h
  refine ⟨n + 1, ?_⟩
  unfold ev_
  rw [hl]
  exact (ho _).trans h
theorem ev_goA {P : List (Nat × Op_)} {pc : Nat} {lo : Lo_} {st : List Value} {σ : St_} {out : Out_} {o : Op_} {ds : List Nat} {pc' : Nat} {lo' lo2 : Lo_} {st' : List Value} {σ' : St_} (hl : P.lookup pc = some (o_aft ds o)) (ho : ∀ k : Ct_, o k pc lo st σ = k pc' lo' st' σ') (h2 : clr_ ds lo' = lo2) (h : Ev_ P pc' lo2 st' σ' out) : Ev_ P pc lo st σ out := by
  subst h2
  exact ev_go hl (fun k => ho _) h
def stp_ (P : List (Nat × Op_)) : Nat → Ct_ → Ct_
  | 0, k => k
  | n + 1, k => fun pc lo st σ => match P.lookup pc with
    | some o => o (stp_ P n k) pc lo st σ
    | none => none
theorem ev_stp {P : List (Nat × Op_)} : ∀ (n m : Nat), ev_ P (n + m) = stp_ P n (ev_ P m)
  | 0, m => by rw [Nat.zero_add]; rfl
  | n + 1, m => by
    rw [Nat.succ_add]
    funext pc lo st σ
    show (match P.lookup pc with | some o => o (ev_ P (n + m)) pc lo st σ | none => none) = _
    rw [ev_stp n m]
    rfl
/-- n steps at once, by evaluation -/
theorem ev_n {P : List (Nat × Op_)} (n : Nat) {pc : Nat} {lo : Lo_} {st : List Value} {σ : St_} {out : Out_} {pc' : Nat} {lo' : Lo_} {st' : List Value} {σ' : St_} (ho : ∀ k : Ct_, stp_ P n k pc lo st σ = k pc' lo' st' σ') (h : Ev_ P pc' lo' st' σ' out) : Ev_ P pc lo st σ out := by
  obtain ⟨m, h⟩ := h
  exact ⟨n + m, by rw [ev_stp]; exact (ho _).trans h⟩
theorem ev_if {P : List (Nat × Op_)} {pc : Nat} {lo : Lo_} {st : List Value} {σ : St_} {out : Out_} {o : Op_} {c : Prop} {dc : Decidable c} {pt pf : Nat} {lt lf : Lo_} {rt rf : List Value} (hl : P.lookup pc = some o) (ho : ∀ k : Ct_, o k pc lo st σ = @ite _ c dc (k pt lt rt σ) (k pf lf rf σ)) (ht : c → Ev_ P pt lt rt σ out) (hf : ¬ c → Ev_ P pf lf rf σ out) : Ev_ P pc lo st σ out := by
  by_cases hc : c
  · exact ev_go hl (fun k => (ho k).trans (if_pos hc)) (ht hc)
  · exact ev_go hl (fun k => (ho k).trans (if_neg hc)) (hf hc)
theorem ev_ret {P : List (Nat × Op_)} {pc : Nat} {lo : Lo_} {st : List Value} {σ : St_} {out : Out_} {o : Op_} (hl : P.lookup pc = some o) {v : Out_} (ho : ∀ k : Ct_, o k pc lo st σ = some v) (h : out = v) : Ev_ P pc lo st σ out := by
  refine ⟨1, ?_⟩
  unfold ev_
  rw [hl, h]
  exact ho _
theorem vpin_lt {i : Int32} {n : Nat} (h : vpin_ i n = true) : i.toNatClampNeg < n := Nat.not_le.mp fun q => vpin_t h (Or.inr q)
theorem ev_tsw {P : List (Nat × Op_)} {pc : Nat} {lo : Lo_} {r : List Value} {σ : St_} {out : Out_} {x : Int32} {a b : Int} {d : Nat} {ts : List Nat} (hl : P.lookup pc = some (o_tsw a b d ts)) (h1 : (x.toInt < a ∨ b < x.toInt) → Ev_ P d lo r σ out) (h2 : ∀ t, ¬ (x.toInt < a ∨ b < x.toInt) → ts[(x.toInt - a).toNat]? = some t → Ev_ P t lo r σ out) (h3 : (b - a).toNat < ts.length) : Ev_ P pc lo (.int x :: r) σ out := by
  by_cases hc : x.toInt < a ∨ b < x.toInt
  · exact ev_go hl (fun k => if_pos hc) (h1 hc)
  · have hlt : (x.toInt - a).toNat < ts.length := by omega
    have ht : ts[(x.toInt - a).toNat]? = some ts[(x.toInt - a).toNat] := List.getElem?_eq_getElem hlt
    exact ev_go hl (fun k => (if_neg hc).trans (by rw [ht])) (h2 _ hc ht)
theorem tsw_in {x : Int32} {a b : Int} {n : Nat} (hc : ¬ (x.toInt < a ∨ b < x.toInt)) (hn : (b - a).toNat + 1 = n) : (x.toInt - a).toNat < n := by omega
theorem tsw_eq {x y : Int32} {a b : Int} {i : Nat} (hc : ¬ (x.toInt < a ∨ b < x.toInt)) (e : (x.toInt - a).toNat = i) (hy : a + i = y.toInt) : x = y := Int32.toInt_inj.mp (by omega)
theorem ev_lsw {P : List (Nat × Op_)} {pc : Nat} {lo : Lo_} {r : List Value} {σ : St_} {out : Out_} {x y1 y2 : Int32} {a1 o1 a2 o2 df : Int} {t1 t2 t3 : Nat} (hl : P.lookup pc = some (o_lsw df [(a1, o1), (a2, o2)])) (hy : y1.toInt = a1 ∧ y2.toInt = a2) (e1 : (pc : Int) + o1 = t1) (e2 : (pc : Int) + o2 = t2) (e3 : (pc : Int) + df = t3) (h1 : x = y1 → Ev_ P t1 lo r σ out) (h2 : ¬ x = y1 → x = y2 → Ev_ P t2 lo r σ out) (h3 : ¬ x = y1 → ¬ x = y2 → Ev_ P t3 lo r σ out) : Ev_ P pc lo (.int x :: r) σ out := by
  have go : ∀ (t : Nat) (q : Int), Op.lookupswitch.offset [(a1, o1), (a2, o2)] df x.toInt = q → (pc : Int) + q = t → Ev_ P t lo r σ out → Ev_ P pc lo (.int x :: r) σ out := by
    intro t q hq ht h
    refine ev_go hl (fun k => ?_) h
    show (if _ then k _ lo r σ else none) = _
    rw [hq, ht, if_pos (by omega), Int.toNat_natCast]
  by_cases c1 : x = y1
  · exact go t1 o1 (by rw [Op.lookupswitch.offset_cons, if_pos (by rw [c1]; exact hy.1.symm)]) e1 (h1 c1)
  · have n1 : ¬ a1 = x.toInt := fun z => c1 (Int32.toInt_inj.mp (by rw [← z]; exact hy.1.symm))
    by_cases c2 : x = y2
    · exact go t2 o2 (by rw [Op.lookupswitch.offset_cons, if_neg n1, Op.lookupswitch.offset_cons, if_pos (by rw [c2]; exact hy.2.symm)]) e2 (h2 c1 c2)
    · have n2 : ¬ a2 = x.toInt := fun z => c2 (Int32.toInt_inj.mp (by rw [← z]; exact hy.2.symm))
      exact go t3 df (by rw [Op.lookupswitch.offset_cons, if_neg n1, Op.lookupswitch.offset_cons, if_neg n2, Op.lookupswitch.offset_nil]) e3 (h3 c1 c2)
theorem lt10_ {P : Nat → Prop} (h : P 0 ∧ P 1 ∧ P 2 ∧ P 3 ∧ P 4 ∧ P 5 ∧ P 6 ∧ P 7 ∧ P 8 ∧ P 9) : ∀ i, i < 10 → P i := by
  intro i hi
  obtain ⟨h0, h1, h2, h3, h4, h5, h6, h7, h8, h9⟩ := h
  rcases (show i = 0 ∨ i = 1 ∨ i = 2 ∨ i = 3 ∨ i = 4 ∨ i = 5 ∨ i = 6 ∨ i = 7 ∨ i = 8 ∨ i = 9 by omega) with rfl | rfl | rfl | rfl | rfl | rfl | rfl | rfl | rfl | rfl <;> assumption
theorem kc_row107 : ∀ i, i < 10 → KC.2 107 i = some (108 + i) := lt10_ ⟨rfl, rfl, rfl, rfl, rfl, rfl, rfl, rfl, rfl, rfl⟩
theorem kc_row118 : ∀ i, i < 10 → KC.2 118 i = some (119 + i) := lt10_ ⟨rfl, rfl, rfl, rfl, rfl, rfl, rfl, rfl, rfl, rfl⟩
theorem kc_k107 : ∀ i, i < 10 → KC.1 (108 + i) = (14, 17) := lt10_ ⟨rfl, rfl, rfl, rfl, rfl, rfl, rfl, rfl, rfl, rfl⟩
theorem kc_k118 : ∀ i, i < 10 → KC.1 (119 + i) = (14, 17) := lt10_ ⟨rfl, rfl, rfl, rfl, rfl, rfl, rfl, rfl, rfl, rfl⟩
theorem lt2_ {P : Nat → Prop} (h : P 0 ∧ P 1) : ∀ i, i < 2 → P i := by
  intro i hi
  obtain ⟨h0, h1⟩ := h
  rcases (show i = 0 ∨ i = 1 by omega) with rfl | rfl <;> assumption
theorem kc_row139 : ∀ i, i < 2 → KC.2 139 i = some (143 + 38 * i) := lt2_ ⟨rfl, rfl⟩
theorem kc_row140 : ∀ i, i < 2 → KC.2 140 i = some (171 + 38 * i) := lt2_ ⟨rfl, rfl⟩
theorem kc_row141 : ∀ i, i < 2 → KC.2 141 i = some (176 + 38 * i) := lt2_ ⟨rfl, rfl⟩
theorem kc_is139 (i : Nat) (h : i < 2) : isB (143 + 38 * i) := by unfold isB; omega
theorem kc_is140 (i : Nat) (h : i < 2) : isP (171 + 38 * i) := by unfold isP; omega
theorem kc_is141 (i : Nat) (h : i < 2) : isS (176 + 38 * i) := by unfold isS; omega
section VR
variable {P : List (Nat × Op_)} {K : Sh_} {pc : Nat} {lo : Lo_} {r : List Value} {σ : St_} {out : Out_} {q ci f n : Nat}
theorem w_gI (hk : K.1 q = (ci, n)) (k : Ct_) : (o_gI K ci f) k pc lo (.ref q :: r) σ = k (pc + 3) lo (.int (σ.1 q f) :: r) σ := ((fun _ => if_pos (by rw [hk])) : ∀ k : Ct_, (o_gI K ci f) k pc lo (.ref q :: r) σ = k (pc + 3) lo (.int (σ.1 q f) :: r) σ) k
theorem w_gJ (hk : K.1 q = (ci, n)) (k : Ct_) : (o_gJ K ci f) k pc lo (.ref q :: r) σ = k (pc + 3) lo (.long (σ.2.1 q f) :: r) σ := ((fun _ => if_pos (by rw [hk])) : ∀ k : Ct_, (o_gJ K ci f) k pc lo (.ref q :: r) σ = k (pc + 3) lo (.long (σ.2.1 q f) :: r) σ) k
theorem w_gR {z : Nat} (hk : K.1 q = (ci, n)) (hz : σ.2.2 q f = some z) (k : Ct_) : (o_gR K ci f) k pc lo (.ref q :: r) σ = k (pc + 3) lo (.ref z :: r) σ := ((fun k => by show (if _ then _ else _) = _; rw [if_pos (by rw [hk]), hz]) : ∀ k : Ct_, (o_gR K ci f) k pc lo (.ref q :: r) σ = k (pc + 3) lo (.ref z :: r) σ) k
theorem w_gF {z : Nat} (hk : K.1 q = (ci, n)) (hz : K.2 q f = some z) (k : Ct_) : (o_gF K ci f) k pc lo (.ref q :: r) σ = k (pc + 3) lo (.ref z :: r) σ := ((fun k => by show (if _ then _ else _) = _; rw [if_pos (by rw [hk]), hz]) : ∀ k : Ct_, (o_gF K ci f) k pc lo (.ref q :: r) σ = k (pc + 3) lo (.ref z :: r) σ) k
theorem w_pI {x : Int32} (hk : K.1 q = (ci, n)) (k : Ct_) : (o_pI K ci f) k pc lo (.int x :: .ref q :: r) σ = k (pc + 3) lo r (sI_ σ q f x) := ((fun _ => if_pos (by rw [hk])) : ∀ k : Ct_, (o_pI K ci f) k pc lo (.int x :: .ref q :: r) σ = k (pc + 3) lo r (sI_ σ q f x)) k
theorem w_pZ {x : Int32} (hk : K.1 q = (ci, n)) (hx : x = 0 ∨ x = 1) (k : Ct_) : (o_pZ K ci f) k pc lo (.int x :: .ref q :: r) σ = k (pc + 3) lo r (sI_ σ q f x) := ((fun _ => if_pos ⟨by rw [hk], hx⟩) : ∀ k : Ct_, (o_pZ K ci f) k pc lo (.int x :: .ref q :: r) σ = k (pc + 3) lo r (sI_ σ q f x)) k
theorem w_pJ {x : Int64} (hk : K.1 q = (ci, n)) (k : Ct_) : (o_pJ K ci f) k pc lo (.long x :: .ref q :: r) σ = k (pc + 3) lo r (sJ_ σ q f x) := ((fun _ => if_pos (by rw [hk])) : ∀ k : Ct_, (o_pJ K ci f) k pc lo (.long x :: .ref q :: r) σ = k (pc + 3) lo r (sJ_ σ q f x)) k
theorem w_pR {x : Nat} (hk : K.1 q = (ci, n)) (k : Ct_) : (o_pR K ci f) k pc lo (.ref x :: .ref q :: r) σ = k (pc + 3) lo r (sR_ σ q f (some x)) := ((fun _ => if_pos (by rw [hk])) : ∀ k : Ct_, (o_pR K ci f) k pc lo (.ref x :: .ref q :: r) σ = k (pc + 3) lo r (sR_ σ q f (some x))) k
theorem w_iald {i : Int32} (hk : K.1 q = (14, n)) (hi : vpin_ i n = true) (k : Ct_) : (o_iald K) k pc lo (.int i :: .ref q :: r) σ = k (pc + 1) lo (.int (σ.1 q i.toNatClampNeg) :: r) σ := ((fun _ => if_pos (by rw [hk]; exact ⟨rfl, hi⟩)) : ∀ k : Ct_, (o_iald K) k pc lo (.int i :: .ref q :: r) σ = k (pc + 1) lo (.int (σ.1 q i.toNatClampNeg) :: r) σ) k
theorem w_bald {i : Int32} (hk : K.1 q = (13, n)) (hi : vpin_ i n = true) (k : Ct_) : (o_bald K) k pc lo (.int i :: .ref q :: r) σ = k (pc + 1) lo (.int (σ.1 q i.toNatClampNeg) :: r) σ := ((fun _ => if_pos (by rw [hk]; exact ⟨rfl, hi⟩)) : ∀ k : Ct_, (o_bald K) k pc lo (.int i :: .ref q :: r) σ = k (pc + 1) lo (.int (σ.1 q i.toNatClampNeg) :: r) σ) k
theorem w_zald {i : Int32} (hk : K.1 q = (16, n)) (hi : vpin_ i n = true) (k : Ct_) : (o_zald K) k pc lo (.int i :: .ref q :: r) σ = k (pc + 1) lo (.int (σ.1 q i.toNatClampNeg) :: r) σ := ((fun _ => if_pos (by rw [hk]; exact ⟨rfl, hi⟩)) : ∀ k : Ct_, (o_zald K) k pc lo (.int i :: .ref q :: r) σ = k (pc + 1) lo (.int (σ.1 q i.toNatClampNeg) :: r) σ) k
theorem w_lald {i : Int32} (hk : K.1 q = (15, n)) (hi : vpin_ i n = true) (k : Ct_) : (o_lald K) k pc lo (.int i :: .ref q :: r) σ = k (pc + 1) lo (.long (σ.2.1 q i.toNatClampNeg) :: r) σ := ((fun _ => if_pos (by rw [hk]; exact ⟨rfl, hi⟩)) : ∀ k : Ct_, (o_lald K) k pc lo (.int i :: .ref q :: r) σ = k (pc + 1) lo (.long (σ.2.1 q i.toNatClampNeg) :: r) σ) k
theorem w_aald {i : Int32} {z : Nat} (hk : K.1 q = (ci, n)) (hci : 17 ≤ ci ∧ ci ≤ 20) (hi : vpin_ i n = true) (hz : K.2 q i.toNatClampNeg = some z) (k : Ct_) : (o_aald K) k pc lo (.int i :: .ref q :: r) σ = k (pc + 1) lo (.ref z :: r) σ := ((fun k => by show (if _ then _ else _) = _; rw [if_pos (by rw [hk]; exact ⟨hci, hi⟩), hz]) : ∀ k : Ct_, (o_aald K) k pc lo (.int i :: .ref q :: r) σ = k (pc + 1) lo (.ref z :: r) σ) k
theorem w_iast {i x : Int32} (hk : K.1 q = (14, n)) (hi : vpin_ i n = true) (k : Ct_) : (o_iast K) k pc lo (.int x :: .int i :: .ref q :: r) σ = k (pc + 1) lo r (sI_ σ q i.toNatClampNeg x) := ((fun _ => if_pos (by rw [hk]; exact ⟨rfl, hi⟩)) : ∀ k : Ct_, (o_iast K) k pc lo (.int x :: .int i :: .ref q :: r) σ = k (pc + 1) lo r (sI_ σ q i.toNatClampNeg x)) k
theorem w_bast {i x : Int32} (hk : K.1 q = (13, n)) (hi : vpin_ i n = true) (k : Ct_) : (o_bast K) k pc lo (.int x :: .int i :: .ref q :: r) σ = k (pc + 1) lo r (sI_ σ q i.toNatClampNeg (vp_nar .byte x)) := ((fun _ => if_pos (by rw [hk]; exact ⟨rfl, hi⟩)) : ∀ k : Ct_, (o_bast K) k pc lo (.int x :: .int i :: .ref q :: r) σ = k (pc + 1) lo r (sI_ σ q i.toNatClampNeg (vp_nar .byte x))) k
theorem w_zast {i x : Int32} (hk : K.1 q = (16, n)) (hi : vpin_ i n = true) (k : Ct_) : (o_zast K) k pc lo (.int x :: .int i :: .ref q :: r) σ = k (pc + 1) lo r (sI_ σ q i.toNatClampNeg (vp_nar .boolean x)) := ((fun _ => if_pos (by rw [hk]; exact ⟨rfl, hi⟩)) : ∀ k : Ct_, (o_zast K) k pc lo (.int x :: .int i :: .ref q :: r) σ = k (pc + 1) lo r (sI_ σ q i.toNatClampNeg (vp_nar .boolean x))) k
theorem w_last {i : Int32} {x : Int64} (hk : K.1 q = (15, n)) (hi : vpin_ i n = true) (k : Ct_) : (o_last K) k pc lo (.long x :: .int i :: .ref q :: r) σ = k (pc + 1) lo r (sJ_ σ q i.toNatClampNeg x) := ((fun _ => if_pos (by rw [hk]; exact ⟨rfl, hi⟩)) : ∀ k : Ct_, (o_last K) k pc lo (.long x :: .int i :: .ref q :: r) σ = k (pc + 1) lo r (sJ_ σ q i.toNatClampNeg x)) k
theorem w_alen (hk : K.1 q = (14, n)) (k : Ct_) : (o_alen K) k pc lo (.ref q :: r) σ = k (pc + 1) lo (.int (Int32.ofNat n) :: r) σ := ((fun k => by show (if _ then _ else _) = _; rw [hk]; rfl) : ∀ k : Ct_, (o_alen K) k pc lo (.ref q :: r) σ = k (pc + 1) lo (.int (Int32.ofNat n) :: r) σ) k
theorem w_div {x y : Int32} (hy : ¬ y = 0) (k : Ct_) : (o_idiv) k pc lo (.int y :: .int x :: r) σ = k (pc + 1) lo (.int (x / y) :: r) σ := ((fun _ => if_neg hy) : ∀ k : Ct_, (o_idiv) k pc lo (.int y :: .int x :: r) σ = k (pc + 1) lo (.int (x / y) :: r) σ) k
theorem w_rem {x y : Int32} (hy : ¬ y = 0) (k : Ct_) : (o_irem) k pc lo (.int y :: .int x :: r) σ = k (pc + 1) lo (.int (x - x / y * y) :: r) σ := ((fun _ => if_neg hy) : ∀ k : Ct_, (o_irem) k pc lo (.int y :: .int x :: r) σ = k (pc + 1) lo (.int (x - x / y * y) :: r) σ) k
theorem w_ldiv {x y : Int64} (hy : ¬ y = 0) (k : Ct_) : (o_ldiv) k pc lo (.long y :: .long x :: r) σ = k (pc + 1) lo (.long (x / y) :: r) σ := ((fun _ => if_neg hy) : ∀ k : Ct_, (o_ldiv) k pc lo (.long y :: .long x :: r) σ = k (pc + 1) lo (.long (x / y) :: r) σ) k
theorem w_callS {g : Fn_} {na : Nat} {st : List Value} {rv : Option Value} {σ1 : St_} (hs : na ≤ st.length ∧ ((st.drop na).map fun v => v.category).sum ≤ 8) (hf : g (st.take na).reverse σ = some (rv, σ1)) (k : Ct_) : (o_callS g na) k pc lo st σ = k (pc + 3) lo (rv.toList ++ st.drop na) σ1 := ((fun k => by unfold o_callS; rw [if_pos hs, hf]) : ∀ k : Ct_, (o_callS g na) k pc lo st σ = k (pc + 3) lo (rv.toList ++ st.drop na) σ1) k
theorem w_callV {g : Fn_} {na b : Nat} {as : List Value} {st : List Value} {rv : Option Value} {σ1 : St_} (hd : st.drop na = .ref b :: r) (ht : (st.take na).reverse = as) (hk : K.1 b = (ci, n)) (hs : (r.map fun v => v.category).sum ≤ 8) (hf : g (.ref b :: as) σ = some (rv, σ1)) (k : Ct_) : (o_callV K ci g na) k pc lo st σ = k (pc + 3) lo (rv.toList ++ r) σ1 := ((fun k => by subst ht; unfold o_callV; rw [hd]; show (if _ then _ else _) = _; rw [if_pos ⟨by rw [hk], hs⟩, hf]) : ∀ k : Ct_, (o_callV K ci g na) k pc lo st σ = k (pc + 3) lo (rv.toList ++ r) σ1) k
theorem v_zret {v : Int32} (hv : v = 0 ∨ v = 1) (hl : P.lookup pc = some o_zret) (h : out = (some (.int v), σ)) : Ev_ P pc lo [.int v] σ out := ev_ret hl (fun _ => if_pos hv) h
theorem w_copy {a b na nb : Nat} {m dp sp : Int32} (ha : K.1 a = (14, na)) (hb : K.1 b = (14, nb)) (hc : ¬ sp < 0 ∧ ¬ dp < 0 ∧ ¬ m < 0) (h1 : sp.toNatClampNeg + m.toNatClampNeg ≤ na) (h2 : dp.toNatClampNeg + m.toNatClampNeg ≤ nb) (hs : (r.map fun v => v.category).sum ≤ 8) (k : Ct_) : (o_copy K) k pc lo (.int m :: .int dp :: .ref b :: .int sp :: .ref a :: r) σ = k (pc + 3) lo r (fun q j => if q = b then va_cpy (σ.1 a) (σ.1 b) sp.toNatClampNeg dp.toNatClampNeg m.toNatClampNeg j else σ.1 q j, σ.2) := ((fun k => by show (if _ then _ else _) = _; rw [if_pos ⟨⟨by rw [ha], by rw [hb]⟩, hc, by rw [ha]; exact h1, by rw [hb]; exact h2, hs⟩]) : ∀ k : Ct_, (o_copy K) k pc lo (.int m :: .int dp :: .ref b :: .int sp :: .ref a :: r) σ = k (pc + 3) lo r (fun q j => if q = b then va_cpy (σ.1 a) (σ.1 b) sp.toNatClampNeg dp.toNatClampNeg m.toNatClampNeg j else σ.1 q j, σ.2)) k
theorem w_max {x y : Int32} (hs : (r.map fun v => v.category).sum ≤ 8) (k : Ct_) : (o_max) k pc lo (.int y :: .int x :: r) σ = k (pc + 3) lo (.int (if x < y then y else x) :: r) σ := ((fun _ => if_pos hs) : ∀ k : Ct_, (o_max) k pc lo (.int y :: .int x :: r) σ = k (pc + 3) lo (.int (if x < y then y else x) :: r) σ) k
theorem w_min {x y : Int32} (hs : (r.map fun v => v.category).sum ≤ 8) (k : Ct_) : (o_min) k pc lo (.int y :: .int x :: r) σ = k (pc + 3) lo (.int (if y < x then y else x) :: r) σ := ((fun _ => if_pos hs) : ∀ k : Ct_, (o_min) k pc lo (.int y :: .int x :: r) σ = k (pc + 3) lo (.int (if y < x then y else x) :: r) σ) k
end VR
