/-! the constructors, over a growing world -/
def AllN_ (φ : Nat → On_ → Prop) : List (Nat × On_) → Prop
  | [] => True
  | q :: t => φ q.1 q.2 ∧ AllN_ φ t
theorem alN_c {φ : Nat → On_ → Prop} {i : Nat} {o : On_} {t : List (Nat × On_)} (h : φ i o) (ht : AllN_ φ t) : AllN_ φ ((i, o) :: t) := ⟨h, ht⟩
theorem alN_n {φ : Nat → On_ → Prop} : AllN_ φ [] := trivial
theorem alN_get {φ : Nat → On_ → Prop} : ∀ {P : List (Nat × On_)}, AllN_ φ P → ∀ {j : Nat} {o : On_}, P.lookup j = some o → φ j o
  | [], _, j, o, h => by simp at h
  | (i, q) :: t, ha, j, o, h => by
    rw [List.lookup_cons] at h
    by_cases c : j == i
    · rw [c] at h
      have h : some q = some o := h
      cases h
      rw [beq_iff_eq.mp c]
      exact ha.1
    · rw [show (j == i) = false by simpa using c] at h
      exact alN_get ha.2 h
def PN_X0_clear : List (Nat × On_) := [(0, n_ald 0 1),
  (1, n_ic 0 1),
  (2, n_pI 0 11),
  (5, n_ald 0 1),
  (6, n_ic 0 1),
  (7, n_pI 0 12),
  (10, n_ald 0 1),
  (11, n_ic 0 1),
  (12, n_pI 0 13),
  (15, n_ald 0 1),
  (16, n_ic 20 2),
  (18, n_pI 0 14),
  (21, n_ald 0 1),
  (22, n_ic 8 2),
  (24, n_pI 0 15),
  (27, n_ald 0 1),
  (28, n_ic 0 1),
  (29, n_pZ 0 16),
  (32, n_ald 0 1),
  (33, n_ic 0 1),
  (34, n_pZ 0 17),
  (37, n_ret)]
def hn_X0_clear : Hn_ := hnF_ PN_X0_clear 1 150
set_option maxRecDepth 100000 in
theorem an_X0_clear {l : Launch} {E : En_} (hE : EX_ E) (hKC : E.2.2.2.1 = KC) {R : Room} (hlv : 1 ≤ R.frames ∧ 64 * 1 ≤ R.locals) : AllN_ (SnN_ l E yX0_clear.cls cX0_clear 1 (.code yX0_clear cX0_clear 1 none :: G_) R false) PN_X0_clear :=
  have hlv1 : 1 ≤ R.frames ∧ 64 ≤ R.locals := ⟨by omega, by omega⟩
  alN_c (ns_ald_n (q := 0) (by decide +kernel) rfl) <|
  alN_c (ns_iconst (n := 0) (by decide +kernel) (by decide)) <|
  alN_c (ns_pI (by decide +kernel) (by decide) (by decide) rfl rfl iw0 (G_w fl_RX0_50)) <|
  alN_c (ns_ald_n (q := 0) (by decide +kernel) rfl) <|
  alN_c (ns_iconst (n := 0) (by decide +kernel) (by decide)) <|
  alN_c (ns_pI (by decide +kernel) (by decide) (by decide) rfl rfl iw0 (G_w fl_RX0_54)) <|
  alN_c (ns_ald_n (q := 0) (by decide +kernel) rfl) <|
  alN_c (ns_iconst (n := 0) (by decide +kernel) (by decide)) <|
  alN_c (ns_pI (by decide +kernel) (by decide) (by decide) rfl rfl iw0 (G_w fl_RX0_57)) <|
  alN_c (ns_ald_n (q := 0) (by decide +kernel) rfl) <|
  alN_c (ns_bipush (n := 20) (by decide +kernel) (by decide)) <|
  alN_c (ns_pI (by decide +kernel) (by decide) (by decide) rfl rfl iw0 (G_w fl_RX0_60)) <|
  alN_c (ns_ald_n (q := 0) (by decide +kernel) rfl) <|
  alN_c (ns_bipush (n := 8) (by decide +kernel) (by decide)) <|
  alN_c (ns_pI (by decide +kernel) (by decide) (by decide) rfl rfl iw0 (G_w fl_RX0_63)) <|
  alN_c (ns_ald_n (q := 0) (by decide +kernel) rfl) <|
  alN_c (ns_iconst (n := 0) (by decide +kernel) (by decide)) <|
  alN_c (ns_pZ (by decide +kernel) (by decide) (by decide) rfl rfl iw0 (G_w fl_RX0_66)) <|
  alN_c (ns_ald_n (q := 0) (by decide +kernel) rfl) <|
  alN_c (ns_iconst (n := 0) (by decide +kernel) (by decide)) <|
  alN_c (ns_pZ (by decide +kernel) (by decide) (by decide) rfl rfl iw0 (G_w fl_RX0_70)) <|
  alN_c (ns_ret (by decide +kernel)) <|
  alN_n
theorem mt_X0_clear {l : Launch} {E : En_} (hE : EX_ E) (hKC : E.2.2.2.1 = KC) : MtN_ l E yX0_clear (.code yX0_clear cX0_clear 1 none :: G_) 1 hn_X0_clear := metN_ hE hKC (by decide +kernel) (ini := false) (fun h => by cases h) (fun R hlv pc o ho => alN_get (an_X0_clear hE hKC hlv) ho)
theorem cln_X5_init : Cl_ yX5_init cX5_init 2 none 1 := ⟨G_2 (i := 64) rfl rfl, G_1 (i := 10) rfl rfl, ⟨by decide +kernel, by decide +kernel, by decide +kernel⟩, by decide⟩
theorem imn_X5_init : Cond.instanceMethod yX5_init ∈ G_ := G_2 (i := 63) rfl rfl
def PN_X5_init : List (Nat × On_) := [(0, n_ald 0 1),
  (1, n_obj),
  (4, n_ald 0 1),
  (5, n_ic 9 2),
  (7, n_newa 14),
  (9, n_pF 5 0),
  (12, n_ald 0 1),
  (13, n_ic 9 2),
  (15, n_newa 14),
  (17, n_pF 5 1),
  (20, n_ald 0 1),
  (21, n_ic 9 2),
  (23, n_newa 14),
  (25, n_pF 5 2),
  (28, n_ald 0 1),
  (29, n_ic 144 3),
  (32, n_newa 14),
  (34, n_pF 5 3),
  (37, n_ald 0 1),
  (38, n_ic (-1) 1),
  (39, n_pI 5 4),
  (42, n_ald 0 1),
  (43, n_ald 1 1),
  (44, n_pR 5 9),
  (47, n_ret)]
def hn_X5_init : Hn_ := hnF_ PN_X5_init 2 150
set_option maxRecDepth 100000 in
theorem an_X5_init {l : Launch} {E : En_} (hE : EX_ E) (hKC : E.2.2.2.1 = KC) {R : Room} (hlv : 1 ≤ R.frames ∧ 64 * 1 ≤ R.locals) : AllN_ (SnN_ l E yX5_init.cls cX5_init 2 (.code yX5_init cX5_init 2 none :: G_) R true) PN_X5_init :=
  have hlv1 : 1 ≤ R.frames ∧ 64 ≤ R.locals := ⟨by omega, by omega⟩
  alN_c (ns_ald_n (q := 0) (by decide +kernel) rfl) <|
  alN_c (ns_obj (by decide +kernel) (G_w (G_2 (i := 65) rfl rfl)) (G_w (G_1 (i := 31) rfl rfl)) (G_w (G_1 (i := 32) rfl rfl)) hlv1) <|
  alN_c (ns_ald_n (q := 0) (by decide +kernel) rfl) <|
  alN_c (ns_bipush (n := 9) (by decide +kernel) (by decide)) <|
  alN_c (ns_newa_int (by decide +kernel) (G_w (G_1 (i := 133) rfl rfl))) <|
  alN_c (ns_pF (by decide +kernel) (by decide) (by decide) rfl rfl rfl iw5 (G_w fl_RX5_9)) <|
  alN_c (ns_ald_n (q := 0) (by decide +kernel) rfl) <|
  alN_c (ns_bipush (n := 9) (by decide +kernel) (by decide)) <|
  alN_c (ns_newa_int (by decide +kernel) (G_w (G_1 (i := 133) rfl rfl))) <|
  alN_c (ns_pF (by decide +kernel) (by decide) (by decide) rfl rfl rfl iw5 (G_w fl_RX5_15)) <|
  alN_c (ns_ald_n (q := 0) (by decide +kernel) rfl) <|
  alN_c (ns_bipush (n := 9) (by decide +kernel) (by decide)) <|
  alN_c (ns_newa_int (by decide +kernel) (G_w (G_1 (i := 133) rfl rfl))) <|
  alN_c (ns_pF (by decide +kernel) (by decide) (by decide) rfl rfl rfl iw5 (G_w fl_RX5_18)) <|
  alN_c (ns_ald_n (q := 0) (by decide +kernel) rfl) <|
  alN_c (ns_sipush (n := 144) (by decide +kernel) (by decide)) <|
  alN_c (ns_newa_int (by decide +kernel) (G_w (G_1 (i := 133) rfl rfl))) <|
  alN_c (ns_pF (by decide +kernel) (by decide) (by decide) rfl rfl rfl iw5 (G_w fl_RX5_21)) <|
  alN_c (ns_ald_n (q := 0) (by decide +kernel) rfl) <|
  alN_c (ns_iconst (n := (-1)) (by decide +kernel) (by decide)) <|
  alN_c (ns_pI (by decide +kernel) (by decide) (by decide) rfl rfl iw5 (G_w fl_RX5_24)) <|
  alN_c (ns_ald_n (q := 0) (by decide +kernel) rfl) <|
  alN_c (ns_ald_n (q := 1) (by decide +kernel) rfl) <|
  alN_c (ns_pR (by decide +kernel) (by decide) (by decide) rfl rfl iw5 (G_w fl_RX5_28)) <|
  alN_c (ns_ret (by decide +kernel)) <|
  alN_n
theorem mt_X5_init {l : Launch} {E : En_} (hE : EX_ E) (hKC : E.2.2.2.1 = KC) : MtN_ l E yX5_init (.code yX5_init cX5_init 2 none :: G_) 1 hn_X5_init := metN_ hE hKC (by decide +kernel) (ini := true) (fun h => rfl) (fun R hlv pc o ho => alN_get (an_X5_init hE hKC hlv) ho)
theorem cln_X0_init : Cl_ yX0_init cX0_init 1 none 0 := ⟨G_1 (i := 138) rfl rfl, G_1 (i := 7) rfl rfl, ⟨by decide +kernel, by decide +kernel, by decide +kernel⟩, by decide⟩
theorem imn_X0_init : Cond.instanceMethod yX0_init ∈ G_ := G_1 (i := 137) rfl rfl
def PN_X0_init : List (Nat × On_) := [(0, n_ald 0 1),
  (1, n_obj),
  (4, n_ald 0 1),
  (5, n_ic 16 2),
  (7, n_newa 14),
  (9, n_pF 0 0),
  (12, n_ald 0 1),
  (13, n_ic 16 2),
  (15, n_newa 14),
  (17, n_pF 0 1),
  (20, n_ald 0 1),
  (21, n_ic 16 2),
  (23, n_newa 14),
  (25, n_pF 0 2),
  (28, n_ald 0 1),
  (29, n_ic 16 2),
  (31, n_newa 14),
  (33, n_pF 0 3),
  (36, n_ald 0 1),
  (37, n_ic 16 2),
  (39, n_ic 16 2),
  (41, n_mna 16 16),
  (45, n_pF 0 4),
  (48, n_ald 0 1),
  (49, n_ic 9 2),
  (51, n_newa 14),
  (53, n_pF 0 5),
  (56, n_ald 0 1),
  (57, n_ic 9 2),
  (59, n_newa 14),
  (61, n_pF 0 6),
  (64, n_ald 0 1),
  (65, n_ic 9 2),
  (67, n_newa 14),
  (69, n_pF 0 7),
  (72, n_ald 0 1),
  (73, n_ic 9 2),
  (75, n_newa 14),
  (77, n_pF 0 8),
  (80, n_ald 0 1),
  (81, n_ic 9 2),
  (83, n_newa 14),
  (85, n_pF 0 9),
  (88, n_ald 0 1),
  (89, n_ic 9 2),
  (91, n_newa 14),
  (93, n_pF 0 10),
  (96, n_ald 0 1),
  (97, n_callV 0 hn_X0_clear 0),
  (100, n_ret)]
def hn_X0_init : Hn_ := hnF_ PN_X0_init 1 150
set_option maxRecDepth 100000 in
theorem an_X0_init {l : Launch} {E : En_} (hE : EX_ E) (hKC : E.2.2.2.1 = KC) {R : Room} (hlv : 2 ≤ R.frames ∧ 64 * 2 ≤ R.locals) : AllN_ (SnN_ l E yX0_init.cls cX0_init 1 (.code yX0_init cX0_init 1 none :: G_) R true) PN_X0_init :=
  have hlv1 : 1 ≤ R.frames ∧ 64 ≤ R.locals := ⟨by omega, by omega⟩
  alN_c (ns_ald_n (q := 0) (by decide +kernel) rfl) <|
  alN_c (ns_obj (by decide +kernel) (G_w (G_1 (i := 139) rfl rfl)) (G_w (G_1 (i := 31) rfl rfl)) (G_w (G_1 (i := 32) rfl rfl)) hlv1) <|
  alN_c (ns_ald_n (q := 0) (by decide +kernel) rfl) <|
  alN_c (ns_bipush (n := 16) (by decide +kernel) (by decide)) <|
  alN_c (ns_newa_int (by decide +kernel) (G_w (G_1 (i := 133) rfl rfl))) <|
  alN_c (ns_pF (by decide +kernel) (by decide) (by decide) rfl rfl rfl iw0 (G_w fl_RX0_9)) <|
  alN_c (ns_ald_n (q := 0) (by decide +kernel) rfl) <|
  alN_c (ns_bipush (n := 16) (by decide +kernel) (by decide)) <|
  alN_c (ns_newa_int (by decide +kernel) (G_w (G_1 (i := 133) rfl rfl))) <|
  alN_c (ns_pF (by decide +kernel) (by decide) (by decide) rfl rfl rfl iw0 (G_w fl_RX0_15)) <|
  alN_c (ns_ald_n (q := 0) (by decide +kernel) rfl) <|
  alN_c (ns_bipush (n := 16) (by decide +kernel) (by decide)) <|
  alN_c (ns_newa_int (by decide +kernel) (G_w (G_1 (i := 133) rfl rfl))) <|
  alN_c (ns_pF (by decide +kernel) (by decide) (by decide) rfl rfl rfl iw0 (G_w fl_RX0_18)) <|
  alN_c (ns_ald_n (q := 0) (by decide +kernel) rfl) <|
  alN_c (ns_bipush (n := 16) (by decide +kernel) (by decide)) <|
  alN_c (ns_newa_int (by decide +kernel) (G_w (G_1 (i := 133) rfl rfl))) <|
  alN_c (ns_pF (by decide +kernel) (by decide) (by decide) rfl rfl rfl iw0 (G_w fl_RX0_21)) <|
  alN_c (ns_ald_n (q := 0) (by decide +kernel) rfl) <|
  alN_c (ns_bipush (n := 16) (by decide +kernel) (by decide)) <|
  alN_c (ns_bipush (n := 16) (by decide +kernel) (by decide)) <|
  alN_c (ns_mna ⟨by decide, by decide⟩ (by decide +kernel) (G_w (G_1 (i := 140) rfl rfl)) (G_w (G_1 (i := 133) rfl rfl))) <|
  alN_c (ns_pF (by decide +kernel) (by decide) (by decide) rfl rfl rfl iw0 (G_w fl_RX0_26)) <|
  alN_c (ns_ald_n (q := 0) (by decide +kernel) rfl) <|
  alN_c (ns_bipush (n := 9) (by decide +kernel) (by decide)) <|
  alN_c (ns_newa_int (by decide +kernel) (G_w (G_1 (i := 133) rfl rfl))) <|
  alN_c (ns_pF (by decide +kernel) (by decide) (by decide) rfl rfl rfl iw0 (G_w fl_RX0_29)) <|
  alN_c (ns_ald_n (q := 0) (by decide +kernel) rfl) <|
  alN_c (ns_bipush (n := 9) (by decide +kernel) (by decide)) <|
  alN_c (ns_newa_int (by decide +kernel) (G_w (G_1 (i := 133) rfl rfl))) <|
  alN_c (ns_pF (by decide +kernel) (by decide) (by decide) rfl rfl rfl iw0 (G_w fl_RX0_32)) <|
  alN_c (ns_ald_n (q := 0) (by decide +kernel) rfl) <|
  alN_c (ns_bipush (n := 9) (by decide +kernel) (by decide)) <|
  alN_c (ns_newa_int (by decide +kernel) (G_w (G_1 (i := 133) rfl rfl))) <|
  alN_c (ns_pF (by decide +kernel) (by decide) (by decide) rfl rfl rfl iw0 (G_w fl_RX0_35)) <|
  alN_c (ns_ald_n (q := 0) (by decide +kernel) rfl) <|
  alN_c (ns_bipush (n := 9) (by decide +kernel) (by decide)) <|
  alN_c (ns_newa_int (by decide +kernel) (G_w (G_1 (i := 133) rfl rfl))) <|
  alN_c (ns_pF (by decide +kernel) (by decide) (by decide) rfl rfl rfl iw0 (G_w fl_RX0_38)) <|
  alN_c (ns_ald_n (q := 0) (by decide +kernel) rfl) <|
  alN_c (ns_bipush (n := 9) (by decide +kernel) (by decide)) <|
  alN_c (ns_newa_int (by decide +kernel) (G_w (G_1 (i := 133) rfl rfl))) <|
  alN_c (ns_pF (by decide +kernel) (by decide) (by decide) rfl rfl rfl iw0 (G_w fl_RX0_41)) <|
  alN_c (ns_ald_n (q := 0) (by decide +kernel) rfl) <|
  alN_c (ns_bipush (n := 9) (by decide +kernel) (by decide)) <|
  alN_c (ns_newa_int (by decide +kernel) (G_w (G_1 (i := 133) rfl rfl))) <|
  alN_c (ns_pF (by decide +kernel) (by decide) (by decide) rfl rfl rfl iw0 (G_w fl_RX0_44)) <|
  alN_c (ns_ald_n (q := 0) (by decide +kernel) rfl) <|
  alN_c (ns_callV (by decide +kernel) (mt_X0_clear hE hKC) cl_X0_clear ml_RX0_47 im_X0_clear se_X0_clear (by decide) rfl ⟨by omega, by omega⟩) <|
  alN_c (ns_ret (by decide +kernel)) <|
  alN_n
theorem mt_X0_init {l : Launch} {E : En_} (hE : EX_ E) (hKC : E.2.2.2.1 = KC) : MtN_ l E yX0_init (.code yX0_init cX0_init 1 none :: G_) 2 hn_X0_init := metN_ hE hKC (by decide +kernel) (ini := true) (fun h => rfl) (fun R hlv pc o ho => alN_get (an_X0_init hE hKC hlv) ho)
theorem cln_X6_init : Cl_ yX6_init cX6_init 1 none 0 := ⟨G_2 (i := 1) rfl rfl, G_1 (i := 8) rfl rfl, ⟨by decide +kernel, by decide +kernel, by decide +kernel⟩, by decide⟩
theorem imn_X6_init : Cond.instanceMethod yX6_init ∈ G_ := G_2 (i := 0) rfl rfl
def PN_X6_init : List (Nat × On_) := [(0, n_ald 0 1),
  (1, n_obj),
  (4, n_ald 0 1),
  (5, n_ic 100 2),
  (7, n_newa 14),
  (9, n_pF 6 0),
  (12, n_ald 0 1),
  (13, n_ic 100 2),
  (15, n_newa 14),
  (17, n_pF 6 1),
  (20, n_ald 0 1),
  (21, n_ic 100 2),
  (23, n_newa 14),
  (25, n_pF 6 2),
  (28, n_ald 0 1),
  (29, n_ic 100 2),
  (31, n_newa 14),
  (33, n_pF 6 3),
  (36, n_ald 0 1),
  (37, n_ic 0 1),
  (38, n_pI 6 4),
  (41, n_ret)]
def hn_X6_init : Hn_ := hnF_ PN_X6_init 1 150
set_option maxRecDepth 100000 in
theorem an_X6_init {l : Launch} {E : En_} (hE : EX_ E) (hKC : E.2.2.2.1 = KC) {R : Room} (hlv : 1 ≤ R.frames ∧ 64 * 1 ≤ R.locals) : AllN_ (SnN_ l E yX6_init.cls cX6_init 1 (.code yX6_init cX6_init 1 none :: G_) R true) PN_X6_init :=
  have hlv1 : 1 ≤ R.frames ∧ 64 ≤ R.locals := ⟨by omega, by omega⟩
  alN_c (ns_ald_n (q := 0) (by decide +kernel) rfl) <|
  alN_c (ns_obj (by decide +kernel) (G_w (G_2 (i := 2) rfl rfl)) (G_w (G_1 (i := 31) rfl rfl)) (G_w (G_1 (i := 32) rfl rfl)) hlv1) <|
  alN_c (ns_ald_n (q := 0) (by decide +kernel) rfl) <|
  alN_c (ns_bipush (n := 100) (by decide +kernel) (by decide)) <|
  alN_c (ns_newa_int (by decide +kernel) (G_w (G_1 (i := 133) rfl rfl))) <|
  alN_c (ns_pF (by decide +kernel) (by decide) (by decide) rfl rfl rfl iw6 (G_w fl_RX6_11)) <|
  alN_c (ns_ald_n (q := 0) (by decide +kernel) rfl) <|
  alN_c (ns_bipush (n := 100) (by decide +kernel) (by decide)) <|
  alN_c (ns_newa_int (by decide +kernel) (G_w (G_1 (i := 133) rfl rfl))) <|
  alN_c (ns_pF (by decide +kernel) (by decide) (by decide) rfl rfl rfl iw6 (G_w fl_RX6_15)) <|
  alN_c (ns_ald_n (q := 0) (by decide +kernel) rfl) <|
  alN_c (ns_bipush (n := 100) (by decide +kernel) (by decide)) <|
  alN_c (ns_newa_int (by decide +kernel) (G_w (G_1 (i := 133) rfl rfl))) <|
  alN_c (ns_pF (by decide +kernel) (by decide) (by decide) rfl rfl rfl iw6 (G_w fl_RX6_18)) <|
  alN_c (ns_ald_n (q := 0) (by decide +kernel) rfl) <|
  alN_c (ns_bipush (n := 100) (by decide +kernel) (by decide)) <|
  alN_c (ns_newa_int (by decide +kernel) (G_w (G_1 (i := 133) rfl rfl))) <|
  alN_c (ns_pF (by decide +kernel) (by decide) (by decide) rfl rfl rfl iw6 (G_w fl_RX6_21)) <|
  alN_c (ns_ald_n (q := 0) (by decide +kernel) rfl) <|
  alN_c (ns_iconst (n := 0) (by decide +kernel) (by decide)) <|
  alN_c (ns_pI (by decide +kernel) (by decide) (by decide) rfl rfl iw6 (G_w fl_RX6_24)) <|
  alN_c (ns_ret (by decide +kernel)) <|
  alN_n
theorem mt_X6_init {l : Launch} {E : En_} (hE : EX_ E) (hKC : E.2.2.2.1 = KC) : MtN_ l E yX6_init (.code yX6_init cX6_init 1 none :: G_) 1 hn_X6_init := metN_ hE hKC (by decide +kernel) (ini := true) (fun h => rfl) (fun R hlv pc o ho => alN_get (an_X6_init hE hKC hlv) ho)
theorem cln_X9_init : Cl_ yX9_init cX9_init 1 none 0 := ⟨G_2 (i := 38) rfl rfl, G_1 (i := 9) rfl rfl, ⟨by decide +kernel, by decide +kernel, by decide +kernel⟩, by decide⟩
theorem imn_X9_init : Cond.instanceMethod yX9_init ∈ G_ := G_2 (i := 37) rfl rfl
def PN_X9_init : List (Nat × On_) := [(0, n_ald 0 1),
  (1, n_obj),
  (4, n_ald 0 1),
  (5, n_ic 40 2),
  (7, n_newa 14),
  (9, n_pF 9 0),
  (12, n_ald 0 1),
  (13, n_ic 40 2),
  (15, n_newa 14),
  (17, n_pF 9 1),
  (20, n_ald 0 1),
  (21, n_ic 40 2),
  (23, n_newa 14),
  (25, n_pF 9 2),
  (28, n_ald 0 1),
  (29, n_ic 40 2),
  (31, n_newa 14),
  (33, n_pF 9 3),
  (36, n_ald 0 1),
  (37, n_ic 0 1),
  (38, n_pI 9 4),
  (41, n_ald 0 1),
  (42, n_ic 0 1),
  (43, n_pI 9 5),
  (46, n_ret)]
def hn_X9_init : Hn_ := hnF_ PN_X9_init 1 150
set_option maxRecDepth 100000 in
theorem an_X9_init {l : Launch} {E : En_} (hE : EX_ E) (hKC : E.2.2.2.1 = KC) {R : Room} (hlv : 1 ≤ R.frames ∧ 64 * 1 ≤ R.locals) : AllN_ (SnN_ l E yX9_init.cls cX9_init 1 (.code yX9_init cX9_init 1 none :: G_) R true) PN_X9_init :=
  have hlv1 : 1 ≤ R.frames ∧ 64 ≤ R.locals := ⟨by omega, by omega⟩
  alN_c (ns_ald_n (q := 0) (by decide +kernel) rfl) <|
  alN_c (ns_obj (by decide +kernel) (G_w (G_2 (i := 39) rfl rfl)) (G_w (G_1 (i := 31) rfl rfl)) (G_w (G_1 (i := 32) rfl rfl)) hlv1) <|
  alN_c (ns_ald_n (q := 0) (by decide +kernel) rfl) <|
  alN_c (ns_bipush (n := 40) (by decide +kernel) (by decide)) <|
  alN_c (ns_newa_int (by decide +kernel) (G_w (G_1 (i := 133) rfl rfl))) <|
  alN_c (ns_pF (by decide +kernel) (by decide) (by decide) rfl rfl rfl iw9 (G_w fl_RX9_11)) <|
  alN_c (ns_ald_n (q := 0) (by decide +kernel) rfl) <|
  alN_c (ns_bipush (n := 40) (by decide +kernel) (by decide)) <|
  alN_c (ns_newa_int (by decide +kernel) (G_w (G_1 (i := 133) rfl rfl))) <|
  alN_c (ns_pF (by decide +kernel) (by decide) (by decide) rfl rfl rfl iw9 (G_w fl_RX9_15)) <|
  alN_c (ns_ald_n (q := 0) (by decide +kernel) rfl) <|
  alN_c (ns_bipush (n := 40) (by decide +kernel) (by decide)) <|
  alN_c (ns_newa_int (by decide +kernel) (G_w (G_1 (i := 133) rfl rfl))) <|
  alN_c (ns_pF (by decide +kernel) (by decide) (by decide) rfl rfl rfl iw9 (G_w fl_RX9_18)) <|
  alN_c (ns_ald_n (q := 0) (by decide +kernel) rfl) <|
  alN_c (ns_bipush (n := 40) (by decide +kernel) (by decide)) <|
  alN_c (ns_newa_int (by decide +kernel) (G_w (G_1 (i := 133) rfl rfl))) <|
  alN_c (ns_pF (by decide +kernel) (by decide) (by decide) rfl rfl rfl iw9 (G_w fl_RX9_21)) <|
  alN_c (ns_ald_n (q := 0) (by decide +kernel) rfl) <|
  alN_c (ns_iconst (n := 0) (by decide +kernel) (by decide)) <|
  alN_c (ns_pI (by decide +kernel) (by decide) (by decide) rfl rfl iw9 (G_w fl_RX9_24)) <|
  alN_c (ns_ald_n (q := 0) (by decide +kernel) rfl) <|
  alN_c (ns_iconst (n := 0) (by decide +kernel) (by decide)) <|
  alN_c (ns_pI (by decide +kernel) (by decide) (by decide) rfl rfl iw9 (G_w fl_RX9_28)) <|
  alN_c (ns_ret (by decide +kernel)) <|
  alN_n
theorem mt_X9_init {l : Launch} {E : En_} (hE : EX_ E) (hKC : E.2.2.2.1 = KC) : MtN_ l E yX9_init (.code yX9_init cX9_init 1 none :: G_) 1 hn_X9_init := metN_ hE hKC (by decide +kernel) (ini := true) (fun h => rfl) (fun R hlv pc o ho => alN_get (an_X9_init hE hKC hlv) ho)
theorem cln_X4_init : Cl_ yX4_init cX4_init 3 none 2 := ⟨G_2 (i := 117) rfl rfl, G_1 (i := 11) rfl rfl, ⟨by decide +kernel, by decide +kernel, by decide +kernel⟩, by decide⟩
theorem imn_X4_init : Cond.instanceMethod yX4_init ∈ G_ := G_2 (i := 116) rfl rfl
def PN_X4_init : List (Nat × On_) := [(0, n_ald 0 1),
  (1, n_obj),
  (4, n_ald 0 1),
  (5, n_new 5),
  (8, n_dup),
  (9, n_ald 1 1),
  (10, n_callI hn_X5_init 1),
  (13, n_pF 4 0),
  (16, n_ald 0 1),
  (17, n_ic 16 2),
  (19, n_newa 14),
  (21, n_pF 4 1),
  (24, n_ald 0 1),
  (25, n_ald 1 1),
  (26, n_pR 4 2),
  (29, n_ald 0 1),
  (30, n_ald 2 1),
  (31, n_pR 4 3),
  (34, n_ret)]
def hn_X4_init : Hn_ := hnF_ PN_X4_init 3 150
set_option maxRecDepth 100000 in
theorem an_X4_init {l : Launch} {E : En_} (hE : EX_ E) (hKC : E.2.2.2.1 = KC) {R : Room} (hlv : 2 ≤ R.frames ∧ 64 * 2 ≤ R.locals) : AllN_ (SnN_ l E yX4_init.cls cX4_init 3 (.code yX4_init cX4_init 3 none :: G_) R true) PN_X4_init :=
  have hlv1 : 1 ≤ R.frames ∧ 64 ≤ R.locals := ⟨by omega, by omega⟩
  alN_c (ns_ald_n (q := 0) (by decide +kernel) rfl) <|
  alN_c (ns_obj (by decide +kernel) (G_w (G_2 (i := 118) rfl rfl)) (G_w (G_1 (i := 31) rfl rfl)) (G_w (G_1 (i := 32) rfl rfl)) hlv1) <|
  alN_c (ns_ald_n (q := 0) (by decide +kernel) rfl) <|
  alN_c (ns_new (by decide +kernel) (by decide) iw5 (G_w (G_2 (i := 119) rfl rfl)) (G_w (G_2 (i := 61) rfl rfl)) (G_w (G_1 (i := 10) rfl rfl))) <|
  alN_c (ns_dup (by decide +kernel)) <|
  alN_c (ns_ald_n (q := 1) (by decide +kernel) rfl) <|
  alN_c (ns_callI (by decide +kernel) (mt_X5_init hE hKC) cln_X5_init ml_RX4_11 rfl imn_X5_init ⟨by omega, by omega⟩) <|
  alN_c (ns_pF (by decide +kernel) (by decide) (by decide) rfl rfl rfl iw4 (G_w fl_RX4_14)) <|
  alN_c (ns_ald_n (q := 0) (by decide +kernel) rfl) <|
  alN_c (ns_bipush (n := 16) (by decide +kernel) (by decide)) <|
  alN_c (ns_newa_int (by decide +kernel) (G_w (G_1 (i := 133) rfl rfl))) <|
  alN_c (ns_pF (by decide +kernel) (by decide) (by decide) rfl rfl rfl iw4 (G_w fl_RX4_20)) <|
  alN_c (ns_ald_n (q := 0) (by decide +kernel) rfl) <|
  alN_c (ns_ald_n (q := 1) (by decide +kernel) rfl) <|
  alN_c (ns_pR (by decide +kernel) (by decide) (by decide) rfl rfl iw4 (G_w fl_RX4_24)) <|
  alN_c (ns_ald_n (q := 0) (by decide +kernel) rfl) <|
  alN_c (ns_ald_n (q := 2) (by decide +kernel) rfl) <|
  alN_c (ns_pR (by decide +kernel) (by decide) (by decide) rfl rfl iw4 (G_w fl_RX4_28)) <|
  alN_c (ns_ret (by decide +kernel)) <|
  alN_n
theorem mt_X4_init {l : Launch} {E : En_} (hE : EX_ E) (hKC : E.2.2.2.1 = KC) : MtN_ l E yX4_init (.code yX4_init cX4_init 3 none :: G_) 2 hn_X4_init := metN_ hE hKC (by decide +kernel) (ini := true) (fun h => rfl) (fun R hlv pc o ho => alN_get (an_X4_init hE hKC hlv) ho)
theorem cln_X3_init : Cl_ yX3_init cX3_init 2 none 1 := ⟨G_2 (i := 141) rfl rfl, G_1 (i := 12) rfl rfl, ⟨by decide +kernel, by decide +kernel, by decide +kernel⟩, by decide⟩
theorem imn_X3_init : Cond.instanceMethod yX3_init ∈ G_ := G_2 (i := 140) rfl rfl
def PN_X3_init : List (Nat × On_) := [(0, n_ald 0 1),
  (1, n_obj),
  (4, n_ald 0 1),
  (5, n_new 5),
  (8, n_dup),
  (9, n_ald 1 1),
  (10, n_callI hn_X5_init 1),
  (13, n_pF 3 0),
  (16, n_ald 0 1),
  (17, n_ic 100 2),
  (19, n_newa 14),
  (21, n_pF 3 1),
  (24, n_ret)]
def hn_X3_init : Hn_ := hnF_ PN_X3_init 2 150
set_option maxRecDepth 100000 in
theorem an_X3_init {l : Launch} {E : En_} (hE : EX_ E) (hKC : E.2.2.2.1 = KC) {R : Room} (hlv : 2 ≤ R.frames ∧ 64 * 2 ≤ R.locals) : AllN_ (SnN_ l E yX3_init.cls cX3_init 2 (.code yX3_init cX3_init 2 none :: G_) R true) PN_X3_init :=
  have hlv1 : 1 ≤ R.frames ∧ 64 ≤ R.locals := ⟨by omega, by omega⟩
  alN_c (ns_ald_n (q := 0) (by decide +kernel) rfl) <|
  alN_c (ns_obj (by decide +kernel) (G_w (G_2 (i := 142) rfl rfl)) (G_w (G_1 (i := 31) rfl rfl)) (G_w (G_1 (i := 32) rfl rfl)) hlv1) <|
  alN_c (ns_ald_n (q := 0) (by decide +kernel) rfl) <|
  alN_c (ns_new (by decide +kernel) (by decide) iw5 (G_w (G_2 (i := 143) rfl rfl)) (G_w (G_2 (i := 61) rfl rfl)) (G_w (G_1 (i := 10) rfl rfl))) <|
  alN_c (ns_dup (by decide +kernel)) <|
  alN_c (ns_ald_n (q := 1) (by decide +kernel) rfl) <|
  alN_c (ns_callI (by decide +kernel) (mt_X5_init hE hKC) cln_X5_init ml_RX3_11 rfl imn_X5_init ⟨by omega, by omega⟩) <|
  alN_c (ns_pF (by decide +kernel) (by decide) (by decide) rfl rfl rfl iw3 (G_w fl_RX3_14)) <|
  alN_c (ns_ald_n (q := 0) (by decide +kernel) rfl) <|
  alN_c (ns_bipush (n := 100) (by decide +kernel) (by decide)) <|
  alN_c (ns_newa_int (by decide +kernel) (G_w (G_1 (i := 133) rfl rfl))) <|
  alN_c (ns_pF (by decide +kernel) (by decide) (by decide) rfl rfl rfl iw3 (G_w fl_RX3_22)) <|
  alN_c (ns_ret (by decide +kernel)) <|
  alN_n
theorem mt_X3_init {l : Launch} {E : En_} (hE : EX_ E) (hKC : E.2.2.2.1 = KC) : MtN_ l E yX3_init (.code yX3_init cX3_init 2 none :: G_) 2 hn_X3_init := metN_ hE hKC (by decide +kernel) (ini := true) (fun h => rfl) (fun R hlv pc o ho => alN_get (an_X3_init hE hKC hlv) ho)
theorem cln_X10_init : Cl_ yX10_init cX10_init 2 none 1 := ⟨G_2 (i := 175) rfl rfl, G_1 (i := 13) rfl rfl, ⟨by decide +kernel, by decide +kernel, by decide +kernel⟩, by decide⟩
theorem imn_X10_init : Cond.instanceMethod yX10_init ∈ G_ := G_2 (i := 174) rfl rfl
def PN_X10_init : List (Nat × On_) := [(0, n_ald 0 1),
  (1, n_obj),
  (4, n_ald 0 1),
  (5, n_ic 6 2),
  (7, n_newa 14),
  (9, n_pF 10 0),
  (12, n_ald 0 1),
  (13, n_ic 6 2),
  (15, n_newa 14),
  (17, n_pF 10 2),
  (20, n_ald 0 1),
  (21, n_ic 4 1),
  (22, n_newa 14),
  (24, n_pF 10 3),
  (27, n_ald 0 1),
  (28, n_ic 64 2),
  (30, n_newa 14),
  (32, n_pF 10 4),
  (35, n_ald 0 1),
  (36, n_ic 64 2),
  (38, n_newa 14),
  (40, n_pF 10 5),
  (43, n_ald 0 1),
  (44, n_ald 1 1),
  (45, n_pR 10 6),
  (48, n_ret)]
def hn_X10_init : Hn_ := hnF_ PN_X10_init 2 150
set_option maxRecDepth 100000 in
theorem an_X10_init {l : Launch} {E : En_} (hE : EX_ E) (hKC : E.2.2.2.1 = KC) {R : Room} (hlv : 1 ≤ R.frames ∧ 64 * 1 ≤ R.locals) : AllN_ (SnN_ l E yX10_init.cls cX10_init 2 (.code yX10_init cX10_init 2 none :: G_) R true) PN_X10_init :=
  have hlv1 : 1 ≤ R.frames ∧ 64 ≤ R.locals := ⟨by omega, by omega⟩
  alN_c (ns_ald_n (q := 0) (by decide +kernel) rfl) <|
  alN_c (ns_obj (by decide +kernel) (G_w (G_2 (i := 176) rfl rfl)) (G_w (G_1 (i := 31) rfl rfl)) (G_w (G_1 (i := 32) rfl rfl)) hlv1) <|
  alN_c (ns_ald_n (q := 0) (by decide +kernel) rfl) <|
  alN_c (ns_bipush (n := 6) (by decide +kernel) (by decide)) <|
  alN_c (ns_newa_int (by decide +kernel) (G_w (G_1 (i := 133) rfl rfl))) <|
  alN_c (ns_pF (by decide +kernel) (by decide) (by decide) rfl rfl rfl iw10 (G_w fl_RX10_11)) <|
  alN_c (ns_ald_n (q := 0) (by decide +kernel) rfl) <|
  alN_c (ns_bipush (n := 6) (by decide +kernel) (by decide)) <|
  alN_c (ns_newa_int (by decide +kernel) (G_w (G_1 (i := 133) rfl rfl))) <|
  alN_c (ns_pF (by decide +kernel) (by decide) (by decide) rfl rfl rfl iw10 (G_w fl_RX10_15)) <|
  alN_c (ns_ald_n (q := 0) (by decide +kernel) rfl) <|
  alN_c (ns_iconst (n := 4) (by decide +kernel) (by decide)) <|
  alN_c (ns_newa_int (by decide +kernel) (G_w (G_1 (i := 133) rfl rfl))) <|
  alN_c (ns_pF (by decide +kernel) (by decide) (by decide) rfl rfl rfl iw10 (G_w fl_RX10_18)) <|
  alN_c (ns_ald_n (q := 0) (by decide +kernel) rfl) <|
  alN_c (ns_bipush (n := 64) (by decide +kernel) (by decide)) <|
  alN_c (ns_newa_int (by decide +kernel) (G_w (G_1 (i := 133) rfl rfl))) <|
  alN_c (ns_pF (by decide +kernel) (by decide) (by decide) rfl rfl rfl iw10 (G_w fl_RX10_21)) <|
  alN_c (ns_ald_n (q := 0) (by decide +kernel) rfl) <|
  alN_c (ns_bipush (n := 64) (by decide +kernel) (by decide)) <|
  alN_c (ns_newa_int (by decide +kernel) (G_w (G_1 (i := 133) rfl rfl))) <|
  alN_c (ns_pF (by decide +kernel) (by decide) (by decide) rfl rfl rfl iw10 (G_w fl_RX10_24)) <|
  alN_c (ns_ald_n (q := 0) (by decide +kernel) rfl) <|
  alN_c (ns_ald_n (q := 1) (by decide +kernel) rfl) <|
  alN_c (ns_pR (by decide +kernel) (by decide) (by decide) rfl rfl iw10 (G_w fl_RX10_27)) <|
  alN_c (ns_ret (by decide +kernel)) <|
  alN_n
theorem mt_X10_init {l : Launch} {E : En_} (hE : EX_ E) (hKC : E.2.2.2.1 = KC) : MtN_ l E yX10_init (.code yX10_init cX10_init 2 none :: G_) 1 hn_X10_init := metN_ hE hKC (by decide +kernel) (ini := true) (fun h => rfl) (fun R hlv pc o ho => alN_get (an_X10_init hE hKC hlv) ho)
theorem cln_X2_init : Cl_ yX2_init cX2_init 1 none 0 := ⟨G_2 (i := 214) rfl rfl, G_1 (i := 14) rfl rfl, ⟨by decide +kernel, by decide +kernel, by decide +kernel⟩, by decide⟩
theorem imn_X2_init : Cond.instanceMethod yX2_init ∈ G_ := G_2 (i := 213) rfl rfl
def PN_X2_init : List (Nat × On_) := [(0, n_ald 0 1),
  (1, n_obj),
  (4, n_ald 0 1),
  (5, n_ic 9 2),
  (7, n_newa 14),
  (9, n_pF 2 0),
  (12, n_ald 0 1),
  (13, n_ic 0 1),
  (14, n_pI 2 1),
  (17, n_ald 0 1),
  (18, n_ic (-1) 1),
  (19, n_pI 2 2),
  (22, n_ald 0 1),
  (23, n_ic 10 2),
  (25, n_ic 17 2),
  (27, n_mna 10 17),
  (31, n_pF 2 3),
  (34, n_ald 0 1),
  (35, n_ic 10 2),
  (37, n_ic 17 2),
  (39, n_mna 10 17),
  (43, n_pF 2 4),
  (46, n_ret)]
def hn_X2_init : Hn_ := hnF_ PN_X2_init 1 150
set_option maxRecDepth 100000 in
theorem an_X2_init {l : Launch} {E : En_} (hE : EX_ E) (hKC : E.2.2.2.1 = KC) {R : Room} (hlv : 1 ≤ R.frames ∧ 64 * 1 ≤ R.locals) : AllN_ (SnN_ l E yX2_init.cls cX2_init 1 (.code yX2_init cX2_init 1 none :: G_) R true) PN_X2_init :=
  have hlv1 : 1 ≤ R.frames ∧ 64 ≤ R.locals := ⟨by omega, by omega⟩
  alN_c (ns_ald_n (q := 0) (by decide +kernel) rfl) <|
  alN_c (ns_obj (by decide +kernel) (G_w (G_2 (i := 215) rfl rfl)) (G_w (G_1 (i := 31) rfl rfl)) (G_w (G_1 (i := 32) rfl rfl)) hlv1) <|
  alN_c (ns_ald_n (q := 0) (by decide +kernel) rfl) <|
  alN_c (ns_bipush (n := 9) (by decide +kernel) (by decide)) <|
  alN_c (ns_newa_int (by decide +kernel) (G_w (G_1 (i := 133) rfl rfl))) <|
  alN_c (ns_pF (by decide +kernel) (by decide) (by decide) rfl rfl rfl iw2 (G_w fl_RX2_11)) <|
  alN_c (ns_ald_n (q := 0) (by decide +kernel) rfl) <|
  alN_c (ns_iconst (n := 0) (by decide +kernel) (by decide)) <|
  alN_c (ns_pI (by decide +kernel) (by decide) (by decide) rfl rfl iw2 (G_w fl_RX2_15)) <|
  alN_c (ns_ald_n (q := 0) (by decide +kernel) rfl) <|
  alN_c (ns_iconst (n := (-1)) (by decide +kernel) (by decide)) <|
  alN_c (ns_pI (by decide +kernel) (by decide) (by decide) rfl rfl iw2 (G_w fl_RX2_19)) <|
  alN_c (ns_ald_n (q := 0) (by decide +kernel) rfl) <|
  alN_c (ns_bipush (n := 10) (by decide +kernel) (by decide)) <|
  alN_c (ns_bipush (n := 17) (by decide +kernel) (by decide)) <|
  alN_c (ns_mna ⟨by decide, by decide⟩ (by decide +kernel) (G_w (G_2 (i := 216) rfl rfl)) (G_w (G_1 (i := 133) rfl rfl))) <|
  alN_c (ns_pF (by decide +kernel) (by decide) (by decide) rfl rfl rfl iw2 (G_w fl_RX2_24)) <|
  alN_c (ns_ald_n (q := 0) (by decide +kernel) rfl) <|
  alN_c (ns_bipush (n := 10) (by decide +kernel) (by decide)) <|
  alN_c (ns_bipush (n := 17) (by decide +kernel) (by decide)) <|
  alN_c (ns_mna ⟨by decide, by decide⟩ (by decide +kernel) (G_w (G_2 (i := 216) rfl rfl)) (G_w (G_1 (i := 133) rfl rfl))) <|
  alN_c (ns_pF (by decide +kernel) (by decide) (by decide) rfl rfl rfl iw2 (G_w fl_RX2_27)) <|
  alN_c (ns_ret (by decide +kernel)) <|
  alN_n
theorem mt_X2_init {l : Launch} {E : En_} (hE : EX_ E) (hKC : E.2.2.2.1 = KC) : MtN_ l E yX2_init (.code yX2_init cX2_init 1 none :: G_) 1 hn_X2_init := metN_ hE hKC (by decide +kernel) (ini := true) (fun h => rfl) (fun R hlv pc o ho => alN_get (an_X2_init hE hKC hlv) ho)
theorem cln_X7_init : Cl_ yX7_init cX7_init 2 none 1 := ⟨G_3 (i := 0) rfl rfl, G_1 (i := 15) rfl rfl, ⟨by decide +kernel, by decide +kernel, by decide +kernel⟩, by decide⟩
theorem imn_X7_init : Cond.instanceMethod yX7_init ∈ G_ := G_2 (i := 239) rfl rfl
def PN_X7_init : List (Nat × On_) := [(0, n_ald 0 1),
  (1, n_obj),
  (4, n_ald 0 1),
  (5, n_ic 7 2),
  (7, n_newa 14),
  (9, n_pF 7 0),
  (12, n_ald 0 1),
  (13, n_ic 0 1),
  (14, n_pI 7 1),
  (17, n_ald 0 1),
  (18, n_ic 7 2),
  (20, n_newa 14),
  (22, n_pF 7 2),
  (25, n_ald 0 1),
  (26, n_ic 7 2),
  (28, n_newa 14),
  (30, n_pF 7 3),
  (33, n_ald 0 1),
  (34, n_ald 1 1),
  (35, n_pR 7 4),
  (38, n_ret)]
def hn_X7_init : Hn_ := hnF_ PN_X7_init 2 150
set_option maxRecDepth 100000 in
theorem an_X7_init {l : Launch} {E : En_} (hE : EX_ E) (hKC : E.2.2.2.1 = KC) {R : Room} (hlv : 1 ≤ R.frames ∧ 64 * 1 ≤ R.locals) : AllN_ (SnN_ l E yX7_init.cls cX7_init 2 (.code yX7_init cX7_init 2 none :: G_) R true) PN_X7_init :=
  have hlv1 : 1 ≤ R.frames ∧ 64 ≤ R.locals := ⟨by omega, by omega⟩
  alN_c (ns_ald_n (q := 0) (by decide +kernel) rfl) <|
  alN_c (ns_obj (by decide +kernel) (G_w (G_3 (i := 1) rfl rfl)) (G_w (G_1 (i := 31) rfl rfl)) (G_w (G_1 (i := 32) rfl rfl)) hlv1) <|
  alN_c (ns_ald_n (q := 0) (by decide +kernel) rfl) <|
  alN_c (ns_bipush (n := 7) (by decide +kernel) (by decide)) <|
  alN_c (ns_newa_int (by decide +kernel) (G_w (G_1 (i := 133) rfl rfl))) <|
  alN_c (ns_pF (by decide +kernel) (by decide) (by decide) rfl rfl rfl iw7 (G_w fl_RX7_11)) <|
  alN_c (ns_ald_n (q := 0) (by decide +kernel) rfl) <|
  alN_c (ns_iconst (n := 0) (by decide +kernel) (by decide)) <|
  alN_c (ns_pI (by decide +kernel) (by decide) (by decide) rfl rfl iw7 (G_w fl_RX7_15)) <|
  alN_c (ns_ald_n (q := 0) (by decide +kernel) rfl) <|
  alN_c (ns_bipush (n := 7) (by decide +kernel) (by decide)) <|
  alN_c (ns_newa_int (by decide +kernel) (G_w (G_1 (i := 133) rfl rfl))) <|
  alN_c (ns_pF (by decide +kernel) (by decide) (by decide) rfl rfl rfl iw7 (G_w fl_RX7_19)) <|
  alN_c (ns_ald_n (q := 0) (by decide +kernel) rfl) <|
  alN_c (ns_bipush (n := 7) (by decide +kernel) (by decide)) <|
  alN_c (ns_newa_int (by decide +kernel) (G_w (G_1 (i := 133) rfl rfl))) <|
  alN_c (ns_pF (by decide +kernel) (by decide) (by decide) rfl rfl rfl iw7 (G_w fl_RX7_22)) <|
  alN_c (ns_ald_n (q := 0) (by decide +kernel) rfl) <|
  alN_c (ns_ald_n (q := 1) (by decide +kernel) rfl) <|
  alN_c (ns_pR (by decide +kernel) (by decide) (by decide) rfl rfl iw7 (G_w fl_RX7_25)) <|
  alN_c (ns_ret (by decide +kernel)) <|
  alN_n
theorem mt_X7_init {l : Launch} {E : En_} (hE : EX_ E) (hKC : E.2.2.2.1 = KC) : MtN_ l E yX7_init (.code yX7_init cX7_init 2 none :: G_) 1 hn_X7_init := metN_ hE hKC (by decide +kernel) (ini := true) (fun h => rfl) (fun R hlv pc o ho => alN_get (an_X7_init hE hKC hlv) ho)
theorem cln_X1_init : Cl_ yX1_init cX1_init 2 none 1 := ⟨G_3 (i := 30) rfl rfl, G_1 (i := 16) rfl rfl, ⟨by decide +kernel, by decide +kernel, by decide +kernel⟩, by decide⟩
theorem imn_X1_init : Cond.instanceMethod yX1_init ∈ G_ := G_3 (i := 29) rfl rfl
def PN_X1_init : List (Nat × On_) := [(0, n_ald 0 1),
  (1, n_obj),
  (4, n_ald 0 1),
  (5, n_ic (-1) 1),
  (6, n_pI 1 2),
  (9, n_ald 0 1),
  (10, n_ic 241 3),
  (13, n_newa 14),
  (15, n_pF 1 3),
  (18, n_ald 0 1),
  (19, n_ic 241 3),
  (22, n_newa 14),
  (24, n_pF 1 4),
  (27, n_ald 0 1),
  (28, n_ic 1024 3),
  (31, n_newa 14),
  (33, n_pF 1 5),
  (36, n_ald 0 1),
  (37, n_ic 16 2),
  (39, n_newa 14),
  (41, n_pF 1 6),
  (44, n_ald 0 1),
  (45, n_ic 16 2),
  (47, n_newa 14),
  (49, n_pF 1 7),
  (52, n_ald 0 1),
  (53, n_ald 1 1),
  (54, n_pR 1 8),
  (57, n_ret)]
def hn_X1_init : Hn_ := hnF_ PN_X1_init 2 150
set_option maxRecDepth 100000 in
theorem an_X1_init {l : Launch} {E : En_} (hE : EX_ E) (hKC : E.2.2.2.1 = KC) {R : Room} (hlv : 1 ≤ R.frames ∧ 64 * 1 ≤ R.locals) : AllN_ (SnN_ l E yX1_init.cls cX1_init 2 (.code yX1_init cX1_init 2 none :: G_) R true) PN_X1_init :=
  have hlv1 : 1 ≤ R.frames ∧ 64 ≤ R.locals := ⟨by omega, by omega⟩
  alN_c (ns_ald_n (q := 0) (by decide +kernel) rfl) <|
  alN_c (ns_obj (by decide +kernel) (G_w (G_3 (i := 31) rfl rfl)) (G_w (G_1 (i := 31) rfl rfl)) (G_w (G_1 (i := 32) rfl rfl)) hlv1) <|
  alN_c (ns_ald_n (q := 0) (by decide +kernel) rfl) <|
  alN_c (ns_iconst (n := (-1)) (by decide +kernel) (by decide)) <|
  alN_c (ns_pI (by decide +kernel) (by decide) (by decide) rfl rfl iw1 (G_w fl_RX1_9)) <|
  alN_c (ns_ald_n (q := 0) (by decide +kernel) rfl) <|
  alN_c (ns_sipush (n := 241) (by decide +kernel) (by decide)) <|
  alN_c (ns_newa_int (by decide +kernel) (G_w (G_1 (i := 133) rfl rfl))) <|
  alN_c (ns_pF (by decide +kernel) (by decide) (by decide) rfl rfl rfl iw1 (G_w fl_RX1_15)) <|
  alN_c (ns_ald_n (q := 0) (by decide +kernel) rfl) <|
  alN_c (ns_sipush (n := 241) (by decide +kernel) (by decide)) <|
  alN_c (ns_newa_int (by decide +kernel) (G_w (G_1 (i := 133) rfl rfl))) <|
  alN_c (ns_pF (by decide +kernel) (by decide) (by decide) rfl rfl rfl iw1 (G_w fl_RX1_19)) <|
  alN_c (ns_ald_n (q := 0) (by decide +kernel) rfl) <|
  alN_c (ns_sipush (n := 1024) (by decide +kernel) (by decide)) <|
  alN_c (ns_newa_int (by decide +kernel) (G_w (G_1 (i := 133) rfl rfl))) <|
  alN_c (ns_pF (by decide +kernel) (by decide) (by decide) rfl rfl rfl iw1 (G_w fl_RX1_22)) <|
  alN_c (ns_ald_n (q := 0) (by decide +kernel) rfl) <|
  alN_c (ns_bipush (n := 16) (by decide +kernel) (by decide)) <|
  alN_c (ns_newa_int (by decide +kernel) (G_w (G_1 (i := 133) rfl rfl))) <|
  alN_c (ns_pF (by decide +kernel) (by decide) (by decide) rfl rfl rfl iw1 (G_w fl_RX1_25)) <|
  alN_c (ns_ald_n (q := 0) (by decide +kernel) rfl) <|
  alN_c (ns_bipush (n := 16) (by decide +kernel) (by decide)) <|
  alN_c (ns_newa_int (by decide +kernel) (G_w (G_1 (i := 133) rfl rfl))) <|
  alN_c (ns_pF (by decide +kernel) (by decide) (by decide) rfl rfl rfl iw1 (G_w fl_RX1_28)) <|
  alN_c (ns_ald_n (q := 0) (by decide +kernel) rfl) <|
  alN_c (ns_ald_n (q := 1) (by decide +kernel) rfl) <|
  alN_c (ns_pR (by decide +kernel) (by decide) (by decide) rfl rfl iw1 (G_w fl_RX1_31)) <|
  alN_c (ns_ret (by decide +kernel)) <|
  alN_n
theorem mt_X1_init {l : Launch} {E : En_} (hE : EX_ E) (hKC : E.2.2.2.1 = KC) : MtN_ l E yX1_init (.code yX1_init cX1_init 2 none :: G_) 1 hn_X1_init := metN_ hE hKC (by decide +kernel) (ini := true) (fun h => rfl) (fun R hlv pc o ho => alN_get (an_X1_init hE hKC hlv) ho)
theorem cln_X8_init : Cl_ yX8_init cX8_init 5 none 0 := ⟨G_1 (i := 37) rfl rfl, G_1 (i := 2) rfl rfl, ⟨by decide +kernel, by decide +kernel, by decide +kernel⟩, by decide⟩
theorem imn_X8_init : Cond.instanceMethod yX8_init ∈ G_ := G_1 (i := 36) rfl rfl
def PN_X8_init : List (Nat × On_) := [(0, n_ald 0 1),
  (1, n_obj),
  (4, n_ald 0 1),
  (5, n_ic 1040 3),
  (8, n_newa 13),
  (10, n_pF 8 0),
  (13, n_ald 0 1),
  (14, n_ic 20 2),
  (16, n_newa 14),
  (18, n_pF 8 1),
  (21, n_ic 0 1),
  (22, n_ist 1 1),
  (23, n_ic 0 1),
  (24, n_ist 2 1),
  (25, n_ic 0 1),
  (26, n_ist 3 1),
  (27, n_ild 3 1),
  (28, n_len),
  (33, n_cmpge 90),
  (36, n_ild 1 1),
  (37, n_ic 20 2),
  (39, n_cmpge 90),
  (42, n_chr),
  (48, n_ist 4 2),
  (50, n_ild 4 2),
  (52, n_ic 32 2),
  (54, n_cmpne 72),
  (57, n_ald 0 1),
  (58, n_gR 8 1),
  (61, n_ild 1 1),
  (62, n_ild 2 1),
  (63, n_iast),
  (64, n_inc 1 1),
  (67, n_ic 0 1),
  (68, n_ist 2 1),
  (69, n_goto 84),
  (72, n_ild 2 1),
  (73, n_ic 5 1),
  (74, n_ishl),
  (75, n_ild 4 2),
  (77, n_ic 97 2),
  (79, n_isub),
  (80, n_ic 1 1),
  (81, n_iadd),
  (82, n_ior),
  (83, n_ist 2 1),
  (84, n_inc 3 1),
  (87, n_goto 27),
  (90, n_ret)]
def hn_X8_init : Hn_ := hnF_ PN_X8_init 5 4000
set_option maxRecDepth 100000 in
theorem an_X8_init {l : Launch} {E : En_} (hE : EX_ E) (hKC : E.2.2.2.1 = KC) {R : Room} (hlv : 5 ≤ R.frames ∧ 64 * 5 ≤ R.locals) : AllN_ (SnN_ l E yX8_init.cls cX8_init 5 (.code yX8_init cX8_init 5 none :: G_) R true) PN_X8_init :=
  have hlv1 : 1 ≤ R.frames ∧ 64 ≤ R.locals := ⟨by omega, by omega⟩
  alN_c (ns_ald_n (q := 0) (by decide +kernel) rfl) <|
  alN_c (ns_obj (by decide +kernel) (G_w (G_1 (i := 38) rfl rfl)) (G_w (G_1 (i := 31) rfl rfl)) (G_w (G_1 (i := 32) rfl rfl)) hlv1) <|
  alN_c (ns_ald_n (q := 0) (by decide +kernel) rfl) <|
  alN_c (ns_sipush (n := 1040) (by decide +kernel) (by decide)) <|
  alN_c (ns_newa_byte (by decide +kernel) (G_w (G_1 (i := 132) rfl rfl))) <|
  alN_c (ns_pF (by decide +kernel) (by decide) (by decide) rfl rfl rfl iw8 (G_w fl_RX8_11)) <|
  alN_c (ns_ald_n (q := 0) (by decide +kernel) rfl) <|
  alN_c (ns_bipush (n := 20) (by decide +kernel) (by decide)) <|
  alN_c (ns_newa_int (by decide +kernel) (G_w (G_1 (i := 133) rfl rfl))) <|
  alN_c (ns_pF (by decide +kernel) (by decide) (by decide) rfl rfl rfl iw8 (G_w fl_RX8_15)) <|
  alN_c (ns_iconst (n := 0) (by decide +kernel) (by decide)) <|
  alN_c (ns_ist_n (q := 1) (by decide +kernel) rfl) <|
  alN_c (ns_iconst (n := 0) (by decide +kernel) (by decide)) <|
  alN_c (ns_ist_n (q := 2) (by decide +kernel) rfl) <|
  alN_c (ns_iconst (n := 0) (by decide +kernel) (by decide)) <|
  alN_c (ns_ist_n (q := 3) (by decide +kernel) rfl) <|
  alN_c (ns_ild_n (q := 3) (by decide +kernel) rfl) <|
  alN_c (ns_len (by decide +kernel) (pc2 := 30) rfl (by decide +kernel) ⟨by omega, by omega⟩) <|
  alN_c (ns_cmpge (off := 57) (by decide +kernel) (by decide)) <|
  alN_c (ns_ild_n (q := 1) (by decide +kernel) rfl) <|
  alN_c (ns_bipush (n := 20) (by decide +kernel) (by decide)) <|
  alN_c (ns_cmpge (off := 51) (by decide +kernel) (by decide)) <|
  alN_c (ns_chr (by decide +kernel) (pc2 := 44) rfl (by decide +kernel) (pc3 := 45) rfl (by decide +kernel) ⟨by omega, by omega⟩) <|
  alN_c (ns_ist (by decide +kernel)) <|
  alN_c (ns_ild (by decide +kernel)) <|
  alN_c (ns_bipush (n := 32) (by decide +kernel) (by decide)) <|
  alN_c (ns_cmpne (off := 18) (by decide +kernel) (by decide)) <|
  alN_c (ns_ald_n (q := 0) (by decide +kernel) rfl) <|
  alN_c (ns_gR (by decide +kernel) (by decide) (by decide) rfl iw8 (G_w fl_RX8_15)) <|
  alN_c (ns_ild_n (q := 1) (by decide +kernel) rfl) <|
  alN_c (ns_ild_n (q := 2) (by decide +kernel) rfl) <|
  alN_c (ns_iast (by decide +kernel)) <|
  alN_c (ns_inc (n := 1) (by decide +kernel) (by decide)) <|
  alN_c (ns_iconst (n := 0) (by decide +kernel) (by decide)) <|
  alN_c (ns_ist_n (q := 2) (by decide +kernel) rfl) <|
  alN_c (ns_goto (off := 15) (by decide +kernel) (by decide)) <|
  alN_c (ns_ild_n (q := 2) (by decide +kernel) rfl) <|
  alN_c (ns_iconst (n := 5) (by decide +kernel) (by decide)) <|
  alN_c (ns_ishl (by decide +kernel)) <|
  alN_c (ns_ild (by decide +kernel)) <|
  alN_c (ns_bipush (n := 97) (by decide +kernel) (by decide)) <|
  alN_c (ns_isub (by decide +kernel)) <|
  alN_c (ns_iconst (n := 1) (by decide +kernel) (by decide)) <|
  alN_c (ns_iadd (by decide +kernel)) <|
  alN_c (ns_ior (by decide +kernel)) <|
  alN_c (ns_ist_n (q := 2) (by decide +kernel) rfl) <|
  alN_c (ns_inc (n := 1) (by decide +kernel) (by decide)) <|
  alN_c (ns_goto (off := (-60)) (by decide +kernel) (by decide)) <|
  alN_c (ns_ret (by decide +kernel)) <|
  alN_n
theorem mt_X8_init {l : Launch} {E : En_} (hE : EX_ E) (hKC : E.2.2.2.1 = KC) : MtN_ l E yX8_init (.code yX8_init cX8_init 5 none :: G_) 5 hn_X8_init := metN_ hE hKC (by decide +kernel) (ini := true) (fun h => rfl) (fun R hlv pc o ho => alN_get (an_X8_init hE hKC hlv) ho)
theorem cln_X11_init : Cl_ yX11_init cX11_init 2 none 0 := ⟨G_1 (i := 29) rfl rfl, G_1 (i := 1) rfl rfl, ⟨by decide +kernel, by decide +kernel, by decide +kernel⟩, by decide⟩
theorem imn_X11_init : Cond.instanceMethod yX11_init ∈ G_ := G_1 (i := 28) rfl rfl
def PN_X11_init : List (Nat × On_) := [(0, n_ald 0 1),
  (1, n_obj),
  (4, n_ald 0 1),
  (5, n_new 8),
  (8, n_dup),
  (9, n_callI hn_X8_init 0),
  (12, n_pF 11 0),
  (15, n_ald 0 1),
  (16, n_new 0),
  (19, n_dup),
  (20, n_callI hn_X0_init 0),
  (23, n_pR 11 12),
  (26, n_ald 0 1),
  (27, n_new 0),
  (30, n_dup),
  (31, n_callI hn_X0_init 0),
  (34, n_pR 11 13),
  (37, n_ald 0 1),
  (38, n_new 6),
  (41, n_dup),
  (42, n_callI hn_X6_init 0),
  (45, n_pR 11 14),
  (48, n_ald 0 1),
  (49, n_new 6),
  (52, n_dup),
  (53, n_callI hn_X6_init 0),
  (56, n_pR 11 15),
  (59, n_ald 0 1),
  (60, n_new 9),
  (63, n_dup),
  (64, n_callI hn_X9_init 0),
  (67, n_pR 11 16),
  (70, n_ald 0 1),
  (71, n_new 9),
  (74, n_dup),
  (75, n_callI hn_X9_init 0),
  (78, n_pR 11 17),
  (81, n_ald 0 1),
  (82, n_new 5),
  (85, n_dup),
  (86, n_ald 0 1),
  (87, n_gR 11 12),
  (90, n_callI hn_X5_init 1),
  (93, n_pF 11 1),
  (96, n_ald 0 1),
  (97, n_new 4),
  (100, n_dup),
  (101, n_ald 0 1),
  (102, n_gR 11 12),
  (105, n_ald 0 1),
  (106, n_gR 11 14),
  (109, n_callI hn_X4_init 2),
  (112, n_pF 11 2),
  (115, n_ald 0 1),
  (116, n_new 3),
  (119, n_dup),
  (120, n_ald 0 1),
  (121, n_gR 11 12),
  (124, n_callI hn_X3_init 1),
  (127, n_pF 11 3),
  (130, n_ald 0 1),
  (131, n_new 10),
  (134, n_dup),
  (135, n_ald 0 1),
  (136, n_gR 11 12),
  (139, n_callI hn_X10_init 1),
  (142, n_pF 11 4),
  (145, n_ald 0 1),
  (146, n_new 2),
  (149, n_dup),
  (150, n_callI hn_X2_init 0),
  (153, n_pF 11 5),
  (156, n_ald 0 1),
  (157, n_new 7),
  (160, n_dup),
  (161, n_ald 0 1),
  (162, n_gR 11 12),
  (165, n_callI hn_X7_init 1),
  (168, n_pF 11 6),
  (171, n_ald 0 1),
  (172, n_new 1),
  (175, n_dup),
  (176, n_ald 0 1),
  (177, n_gR 11 12),
  (180, n_callI hn_X1_init 1),
  (183, n_pF 11 7),
  (186, n_ald 0 1),
  (187, n_ic 2 1),
  (188, n_anew 17),
  (191, n_pF 11 8),
  (194, n_ald 0 1),
  (195, n_ic 2 1),
  (196, n_anew 18),
  (199, n_pF 11 9),
  (202, n_ald 0 1),
  (203, n_ic 2 1),
  (204, n_anew 19),
  (207, n_pF 11 10),
  (210, n_ald 0 1),
  (211, n_ic 2 1),
  (212, n_newa 16),
  (214, n_pF 11 11),
  (217, n_ic 0 1),
  (218, n_ist 1 1),
  (219, n_ild 1 1),
  (220, n_ic 2 1),
  (221, n_cmpge 269),
  (224, n_ald 0 1),
  (225, n_gR 11 8),
  (228, n_ild 1 1),
  (229, n_new 0),
  (232, n_dup),
  (233, n_callI hn_X0_init 0),
  (236, n_aast 17 0),
  (237, n_ald 0 1),
  (238, n_gR 11 9),
  (241, n_ild 1 1),
  (242, n_new 6),
  (245, n_dup),
  (246, n_callI hn_X6_init 0),
  (249, n_aast 18 6),
  (250, n_ald 0 1),
  (251, n_gR 11 10),
  (254, n_ild 1 1),
  (255, n_new 9),
  (258, n_dup),
  (259, n_callI hn_X9_init 0),
  (262, n_aast 19 9),
  (263, n_inc 1 1),
  (266, n_goto 219),
  (269, n_ald 0 1),
  (270, n_ic 0 1),
  (271, n_pZ 11 18),
  (274, n_ald 0 1),
  (275, n_ic 0 1),
  (276, n_pI 11 19),
  (279, n_ret)]
def hn_X11_init : Hn_ := hnF_ PN_X11_init 2 400
set_option maxRecDepth 100000 in
theorem an_X11_init {l : Launch} {E : En_} (hE : EX_ E) (hKC : E.2.2.2.1 = KC) {R : Room} (hlv : 6 ≤ R.frames ∧ 64 * 6 ≤ R.locals) : AllN_ (SnN_ l E yX11_init.cls cX11_init 2 (.code yX11_init cX11_init 2 none :: G_) R true) PN_X11_init :=
  have hlv1 : 1 ≤ R.frames ∧ 64 ≤ R.locals := ⟨by omega, by omega⟩
  alN_c (ns_ald_n (q := 0) (by decide +kernel) rfl) <|
  alN_c (ns_obj (by decide +kernel) (G_w (G_1 (i := 30) rfl rfl)) (G_w (G_1 (i := 31) rfl rfl)) (G_w (G_1 (i := 32) rfl rfl)) hlv1) <|
  alN_c (ns_ald_n (q := 0) (by decide +kernel) rfl) <|
  alN_c (ns_new (by decide +kernel) (by decide) iw8 (G_w (G_1 (i := 33) rfl rfl)) (G_w (G_1 (i := 34) rfl rfl)) (G_w (G_1 (i := 2) rfl rfl))) <|
  alN_c (ns_dup (by decide +kernel)) <|
  alN_c (ns_callI (by decide +kernel) (mt_X8_init hE hKC) cln_X8_init ml_RX11_9 rfl imn_X8_init ⟨by omega, by omega⟩) <|
  alN_c (ns_pF (by decide +kernel) (by decide) (by decide) rfl rfl rfl iw11 (G_w fl_RX11_10)) <|
  alN_c (ns_ald_n (q := 0) (by decide +kernel) rfl) <|
  alN_c (ns_new (by decide +kernel) (by decide) iw0 (G_w (G_1 (i := 134) rfl rfl)) (G_w (G_1 (i := 135) rfl rfl)) (G_w (G_1 (i := 7) rfl rfl))) <|
  alN_c (ns_dup (by decide +kernel)) <|
  alN_c (ns_callI (by decide +kernel) (mt_X0_init hE hKC) cln_X0_init ml_RX11_18 rfl imn_X0_init ⟨by omega, by omega⟩) <|
  alN_c (ns_pR (by decide +kernel) (by decide) (by decide) rfl rfl iw11 (G_w fl_RX11_19)) <|
  alN_c (ns_ald_n (q := 0) (by decide +kernel) rfl) <|
  alN_c (ns_new (by decide +kernel) (by decide) iw0 (G_w (G_1 (i := 134) rfl rfl)) (G_w (G_1 (i := 135) rfl rfl)) (G_w (G_1 (i := 7) rfl rfl))) <|
  alN_c (ns_dup (by decide +kernel)) <|
  alN_c (ns_callI (by decide +kernel) (mt_X0_init hE hKC) cln_X0_init ml_RX11_18 rfl imn_X0_init ⟨by omega, by omega⟩) <|
  alN_c (ns_pR (by decide +kernel) (by decide) (by decide) rfl rfl iw11 (G_w fl_RX11_23)) <|
  alN_c (ns_ald_n (q := 0) (by decide +kernel) rfl) <|
  alN_c (ns_new (by decide +kernel) (by decide) iw6 (G_w (G_1 (i := 237) rfl rfl)) (G_w (G_1 (i := 238) rfl rfl)) (G_w (G_1 (i := 8) rfl rfl))) <|
  alN_c (ns_dup (by decide +kernel)) <|
  alN_c (ns_callI (by decide +kernel) (mt_X6_init hE hKC) cln_X6_init ml_RX11_28 rfl imn_X6_init ⟨by omega, by omega⟩) <|
  alN_c (ns_pR (by decide +kernel) (by decide) (by decide) rfl rfl iw11 (G_w fl_RX11_29)) <|
  alN_c (ns_ald_n (q := 0) (by decide +kernel) rfl) <|
  alN_c (ns_new (by decide +kernel) (by decide) iw6 (G_w (G_1 (i := 237) rfl rfl)) (G_w (G_1 (i := 238) rfl rfl)) (G_w (G_1 (i := 8) rfl rfl))) <|
  alN_c (ns_dup (by decide +kernel)) <|
  alN_c (ns_callI (by decide +kernel) (mt_X6_init hE hKC) cln_X6_init ml_RX11_28 rfl imn_X6_init ⟨by omega, by omega⟩) <|
  alN_c (ns_pR (by decide +kernel) (by decide) (by decide) rfl rfl iw11 (G_w fl_RX11_33)) <|
  alN_c (ns_ald_n (q := 0) (by decide +kernel) rfl) <|
  alN_c (ns_new (by decide +kernel) (by decide) iw9 (G_w (G_2 (i := 34) rfl rfl)) (G_w (G_2 (i := 35) rfl rfl)) (G_w (G_1 (i := 9) rfl rfl))) <|
  alN_c (ns_dup (by decide +kernel)) <|
  alN_c (ns_callI (by decide +kernel) (mt_X9_init hE hKC) cln_X9_init ml_RX11_38 rfl imn_X9_init ⟨by omega, by omega⟩) <|
  alN_c (ns_pR (by decide +kernel) (by decide) (by decide) rfl rfl iw11 (G_w fl_RX11_39)) <|
  alN_c (ns_ald_n (q := 0) (by decide +kernel) rfl) <|
  alN_c (ns_new (by decide +kernel) (by decide) iw9 (G_w (G_2 (i := 34) rfl rfl)) (G_w (G_2 (i := 35) rfl rfl)) (G_w (G_1 (i := 9) rfl rfl))) <|
  alN_c (ns_dup (by decide +kernel)) <|
  alN_c (ns_callI (by decide +kernel) (mt_X9_init hE hKC) cln_X9_init ml_RX11_38 rfl imn_X9_init ⟨by omega, by omega⟩) <|
  alN_c (ns_pR (by decide +kernel) (by decide) (by decide) rfl rfl iw11 (G_w fl_RX11_43)) <|
  alN_c (ns_ald_n (q := 0) (by decide +kernel) rfl) <|
  alN_c (ns_new (by decide +kernel) (by decide) iw5 (G_w (G_2 (i := 60) rfl rfl)) (G_w (G_2 (i := 61) rfl rfl)) (G_w (G_1 (i := 10) rfl rfl))) <|
  alN_c (ns_dup (by decide +kernel)) <|
  alN_c (ns_ald_n (q := 0) (by decide +kernel) rfl) <|
  alN_c (ns_gR (by decide +kernel) (by decide) (by decide) rfl iw11 (G_w fl_RX11_19)) <|
  alN_c (ns_callI (by decide +kernel) (mt_X5_init hE hKC) cln_X5_init ml_RX11_48 rfl imn_X5_init ⟨by omega, by omega⟩) <|
  alN_c (ns_pF (by decide +kernel) (by decide) (by decide) rfl rfl rfl iw11 (G_w fl_RX11_51)) <|
  alN_c (ns_ald_n (q := 0) (by decide +kernel) rfl) <|
  alN_c (ns_new (by decide +kernel) (by decide) iw4 (G_w (G_2 (i := 113) rfl rfl)) (G_w (G_2 (i := 114) rfl rfl)) (G_w (G_1 (i := 11) rfl rfl))) <|
  alN_c (ns_dup (by decide +kernel)) <|
  alN_c (ns_ald_n (q := 0) (by decide +kernel) rfl) <|
  alN_c (ns_gR (by decide +kernel) (by decide) (by decide) rfl iw11 (G_w fl_RX11_19)) <|
  alN_c (ns_ald_n (q := 0) (by decide +kernel) rfl) <|
  alN_c (ns_gR (by decide +kernel) (by decide) (by decide) rfl iw11 (G_w fl_RX11_29)) <|
  alN_c (ns_callI (by decide +kernel) (mt_X4_init hE hKC) cln_X4_init ml_RX11_57 rfl imn_X4_init ⟨by omega, by omega⟩) <|
  alN_c (ns_pF (by decide +kernel) (by decide) (by decide) rfl rfl rfl iw11 (G_w fl_RX11_60)) <|
  alN_c (ns_ald_n (q := 0) (by decide +kernel) rfl) <|
  alN_c (ns_new (by decide +kernel) (by decide) iw3 (G_w (G_2 (i := 137) rfl rfl)) (G_w (G_2 (i := 138) rfl rfl)) (G_w (G_1 (i := 12) rfl rfl))) <|
  alN_c (ns_dup (by decide +kernel)) <|
  alN_c (ns_ald_n (q := 0) (by decide +kernel) rfl) <|
  alN_c (ns_gR (by decide +kernel) (by decide) (by decide) rfl iw11 (G_w fl_RX11_19)) <|
  alN_c (ns_callI (by decide +kernel) (mt_X3_init hE hKC) cln_X3_init ml_RX11_66 rfl imn_X3_init ⟨by omega, by omega⟩) <|
  alN_c (ns_pF (by decide +kernel) (by decide) (by decide) rfl rfl rfl iw11 (G_w fl_RX11_67)) <|
  alN_c (ns_ald_n (q := 0) (by decide +kernel) rfl) <|
  alN_c (ns_new (by decide +kernel) (by decide) iw10 (G_w (G_2 (i := 171) rfl rfl)) (G_w (G_2 (i := 172) rfl rfl)) (G_w (G_1 (i := 13) rfl rfl))) <|
  alN_c (ns_dup (by decide +kernel)) <|
  alN_c (ns_ald_n (q := 0) (by decide +kernel) rfl) <|
  alN_c (ns_gR (by decide +kernel) (by decide) (by decide) rfl iw11 (G_w fl_RX11_19)) <|
  alN_c (ns_callI (by decide +kernel) (mt_X10_init hE hKC) cln_X10_init ml_RX11_73 rfl imn_X10_init ⟨by omega, by omega⟩) <|
  alN_c (ns_pF (by decide +kernel) (by decide) (by decide) rfl rfl rfl iw11 (G_w fl_RX11_74)) <|
  alN_c (ns_ald_n (q := 0) (by decide +kernel) rfl) <|
  alN_c (ns_new (by decide +kernel) (by decide) iw2 (G_w (G_2 (i := 210) rfl rfl)) (G_w (G_2 (i := 211) rfl rfl)) (G_w (G_1 (i := 14) rfl rfl))) <|
  alN_c (ns_dup (by decide +kernel)) <|
  alN_c (ns_callI (by decide +kernel) (mt_X2_init hE hKC) cln_X2_init ml_RX11_80 rfl imn_X2_init ⟨by omega, by omega⟩) <|
  alN_c (ns_pF (by decide +kernel) (by decide) (by decide) rfl rfl rfl iw11 (G_w fl_RX11_81)) <|
  alN_c (ns_ald_n (q := 0) (by decide +kernel) rfl) <|
  alN_c (ns_new (by decide +kernel) (by decide) iw7 (G_w (G_2 (i := 236) rfl rfl)) (G_w (G_2 (i := 237) rfl rfl)) (G_w (G_1 (i := 15) rfl rfl))) <|
  alN_c (ns_dup (by decide +kernel)) <|
  alN_c (ns_ald_n (q := 0) (by decide +kernel) rfl) <|
  alN_c (ns_gR (by decide +kernel) (by decide) (by decide) rfl iw11 (G_w fl_RX11_19)) <|
  alN_c (ns_callI (by decide +kernel) (mt_X7_init hE hKC) cln_X7_init ml_RX11_87 rfl imn_X7_init ⟨by omega, by omega⟩) <|
  alN_c (ns_pF (by decide +kernel) (by decide) (by decide) rfl rfl rfl iw11 (G_w fl_RX11_88)) <|
  alN_c (ns_ald_n (q := 0) (by decide +kernel) rfl) <|
  alN_c (ns_new (by decide +kernel) (by decide) iw1 (G_w (G_3 (i := 26) rfl rfl)) (G_w (G_3 (i := 27) rfl rfl)) (G_w (G_1 (i := 16) rfl rfl))) <|
  alN_c (ns_dup (by decide +kernel)) <|
  alN_c (ns_ald_n (q := 0) (by decide +kernel) rfl) <|
  alN_c (ns_gR (by decide +kernel) (by decide) (by decide) rfl iw11 (G_w fl_RX11_19)) <|
  alN_c (ns_callI (by decide +kernel) (mt_X1_init hE hKC) cln_X1_init ml_RX11_94 rfl imn_X1_init ⟨by omega, by omega⟩) <|
  alN_c (ns_pF (by decide +kernel) (by decide) (by decide) rfl rfl rfl iw11 (G_w fl_RX11_95)) <|
  alN_c (ns_ald_n (q := 0) (by decide +kernel) rfl) <|
  alN_c (ns_iconst (n := 2) (by decide +kernel) (by decide)) <|
  alN_c (ns_anew_17 (by decide +kernel) (G_w (G_1 (i := 134) rfl rfl))) <|
  alN_c (ns_pF (by decide +kernel) (by decide) (by decide) rfl rfl rfl iw11 (G_w fl_RX11_99)) <|
  alN_c (ns_ald_n (q := 0) (by decide +kernel) rfl) <|
  alN_c (ns_iconst (n := 2) (by decide +kernel) (by decide)) <|
  alN_c (ns_anew_18 (by decide +kernel) (G_w (G_1 (i := 237) rfl rfl))) <|
  alN_c (ns_pF (by decide +kernel) (by decide) (by decide) rfl rfl rfl iw11 (G_w fl_RX11_103)) <|
  alN_c (ns_ald_n (q := 0) (by decide +kernel) rfl) <|
  alN_c (ns_iconst (n := 2) (by decide +kernel) (by decide)) <|
  alN_c (ns_anew_19 (by decide +kernel) (G_w (G_2 (i := 34) rfl rfl))) <|
  alN_c (ns_pF (by decide +kernel) (by decide) (by decide) rfl rfl rfl iw11 (G_w fl_RX11_107)) <|
  alN_c (ns_ald_n (q := 0) (by decide +kernel) rfl) <|
  alN_c (ns_iconst (n := 2) (by decide +kernel) (by decide)) <|
  alN_c (ns_newa_boolean (by decide +kernel) (G_w (G_3 (i := 130) rfl rfl))) <|
  alN_c (ns_pF (by decide +kernel) (by decide) (by decide) rfl rfl rfl iw11 (G_w fl_RX11_111)) <|
  alN_c (ns_iconst (n := 0) (by decide +kernel) (by decide)) <|
  alN_c (ns_ist_n (q := 1) (by decide +kernel) rfl) <|
  alN_c (ns_ild_n (q := 1) (by decide +kernel) rfl) <|
  alN_c (ns_iconst (n := 2) (by decide +kernel) (by decide)) <|
  alN_c (ns_cmpge (off := 48) (by decide +kernel) (by decide)) <|
  alN_c (ns_ald_n (q := 0) (by decide +kernel) rfl) <|
  alN_c (ns_gR (by decide +kernel) (by decide) (by decide) rfl iw11 (G_w fl_RX11_99)) <|
  alN_c (ns_ild_n (q := 1) (by decide +kernel) rfl) <|
  alN_c (ns_new (by decide +kernel) (by decide) iw0 (G_w (G_1 (i := 134) rfl rfl)) (G_w (G_1 (i := 135) rfl rfl)) (G_w (G_1 (i := 7) rfl rfl))) <|
  alN_c (ns_dup (by decide +kernel)) <|
  alN_c (ns_callI (by decide +kernel) (mt_X0_init hE hKC) cln_X0_init ml_RX11_18 rfl imn_X0_init ⟨by omega, by omega⟩) <|
  alN_c (ns_aast_17 (by decide +kernel)) <|
  alN_c (ns_ald_n (q := 0) (by decide +kernel) rfl) <|
  alN_c (ns_gR (by decide +kernel) (by decide) (by decide) rfl iw11 (G_w fl_RX11_103)) <|
  alN_c (ns_ild_n (q := 1) (by decide +kernel) rfl) <|
  alN_c (ns_new (by decide +kernel) (by decide) iw6 (G_w (G_1 (i := 237) rfl rfl)) (G_w (G_1 (i := 238) rfl rfl)) (G_w (G_1 (i := 8) rfl rfl))) <|
  alN_c (ns_dup (by decide +kernel)) <|
  alN_c (ns_callI (by decide +kernel) (mt_X6_init hE hKC) cln_X6_init ml_RX11_28 rfl imn_X6_init ⟨by omega, by omega⟩) <|
  alN_c (ns_aast_18 (by decide +kernel)) <|
  alN_c (ns_ald_n (q := 0) (by decide +kernel) rfl) <|
  alN_c (ns_gR (by decide +kernel) (by decide) (by decide) rfl iw11 (G_w fl_RX11_107)) <|
  alN_c (ns_ild_n (q := 1) (by decide +kernel) rfl) <|
  alN_c (ns_new (by decide +kernel) (by decide) iw9 (G_w (G_2 (i := 34) rfl rfl)) (G_w (G_2 (i := 35) rfl rfl)) (G_w (G_1 (i := 9) rfl rfl))) <|
  alN_c (ns_dup (by decide +kernel)) <|
  alN_c (ns_callI (by decide +kernel) (mt_X9_init hE hKC) cln_X9_init ml_RX11_38 rfl imn_X9_init ⟨by omega, by omega⟩) <|
  alN_c (ns_aast_19 (by decide +kernel)) <|
  alN_c (ns_inc (n := 1) (by decide +kernel) (by decide)) <|
  alN_c (ns_goto (off := (-47)) (by decide +kernel) (by decide)) <|
  alN_c (ns_ald_n (q := 0) (by decide +kernel) rfl) <|
  alN_c (ns_iconst (n := 0) (by decide +kernel) (by decide)) <|
  alN_c (ns_pZ (by decide +kernel) (by decide) (by decide) rfl rfl iw11 (G_w fl_RX11_115)) <|
  alN_c (ns_ald_n (q := 0) (by decide +kernel) rfl) <|
  alN_c (ns_iconst (n := 0) (by decide +kernel) (by decide)) <|
  alN_c (ns_pI (by decide +kernel) (by decide) (by decide) rfl rfl iw11 (G_w fl_RX11_119)) <|
  alN_c (ns_ret (by decide +kernel)) <|
  alN_n
theorem mt_X11_init {l : Launch} {E : En_} (hE : EX_ E) (hKC : E.2.2.2.1 = KC) : MtN_ l E yX11_init (.code yX11_init cX11_init 2 none :: G_) 6 hn_X11_init := metN_ hE hKC (by decide +kernel) (ini := true) (fun h => rfl) (fun R hlv pc o ho => alN_get (an_X11_init hE hKC hlv) ho)
theorem cln_X12_init : Cl_ yX12_init cX12_init 1 none 0 := ⟨G_6 (i := 133) rfl rfl, G_1 (i := 17) rfl rfl, ⟨by decide +kernel, by decide +kernel, by decide +kernel⟩, by decide⟩
theorem imn_X12_init : Cond.instanceMethod yX12_init ∈ G_ := G_6 (i := 132) rfl rfl
def PN_X12_init : List (Nat × On_) := [(0, n_ald 0 1),
  (1, n_obj),
  (4, n_ald 0 1),
  (5, n_ic 1040 3),
  (8, n_newa 14),
  (10, n_pF 12 1),
  (13, n_ald 0 1),
  (14, n_ic 1050 3),
  (17, n_newa 14),
  (19, n_pF 12 14),
  (22, n_ald 0 1),
  (23, n_ic 390 3),
  (26, n_newa 14),
  (28, n_pF 12 15),
  (31, n_ald 0 1),
  (32, n_ic 2100 3),
  (35, n_newa 14),
  (37, n_pF 12 16),
  (40, n_ald 0 1),
  (41, n_ic 25 2),
  (43, n_newa 15),
  (45, n_pF 12 17),
  (48, n_ald 0 1),
  (49, n_ic 25 2),
  (51, n_newa 15),
  (53, n_pF 12 18),
  (56, n_ald 0 1),
  (57, n_ic 50 2),
  (59, n_newa 15),
  (61, n_pF 12 19),
  (64, n_ald 0 1),
  (65, n_ic 2 1),
  (66, n_newa 16),
  (68, n_pF 12 20),
  (71, n_ald 0 1),
  (72, n_ic 400 3),
  (75, n_newa 14),
  (77, n_pF 12 23),
  (80, n_ald 0 1),
  (81, n_ic 144 3),
  (84, n_newa 14),
  (86, n_pF 12 25),
  (89, n_ald 0 1),
  (90, n_ic 9 2),
  (92, n_newa 14),
  (94, n_pF 12 26),
  (97, n_ald 0 1),
  (98, n_ic 9 2),
  (100, n_newa 14),
  (102, n_pF 12 27),
  (105, n_ald 0 1),
  (106, n_ic 9 2),
  (108, n_newa 14),
  (110, n_pF 12 28),
  (113, n_ald 0 1),
  (114, n_ic 16 2),
  (116, n_newa 14),
  (118, n_pF 12 32),
  (121, n_ald 0 1),
  (122, n_ic 6 2),
  (124, n_newa 14),
  (126, n_pF 12 34),
  (129, n_ald 0 1),
  (130, n_ic 6 2),
  (132, n_newa 14),
  (134, n_pF 12 35),
  (137, n_ald 0 1),
  (138, n_ic 6 2),
  (140, n_newa 14),
  (142, n_pF 12 36),
  (145, n_ald 0 1),
  (146, n_ic 9 2),
  (148, n_newa 14),
  (150, n_pF 12 41),
  (153, n_ald 0 1),
  (154, n_ic 9 2),
  (156, n_newa 14),
  (158, n_pF 12 42),
  (161, n_ald 0 1),
  (162, n_ic 9 2),
  (164, n_newa 14),
  (166, n_pF 12 46),
  (169, n_ald 0 1),
  (170, n_ic (-1) 1),
  (171, n_pI 12 47),
  (174, n_ald 0 1),
  (175, n_ic 7 2),
  (177, n_newa 14),
  (179, n_pF 12 48),
  (182, n_ald 0 1),
  (183, n_ic 7 2),
  (185, n_newa 14),
  (187, n_pF 12 49),
  (190, n_ald 0 1),
  (191, n_ic 7 2),
  (193, n_newa 14),
  (195, n_pF 12 50),
  (198, n_ald 0 1),
  (199, n_ic 7 2),
  (201, n_newa 14),
  (203, n_pF 12 51),
  (206, n_ald 0 1),
  (207, n_ic 16 2),
  (209, n_newa 14),
  (211, n_pF 12 55),
  (214, n_ald 0 1),
  (215, n_ic (-1) 1),
  (216, n_pI 12 56),
  (219, n_ald 0 1),
  (220, n_ic 240 3),
  (223, n_newa 14),
  (225, n_pF 12 58),
  (228, n_ret)]
def hn_X12_init : Hn_ := hnF_ PN_X12_init 1 200
set_option maxRecDepth 100000 in
theorem an_X12_init {l : Launch} {E : En_} (hE : EX_ E) (hKC : E.2.2.2.1 = KC) {R : Room} (hlv : 1 ≤ R.frames ∧ 64 * 1 ≤ R.locals) : AllN_ (SnN_ l E yX12_init.cls cX12_init 1 (.code yX12_init cX12_init 1 none :: G_) R true) PN_X12_init :=
  have hlv1 : 1 ≤ R.frames ∧ 64 ≤ R.locals := ⟨by omega, by omega⟩
  alN_c (ns_ald_n (q := 0) (by decide +kernel) rfl) <|
  alN_c (ns_obj (by decide +kernel) (G_w (G_6 (i := 134) rfl rfl)) (G_w (G_1 (i := 31) rfl rfl)) (G_w (G_1 (i := 32) rfl rfl)) hlv1) <|
  alN_c (ns_ald_n (q := 0) (by decide +kernel) rfl) <|
  alN_c (ns_sipush (n := 1040) (by decide +kernel) (by decide)) <|
  alN_c (ns_newa_int (by decide +kernel) (G_w (G_1 (i := 133) rfl rfl))) <|
  alN_c (ns_pF (by decide +kernel) (by decide) (by decide) rfl rfl rfl iw12 (G_w fl_RX12_7)) <|
  alN_c (ns_ald_n (q := 0) (by decide +kernel) rfl) <|
  alN_c (ns_sipush (n := 1050) (by decide +kernel) (by decide)) <|
  alN_c (ns_newa_int (by decide +kernel) (G_w (G_1 (i := 133) rfl rfl))) <|
  alN_c (ns_pF (by decide +kernel) (by decide) (by decide) rfl rfl rfl iw12 (G_w fl_RX12_13)) <|
  alN_c (ns_ald_n (q := 0) (by decide +kernel) rfl) <|
  alN_c (ns_sipush (n := 390) (by decide +kernel) (by decide)) <|
  alN_c (ns_newa_int (by decide +kernel) (G_w (G_1 (i := 133) rfl rfl))) <|
  alN_c (ns_pF (by decide +kernel) (by decide) (by decide) rfl rfl rfl iw12 (G_w fl_RX12_16)) <|
  alN_c (ns_ald_n (q := 0) (by decide +kernel) rfl) <|
  alN_c (ns_sipush (n := 2100) (by decide +kernel) (by decide)) <|
  alN_c (ns_newa_int (by decide +kernel) (G_w (G_1 (i := 133) rfl rfl))) <|
  alN_c (ns_pF (by decide +kernel) (by decide) (by decide) rfl rfl rfl iw12 (G_w fl_RX12_19)) <|
  alN_c (ns_ald_n (q := 0) (by decide +kernel) rfl) <|
  alN_c (ns_bipush (n := 25) (by decide +kernel) (by decide)) <|
  alN_c (ns_newa_long (by decide +kernel) (G_w (G_7 (i := 85) rfl rfl))) <|
  alN_c (ns_pF (by decide +kernel) (by decide) (by decide) rfl rfl rfl iw12 (G_w fl_RX12_22)) <|
  alN_c (ns_ald_n (q := 0) (by decide +kernel) rfl) <|
  alN_c (ns_bipush (n := 25) (by decide +kernel) (by decide)) <|
  alN_c (ns_newa_long (by decide +kernel) (G_w (G_7 (i := 85) rfl rfl))) <|
  alN_c (ns_pF (by decide +kernel) (by decide) (by decide) rfl rfl rfl iw12 (G_w fl_RX12_26)) <|
  alN_c (ns_ald_n (q := 0) (by decide +kernel) rfl) <|
  alN_c (ns_bipush (n := 50) (by decide +kernel) (by decide)) <|
  alN_c (ns_newa_long (by decide +kernel) (G_w (G_7 (i := 85) rfl rfl))) <|
  alN_c (ns_pF (by decide +kernel) (by decide) (by decide) rfl rfl rfl iw12 (G_w fl_RX12_29)) <|
  alN_c (ns_ald_n (q := 0) (by decide +kernel) rfl) <|
  alN_c (ns_iconst (n := 2) (by decide +kernel) (by decide)) <|
  alN_c (ns_newa_boolean (by decide +kernel) (G_w (G_3 (i := 130) rfl rfl))) <|
  alN_c (ns_pF (by decide +kernel) (by decide) (by decide) rfl rfl rfl iw12 (G_w fl_RX12_32)) <|
  alN_c (ns_ald_n (q := 0) (by decide +kernel) rfl) <|
  alN_c (ns_sipush (n := 400) (by decide +kernel) (by decide)) <|
  alN_c (ns_newa_int (by decide +kernel) (G_w (G_1 (i := 133) rfl rfl))) <|
  alN_c (ns_pF (by decide +kernel) (by decide) (by decide) rfl rfl rfl iw12 (G_w fl_RX12_36)) <|
  alN_c (ns_ald_n (q := 0) (by decide +kernel) rfl) <|
  alN_c (ns_sipush (n := 144) (by decide +kernel) (by decide)) <|
  alN_c (ns_newa_int (by decide +kernel) (G_w (G_1 (i := 133) rfl rfl))) <|
  alN_c (ns_pF (by decide +kernel) (by decide) (by decide) rfl rfl rfl iw12 (G_w fl_RX12_39)) <|
  alN_c (ns_ald_n (q := 0) (by decide +kernel) rfl) <|
  alN_c (ns_bipush (n := 9) (by decide +kernel) (by decide)) <|
  alN_c (ns_newa_int (by decide +kernel) (G_w (G_1 (i := 133) rfl rfl))) <|
  alN_c (ns_pF (by decide +kernel) (by decide) (by decide) rfl rfl rfl iw12 (G_w fl_RX12_42)) <|
  alN_c (ns_ald_n (q := 0) (by decide +kernel) rfl) <|
  alN_c (ns_bipush (n := 9) (by decide +kernel) (by decide)) <|
  alN_c (ns_newa_int (by decide +kernel) (G_w (G_1 (i := 133) rfl rfl))) <|
  alN_c (ns_pF (by decide +kernel) (by decide) (by decide) rfl rfl rfl iw12 (G_w fl_RX12_45)) <|
  alN_c (ns_ald_n (q := 0) (by decide +kernel) rfl) <|
  alN_c (ns_bipush (n := 9) (by decide +kernel) (by decide)) <|
  alN_c (ns_newa_int (by decide +kernel) (G_w (G_1 (i := 133) rfl rfl))) <|
  alN_c (ns_pF (by decide +kernel) (by decide) (by decide) rfl rfl rfl iw12 (G_w fl_RX12_48)) <|
  alN_c (ns_ald_n (q := 0) (by decide +kernel) rfl) <|
  alN_c (ns_bipush (n := 16) (by decide +kernel) (by decide)) <|
  alN_c (ns_newa_int (by decide +kernel) (G_w (G_1 (i := 133) rfl rfl))) <|
  alN_c (ns_pF (by decide +kernel) (by decide) (by decide) rfl rfl rfl iw12 (G_w fl_RX12_51)) <|
  alN_c (ns_ald_n (q := 0) (by decide +kernel) rfl) <|
  alN_c (ns_bipush (n := 6) (by decide +kernel) (by decide)) <|
  alN_c (ns_newa_int (by decide +kernel) (G_w (G_1 (i := 133) rfl rfl))) <|
  alN_c (ns_pF (by decide +kernel) (by decide) (by decide) rfl rfl rfl iw12 (G_w fl_RX12_54)) <|
  alN_c (ns_ald_n (q := 0) (by decide +kernel) rfl) <|
  alN_c (ns_bipush (n := 6) (by decide +kernel) (by decide)) <|
  alN_c (ns_newa_int (by decide +kernel) (G_w (G_1 (i := 133) rfl rfl))) <|
  alN_c (ns_pF (by decide +kernel) (by decide) (by decide) rfl rfl rfl iw12 (G_w fl_RX12_57)) <|
  alN_c (ns_ald_n (q := 0) (by decide +kernel) rfl) <|
  alN_c (ns_bipush (n := 6) (by decide +kernel) (by decide)) <|
  alN_c (ns_newa_int (by decide +kernel) (G_w (G_1 (i := 133) rfl rfl))) <|
  alN_c (ns_pF (by decide +kernel) (by decide) (by decide) rfl rfl rfl iw12 (G_w fl_RX12_60)) <|
  alN_c (ns_ald_n (q := 0) (by decide +kernel) rfl) <|
  alN_c (ns_bipush (n := 9) (by decide +kernel) (by decide)) <|
  alN_c (ns_newa_int (by decide +kernel) (G_w (G_1 (i := 133) rfl rfl))) <|
  alN_c (ns_pF (by decide +kernel) (by decide) (by decide) rfl rfl rfl iw12 (G_w fl_RX12_63)) <|
  alN_c (ns_ald_n (q := 0) (by decide +kernel) rfl) <|
  alN_c (ns_bipush (n := 9) (by decide +kernel) (by decide)) <|
  alN_c (ns_newa_int (by decide +kernel) (G_w (G_1 (i := 133) rfl rfl))) <|
  alN_c (ns_pF (by decide +kernel) (by decide) (by decide) rfl rfl rfl iw12 (G_w fl_RX12_66)) <|
  alN_c (ns_ald_n (q := 0) (by decide +kernel) rfl) <|
  alN_c (ns_bipush (n := 9) (by decide +kernel) (by decide)) <|
  alN_c (ns_newa_int (by decide +kernel) (G_w (G_1 (i := 133) rfl rfl))) <|
  alN_c (ns_pF (by decide +kernel) (by decide) (by decide) rfl rfl rfl iw12 (G_w fl_RX12_69)) <|
  alN_c (ns_ald_n (q := 0) (by decide +kernel) rfl) <|
  alN_c (ns_iconst (n := (-1)) (by decide +kernel) (by decide)) <|
  alN_c (ns_pI (by decide +kernel) (by decide) (by decide) rfl rfl iw12 (G_w fl_RX12_72)) <|
  alN_c (ns_ald_n (q := 0) (by decide +kernel) rfl) <|
  alN_c (ns_bipush (n := 7) (by decide +kernel) (by decide)) <|
  alN_c (ns_newa_int (by decide +kernel) (G_w (G_1 (i := 133) rfl rfl))) <|
  alN_c (ns_pF (by decide +kernel) (by decide) (by decide) rfl rfl rfl iw12 (G_w fl_RX12_76)) <|
  alN_c (ns_ald_n (q := 0) (by decide +kernel) rfl) <|
  alN_c (ns_bipush (n := 7) (by decide +kernel) (by decide)) <|
  alN_c (ns_newa_int (by decide +kernel) (G_w (G_1 (i := 133) rfl rfl))) <|
  alN_c (ns_pF (by decide +kernel) (by decide) (by decide) rfl rfl rfl iw12 (G_w fl_RX12_79)) <|
  alN_c (ns_ald_n (q := 0) (by decide +kernel) rfl) <|
  alN_c (ns_bipush (n := 7) (by decide +kernel) (by decide)) <|
  alN_c (ns_newa_int (by decide +kernel) (G_w (G_1 (i := 133) rfl rfl))) <|
  alN_c (ns_pF (by decide +kernel) (by decide) (by decide) rfl rfl rfl iw12 (G_w fl_RX12_82)) <|
  alN_c (ns_ald_n (q := 0) (by decide +kernel) rfl) <|
  alN_c (ns_bipush (n := 7) (by decide +kernel) (by decide)) <|
  alN_c (ns_newa_int (by decide +kernel) (G_w (G_1 (i := 133) rfl rfl))) <|
  alN_c (ns_pF (by decide +kernel) (by decide) (by decide) rfl rfl rfl iw12 (G_w fl_RX12_85)) <|
  alN_c (ns_ald_n (q := 0) (by decide +kernel) rfl) <|
  alN_c (ns_bipush (n := 16) (by decide +kernel) (by decide)) <|
  alN_c (ns_newa_int (by decide +kernel) (G_w (G_1 (i := 133) rfl rfl))) <|
  alN_c (ns_pF (by decide +kernel) (by decide) (by decide) rfl rfl rfl iw12 (G_w fl_RX12_88)) <|
  alN_c (ns_ald_n (q := 0) (by decide +kernel) rfl) <|
  alN_c (ns_iconst (n := (-1)) (by decide +kernel) (by decide)) <|
  alN_c (ns_pI (by decide +kernel) (by decide) (by decide) rfl rfl iw12 (G_w fl_RX12_91)) <|
  alN_c (ns_ald_n (q := 0) (by decide +kernel) rfl) <|
  alN_c (ns_sipush (n := 240) (by decide +kernel) (by decide)) <|
  alN_c (ns_newa_int (by decide +kernel) (G_w (G_1 (i := 133) rfl rfl))) <|
  alN_c (ns_pF (by decide +kernel) (by decide) (by decide) rfl rfl rfl iw12 (G_w fl_RX12_94)) <|
  alN_c (ns_ret (by decide +kernel)) <|
  alN_n
theorem mt_X12_init {l : Launch} {E : En_} (hE : EX_ E) (hKC : E.2.2.2.1 = KC) : MtN_ l E yX12_init (.code yX12_init cX12_init 1 none :: G_) 1 hn_X12_init := metN_ hE hKC (by decide +kernel) (ini := true) (fun h => rfl) (fun R hlv pc o ho => alN_get (an_X12_init hE hKC hlv) ho)
