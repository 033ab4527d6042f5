noncomputable def P_X4_findParts (K : Sh_)  : List (Nat × Op_) := [(0, o_ic 0 1),
  (1, o_aft [3] (o_ist 2 1)),
  (2, o_ild 2 1),
  (3, o_ald 0 1),
  (4, o_gR K 4 2),
  (7, o_gI K 0 11),
  (10, o_cmpge 70),
  (13, o_ald 0 1),
  (14, o_gF K 4 1),
  (17, o_ild 2 1),
  (18, o_ild 2 1),
  (19, o_iast K),
  (20, o_ic 0 1),
  (21, o_ist 3 1),
  (22, o_ild 3 1),
  (23, o_ild 2 1),
  (24, o_cmpge 64),
  (27, o_ald 0 1),
  (28, o_gR K 4 2),
  (31, o_gF K 0 4),
  (34, o_ild 2 1),
  (35, o_aald K),
  (36, o_ild 3 1),
  (37, o_iald K),
  (38, o_ild 1 1),
  (39, o_cmplt 58),
  (42, o_ald 0 1),
  (43, o_ald 0 1),
  (44, o_gF K 4 1),
  (47, o_ild 2 1),
  (48, o_iald K),
  (49, o_ald 0 1),
  (50, o_gF K 4 1),
  (53, o_ild 3 1),
  (54, o_iald K),
  (55, o_callV K 4 (f_X4_join K) 2),
  (58, o_inc 3 1),
  (61, o_goto 22),
  (64, o_inc 2 1),
  (67, o_aft [3] (o_goto 2)),
  (70, o_vret)]
noncomputable def f_X4_findParts (K : Sh_) : Fn_ := fn_ (P_X4_findParts K) 4
set_option maxRecDepth 100000 in
theorem a_X4_findParts {l : Launch} {E : En_} (hE : EOK_ E)   : All_ (Snd_ l E yX4_findParts.cls cX4_findParts 4 (none) (.code yX4_findParts cX4_findParts 4 (none) :: G_) (rm_ 2)) (P_X4_findParts E.2.2.2.1 ) :=
  all_c (s_iconst (n := 0) (by decide +kernel) (by decide))
  <| all_c (s_aft (s_ist_n (q := 2) (by decide +kernel) rfl))
  <| all_c (s_ild_n (q := 2) (by decide +kernel) rfl)
  <| all_c (s_ald_n (q := 0) (by decide +kernel) rfl)
  <| all_c (g_4_2 (by decide +kernel) fl_RX4_24)
  <| all_c (g_0_11 (by decide +kernel) fl_RX4_77)
  <| all_c (s_cmpge (off := 60) (by decide +kernel) (by decide))
  <| all_c (s_ald_n (q := 0) (by decide +kernel) rfl)
  <| all_c (g_4_1 (by decide +kernel) fl_RX4_20)
  <| all_c (s_ild_n (q := 2) (by decide +kernel) rfl)
  <| all_c (s_ild_n (q := 2) (by decide +kernel) rfl)
  <| all_c (s_iast (by decide +kernel))
  <| all_c (s_iconst (n := 0) (by decide +kernel) (by decide))
  <| all_c (s_ist_n (q := 3) (by decide +kernel) rfl)
  <| all_c (s_ild_n (q := 3) (by decide +kernel) rfl)
  <| all_c (s_ild_n (q := 2) (by decide +kernel) rfl)
  <| all_c (s_cmpge (off := 40) (by decide +kernel) (by decide))
  <| all_c (s_ald_n (q := 0) (by decide +kernel) rfl)
  <| all_c (g_4_2 (by decide +kernel) fl_RX4_24)
  <| all_c (g_0_4 (by decide +kernel) fl_RX4_95)
  <| all_c (s_ild_n (q := 2) (by decide +kernel) rfl)
  <| all_c (s_aald (by decide +kernel))
  <| all_c (s_ild_n (q := 3) (by decide +kernel) rfl)
  <| all_c (s_iald (by decide +kernel))
  <| all_c (s_ild_n (q := 1) (by decide +kernel) rfl)
  <| all_c (s_cmplt (off := 19) (by decide +kernel) (by decide))
  <| all_c (s_ald_n (q := 0) (by decide +kernel) rfl)
  <| all_c (s_ald_n (q := 0) (by decide +kernel) rfl)
  <| all_c (g_4_1 (by decide +kernel) fl_RX4_20)
  <| all_c (s_ild_n (q := 2) (by decide +kernel) rfl)
  <| all_c (s_iald (by decide +kernel))
  <| all_c (s_ald_n (q := 0) (by decide +kernel) rfl)
  <| all_c (g_4_1 (by decide +kernel) fl_RX4_20)
  <| all_c (s_ild_n (q := 3) (by decide +kernel) rfl)
  <| all_c (s_iald (by decide +kernel))
  <| all_c (s_callV (by decide +kernel) (t_X4_join hE) cl_X4_join ml_RX4_99 im_X4_join se_X4_join (by decide) rfl (rm_lt (by decide)))
  <| all_c (s_inc (n := 1) (by decide +kernel) (by decide))
  <| all_c (s_goto (off := (-39)) (by decide +kernel) (by decide))
  <| all_c (s_inc (n := 1) (by decide +kernel) (by decide))
  <| all_c (s_aft (s_goto (off := (-65)) (by decide +kernel) (by decide)))
  <| all_c (s_vret (by decide +kernel) rfl)
  <| all_n
theorem t_X4_findParts {l : Launch} {E : En_} (hE : EOK_ E) : Good_ l E yX4_findParts (.code yX4_findParts cX4_findParts 4 (none) :: G_) (rm_ 2) (f_X4_findParts E.2.2.2.1) := good_all hE (by decide +kernel) (a_X4_findParts hE)
noncomputable def P_X4_mostLeft (K : Sh_)  : List (Nat × Op_) := [(0, o_ic (-1) 1),
  (1, o_ist 2 1),
  (2, o_ic 0 1),
  (3, o_ist 3 1),
  (4, o_ild 3 1),
  (5, o_ald 0 1),
  (6, o_gR K 4 2),
  (9, o_gI K 0 12),
  (12, o_cmpge 57),
  (15, o_ild 1 1),
  (16, o_ild 3 1),
  (17, o_ishr),
  (18, o_ic 1 1),
  (19, o_iand),
  (20, o_ifne 51),
  (23, o_ild 2 1),
  (24, o_ic (-1) 1),
  (25, o_cmpeq 49),
  (28, o_ald 0 1),
  (29, o_gF K 4 0),
  (32, o_gF K 5 0),
  (35, o_ild 3 1),
  (36, o_iald K),
  (37, o_ald 0 1),
  (38, o_gF K 4 0),
  (41, o_gF K 5 0),
  (44, o_ild 2 1),
  (45, o_iald K),
  (46, o_cmple 51),
  (49, o_ild 3 1),
  (50, o_ist 2 1),
  (51, o_inc 3 1),
  (54, o_goto 4),
  (57, o_ild 2 1),
  (58, o_iret)]
noncomputable def f_X4_mostLeft (K : Sh_) : Fn_ := fn_ (P_X4_mostLeft K) 4
set_option maxRecDepth 100000 in
theorem a_X4_mostLeft {l : Launch} {E : En_} (hE : EOK_ E)   : All_ (Snd_ l E yX4_mostLeft.cls cX4_mostLeft 4 (some .int) (.code yX4_mostLeft cX4_mostLeft 4 (some .int) :: G_) (rm_ 1)) (P_X4_mostLeft E.2.2.2.1 ) :=
  all_c (s_iconst (n := (-1)) (by decide +kernel) (by decide))
  <| all_c (s_ist_n (q := 2) (by decide +kernel) rfl)
  <| all_c (s_iconst (n := 0) (by decide +kernel) (by decide))
  <| all_c (s_ist_n (q := 3) (by decide +kernel) rfl)
  <| all_c (s_ild_n (q := 3) (by decide +kernel) rfl)
  <| all_c (s_ald_n (q := 0) (by decide +kernel) rfl)
  <| all_c (g_4_2 (by decide +kernel) fl_RX4_24)
  <| all_c (g_0_12 (by decide +kernel) fl_RX4_71)
  <| all_c (s_cmpge (off := 45) (by decide +kernel) (by decide))
  <| all_c (s_ild_n (q := 1) (by decide +kernel) rfl)
  <| all_c (s_ild_n (q := 3) (by decide +kernel) rfl)
  <| all_c (s_ishr (by decide +kernel))
  <| all_c (s_iconst (n := 1) (by decide +kernel) (by decide))
  <| all_c (s_iand (by decide +kernel))
  <| all_c (s_ifne (off := 31) (by decide +kernel) (by decide))
  <| all_c (s_ild_n (q := 2) (by decide +kernel) rfl)
  <| all_c (s_iconst (n := (-1)) (by decide +kernel) (by decide))
  <| all_c (s_cmpeq (off := 24) (by decide +kernel) (by decide))
  <| all_c (s_ald_n (q := 0) (by decide +kernel) rfl)
  <| all_c (g_4_0 (by decide +kernel) fl_RX4_14)
  <| all_c (g_5_0 (by decide +kernel) fl_RX4_108)
  <| all_c (s_ild_n (q := 3) (by decide +kernel) rfl)
  <| all_c (s_iald (by decide +kernel))
  <| all_c (s_ald_n (q := 0) (by decide +kernel) rfl)
  <| all_c (g_4_0 (by decide +kernel) fl_RX4_14)
  <| all_c (g_5_0 (by decide +kernel) fl_RX4_108)
  <| all_c (s_ild_n (q := 2) (by decide +kernel) rfl)
  <| all_c (s_iald (by decide +kernel))
  <| all_c (s_cmple (off := 5) (by decide +kernel) (by decide))
  <| all_c (s_ild_n (q := 3) (by decide +kernel) rfl)
  <| all_c (s_ist_n (q := 2) (by decide +kernel) rfl)
  <| all_c (s_inc (n := 1) (by decide +kernel) (by decide))
  <| all_c (s_goto (off := (-50)) (by decide +kernel) (by decide))
  <| all_c (s_ild_n (q := 2) (by decide +kernel) rfl)
  <| all_c (s_iret (by decide +kernel) rfl)
  <| all_n
theorem t_X4_mostLeft {l : Launch} {E : En_} (hE : EOK_ E) : Good_ l E yX4_mostLeft (.code yX4_mostLeft cX4_mostLeft 4 (some .int) :: G_) (rm_ 1) (f_X4_mostLeft E.2.2.2.1) := good_all hE (by decide +kernel) (a_X4_mostLeft hE)
noncomputable def P_X4_readPart (K : Sh_)  : List (Nat × Op_) := [(0, o_ild 2 1),
  (1, o_ist 3 1),
  (2, o_ild 3 1),
  (3, o_ald 0 1),
  (4, o_gR K 4 2),
  (7, o_gI K 0 11),
  (10, o_cmpge 41),
  (13, o_ald 0 1),
  (14, o_gF K 4 1),
  (17, o_ild 3 1),
  (18, o_iald K),
  (19, o_ild 2 1),
  (20, o_cmpne 35),
  (23, o_ald 0 1),
  (24, o_ild 1 1),
  (25, o_ild 3 1),
  (26, o_ic 0 1),
  (27, o_ic 0 1),
  (28, o_callV K 4 (f_X4_tryAct K) 4),
  (31, o_ifne 35),
  (34, o_vret),
  (35, o_inc 3 1),
  (38, o_goto 2),
  (41, o_vret)]
noncomputable def f_X4_readPart (K : Sh_) : Fn_ := fn_ (P_X4_readPart K) 4
set_option maxRecDepth 100000 in
theorem a_X4_readPart {l : Launch} {E : En_} (hE : EOK_ E)   : All_ (Snd_ l E yX4_readPart.cls cX4_readPart 4 (none) (.code yX4_readPart cX4_readPart 4 (none) :: G_) (rm_ 5)) (P_X4_readPart E.2.2.2.1 ) :=
  all_c (s_ild_n (q := 2) (by decide +kernel) rfl)
  <| all_c (s_ist_n (q := 3) (by decide +kernel) rfl)
  <| all_c (s_ild_n (q := 3) (by decide +kernel) rfl)
  <| all_c (s_ald_n (q := 0) (by decide +kernel) rfl)
  <| all_c (g_4_2 (by decide +kernel) fl_RX4_24)
  <| all_c (g_0_11 (by decide +kernel) fl_RX4_77)
  <| all_c (s_cmpge (off := 31) (by decide +kernel) (by decide))
  <| all_c (s_ald_n (q := 0) (by decide +kernel) rfl)
  <| all_c (g_4_1 (by decide +kernel) fl_RX4_20)
  <| all_c (s_ild_n (q := 3) (by decide +kernel) rfl)
  <| all_c (s_iald (by decide +kernel))
  <| all_c (s_ild_n (q := 2) (by decide +kernel) rfl)
  <| all_c (s_cmpne (off := 15) (by decide +kernel) (by decide))
  <| all_c (s_ald_n (q := 0) (by decide +kernel) rfl)
  <| all_c (s_ild_n (q := 1) (by decide +kernel) rfl)
  <| all_c (s_ild_n (q := 3) (by decide +kernel) rfl)
  <| all_c (s_iconst (n := 0) (by decide +kernel) (by decide))
  <| all_c (s_iconst (n := 0) (by decide +kernel) (by decide))
  <| all_c (s_callV (by decide +kernel) (t_X4_tryAct hE) cl_X4_tryAct ml_RX4_80 im_X4_tryAct se_X4_tryAct (by decide) rfl (rm_lt (by decide)))
  <| all_c (s_ifne (off := 4) (by decide +kernel) (by decide))
  <| all_c (s_vret (by decide +kernel) rfl)
  <| all_c (s_inc (n := 1) (by decide +kernel) (by decide))
  <| all_c (s_goto (off := (-36)) (by decide +kernel) (by decide))
  <| all_c (s_vret (by decide +kernel) rfl)
  <| all_n
theorem t_X4_readPart {l : Launch} {E : En_} (hE : EOK_ E) : Good_ l E yX4_readPart (.code yX4_readPart cX4_readPart 4 (none) :: G_) (rm_ 5) (f_X4_readPart E.2.2.2.1) := good_all hE (by decide +kernel) (a_X4_readPart hE)
noncomputable def P_X4_addParts (K : Sh_)  : List (Nat × Op_) := [(0, o_ald 0 1),
  (1, o_ild 1 1),
  (2, o_callV K 4 (f_X4_findParts K) 1),
  (5, o_ic 0 1),
  (6, o_aft [3] (o_ist 2 1)),
  (7, o_ild 2 1),
  (8, o_ald 0 1),
  (9, o_gR K 4 2),
  (12, o_gI K 0 11),
  (15, o_cmpge 51),
  (18, o_ald 0 1),
  (19, o_ic 0 1),
  (20, o_callV K 4 (f_X4_mostLeft K) 1),
  (23, o_ist 3 1),
  (24, o_ald 0 1),
  (25, o_gF K 4 1),
  (28, o_ild 2 1),
  (29, o_iald K),
  (30, o_ild 2 1),
  (31, o_cmpne 45),
  (34, o_ild 3 1),
  (35, o_ic (-1) 1),
  (36, o_cmpeq 45),
  (39, o_ald 0 1),
  (40, o_ild 3 1),
  (41, o_ild 2 1),
  (42, o_callV K 4 (f_X4_readPart K) 2),
  (45, o_inc 2 1),
  (48, o_aft [3] (o_goto 7)),
  (51, o_vret)]
noncomputable def f_X4_addParts (K : Sh_) : Fn_ := fn_ (P_X4_addParts K) 4
set_option maxRecDepth 100000 in
theorem a_X4_addParts {l : Launch} {E : En_} (hE : EOK_ E)   : All_ (Snd_ l E yX4_addParts.cls cX4_addParts 4 (none) (.code yX4_addParts cX4_addParts 4 (none) :: G_) (rm_ 6)) (P_X4_addParts E.2.2.2.1 ) :=
  all_c (s_ald_n (q := 0) (by decide +kernel) rfl)
  <| all_c (s_ild_n (q := 1) (by decide +kernel) rfl)
  <| all_c (s_callV (by decide +kernel) (t_X4_findParts hE) cl_X4_findParts ml_RX4_84 im_X4_findParts se_X4_findParts (by decide) rfl (rm_lt (by decide)))
  <| all_c (s_iconst (n := 0) (by decide +kernel) (by decide))
  <| all_c (s_aft (s_ist_n (q := 2) (by decide +kernel) rfl))
  <| all_c (s_ild_n (q := 2) (by decide +kernel) rfl)
  <| all_c (s_ald_n (q := 0) (by decide +kernel) rfl)
  <| all_c (g_4_2 (by decide +kernel) fl_RX4_24)
  <| all_c (g_0_11 (by decide +kernel) fl_RX4_77)
  <| all_c (s_cmpge (off := 36) (by decide +kernel) (by decide))
  <| all_c (s_ald_n (q := 0) (by decide +kernel) rfl)
  <| all_c (s_iconst (n := 0) (by decide +kernel) (by decide))
  <| all_c (s_callV (by decide +kernel) (t_X4_mostLeft hE) cl_X4_mostLeft ml_RX4_87 im_X4_mostLeft se_X4_mostLeft (by decide) rfl (rm_lt (by decide)))
  <| all_c (s_ist_n (q := 3) (by decide +kernel) rfl)
  <| all_c (s_ald_n (q := 0) (by decide +kernel) rfl)
  <| all_c (g_4_1 (by decide +kernel) fl_RX4_20)
  <| all_c (s_ild_n (q := 2) (by decide +kernel) rfl)
  <| all_c (s_iald (by decide +kernel))
  <| all_c (s_ild_n (q := 2) (by decide +kernel) rfl)
  <| all_c (s_cmpne (off := 14) (by decide +kernel) (by decide))
  <| all_c (s_ild_n (q := 3) (by decide +kernel) rfl)
  <| all_c (s_iconst (n := (-1)) (by decide +kernel) (by decide))
  <| all_c (s_cmpeq (off := 9) (by decide +kernel) (by decide))
  <| all_c (s_ald_n (q := 0) (by decide +kernel) rfl)
  <| all_c (s_ild_n (q := 3) (by decide +kernel) rfl)
  <| all_c (s_ild_n (q := 2) (by decide +kernel) rfl)
  <| all_c (s_callV (by decide +kernel) (t_X4_readPart hE) cl_X4_readPart ml_RX4_91 im_X4_readPart se_X4_readPart (by decide) rfl (rm_lt (by decide)))
  <| all_c (s_inc (n := 1) (by decide +kernel) (by decide))
  <| all_c (s_aft (s_goto (off := (-41)) (by decide +kernel) (by decide)))
  <| all_c (s_vret (by decide +kernel) rfl)
  <| all_n
theorem t_X4_addParts {l : Launch} {E : En_} (hE : EOK_ E) : Good_ l E yX4_addParts (.code yX4_addParts cX4_addParts 4 (none) :: G_) (rm_ 6) (f_X4_addParts E.2.2.2.1) := good_all hE (by decide +kernel) (a_X4_addParts hE)
noncomputable def P_X4_addRounds (K : Sh_)  : List (Nat × Op_) := [(0, o_ic 0 1),
  (1, o_aft [3, 4] (o_ist 2 1)),
  (2, o_ild 2 1),
  (3, o_ald 0 1),
  (4, o_gR K 4 2),
  (7, o_gI K 0 12),
  (10, o_cmpge 93),
  (13, o_ic 0 1),
  (14, o_aft [4] (o_ist 3 1)),
  (15, o_ild 3 1),
  (16, o_ald 0 1),
  (17, o_gR K 4 2),
  (20, o_gI K 0 11),
  (23, o_cmpge 87),
  (26, o_ald 0 1),
  (27, o_gF K 4 0),
  (30, o_gF K 5 1),
  (33, o_ild 2 1),
  (34, o_iald K),
  (35, o_ild 3 1),
  (36, o_ishr),
  (37, o_ic 1 1),
  (38, o_iand),
  (39, o_ifeq 81),
  (42, o_ald 0 1),
  (43, o_gF K 4 0),
  (46, o_ald 0 1),
  (47, o_gR K 4 2),
  (50, o_ild 3 1),
  (51, o_ild 1 1),
  (52, o_callV K 0 (f_X0_tellTime K) 2),
  (55, o_callV K 5 (f_X5_withTime K) 1),
  (58, o_ic 1 1),
  (59, o_ild 2 1),
  (60, o_ishl),
  (61, o_ic (-1) 1),
  (62, o_ixor),
  (63, o_iand),
  (64, o_ist 4 2),
  (66, o_ild 4 2),
  (68, o_ifeq 81),
  (71, o_ald 0 1),
  (72, o_ild 2 1),
  (73, o_ild 3 1),
  (74, o_ild 1 1),
  (75, o_ild 4 2),
  (77, o_callV K 4 (f_X4_tryAct K) 4),
  (80, o_pop),
  (81, o_inc 3 1),
  (84, o_aft [4] (o_goto 15)),
  (87, o_inc 2 1),
  (90, o_aft [3, 4] (o_goto 2)),
  (93, o_vret)]
noncomputable def f_X4_addRounds (K : Sh_) : Fn_ := fn_ (P_X4_addRounds K) 5
set_option maxRecDepth 100000 in
theorem a_X4_addRounds {l : Launch} {E : En_} (hE : EOK_ E)   : All_ (Snd_ l E yX4_addRounds.cls cX4_addRounds 5 (none) (.code yX4_addRounds cX4_addRounds 5 (none) :: G_) (rm_ 5)) (P_X4_addRounds E.2.2.2.1 ) :=
  all_c (s_iconst (n := 0) (by decide +kernel) (by decide))
  <| all_c (s_aft (s_ist_n (q := 2) (by decide +kernel) rfl))
  <| all_c (s_ild_n (q := 2) (by decide +kernel) rfl)
  <| all_c (s_ald_n (q := 0) (by decide +kernel) rfl)
  <| all_c (g_4_2 (by decide +kernel) fl_RX4_24)
  <| all_c (g_0_12 (by decide +kernel) fl_RX4_71)
  <| all_c (s_cmpge (off := 83) (by decide +kernel) (by decide))
  <| all_c (s_iconst (n := 0) (by decide +kernel) (by decide))
  <| all_c (s_aft (s_ist_n (q := 3) (by decide +kernel) rfl))
  <| all_c (s_ild_n (q := 3) (by decide +kernel) rfl)
  <| all_c (s_ald_n (q := 0) (by decide +kernel) rfl)
  <| all_c (g_4_2 (by decide +kernel) fl_RX4_24)
  <| all_c (g_0_11 (by decide +kernel) fl_RX4_77)
  <| all_c (s_cmpge (off := 64) (by decide +kernel) (by decide))
  <| all_c (s_ald_n (q := 0) (by decide +kernel) rfl)
  <| all_c (g_4_0 (by decide +kernel) fl_RX4_14)
  <| all_c (g_5_1 (by decide +kernel) fl_RX4_120)
  <| all_c (s_ild_n (q := 2) (by decide +kernel) rfl)
  <| all_c (s_iald (by decide +kernel))
  <| all_c (s_ild_n (q := 3) (by decide +kernel) rfl)
  <| all_c (s_ishr (by decide +kernel))
  <| all_c (s_iconst (n := 1) (by decide +kernel) (by decide))
  <| all_c (s_iand (by decide +kernel))
  <| all_c (s_ifeq (off := 42) (by decide +kernel) (by decide))
  <| all_c (s_ald_n (q := 0) (by decide +kernel) rfl)
  <| all_c (g_4_0 (by decide +kernel) fl_RX4_14)
  <| all_c (s_ald_n (q := 0) (by decide +kernel) rfl)
  <| all_c (g_4_2 (by decide +kernel) fl_RX4_24)
  <| all_c (s_ild_n (q := 3) (by decide +kernel) rfl)
  <| all_c (s_ild_n (q := 1) (by decide +kernel) rfl)
  <| all_c (s_callV (by decide +kernel) (t_X0_tellTime hE) cl_X0_tellTime ml_RX4_126 im_X0_tellTime se_X0_tellTime (by decide) rfl (rm_lt (by decide)))
  <| all_c (s_callV (by decide +kernel) (t_X5_withTime hE) cl_X5_withTime ml_RX4_129 im_X5_withTime se_X5_withTime (by decide) rfl (rm_lt (by decide)))
  <| all_c (s_iconst (n := 1) (by decide +kernel) (by decide))
  <| all_c (s_ild_n (q := 2) (by decide +kernel) rfl)
  <| all_c (s_ishl (by decide +kernel))
  <| all_c (s_iconst (n := (-1)) (by decide +kernel) (by decide))
  <| all_c (s_ixor (by decide +kernel))
  <| all_c (s_iand (by decide +kernel))
  <| all_c (s_ist (by decide +kernel))
  <| all_c (s_ild (by decide +kernel))
  <| all_c (s_ifeq (off := 13) (by decide +kernel) (by decide))
  <| all_c (s_ald_n (q := 0) (by decide +kernel) rfl)
  <| all_c (s_ild_n (q := 2) (by decide +kernel) rfl)
  <| all_c (s_ild_n (q := 3) (by decide +kernel) rfl)
  <| all_c (s_ild_n (q := 1) (by decide +kernel) rfl)
  <| all_c (s_ild (by decide +kernel))
  <| all_c (s_callV (by decide +kernel) (t_X4_tryAct hE) cl_X4_tryAct ml_RX4_80 im_X4_tryAct se_X4_tryAct (by decide) rfl (rm_lt (by decide)))
  <| all_c (s_pop (by decide +kernel))
  <| all_c (s_inc (n := 1) (by decide +kernel) (by decide))
  <| all_c (s_aft (s_goto (off := (-69)) (by decide +kernel) (by decide)))
  <| all_c (s_inc (n := 1) (by decide +kernel) (by decide))
  <| all_c (s_aft (s_goto (off := (-88)) (by decide +kernel) (by decide)))
  <| all_c (s_vret (by decide +kernel) rfl)
  <| all_n
theorem t_X4_addRounds {l : Launch} {E : En_} (hE : EOK_ E) : Good_ l E yX4_addRounds (.code yX4_addRounds cX4_addRounds 5 (none) :: G_) (rm_ 5) (f_X4_addRounds E.2.2.2.1) := good_all hE (by decide +kernel) (a_X4_addRounds hE)
noncomputable def P_X4_addRows (K : Sh_)  : List (Nat × Op_) := [(0, o_ic 0 1),
  (1, o_ist 1 1),
  (2, o_ic 0 1),
  (3, o_ist 2 1),
  (4, o_ild 2 1),
  (5, o_ald 0 1),
  (6, o_gR K 4 2),
  (9, o_gI K 0 12),
  (12, o_cmpge 49),
  (15, o_ild 1 1),
  (16, o_ald 0 1),
  (17, o_gR K 4 2),
  (20, o_gI K 0 11),
  (23, o_cmpge 43),
  (26, o_ald 0 1),
  (27, o_ild 2 1),
  (28, o_ild 1 1),
  (29, o_ic 0 1),
  (30, o_ic 0 1),
  (31, o_callV K 4 (f_X4_tryAct K) 4),
  (34, o_ifeq 43),
  (37, o_inc 1 1),
  (40, o_goto 15),
  (43, o_inc 2 1),
  (46, o_goto 4),
  (49, o_vret)]
noncomputable def f_X4_addRows (K : Sh_) : Fn_ := fn_ (P_X4_addRows K) 3
set_option maxRecDepth 100000 in
theorem a_X4_addRows {l : Launch} {E : En_} (hE : EOK_ E)   : All_ (Snd_ l E yX4_addRows.cls cX4_addRows 3 (none) (.code yX4_addRows cX4_addRows 3 (none) :: G_) (rm_ 5)) (P_X4_addRows E.2.2.2.1 ) :=
  all_c (s_iconst (n := 0) (by decide +kernel) (by decide))
  <| all_c (s_ist_n (q := 1) (by decide +kernel) rfl)
  <| all_c (s_iconst (n := 0) (by decide +kernel) (by decide))
  <| all_c (s_ist_n (q := 2) (by decide +kernel) rfl)
  <| all_c (s_ild_n (q := 2) (by decide +kernel) rfl)
  <| all_c (s_ald_n (q := 0) (by decide +kernel) rfl)
  <| all_c (g_4_2 (by decide +kernel) fl_RX4_24)
  <| all_c (g_0_12 (by decide +kernel) fl_RX4_71)
  <| all_c (s_cmpge (off := 37) (by decide +kernel) (by decide))
  <| all_c (s_ild_n (q := 1) (by decide +kernel) rfl)
  <| all_c (s_ald_n (q := 0) (by decide +kernel) rfl)
  <| all_c (g_4_2 (by decide +kernel) fl_RX4_24)
  <| all_c (g_0_11 (by decide +kernel) fl_RX4_77)
  <| all_c (s_cmpge (off := 20) (by decide +kernel) (by decide))
  <| all_c (s_ald_n (q := 0) (by decide +kernel) rfl)
  <| all_c (s_ild_n (q := 2) (by decide +kernel) rfl)
  <| all_c (s_ild_n (q := 1) (by decide +kernel) rfl)
  <| all_c (s_iconst (n := 0) (by decide +kernel) (by decide))
  <| all_c (s_iconst (n := 0) (by decide +kernel) (by decide))
  <| all_c (s_callV (by decide +kernel) (t_X4_tryAct hE) cl_X4_tryAct ml_RX4_80 im_X4_tryAct se_X4_tryAct (by decide) rfl (rm_lt (by decide)))
  <| all_c (s_ifeq (off := 9) (by decide +kernel) (by decide))
  <| all_c (s_inc (n := 1) (by decide +kernel) (by decide))
  <| all_c (s_goto (off := (-25)) (by decide +kernel) (by decide))
  <| all_c (s_inc (n := 1) (by decide +kernel) (by decide))
  <| all_c (s_goto (off := (-42)) (by decide +kernel) (by decide))
  <| all_c (s_vret (by decide +kernel) rfl)
  <| all_n
theorem t_X4_addRows {l : Launch} {E : En_} (hE : EOK_ E) : Good_ l E yX4_addRows (.code yX4_addRows cX4_addRows 3 (none) :: G_) (rm_ 5) (f_X4_addRows E.2.2.2.1) := good_all hE (by decide +kernel) (a_X4_addRows hE)
noncomputable def P_X4_mostWorth (K : Sh_)  : List (Nat × Op_) := [(0, o_ic (-1) 1),
  (1, o_ist 2 1),
  (2, o_ic 0 1),
  (3, o_ist 3 1),
  (4, o_ild 3 1),
  (5, o_ald 0 1),
  (6, o_gR K 4 2),
  (9, o_gI K 0 11),
  (12, o_cmpge 57),
  (15, o_ild 1 1),
  (16, o_ild 3 1),
  (17, o_ishr),
  (18, o_ic 1 1),
  (19, o_iand),
  (20, o_ifne 51),
  (23, o_ild 2 1),
  (24, o_ic (-1) 1),
  (25, o_cmpeq 49),
  (28, o_ald 0 1),
  (29, o_gR K 4 2),
  (32, o_gF K 0 2),
  (35, o_ild 3 1),
  (36, o_iald K),
  (37, o_ald 0 1),
  (38, o_gR K 4 2),
  (41, o_gF K 0 2),
  (44, o_ild 2 1),
  (45, o_iald K),
  (46, o_cmple 51),
  (49, o_ild 3 1),
  (50, o_ist 2 1),
  (51, o_inc 3 1),
  (54, o_goto 4),
  (57, o_ild 2 1),
  (58, o_ic (-1) 1),
  (59, o_cmpne 66),
  (62, o_ic 0 1),
  (63, o_goto 67),
  (66, o_ild 2 1),
  (67, o_iret)]
noncomputable def f_X4_mostWorth (K : Sh_) : Fn_ := fn_ (P_X4_mostWorth K) 4
set_option maxRecDepth 100000 in
theorem a_X4_mostWorth {l : Launch} {E : En_} (hE : EOK_ E)   : All_ (Snd_ l E yX4_mostWorth.cls cX4_mostWorth 4 (some .int) (.code yX4_mostWorth cX4_mostWorth 4 (some .int) :: G_) (rm_ 1)) (P_X4_mostWorth E.2.2.2.1 ) :=
  all_c (s_iconst (n := (-1)) (by decide +kernel) (by decide))
  <| all_c (s_ist_n (q := 2) (by decide +kernel) rfl)
  <| all_c (s_iconst (n := 0) (by decide +kernel) (by decide))
  <| all_c (s_ist_n (q := 3) (by decide +kernel) rfl)
  <| all_c (s_ild_n (q := 3) (by decide +kernel) rfl)
  <| all_c (s_ald_n (q := 0) (by decide +kernel) rfl)
  <| all_c (g_4_2 (by decide +kernel) fl_RX4_24)
  <| all_c (g_0_11 (by decide +kernel) fl_RX4_77)
  <| all_c (s_cmpge (off := 45) (by decide +kernel) (by decide))
  <| all_c (s_ild_n (q := 1) (by decide +kernel) rfl)
  <| all_c (s_ild_n (q := 3) (by decide +kernel) rfl)
  <| all_c (s_ishr (by decide +kernel))
  <| all_c (s_iconst (n := 1) (by decide +kernel) (by decide))
  <| all_c (s_iand (by decide +kernel))
  <| all_c (s_ifne (off := 31) (by decide +kernel) (by decide))
  <| all_c (s_ild_n (q := 2) (by decide +kernel) rfl)
  <| all_c (s_iconst (n := (-1)) (by decide +kernel) (by decide))
  <| all_c (s_cmpeq (off := 24) (by decide +kernel) (by decide))
  <| all_c (s_ald_n (q := 0) (by decide +kernel) rfl)
  <| all_c (g_4_2 (by decide +kernel) fl_RX4_24)
  <| all_c (g_0_2 (by decide +kernel) fl_RX4_117)
  <| all_c (s_ild_n (q := 3) (by decide +kernel) rfl)
  <| all_c (s_iald (by decide +kernel))
  <| all_c (s_ald_n (q := 0) (by decide +kernel) rfl)
  <| all_c (g_4_2 (by decide +kernel) fl_RX4_24)
  <| all_c (g_0_2 (by decide +kernel) fl_RX4_117)
  <| all_c (s_ild_n (q := 2) (by decide +kernel) rfl)
  <| all_c (s_iald (by decide +kernel))
  <| all_c (s_cmple (off := 5) (by decide +kernel) (by decide))
  <| all_c (s_ild_n (q := 3) (by decide +kernel) rfl)
  <| all_c (s_ist_n (q := 2) (by decide +kernel) rfl)
  <| all_c (s_inc (n := 1) (by decide +kernel) (by decide))
  <| all_c (s_goto (off := (-50)) (by decide +kernel) (by decide))
  <| all_c (s_ild_n (q := 2) (by decide +kernel) rfl)
  <| all_c (s_iconst (n := (-1)) (by decide +kernel) (by decide))
  <| all_c (s_cmpne (off := 7) (by decide +kernel) (by decide))
  <| all_c (s_iconst (n := 0) (by decide +kernel) (by decide))
  <| all_c (s_goto (off := 4) (by decide +kernel) (by decide))
  <| all_c (s_ild_n (q := 2) (by decide +kernel) rfl)
  <| all_c (s_iret (by decide +kernel) rfl)
  <| all_n
theorem t_X4_mostWorth {l : Launch} {E : En_} (hE : EOK_ E) : Good_ l E yX4_mostWorth (.code yX4_mostWorth cX4_mostWorth 4 (some .int) :: G_) (rm_ 1) (f_X4_mostWorth E.2.2.2.1) := good_all hE (by decide +kernel) (a_X4_mostWorth hE)
noncomputable def P_X4_readersOf (K : Sh_)  : List (Nat × Op_) := [(0, o_ic 0 1),
  (1, o_ist 2 1),
  (2, o_ic 0 1),
  (3, o_ist 3 1),
  (4, o_ild 3 1),
  (5, o_ald 0 1),
  (6, o_gR K 4 2),
  (9, o_gI K 0 12),
  (12, o_cmpge 39),
  (15, o_ild 2 1),
  (16, o_ald 0 1),
  (17, o_gF K 4 0),
  (20, o_gF K 5 1),
  (23, o_ild 3 1),
  (24, o_iald K),
  (25, o_ild 1 1),
  (26, o_ishr),
  (27, o_ic 1 1),
  (28, o_iand),
  (29, o_ild 3 1),
  (30, o_ishl),
  (31, o_ior),
  (32, o_ist 2 1),
  (33, o_inc 3 1),
  (36, o_goto 4),
  (39, o_ild 2 1),
  (40, o_iret)]
noncomputable def f_X4_readersOf (K : Sh_) : Fn_ := fn_ (P_X4_readersOf K) 4
set_option maxRecDepth 100000 in
theorem a_X4_readersOf {l : Launch} {E : En_} (hE : EOK_ E)   : All_ (Snd_ l E yX4_readersOf.cls cX4_readersOf 4 (some .int) (.code yX4_readersOf cX4_readersOf 4 (some .int) :: G_) (rm_ 1)) (P_X4_readersOf E.2.2.2.1 ) :=
  all_c (s_iconst (n := 0) (by decide +kernel) (by decide))
  <| all_c (s_ist_n (q := 2) (by decide +kernel) rfl)
  <| all_c (s_iconst (n := 0) (by decide +kernel) (by decide))
  <| all_c (s_ist_n (q := 3) (by decide +kernel) rfl)
  <| all_c (s_ild_n (q := 3) (by decide +kernel) rfl)
  <| all_c (s_ald_n (q := 0) (by decide +kernel) rfl)
  <| all_c (g_4_2 (by decide +kernel) fl_RX4_24)
  <| all_c (g_0_12 (by decide +kernel) fl_RX4_71)
  <| all_c (s_cmpge (off := 27) (by decide +kernel) (by decide))
  <| all_c (s_ild_n (q := 2) (by decide +kernel) rfl)
  <| all_c (s_ald_n (q := 0) (by decide +kernel) rfl)
  <| all_c (g_4_0 (by decide +kernel) fl_RX4_14)
  <| all_c (g_5_1 (by decide +kernel) fl_RX4_120)
  <| all_c (s_ild_n (q := 3) (by decide +kernel) rfl)
  <| all_c (s_iald (by decide +kernel))
  <| all_c (s_ild_n (q := 1) (by decide +kernel) rfl)
  <| all_c (s_ishr (by decide +kernel))
  <| all_c (s_iconst (n := 1) (by decide +kernel) (by decide))
  <| all_c (s_iand (by decide +kernel))
  <| all_c (s_ild_n (q := 3) (by decide +kernel) rfl)
  <| all_c (s_ishl (by decide +kernel))
  <| all_c (s_ior (by decide +kernel))
  <| all_c (s_ist_n (q := 2) (by decide +kernel) rfl)
  <| all_c (s_inc (n := 1) (by decide +kernel) (by decide))
  <| all_c (s_goto (off := (-32)) (by decide +kernel) (by decide))
  <| all_c (s_ild_n (q := 2) (by decide +kernel) rfl)
  <| all_c (s_iret (by decide +kernel) rfl)
  <| all_n
theorem t_X4_readersOf {l : Launch} {E : En_} (hE : EOK_ E) : Good_ l E yX4_readersOf (.code yX4_readersOf cX4_readersOf 4 (some .int) :: G_) (rm_ 1) (f_X4_readersOf E.2.2.2.1) := good_all hE (by decide +kernel) (a_X4_readersOf hE)
noncomputable def P_X4_addSecondReadings (K : Sh_)  : List (Nat × Op_) := [(0, o_ic 0 1),
  (1, o_ist 2 1),
  (2, o_ic 0 1),
  (3, o_aft [4, 5] (o_ist 3 1)),
  (4, o_ild 3 1),
  (5, o_ild 1 1),
  (6, o_cmpge 69),
  (9, o_ild 3 1),
  (10, o_ald 0 1),
  (11, o_gR K 4 2),
  (14, o_gI K 0 11),
  (17, o_cmpge 69),
  (20, o_ald 0 1),
  (21, o_ild 2 1),
  (22, o_callV K 4 (f_X4_mostWorth K) 1),
  (25, o_ist 4 2),
  (27, o_ild 2 1),
  (28, o_ic 1 1),
  (29, o_ild 4 2),
  (31, o_ishl),
  (32, o_ior),
  (33, o_ist 2 1),
  (34, o_ald 0 1),
  (35, o_ald 0 1),
  (36, o_ild 4 2),
  (38, o_callV K 4 (f_X4_readersOf K) 1),
  (41, o_callV K 4 (f_X4_mostLeft K) 1),
  (44, o_ist 5 2),
  (46, o_ild 5 2),
  (48, o_ic (-1) 1),
  (49, o_cmpeq 63),
  (52, o_ald 0 1),
  (53, o_ild 5 2),
  (55, o_ild 4 2),
  (57, o_ic 0 1),
  (58, o_ic 0 1),
  (59, o_callV K 4 (f_X4_tryAct K) 4),
  (62, o_pop),
  (63, o_inc 3 1),
  (66, o_aft [4, 5] (o_goto 4)),
  (69, o_vret)]
noncomputable def f_X4_addSecondReadings (K : Sh_) : Fn_ := fn_ (P_X4_addSecondReadings K) 6
set_option maxRecDepth 100000 in
theorem a_X4_addSecondReadings {l : Launch} {E : En_} (hE : EOK_ E)   : All_ (Snd_ l E yX4_addSecondReadings.cls cX4_addSecondReadings 6 (none) (.code yX4_addSecondReadings cX4_addSecondReadings 6 (none) :: G_) (rm_ 5)) (P_X4_addSecondReadings E.2.2.2.1 ) :=
  all_c (s_iconst (n := 0) (by decide +kernel) (by decide))
  <| all_c (s_ist_n (q := 2) (by decide +kernel) rfl)
  <| all_c (s_iconst (n := 0) (by decide +kernel) (by decide))
  <| all_c (s_aft (s_ist_n (q := 3) (by decide +kernel) rfl))
  <| all_c (s_ild_n (q := 3) (by decide +kernel) rfl)
  <| all_c (s_ild_n (q := 1) (by decide +kernel) rfl)
  <| all_c (s_cmpge (off := 63) (by decide +kernel) (by decide))
  <| all_c (s_ild_n (q := 3) (by decide +kernel) rfl)
  <| all_c (s_ald_n (q := 0) (by decide +kernel) rfl)
  <| all_c (g_4_2 (by decide +kernel) fl_RX4_24)
  <| all_c (g_0_11 (by decide +kernel) fl_RX4_77)
  <| all_c (s_cmpge (off := 52) (by decide +kernel) (by decide))
  <| all_c (s_ald_n (q := 0) (by decide +kernel) rfl)
  <| all_c (s_ild_n (q := 2) (by decide +kernel) rfl)
  <| all_c (s_callV (by decide +kernel) (t_X4_mostWorth hE) cl_X4_mostWorth ml_RX4_111 im_X4_mostWorth se_X4_mostWorth (by decide) rfl (rm_lt (by decide)))
  <| all_c (s_ist (by decide +kernel))
  <| all_c (s_ild_n (q := 2) (by decide +kernel) rfl)
  <| all_c (s_iconst (n := 1) (by decide +kernel) (by decide))
  <| all_c (s_ild (by decide +kernel))
  <| all_c (s_ishl (by decide +kernel))
  <| all_c (s_ior (by decide +kernel))
  <| all_c (s_ist_n (q := 2) (by decide +kernel) rfl)
  <| all_c (s_ald_n (q := 0) (by decide +kernel) rfl)
  <| all_c (s_ald_n (q := 0) (by decide +kernel) rfl)
  <| all_c (s_ild (by decide +kernel))
  <| all_c (s_callV (by decide +kernel) (t_X4_readersOf hE) cl_X4_readersOf ml_RX4_114 im_X4_readersOf se_X4_readersOf (by decide) rfl (rm_lt (by decide)))
  <| all_c (s_callV (by decide +kernel) (t_X4_mostLeft hE) cl_X4_mostLeft ml_RX4_87 im_X4_mostLeft se_X4_mostLeft (by decide) rfl (rm_lt (by decide)))
  <| all_c (s_ist (by decide +kernel))
  <| all_c (s_ild (by decide +kernel))
  <| all_c (s_iconst (n := (-1)) (by decide +kernel) (by decide))
  <| all_c (s_cmpeq (off := 14) (by decide +kernel) (by decide))
  <| all_c (s_ald_n (q := 0) (by decide +kernel) rfl)
  <| all_c (s_ild (by decide +kernel))
  <| all_c (s_ild (by decide +kernel))
  <| all_c (s_iconst (n := 0) (by decide +kernel) (by decide))
  <| all_c (s_iconst (n := 0) (by decide +kernel) (by decide))
  <| all_c (s_callV (by decide +kernel) (t_X4_tryAct hE) cl_X4_tryAct ml_RX4_80 im_X4_tryAct se_X4_tryAct (by decide) rfl (rm_lt (by decide)))
  <| all_c (s_pop (by decide +kernel))
  <| all_c (s_inc (n := 1) (by decide +kernel) (by decide))
  <| all_c (s_aft (s_goto (off := (-62)) (by decide +kernel) (by decide)))
  <| all_c (s_vret (by decide +kernel) rfl)
  <| all_n
theorem t_X4_addSecondReadings {l : Launch} {E : En_} (hE : EOK_ E) : Good_ l E yX4_addSecondReadings (.code yX4_addSecondReadings cX4_addSecondReadings 6 (none) :: G_) (rm_ 5) (f_X4_addSecondReadings E.2.2.2.1) := good_all hE (by decide +kernel) (a_X4_addSecondReadings hE)
noncomputable def P_X4_fill (K : Sh_)  : List (Nat × Op_) := [(0, o_ild 1 1),
  (1, o_ic 1 1),
  (2, o_cmpne 11),
  (5, o_ald 0 1),
  (6, o_ild 2 1),
  (7, o_callV K 4 (f_X4_addParts K) 1),
  (10, o_vret),
  (11, o_ald 0 1),
  (12, o_callV K 4 (f_X4_addRows K) 0),
  (15, o_ild 1 1),
  (16, o_tsw 2 4 68 [44, 52, 60]),
  (44, o_ald 0 1),
  (45, o_ild 2 1),
  (46, o_callV K 4 (f_X4_addSecondReadings K) 1),
  (49, o_goto 68),
  (52, o_ald 0 1),
  (53, o_ild 2 1),
  (54, o_callV K 4 (f_X4_addChains K) 1),
  (57, o_goto 68),
  (60, o_ald 0 1),
  (61, o_ild 2 1),
  (62, o_callV K 4 (f_X4_addRounds K) 1),
  (65, o_goto 68),
  (68, o_vret)]
noncomputable def f_X4_fill (K : Sh_) : Fn_ := fn_ (P_X4_fill K) 3
set_option maxRecDepth 100000 in
theorem a_X4_fill {l : Launch} {E : En_} (hE : EOK_ E)   : All_ (Snd_ l E yX4_fill.cls cX4_fill 3 (none) (.code yX4_fill cX4_fill 3 (none) :: G_) (rm_ 7)) (P_X4_fill E.2.2.2.1 ) :=
  all_c (s_ild_n (q := 1) (by decide +kernel) rfl)
  <| all_c (s_iconst (n := 1) (by decide +kernel) (by decide))
  <| all_c (s_cmpne (off := 9) (by decide +kernel) (by decide))
  <| all_c (s_ald_n (q := 0) (by decide +kernel) rfl)
  <| all_c (s_ild_n (q := 2) (by decide +kernel) rfl)
  <| all_c (s_callV (by decide +kernel) (t_X4_addParts hE) cl_X4_addParts ml_RX4_40 im_X4_addParts se_X4_addParts (by decide) rfl (rm_lt (by decide)))
  <| all_c (s_vret (by decide +kernel) rfl)
  <| all_c (s_ald_n (q := 0) (by decide +kernel) rfl)
  <| all_c (s_callV (by decide +kernel) (t_X4_addRows hE) cl_X4_addRows ml_RX4_44 im_X4_addRows se_X4_addRows (by decide) rfl (rm_lt (by decide)))
  <| all_c (s_ild_n (q := 1) (by decide +kernel) rfl)
  <| all_c (s_tsw (df := 52) (offs := #[28, 36, 44]) (n := 28) (by decide +kernel) (by decide) (by decide))
  <| all_c (s_ald_n (q := 0) (by decide +kernel) rfl)
  <| all_c (s_ild_n (q := 2) (by decide +kernel) rfl)
  <| all_c (s_callV (by decide +kernel) (t_X4_addSecondReadings hE) cl_X4_addSecondReadings ml_RX4_47 im_X4_addSecondReadings se_X4_addSecondReadings (by decide) rfl (rm_lt (by decide)))
  <| all_c (s_goto (off := 19) (by decide +kernel) (by decide))
  <| all_c (s_ald_n (q := 0) (by decide +kernel) rfl)
  <| all_c (s_ild_n (q := 2) (by decide +kernel) rfl)
  <| all_c (s_callV (by decide +kernel) (t_X4_addChains hE) cl_X4_addChains ml_RX4_50 im_X4_addChains se_X4_addChains (by decide) rfl (rm_lt (by decide)))
  <| all_c (s_goto (off := 11) (by decide +kernel) (by decide))
  <| all_c (s_ald_n (q := 0) (by decide +kernel) rfl)
  <| all_c (s_ild_n (q := 2) (by decide +kernel) rfl)
  <| all_c (s_callV (by decide +kernel) (t_X4_addRounds hE) cl_X4_addRounds ml_RX4_53 im_X4_addRounds se_X4_addRounds (by decide) rfl (rm_lt (by decide)))
  <| all_c (s_goto (off := 3) (by decide +kernel) (by decide))
  <| all_c (s_vret (by decide +kernel) rfl)
  <| all_n
theorem t_X4_fill {l : Launch} {E : En_} (hE : EOK_ E) : Good_ l E yX4_fill (.code yX4_fill cX4_fill 3 (none) :: G_) (rm_ 7) (f_X4_fill E.2.2.2.1) := good_all hE (by decide +kernel) (a_X4_fill hE)
noncomputable def P_X4_draw (K : Sh_)  : List (Nat × Op_) := [(0, o_ald 0 1),
  (1, o_ald 0 1),
  (2, o_gI K 4 4),
  (5, o_ic 1103515245 2),
  (7, o_imul),
  (8, o_ic 12345 3),
  (11, o_iadd),
  (12, o_pI K 4 4),
  (15, o_ild 1 1),
  (16, o_ic 1 1),
  (17, o_cmpge 24),
  (20, o_ic 0 1),
  (21, o_goto 33),
  (24, o_ald 0 1),
  (25, o_gI K 4 4),
  (28, o_ic 8 2),
  (30, o_iushr),
  (31, o_ild 1 1),
  (32, o_irem),
  (33, o_iret)]
noncomputable def f_X4_draw (K : Sh_) : Fn_ := fn_ (P_X4_draw K) 2
set_option maxRecDepth 100000 in
theorem a_X4_draw {l : Launch} {E : En_} (hE : EOK_ E)   : All_ (Snd_ l E yX4_draw.cls cX4_draw 2 (some .int) (.code yX4_draw cX4_draw 2 (some .int) :: G_) (rm_ 1)) (P_X4_draw E.2.2.2.1 ) :=
  all_c (s_ald_n (q := 0) (by decide +kernel) rfl)
  <| all_c (s_ald_n (q := 0) (by decide +kernel) rfl)
  <| all_c (g_4_4 (by decide +kernel) fl_RX4_132)
  <| all_c (s_ldc (by decide +kernel) (G_w kk_RX4_138))
  <| all_c (s_imul (by decide +kernel))
  <| all_c (s_sipush (n := 12345) (by decide +kernel) (by decide))
  <| all_c (s_iadd (by decide +kernel))
  <| all_c (p_4_4 (by decide +kernel) fl_RX4_132)
  <| all_c (s_ild_n (q := 1) (by decide +kernel) rfl)
  <| all_c (s_iconst (n := 1) (by decide +kernel) (by decide))
  <| all_c (s_cmpge (off := 7) (by decide +kernel) (by decide))
  <| all_c (s_iconst (n := 0) (by decide +kernel) (by decide))
  <| all_c (s_goto (off := 12) (by decide +kernel) (by decide))
  <| all_c (s_ald_n (q := 0) (by decide +kernel) rfl)
  <| all_c (g_4_4 (by decide +kernel) fl_RX4_132)
  <| all_c (s_bipush (n := 8) (by decide +kernel) (by decide))
  <| all_c (s_iushr (by decide +kernel))
  <| all_c (s_ild_n (q := 1) (by decide +kernel) rfl)
  <| all_c (s_irem (by decide +kernel))
  <| all_c (s_iret (by decide +kernel) rfl)
  <| all_n
theorem t_X4_draw {l : Launch} {E : En_} (hE : EOK_ E) : Good_ l E yX4_draw (.code yX4_draw cX4_draw 2 (some .int) :: G_) (rm_ 1) (f_X4_draw E.2.2.2.1) := good_all hE (by decide +kernel) (a_X4_draw hE)
noncomputable def P_X4_drawActs (K : Sh_)  : List (Nat × Op_) := [(0, o_ald 0 1),
  (1, o_ild 2 1),
  (2, o_pI K 4 4),
  (5, o_ic 0 1),
  (6, o_aft [4, 5] (o_ist 3 1)),
  (7, o_ild 3 1),
  (8, o_ild 1 1),
  (9, o_cmpge 110),
  (12, o_ild 3 1),
  (13, o_ic 60 2),
  (15, o_cmpge 110),
  (18, o_ald 0 1),
  (19, o_ald 0 1),
  (20, o_gR K 4 2),
  (23, o_gI K 0 12),
  (26, o_callV K 4 (f_X4_draw K) 1),
  (29, o_ist 4 2),
  (31, o_ald 0 1),
  (32, o_ald 0 1),
  (33, o_gR K 4 2),
  (36, o_gI K 0 11),
  (39, o_callV K 4 (f_X4_draw K) 1),
  (42, o_ist 5 2),
  (44, o_ald 0 1),
  (45, o_ic 4 1),
  (46, o_callV K 4 (f_X4_draw K) 1),
  (49, o_ifne 91),
  (52, o_ald 0 1),
  (53, o_gR K 4 3),
  (56, o_ild 4 2),
  (58, o_ild 5 2),
  (60, o_ic 1 1),
  (61, o_ald 0 1),
  (62, o_ic 4 1),
  (63, o_callV K 4 (f_X4_draw K) 1),
  (66, o_iadd),
  (67, o_ic 1 1),
  (68, o_ald 0 1),
  (69, o_gR K 4 2),
  (72, o_gI K 0 12),
  (75, o_ishl),
  (76, o_ic 1 1),
  (77, o_isub),
  (78, o_ic 1 1),
  (79, o_ild 4 2),
  (81, o_ishl),
  (82, o_ic (-1) 1),
  (83, o_ixor),
  (84, o_iand),
  (85, o_callV K 6 (f_X6_add K) 4),
  (88, o_goto 104),
  (91, o_ald 0 1),
  (92, o_gR K 4 3),
  (95, o_ild 4 2),
  (97, o_ild 5 2),
  (99, o_ic 0 1),
  (100, o_ic 0 1),
  (101, o_callV K 6 (f_X6_add K) 4),
  (104, o_inc 3 1),
  (107, o_aft [4, 5] (o_goto 7)),
  (110, o_vret)]
noncomputable def f_X4_drawActs (K : Sh_) : Fn_ := fn_ (P_X4_drawActs K) 6
set_option maxRecDepth 100000 in
theorem a_X4_drawActs {l : Launch} {E : En_} (hE : EOK_ E)   : All_ (Snd_ l E yX4_drawActs.cls cX4_drawActs 6 (none) (.code yX4_drawActs cX4_drawActs 6 (none) :: G_) (rm_ 3)) (P_X4_drawActs E.2.2.2.1 ) :=
  all_c (s_ald_n (q := 0) (by decide +kernel) rfl)
  <| all_c (s_ild_n (q := 2) (by decide +kernel) rfl)
  <| all_c (p_4_4 (by decide +kernel) fl_RX4_132)
  <| all_c (s_iconst (n := 0) (by decide +kernel) (by decide))
  <| all_c (s_aft (s_ist_n (q := 3) (by decide +kernel) rfl))
  <| all_c (s_ild_n (q := 3) (by decide +kernel) rfl)
  <| all_c (s_ild_n (q := 1) (by decide +kernel) rfl)
  <| all_c (s_cmpge (off := 101) (by decide +kernel) (by decide))
  <| all_c (s_ild_n (q := 3) (by decide +kernel) rfl)
  <| all_c (s_bipush (n := 60) (by decide +kernel) (by decide))
  <| all_c (s_cmpge (off := 95) (by decide +kernel) (by decide))
  <| all_c (s_ald_n (q := 0) (by decide +kernel) rfl)
  <| all_c (s_ald_n (q := 0) (by decide +kernel) rfl)
  <| all_c (g_4_2 (by decide +kernel) fl_RX4_24)
  <| all_c (g_0_12 (by decide +kernel) fl_RX4_71)
  <| all_c (s_callV (by decide +kernel) (t_X4_draw hE) cl_X4_draw ml_RX4_135 im_X4_draw se_X4_draw (by decide) rfl (rm_lt (by decide)))
  <| all_c (s_ist (by decide +kernel))
  <| all_c (s_ald_n (q := 0) (by decide +kernel) rfl)
  <| all_c (s_ald_n (q := 0) (by decide +kernel) rfl)
  <| all_c (g_4_2 (by decide +kernel) fl_RX4_24)
  <| all_c (g_0_11 (by decide +kernel) fl_RX4_77)
  <| all_c (s_callV (by decide +kernel) (t_X4_draw hE) cl_X4_draw ml_RX4_135 im_X4_draw se_X4_draw (by decide) rfl (rm_lt (by decide)))
  <| all_c (s_ist (by decide +kernel))
  <| all_c (s_ald_n (q := 0) (by decide +kernel) rfl)
  <| all_c (s_iconst (n := 4) (by decide +kernel) (by decide))
  <| all_c (s_callV (by decide +kernel) (t_X4_draw hE) cl_X4_draw ml_RX4_135 im_X4_draw se_X4_draw (by decide) rfl (rm_lt (by decide)))
  <| all_c (s_ifne (off := 42) (by decide +kernel) (by decide))
  <| all_c (s_ald_n (q := 0) (by decide +kernel) rfl)
  <| all_c (g_4_3 (by decide +kernel) fl_RX4_28)
  <| all_c (s_ild (by decide +kernel))
  <| all_c (s_ild (by decide +kernel))
  <| all_c (s_iconst (n := 1) (by decide +kernel) (by decide))
  <| all_c (s_ald_n (q := 0) (by decide +kernel) rfl)
  <| all_c (s_iconst (n := 4) (by decide +kernel) (by decide))
  <| all_c (s_callV (by decide +kernel) (t_X4_draw hE) cl_X4_draw ml_RX4_135 im_X4_draw se_X4_draw (by decide) rfl (rm_lt (by decide)))
  <| all_c (s_iadd (by decide +kernel))
  <| all_c (s_iconst (n := 1) (by decide +kernel) (by decide))
  <| all_c (s_ald_n (q := 0) (by decide +kernel) rfl)
  <| all_c (g_4_2 (by decide +kernel) fl_RX4_24)
  <| all_c (g_0_12 (by decide +kernel) fl_RX4_71)
  <| all_c (s_ishl (by decide +kernel))
  <| all_c (s_iconst (n := 1) (by decide +kernel) (by decide))
  <| all_c (s_isub (by decide +kernel))
  <| all_c (s_iconst (n := 1) (by decide +kernel) (by decide))
  <| all_c (s_ild (by decide +kernel))
  <| all_c (s_ishl (by decide +kernel))
  <| all_c (s_iconst (n := (-1)) (by decide +kernel) (by decide))
  <| all_c (s_ixor (by decide +kernel))
  <| all_c (s_iand (by decide +kernel))
  <| all_c (s_callV (by decide +kernel) (t_X6_add hE) cl_X6_add ml_RX4_68 im_X6_add se_X6_add (by decide) rfl (rm_lt (by decide)))
  <| all_c (s_goto (off := 16) (by decide +kernel) (by decide))
  <| all_c (s_ald_n (q := 0) (by decide +kernel) rfl)
  <| all_c (g_4_3 (by decide +kernel) fl_RX4_28)
  <| all_c (s_ild (by decide +kernel))
  <| all_c (s_ild (by decide +kernel))
  <| all_c (s_iconst (n := 0) (by decide +kernel) (by decide))
  <| all_c (s_iconst (n := 0) (by decide +kernel) (by decide))
  <| all_c (s_callV (by decide +kernel) (t_X6_add hE) cl_X6_add ml_RX4_68 im_X6_add se_X6_add (by decide) rfl (rm_lt (by decide)))
  <| all_c (s_inc (n := 1) (by decide +kernel) (by decide))
  <| all_c (s_aft (s_goto (off := (-100)) (by decide +kernel) (by decide)))
  <| all_c (s_vret (by decide +kernel) rfl)
  <| all_n
theorem t_X4_drawActs {l : Launch} {E : En_} (hE : EOK_ E) : Good_ l E yX4_drawActs (.code yX4_drawActs cX4_drawActs 6 (none) :: G_) (rm_ 3) (f_X4_drawActs E.2.2.2.1) := good_all hE (by decide +kernel) (a_X4_drawActs hE)
noncomputable def P_X5_follow (K : Sh_)  : List (Nat × Op_) := [(0, o_ic 0 1),
  (1, o_ist 2 1),
  (2, o_ild 2 1),
  (3, o_ald 1 1),
  (4, o_gI K 6 4),
  (7, o_cmpge 95),
  (10, o_ild 2 1),
  (11, o_ic 100 2),
  (13, o_cmpge 95),
  (16, o_ald 0 1),
  (17, o_ald 0 1),
  (18, o_ald 1 1),
  (19, o_gF K 6 0),
  (22, o_ild 2 1),
  (23, o_iald K),
  (24, o_ald 1 1),
  (25, o_gF K 6 1),
  (28, o_ild 2 1),
  (29, o_iald K),
  (30, o_ald 1 1),
  (31, o_gF K 6 2),
  (34, o_ild 2 1),
  (35, o_iald K),
  (36, o_ald 1 1),
  (37, o_gF K 6 3),
  (40, o_ild 2 1),
  (41, o_iald K),
  (42, o_callV K 5 (f_X5_wrongOf K) 4),
  (45, o_pI K 5 5),
  (48, o_ald 0 1),
  (49, o_gI K 5 5),
  (52, o_ifeq 61),
  (55, o_ald 0 1),
  (56, o_ild 2 1),
  (57, o_pI K 5 4),
  (60, o_vret),
  (61, o_ald 0 1),
  (62, o_ald 1 1),
  (63, o_gF K 6 0),
  (66, o_ild 2 1),
  (67, o_iald K),
  (68, o_ald 1 1),
  (69, o_gF K 6 1),
  (72, o_ild 2 1),
  (73, o_iald K),
  (74, o_ald 1 1),
  (75, o_gF K 6 2),
  (78, o_ild 2 1),
  (79, o_iald K),
  (80, o_ald 1 1),
  (81, o_gF K 6 3),
  (84, o_ild 2 1),
  (85, o_iald K),
  (86, o_callV K 5 (f_X5_perform K) 4),
  (89, o_inc 2 1),
  (92, o_goto 2),
  (95, o_vret)]
noncomputable def f_X5_follow (K : Sh_) : Fn_ := fn_ (P_X5_follow K) 3
set_option maxRecDepth 100000 in
theorem a_X5_follow {l : Launch} {E : En_} (hE : EOK_ E)   : All_ (Snd_ l E yX5_follow.cls cX5_follow 3 (none) (.code yX5_follow cX5_follow 3 (none) :: G_) (rm_ 4)) (P_X5_follow E.2.2.2.1 ) :=
  all_c (s_iconst (n := 0) (by decide +kernel) (by decide))
  <| all_c (s_ist_n (q := 2) (by decide +kernel) rfl)
  <| all_c (s_ild_n (q := 2) (by decide +kernel) rfl)
  <| all_c (s_ald_n (q := 1) (by decide +kernel) rfl)
  <| all_c (g_6_4 (by decide +kernel) fl_RX5_43)
  <| all_c (s_cmpge (off := 88) (by decide +kernel) (by decide))
  <| all_c (s_ild_n (q := 2) (by decide +kernel) rfl)
  <| all_c (s_bipush (n := 100) (by decide +kernel) (by decide))
  <| all_c (s_cmpge (off := 82) (by decide +kernel) (by decide))
  <| all_c (s_ald_n (q := 0) (by decide +kernel) rfl)
  <| all_c (s_ald_n (q := 0) (by decide +kernel) rfl)
  <| all_c (s_ald_n (q := 1) (by decide +kernel) rfl)
  <| all_c (g_6_0 (by decide +kernel) fl_RX5_48)
  <| all_c (s_ild_n (q := 2) (by decide +kernel) rfl)
  <| all_c (s_iald (by decide +kernel))
  <| all_c (s_ald_n (q := 1) (by decide +kernel) rfl)
  <| all_c (g_6_1 (by decide +kernel) fl_RX5_51)
  <| all_c (s_ild_n (q := 2) (by decide +kernel) rfl)
  <| all_c (s_iald (by decide +kernel))
  <| all_c (s_ald_n (q := 1) (by decide +kernel) rfl)
  <| all_c (g_6_2 (by decide +kernel) fl_RX5_54)
  <| all_c (s_ild_n (q := 2) (by decide +kernel) rfl)
  <| all_c (s_iald (by decide +kernel))
  <| all_c (s_ald_n (q := 1) (by decide +kernel) rfl)
  <| all_c (g_6_3 (by decide +kernel) fl_RX5_57)
  <| all_c (s_ild_n (q := 2) (by decide +kernel) rfl)
  <| all_c (s_iald (by decide +kernel))
  <| all_c (s_callV (by decide +kernel) (t_X5_wrongOf hE) cl_X5_wrongOf ml_RX5_60 im_X5_wrongOf se_X5_wrongOf (by decide) rfl (rm_lt (by decide)))
  <| all_c (p_5_5 (by decide +kernel) fl_RX5_40)
  <| all_c (s_ald_n (q := 0) (by decide +kernel) rfl)
  <| all_c (g_5_5 (by decide +kernel) fl_RX5_40)
  <| all_c (s_ifeq (off := 9) (by decide +kernel) (by decide))
  <| all_c (s_ald_n (q := 0) (by decide +kernel) rfl)
  <| all_c (s_ild_n (q := 2) (by decide +kernel) rfl)
  <| all_c (p_5_4 (by decide +kernel) fl_RX5_24)
  <| all_c (s_vret (by decide +kernel) rfl)
  <| all_c (s_ald_n (q := 0) (by decide +kernel) rfl)
  <| all_c (s_ald_n (q := 1) (by decide +kernel) rfl)
  <| all_c (g_6_0 (by decide +kernel) fl_RX5_48)
  <| all_c (s_ild_n (q := 2) (by decide +kernel) rfl)
  <| all_c (s_iald (by decide +kernel))
  <| all_c (s_ald_n (q := 1) (by decide +kernel) rfl)
  <| all_c (g_6_1 (by decide +kernel) fl_RX5_51)
  <| all_c (s_ild_n (q := 2) (by decide +kernel) rfl)
  <| all_c (s_iald (by decide +kernel))
  <| all_c (s_ald_n (q := 1) (by decide +kernel) rfl)
  <| all_c (g_6_2 (by decide +kernel) fl_RX5_54)
  <| all_c (s_ild_n (q := 2) (by decide +kernel) rfl)
  <| all_c (s_iald (by decide +kernel))
  <| all_c (s_ald_n (q := 1) (by decide +kernel) rfl)
  <| all_c (g_6_3 (by decide +kernel) fl_RX5_57)
  <| all_c (s_ild_n (q := 2) (by decide +kernel) rfl)
  <| all_c (s_iald (by decide +kernel))
  <| all_c (s_callV (by decide +kernel) (t_X5_perform hE) cl_X5_perform ml_RX5_64 im_X5_perform se_X5_perform (by decide) rfl (rm_lt (by decide)))
  <| all_c (s_inc (n := 1) (by decide +kernel) (by decide))
  <| all_c (s_goto (off := (-90)) (by decide +kernel) (by decide))
  <| all_c (s_vret (by decide +kernel) rfl)
  <| all_n
theorem t_X5_follow {l : Launch} {E : En_} (hE : EOK_ E) : Good_ l E yX5_follow (.code yX5_follow cX5_follow 3 (none) :: G_) (rm_ 4) (f_X5_follow E.2.2.2.1) := good_all hE (by decide +kernel) (a_X5_follow hE)
noncomputable def P_X5_sent (K : Sh_)  : List (Nat × Op_) := [(0, o_ic (-1) 1),
  (1, o_ist 1 1),
  (2, o_ic (-1) 1),
  (3, o_ist 2 1),
  (4, o_ic 0 1),
  (5, o_aft [4] (o_ist 3 1)),
  (6, o_ild 3 1),
  (7, o_ald 0 1),
  (8, o_gR K 5 9),
  (11, o_gI K 0 12),
  (14, o_cmpge 41),
  (17, o_ald 0 1),
  (18, o_ild 3 1),
  (19, o_callV K 5 (f_X5_inAll K) 1),
  (22, o_ist 4 2),
  (24, o_ild 4 2),
  (26, o_ild 2 1),
  (27, o_cmple 35),
  (30, o_ild 4 2),
  (32, o_ist 2 1),
  (33, o_ild 3 1),
  (34, o_ist 1 1),
  (35, o_inc 3 1),
  (38, o_aft [4] (o_goto 6)),
  (41, o_ild 1 1),
  (42, o_iret)]
noncomputable def f_X5_sent (K : Sh_) : Fn_ := fn_ (P_X5_sent K) 5
set_option maxRecDepth 100000 in
theorem a_X5_sent {l : Launch} {E : En_} (hE : EOK_ E)   : All_ (Snd_ l E yX5_sent.cls cX5_sent 5 (some .int) (.code yX5_sent cX5_sent 5 (some .int) :: G_) (rm_ 3)) (P_X5_sent E.2.2.2.1 ) :=
  all_c (s_iconst (n := (-1)) (by decide +kernel) (by decide))
  <| all_c (s_ist_n (q := 1) (by decide +kernel) rfl)
  <| all_c (s_iconst (n := (-1)) (by decide +kernel) (by decide))
  <| all_c (s_ist_n (q := 2) (by decide +kernel) rfl)
  <| all_c (s_iconst (n := 0) (by decide +kernel) (by decide))
  <| all_c (s_aft (s_ist_n (q := 3) (by decide +kernel) rfl))
  <| all_c (s_ild_n (q := 3) (by decide +kernel) rfl)
  <| all_c (s_ald_n (q := 0) (by decide +kernel) rfl)
  <| all_c (g_5_9 (by decide +kernel) fl_RX5_28)
  <| all_c (g_0_12 (by decide +kernel) fl_RX5_32)
  <| all_c (s_cmpge (off := 27) (by decide +kernel) (by decide))
  <| all_c (s_ald_n (q := 0) (by decide +kernel) rfl)
  <| all_c (s_ild_n (q := 3) (by decide +kernel) rfl)
  <| all_c (s_callV (by decide +kernel) (t_X5_inAll hE) cl_X5_inAll ml_RX5_112 im_X5_inAll se_X5_inAll (by decide) rfl (rm_lt (by decide)))
  <| all_c (s_ist (by decide +kernel))
  <| all_c (s_ild (by decide +kernel))
  <| all_c (s_ild_n (q := 2) (by decide +kernel) rfl)
  <| all_c (s_cmple (off := 8) (by decide +kernel) (by decide))
  <| all_c (s_ild (by decide +kernel))
  <| all_c (s_ist_n (q := 2) (by decide +kernel) rfl)
  <| all_c (s_ild_n (q := 3) (by decide +kernel) rfl)
  <| all_c (s_ist_n (q := 1) (by decide +kernel) rfl)
  <| all_c (s_inc (n := 1) (by decide +kernel) (by decide))
  <| all_c (s_aft (s_goto (off := (-32)) (by decide +kernel) (by decide)))
  <| all_c (s_ild_n (q := 1) (by decide +kernel) rfl)
  <| all_c (s_iret (by decide +kernel) rfl)
  <| all_n
theorem t_X5_sent {l : Launch} {E : En_} (hE : EOK_ E) : Good_ l E yX5_sent (.code yX5_sent cX5_sent 5 (some .int) :: G_) (rm_ 3) (f_X5_sent E.2.2.2.1) := good_all hE (by decide +kernel) (a_X5_sent hE)
noncomputable def P_X5_unreadMusts (K : Sh_)  : List (Nat × Op_) := [(0, o_ic 0 1),
  (1, o_ist 1 1),
  (2, o_ic 0 1),
  (3, o_aft [3] (o_ist 2 1)),
  (4, o_ild 2 1),
  (5, o_ald 0 1),
  (6, o_gR K 5 9),
  (9, o_gI K 0 12),
  (12, o_cmpge 69),
  (15, o_ic 0 1),
  (16, o_ist 3 1),
  (17, o_ild 3 1),
  (18, o_ald 0 1),
  (19, o_gR K 5 9),
  (22, o_gI K 0 11),
  (25, o_cmpge 63),
  (28, o_ald 0 1),
  (29, o_gR K 5 9),
  (32, o_gF K 0 3),
  (35, o_ild 3 1),
  (36, o_iald K),
  (37, o_ic 1 1),
  (38, o_cmpne 57),
  (41, o_ald 0 1),
  (42, o_gF K 5 1),
  (45, o_ild 2 1),
  (46, o_iald K),
  (47, o_ild 3 1),
  (48, o_ishr),
  (49, o_ic 1 1),
  (50, o_iand),
  (51, o_ifne 57),
  (54, o_inc 1 1),
  (57, o_inc 3 1),
  (60, o_goto 17),
  (63, o_inc 2 1),
  (66, o_aft [3] (o_goto 4)),
  (69, o_ild 1 1),
  (70, o_iret)]
noncomputable def f_X5_unreadMusts (K : Sh_) : Fn_ := fn_ (P_X5_unreadMusts K) 4
set_option maxRecDepth 100000 in
theorem a_X5_unreadMusts {l : Launch} {E : En_} (hE : EOK_ E)   : All_ (Snd_ l E yX5_unreadMusts.cls cX5_unreadMusts 4 (some .int) (.code yX5_unreadMusts cX5_unreadMusts 4 (some .int) :: G_) (rm_ 1)) (P_X5_unreadMusts E.2.2.2.1 ) :=
  all_c (s_iconst (n := 0) (by decide +kernel) (by decide))
  <| all_c (s_ist_n (q := 1) (by decide +kernel) rfl)
  <| all_c (s_iconst (n := 0) (by decide +kernel) (by decide))
  <| all_c (s_aft (s_ist_n (q := 2) (by decide +kernel) rfl))
  <| all_c (s_ild_n (q := 2) (by decide +kernel) rfl)
  <| all_c (s_ald_n (q := 0) (by decide +kernel) rfl)
  <| all_c (g_5_9 (by decide +kernel) fl_RX5_28)
  <| all_c (g_0_12 (by decide +kernel) fl_RX5_32)
  <| all_c (s_cmpge (off := 57) (by decide +kernel) (by decide))
  <| all_c (s_iconst (n := 0) (by decide +kernel) (by decide))
  <| all_c (s_ist_n (q := 3) (by decide +kernel) rfl)
  <| all_c (s_ild_n (q := 3) (by decide +kernel) rfl)
  <| all_c (s_ald_n (q := 0) (by decide +kernel) rfl)
  <| all_c (g_5_9 (by decide +kernel) fl_RX5_28)
  <| all_c (g_0_11 (by decide +kernel) fl_RX5_106)
  <| all_c (s_cmpge (off := 38) (by decide +kernel) (by decide))
  <| all_c (s_ald_n (q := 0) (by decide +kernel) rfl)
  <| all_c (g_5_9 (by decide +kernel) fl_RX5_28)
  <| all_c (g_0_3 (by decide +kernel) fl_RX5_115)
  <| all_c (s_ild_n (q := 3) (by decide +kernel) rfl)
  <| all_c (s_iald (by decide +kernel))
  <| all_c (s_iconst (n := 1) (by decide +kernel) (by decide))
  <| all_c (s_cmpne (off := 19) (by decide +kernel) (by decide))
  <| all_c (s_ald_n (q := 0) (by decide +kernel) rfl)
  <| all_c (g_5_1 (by decide +kernel) fl_RX5_15)
  <| all_c (s_ild_n (q := 2) (by decide +kernel) rfl)
  <| all_c (s_iald (by decide +kernel))
  <| all_c (s_ild_n (q := 3) (by decide +kernel) rfl)
  <| all_c (s_ishr (by decide +kernel))
  <| all_c (s_iconst (n := 1) (by decide +kernel) (by decide))
  <| all_c (s_iand (by decide +kernel))
  <| all_c (s_ifne (off := 6) (by decide +kernel) (by decide))
  <| all_c (s_inc (n := 1) (by decide +kernel) (by decide))
  <| all_c (s_inc (n := 1) (by decide +kernel) (by decide))
  <| all_c (s_goto (off := (-43)) (by decide +kernel) (by decide))
  <| all_c (s_inc (n := 1) (by decide +kernel) (by decide))
  <| all_c (s_aft (s_goto (off := (-62)) (by decide +kernel) (by decide)))
  <| all_c (s_ild_n (q := 1) (by decide +kernel) rfl)
  <| all_c (s_iret (by decide +kernel) rfl)
  <| all_n
theorem t_X5_unreadMusts {l : Launch} {E : En_} (hE : EOK_ E) : Good_ l E yX5_unreadMusts (.code yX5_unreadMusts cX5_unreadMusts 4 (some .int) :: G_) (rm_ 1) (f_X5_unreadMusts E.2.2.2.1) := good_all hE (by decide +kernel) (a_X5_unreadMusts hE)
noncomputable def P_X5_lacking (K : Sh_)  : List (Nat × Op_) := [(0, o_ic 0 1),
  (1, o_ist 1 1),
  (2, o_ic 0 1),
  (3, o_aft [3, 4] (o_ist 2 1)),
  (4, o_ild 2 1),
  (5, o_ald 0 1),
  (6, o_gR K 5 9),
  (9, o_gI K 0 11),
  (12, o_cmpge 81),
  (15, o_ic 0 1),
  (16, o_ist 3 1),
  (17, o_ic 0 1),
  (18, o_ist 4 2),
  (20, o_ild 4 2),
  (22, o_ald 0 1),
  (23, o_gR K 5 9),
  (26, o_gI K 0 12),
  (29, o_cmpge 65),
  (32, o_ild 3 1),
  (33, o_ifne 65),
  (36, o_ald 0 1),
  (37, o_gF K 5 3),
  (40, o_ild 4 2),
  (42, o_ic 16 2),
  (44, o_imul),
  (45, o_ild 2 1),
  (46, o_iadd),
  (47, o_iald K),
  (48, o_ic 500000 2),
  (50, o_cmplt 57),
  (53, o_ic 1 1),
  (54, o_goto 58),
  (57, o_ic 0 1),
  (58, o_ist 3 1),
  (59, o_inc 4 1),
  (62, o_goto 20),
  (65, o_ild 3 1),
  (66, o_ifne 75),
  (69, o_ild 1 1),
  (70, o_ic 1 1),
  (71, o_ild 2 1),
  (72, o_ishl),
  (73, o_ior),
  (74, o_ist 1 1),
  (75, o_inc 2 1),
  (78, o_aft [3, 4] (o_goto 4)),
  (81, o_ild 1 1),
  (82, o_iret)]
noncomputable def f_X5_lacking (K : Sh_) : Fn_ := fn_ (P_X5_lacking K) 5
set_option maxRecDepth 100000 in
theorem a_X5_lacking {l : Launch} {E : En_} (hE : EOK_ E)   : All_ (Snd_ l E yX5_lacking.cls cX5_lacking 5 (some .int) (.code yX5_lacking cX5_lacking 5 (some .int) :: G_) (rm_ 1)) (P_X5_lacking E.2.2.2.1 ) :=
  all_c (s_iconst (n := 0) (by decide +kernel) (by decide))
  <| all_c (s_ist_n (q := 1) (by decide +kernel) rfl)
  <| all_c (s_iconst (n := 0) (by decide +kernel) (by decide))
  <| all_c (s_aft (s_ist_n (q := 2) (by decide +kernel) rfl))
  <| all_c (s_ild_n (q := 2) (by decide +kernel) rfl)
  <| all_c (s_ald_n (q := 0) (by decide +kernel) rfl)
  <| all_c (g_5_9 (by decide +kernel) fl_RX5_28)
  <| all_c (g_0_11 (by decide +kernel) fl_RX5_106)
  <| all_c (s_cmpge (off := 69) (by decide +kernel) (by decide))
  <| all_c (s_iconst (n := 0) (by decide +kernel) (by decide))
  <| all_c (s_ist_n (q := 3) (by decide +kernel) rfl)
  <| all_c (s_iconst (n := 0) (by decide +kernel) (by decide))
  <| all_c (s_ist (by decide +kernel))
  <| all_c (s_ild (by decide +kernel))
  <| all_c (s_ald_n (q := 0) (by decide +kernel) rfl)
  <| all_c (g_5_9 (by decide +kernel) fl_RX5_28)
  <| all_c (g_0_12 (by decide +kernel) fl_RX5_32)
  <| all_c (s_cmpge (off := 36) (by decide +kernel) (by decide))
  <| all_c (s_ild_n (q := 3) (by decide +kernel) rfl)
  <| all_c (s_ifne (off := 32) (by decide +kernel) (by decide))
  <| all_c (s_ald_n (q := 0) (by decide +kernel) rfl)
  <| all_c (g_5_3 (by decide +kernel) fl_RX5_21)
  <| all_c (s_ild (by decide +kernel))
  <| all_c (s_bipush (n := 16) (by decide +kernel) (by decide))
  <| all_c (s_imul (by decide +kernel))
  <| all_c (s_ild_n (q := 2) (by decide +kernel) rfl)
  <| all_c (s_iadd (by decide +kernel))
  <| all_c (s_iald (by decide +kernel))
  <| all_c (s_ldc (by decide +kernel) (G_w kk_RX5_118))
  <| all_c (s_cmplt (off := 7) (by decide +kernel) (by decide))
  <| all_c (s_iconst (n := 1) (by decide +kernel) (by decide))
  <| all_c (s_goto (off := 4) (by decide +kernel) (by decide))
  <| all_c (s_iconst (n := 0) (by decide +kernel) (by decide))
  <| all_c (s_ist_n (q := 3) (by decide +kernel) rfl)
  <| all_c (s_inc (n := 1) (by decide +kernel) (by decide))
  <| all_c (s_goto (off := (-42)) (by decide +kernel) (by decide))
  <| all_c (s_ild_n (q := 3) (by decide +kernel) rfl)
  <| all_c (s_ifne (off := 9) (by decide +kernel) (by decide))
  <| all_c (s_ild_n (q := 1) (by decide +kernel) rfl)
  <| all_c (s_iconst (n := 1) (by decide +kernel) (by decide))
  <| all_c (s_ild_n (q := 2) (by decide +kernel) rfl)
  <| all_c (s_ishl (by decide +kernel))
  <| all_c (s_ior (by decide +kernel))
  <| all_c (s_ist_n (q := 1) (by decide +kernel) rfl)
  <| all_c (s_inc (n := 1) (by decide +kernel) (by decide))
  <| all_c (s_aft (s_goto (off := (-74)) (by decide +kernel) (by decide)))
  <| all_c (s_ild_n (q := 1) (by decide +kernel) rfl)
  <| all_c (s_iret (by decide +kernel) rfl)
  <| all_n
theorem t_X5_lacking {l : Launch} {E : En_} (hE : EOK_ E) : Good_ l E yX5_lacking (.code yX5_lacking cX5_lacking 5 (some .int) :: G_) (rm_ 1) (f_X5_lacking E.2.2.2.1) := good_all hE (by decide +kernel) (a_X5_lacking hE)
noncomputable def P_X5_offerExtra (K : Sh_)  : List (Nat × Op_) := [(0, o_ald 0 1),
  (1, o_gR K 5 9),
  (4, o_gF K 0 2),
  (7, o_ild 2 1),
  (8, o_iald K),
  (9, o_ald 0 1),
  (10, o_gF K 5 3),
  (13, o_ild 1 1),
  (14, o_ic 16 2),
  (16, o_imul),
  (17, o_ild 2 1),
  (18, o_iadd),
  (19, o_iald K),
  (20, o_callS (f_X0_ofMillion K) 2),
  (23, o_ist 3 1),
  (24, o_ald 0 1),
  (25, o_gR K 5 9),
  (28, o_gF K 0 2),
  (31, o_ild 2 1),
  (32, o_iald K),
  (33, o_ald 0 1),
  (34, o_ild 1 1),
  (35, o_ild 2 1),
  (36, o_callV K 5 (f_X5_partsIfRead K) 2),
  (39, o_callS (f_X0_ofMillion K) 2),
  (42, o_ild 3 1),
  (43, o_isub),
  (44, o_ist 4 2),
  (46, o_ild 4 2),
  (48, o_ald 0 1),
  (49, o_gI K 5 6),
  (52, o_cmple 71),
  (55, o_ald 0 1),
  (56, o_ild 4 2),
  (58, o_pI K 5 6),
  (61, o_ald 0 1),
  (62, o_ild 1 1),
  (63, o_pI K 5 7),
  (66, o_ald 0 1),
  (67, o_ild 2 1),
  (68, o_pI K 5 8),
  (71, o_vret)]
noncomputable def f_X5_offerExtra (K : Sh_) : Fn_ := fn_ (P_X5_offerExtra K) 5
set_option maxRecDepth 100000 in
theorem a_X5_offerExtra {l : Launch} {E : En_} (hE : EOK_ E)   : All_ (Snd_ l E yX5_offerExtra.cls cX5_offerExtra 5 (none) (.code yX5_offerExtra cX5_offerExtra 5 (none) :: G_) (rm_ 3)) (P_X5_offerExtra E.2.2.2.1 ) :=
  all_c (s_ald_n (q := 0) (by decide +kernel) rfl)
  <| all_c (g_5_9 (by decide +kernel) fl_RX5_28)
  <| all_c (g_0_2 (by decide +kernel) fl_RX5_109)
  <| all_c (s_ild_n (q := 2) (by decide +kernel) rfl)
  <| all_c (s_iald (by decide +kernel))
  <| all_c (s_ald_n (q := 0) (by decide +kernel) rfl)
  <| all_c (g_5_3 (by decide +kernel) fl_RX5_21)
  <| all_c (s_ild_n (q := 1) (by decide +kernel) rfl)
  <| all_c (s_bipush (n := 16) (by decide +kernel) (by decide))
  <| all_c (s_imul (by decide +kernel))
  <| all_c (s_ild_n (q := 2) (by decide +kernel) rfl)
  <| all_c (s_iadd (by decide +kernel))
  <| all_c (s_iald (by decide +kernel))
  <| all_c (s_callS (by decide +kernel) (t_X0_ofMillion hE) cl_X0_ofMillion ml_RX5_103 sm_X0_ofMillion (rm_lt (by decide)))
  <| all_c (s_ist_n (q := 3) (by decide +kernel) rfl)
  <| all_c (s_ald_n (q := 0) (by decide +kernel) rfl)
  <| all_c (g_5_9 (by decide +kernel) fl_RX5_28)
  <| all_c (g_0_2 (by decide +kernel) fl_RX5_109)
  <| all_c (s_ild_n (q := 2) (by decide +kernel) rfl)
  <| all_c (s_iald (by decide +kernel))
  <| all_c (s_ald_n (q := 0) (by decide +kernel) rfl)
  <| all_c (s_ild_n (q := 1) (by decide +kernel) rfl)
  <| all_c (s_ild_n (q := 2) (by decide +kernel) rfl)
  <| all_c (s_callV (by decide +kernel) (t_X5_partsIfRead hE) cl_X5_partsIfRead ml_RX5_79 im_X5_partsIfRead se_X5_partsIfRead (by decide) rfl (rm_lt (by decide)))
  <| all_c (s_callS (by decide +kernel) (t_X0_ofMillion hE) cl_X0_ofMillion ml_RX5_103 sm_X0_ofMillion (rm_lt (by decide)))
  <| all_c (s_ild_n (q := 3) (by decide +kernel) rfl)
  <| all_c (s_isub (by decide +kernel))
  <| all_c (s_ist (by decide +kernel))
  <| all_c (s_ild (by decide +kernel))
  <| all_c (s_ald_n (q := 0) (by decide +kernel) rfl)
  <| all_c (g_5_6 (by decide +kernel) fl_RX5_119)
  <| all_c (s_cmple (off := 19) (by decide +kernel) (by decide))
  <| all_c (s_ald_n (q := 0) (by decide +kernel) rfl)
  <| all_c (s_ild (by decide +kernel))
  <| all_c (p_5_6 (by decide +kernel) fl_RX5_119)
  <| all_c (s_ald_n (q := 0) (by decide +kernel) rfl)
  <| all_c (s_ild_n (q := 1) (by decide +kernel) rfl)
  <| all_c (p_5_7 (by decide +kernel) fl_RX5_122)
  <| all_c (s_ald_n (q := 0) (by decide +kernel) rfl)
  <| all_c (s_ild_n (q := 2) (by decide +kernel) rfl)
  <| all_c (p_5_8 (by decide +kernel) fl_RX5_125)
  <| all_c (s_vret (by decide +kernel) rfl)
  <| all_n
theorem t_X5_offerExtra {l : Launch} {E : En_} (hE : EOK_ E) : Good_ l E yX5_offerExtra (.code yX5_offerExtra cX5_offerExtra 5 (none) :: G_) (rm_ 3) (f_X5_offerExtra E.2.2.2.1) := good_all hE (by decide +kernel) (a_X5_offerExtra hE)
noncomputable def P_X5_findExtra (K : Sh_)  : List (Nat × Op_) := [(0, o_ald 0 1),
  (1, o_ic (-1) 1),
  (2, o_pI K 5 6),
  (5, o_ald 0 1),
  (6, o_ic (-1) 1),
  (7, o_pI K 5 7),
  (10, o_ald 0 1),
  (11, o_ic (-1) 1),
  (12, o_pI K 5 8),
  (15, o_ic 0 1),
  (16, o_aft [2] (o_ist 1 1)),
  (17, o_ild 1 1),
  (18, o_ald 0 1),
  (19, o_gR K 5 9),
  (22, o_gI K 0 12),
  (25, o_cmpge 90),
  (28, o_ic 0 1),
  (29, o_ist 2 1),
  (30, o_ild 2 1),
  (31, o_ald 0 1),
  (32, o_gR K 5 9),
  (35, o_gI K 0 11),
  (38, o_cmpge 84),
  (41, o_ald 0 1),
  (42, o_gF K 5 1),
  (45, o_ild 1 1),
  (46, o_iald K),
  (47, o_ild 2 1),
  (48, o_ishr),
  (49, o_ic 1 1),
  (50, o_iand),
  (51, o_ifne 78),
  (54, o_ald 0 1),
  (55, o_gF K 5 0),
  (58, o_ild 1 1),
  (59, o_iald K),
  (60, o_ald 0 1),
  (61, o_gR K 5 9),
  (64, o_ild 1 1),
  (65, o_ild 2 1),
  (66, o_callV K 0 (f_X0_readTime K) 2),
  (69, o_cmplt 78),
  (72, o_ald 0 1),
  (73, o_ild 1 1),
  (74, o_ild 2 1),
  (75, o_callV K 5 (f_X5_offerExtra K) 2),
  (78, o_inc 2 1),
  (81, o_goto 30),
  (84, o_inc 1 1),
  (87, o_aft [2] (o_goto 17)),
  (90, o_vret)]
noncomputable def f_X5_findExtra (K : Sh_) : Fn_ := fn_ (P_X5_findExtra K) 3
set_option maxRecDepth 100000 in
theorem a_X5_findExtra {l : Launch} {E : En_} (hE : EOK_ E)   : All_ (Snd_ l E yX5_findExtra.cls cX5_findExtra 3 (none) (.code yX5_findExtra cX5_findExtra 3 (none) :: G_) (rm_ 4)) (P_X5_findExtra E.2.2.2.1 ) :=
  all_c (s_ald_n (q := 0) (by decide +kernel) rfl)
  <| all_c (s_iconst (n := (-1)) (by decide +kernel) (by decide))
  <| all_c (p_5_6 (by decide +kernel) fl_RX5_119)
  <| all_c (s_ald_n (q := 0) (by decide +kernel) rfl)
  <| all_c (s_iconst (n := (-1)) (by decide +kernel) (by decide))
  <| all_c (p_5_7 (by decide +kernel) fl_RX5_122)
  <| all_c (s_ald_n (q := 0) (by decide +kernel) rfl)
  <| all_c (s_iconst (n := (-1)) (by decide +kernel) (by decide))
  <| all_c (p_5_8 (by decide +kernel) fl_RX5_125)
  <| all_c (s_iconst (n := 0) (by decide +kernel) (by decide))
  <| all_c (s_aft (s_ist_n (q := 1) (by decide +kernel) rfl))
  <| all_c (s_ild_n (q := 1) (by decide +kernel) rfl)
  <| all_c (s_ald_n (q := 0) (by decide +kernel) rfl)
  <| all_c (g_5_9 (by decide +kernel) fl_RX5_28)
  <| all_c (g_0_12 (by decide +kernel) fl_RX5_32)
  <| all_c (s_cmpge (off := 65) (by decide +kernel) (by decide))
  <| all_c (s_iconst (n := 0) (by decide +kernel) (by decide))
  <| all_c (s_ist_n (q := 2) (by decide +kernel) rfl)
  <| all_c (s_ild_n (q := 2) (by decide +kernel) rfl)
  <| all_c (s_ald_n (q := 0) (by decide +kernel) rfl)
  <| all_c (g_5_9 (by decide +kernel) fl_RX5_28)
  <| all_c (g_0_11 (by decide +kernel) fl_RX5_106)
  <| all_c (s_cmpge (off := 46) (by decide +kernel) (by decide))
  <| all_c (s_ald_n (q := 0) (by decide +kernel) rfl)
  <| all_c (g_5_1 (by decide +kernel) fl_RX5_15)
  <| all_c (s_ild_n (q := 1) (by decide +kernel) rfl)
  <| all_c (s_iald (by decide +kernel))
  <| all_c (s_ild_n (q := 2) (by decide +kernel) rfl)
  <| all_c (s_ishr (by decide +kernel))
  <| all_c (s_iconst (n := 1) (by decide +kernel) (by decide))
  <| all_c (s_iand (by decide +kernel))
  <| all_c (s_ifne (off := 27) (by decide +kernel) (by decide))
  <| all_c (s_ald_n (q := 0) (by decide +kernel) rfl)
  <| all_c (g_5_0 (by decide +kernel) fl_RX5_9)
  <| all_c (s_ild_n (q := 1) (by decide +kernel) rfl)
  <| all_c (s_iald (by decide +kernel))
  <| all_c (s_ald_n (q := 0) (by decide +kernel) rfl)
  <| all_c (g_5_9 (by decide +kernel) fl_RX5_28)
  <| all_c (s_ild_n (q := 1) (by decide +kernel) rfl)
  <| all_c (s_ild_n (q := 2) (by decide +kernel) rfl)
  <| all_c (s_callV (by decide +kernel) (t_X0_readTime hE) cl_X0_readTime ml_RX5_68 im_X0_readTime se_X0_readTime (by decide) rfl (rm_lt (by decide)))
  <| all_c (s_cmplt (off := 9) (by decide +kernel) (by decide))
  <| all_c (s_ald_n (q := 0) (by decide +kernel) rfl)
  <| all_c (s_ild_n (q := 1) (by decide +kernel) rfl)
  <| all_c (s_ild_n (q := 2) (by decide +kernel) rfl)
  <| all_c (s_callV (by decide +kernel) (t_X5_offerExtra hE) cl_X5_offerExtra ml_RX5_128 im_X5_offerExtra se_X5_offerExtra (by decide) rfl (rm_lt (by decide)))
  <| all_c (s_inc (n := 1) (by decide +kernel) (by decide))
  <| all_c (s_goto (off := (-51)) (by decide +kernel) (by decide))
  <| all_c (s_inc (n := 1) (by decide +kernel) (by decide))
  <| all_c (s_aft (s_goto (off := (-70)) (by decide +kernel) (by decide)))
  <| all_c (s_vret (by decide +kernel) rfl)
  <| all_n
theorem t_X5_findExtra {l : Launch} {E : En_} (hE : EOK_ E) : Good_ l E yX5_findExtra (.code yX5_findExtra cX5_findExtra 3 (none) :: G_) (rm_ 4) (f_X5_findExtra E.2.2.2.1) := good_all hE (by decide +kernel) (a_X5_findExtra hE)
noncomputable def P_X6_copyFrom (K : Sh_)  : List (Nat × Op_) := [(0, o_ald 1 1),
  (1, o_gF K 6 0),
  (4, o_ald 0 1),
  (5, o_gF K 6 0),
  (8, o_ald 1 1),
  (9, o_gI K 6 4),
  (12, o_callS (f_X0_copyRow K) 3),
  (15, o_ald 1 1),
  (16, o_gF K 6 1),
  (19, o_ald 0 1),
  (20, o_gF K 6 1),
  (23, o_ald 1 1),
  (24, o_gI K 6 4),
  (27, o_callS (f_X0_copyRow K) 3),
  (30, o_ald 1 1),
  (31, o_gF K 6 2),
  (34, o_ald 0 1),
  (35, o_gF K 6 2),
  (38, o_ald 1 1),
  (39, o_gI K 6 4),
  (42, o_callS (f_X0_copyRow K) 3),
  (45, o_ald 1 1),
  (46, o_gF K 6 3),
  (49, o_ald 0 1),
  (50, o_gF K 6 3),
  (53, o_ald 1 1),
  (54, o_gI K 6 4),
  (57, o_callS (f_X0_copyRow K) 3),
  (60, o_ald 0 1),
  (61, o_ald 1 1),
  (62, o_gI K 6 4),
  (65, o_pI K 6 4),
  (68, o_vret)]
noncomputable def f_X6_copyFrom (K : Sh_) : Fn_ := fn_ (P_X6_copyFrom K) 2
set_option maxRecDepth 100000 in
theorem a_X6_copyFrom {l : Launch} {E : En_} (hE : EOK_ E)   : All_ (Snd_ l E yX6_copyFrom.cls cX6_copyFrom 2 (none) (.code yX6_copyFrom cX6_copyFrom 2 (none) :: G_) (rm_ 2)) (P_X6_copyFrom E.2.2.2.1 ) :=
  all_c (s_ald_n (q := 1) (by decide +kernel) rfl)
  <| all_c (g_6_0 (by decide +kernel) fl_RX6_11)
  <| all_c (s_ald_n (q := 0) (by decide +kernel) rfl)
  <| all_c (g_6_0 (by decide +kernel) fl_RX6_11)
  <| all_c (s_ald_n (q := 1) (by decide +kernel) rfl)
  <| all_c (g_6_4 (by decide +kernel) fl_RX6_24)
  <| all_c (s_callS (by decide +kernel) (t_X0_copyRow hE) cl_X0_copyRow ml_RX6_28 sm_X0_copyRow (rm_lt (by decide)))
  <| all_c (s_ald_n (q := 1) (by decide +kernel) rfl)
  <| all_c (g_6_1 (by decide +kernel) fl_RX6_15)
  <| all_c (s_ald_n (q := 0) (by decide +kernel) rfl)
  <| all_c (g_6_1 (by decide +kernel) fl_RX6_15)
  <| all_c (s_ald_n (q := 1) (by decide +kernel) rfl)
  <| all_c (g_6_4 (by decide +kernel) fl_RX6_24)
  <| all_c (s_callS (by decide +kernel) (t_X0_copyRow hE) cl_X0_copyRow ml_RX6_28 sm_X0_copyRow (rm_lt (by decide)))
  <| all_c (s_ald_n (q := 1) (by decide +kernel) rfl)
  <| all_c (g_6_2 (by decide +kernel) fl_RX6_18)
  <| all_c (s_ald_n (q := 0) (by decide +kernel) rfl)
  <| all_c (g_6_2 (by decide +kernel) fl_RX6_18)
  <| all_c (s_ald_n (q := 1) (by decide +kernel) rfl)
  <| all_c (g_6_4 (by decide +kernel) fl_RX6_24)
  <| all_c (s_callS (by decide +kernel) (t_X0_copyRow hE) cl_X0_copyRow ml_RX6_28 sm_X0_copyRow (rm_lt (by decide)))
  <| all_c (s_ald_n (q := 1) (by decide +kernel) rfl)
  <| all_c (g_6_3 (by decide +kernel) fl_RX6_21)
  <| all_c (s_ald_n (q := 0) (by decide +kernel) rfl)
  <| all_c (g_6_3 (by decide +kernel) fl_RX6_21)
  <| all_c (s_ald_n (q := 1) (by decide +kernel) rfl)
  <| all_c (g_6_4 (by decide +kernel) fl_RX6_24)
  <| all_c (s_callS (by decide +kernel) (t_X0_copyRow hE) cl_X0_copyRow ml_RX6_28 sm_X0_copyRow (rm_lt (by decide)))
  <| all_c (s_ald_n (q := 0) (by decide +kernel) rfl)
  <| all_c (s_ald_n (q := 1) (by decide +kernel) rfl)
  <| all_c (g_6_4 (by decide +kernel) fl_RX6_24)
  <| all_c (p_6_4 (by decide +kernel) fl_RX6_24)
  <| all_c (s_vret (by decide +kernel) rfl)
  <| all_n
theorem t_X6_copyFrom {l : Launch} {E : En_} (hE : EOK_ E) : Good_ l E yX6_copyFrom (.code yX6_copyFrom cX6_copyFrom 2 (none) :: G_) (rm_ 2) (f_X6_copyFrom E.2.2.2.1) := good_all hE (by decide +kernel) (a_X6_copyFrom hE)
noncomputable def P_X6_readReading (K : Sh_)  : List (Nat × Op_) := [(0, o_ald 1 1),
  (1, o_ic 11 2),
  (3, o_callV K 8 (f_X8_take K) 1),
  (6, o_ifeq 17),
  (9, o_ald 1 1),
  (10, o_ald 2 1),
  (11, o_callV K 8 (f_X8_takeChap K) 1),
  (14, o_ifne 19),
  (17, o_ic 0 1),
  (18, o_zret),
  (19, o_ald 0 1),
  (20, o_ild 3 1),
  (21, o_ald 1 1),
  (22, o_gI K 8 8),
  (25, o_ic 0 1),
  (26, o_ic 0 1),
  (27, o_callV K 6 (f_X6_add K) 4),
  (30, o_ic 1 1),
  (31, o_zret)]
noncomputable def f_X6_readReading (K : Sh_) : Fn_ := fn_ (P_X6_readReading K) 4
set_option maxRecDepth 100000 in
theorem a_X6_readReading {l : Launch} {E : En_} (hE : EOK_ E)   : All_ (Snd_ l E yX6_readReading.cls cX6_readReading 4 (some .boolean) (.code yX6_readReading cX6_readReading 4 (some .boolean) :: G_) (rm_ 4)) (P_X6_readReading E.2.2.2.1 ) :=
  all_c (s_ald_n (q := 1) (by decide +kernel) rfl)
  <| all_c (s_bipush (n := 11) (by decide +kernel) (by decide))
  <| all_c (s_callV (by decide +kernel) (t_X8_take hE) cl_X8_take ml_RX6_50 im_X8_take se_X8_take (by decide) rfl (rm_lt (by decide)))
  <| all_c (s_ifeq (off := 11) (by decide +kernel) (by decide))
  <| all_c (s_ald_n (q := 1) (by decide +kernel) rfl)
  <| all_c (s_ald_n (q := 2) (by decide +kernel) rfl)
  <| all_c (s_callV (by decide +kernel) (t_X8_takeChap hE) cl_X8_takeChap ml_RX6_74 im_X8_takeChap se_X8_takeChap (by decide) rfl (rm_lt (by decide)))
  <| all_c (s_ifne (off := 5) (by decide +kernel) (by decide))
  <| all_c (s_iconst (n := 0) (by decide +kernel) (by decide))
  <| all_c (s_zret (by decide +kernel) rfl)
  <| all_c (s_ald_n (q := 0) (by decide +kernel) rfl)
  <| all_c (s_ild_n (q := 3) (by decide +kernel) rfl)
  <| all_c (s_ald_n (q := 1) (by decide +kernel) rfl)
  <| all_c (g_8_8 (by decide +kernel) fl_RX6_78)
  <| all_c (s_iconst (n := 0) (by decide +kernel) (by decide))
  <| all_c (s_iconst (n := 0) (by decide +kernel) (by decide))
  <| all_c (s_callV (by decide +kernel) (t_X6_add hE) cl_X6_add ml_RX6_81 im_X6_add se_X6_add (by decide) rfl (rm_lt (by decide)))
  <| all_c (s_iconst (n := 1) (by decide +kernel) (by decide))
  <| all_c (s_zret (by decide +kernel) rfl)
  <| all_n
theorem t_X6_readReading {l : Launch} {E : En_} (hE : EOK_ E) : Good_ l E yX6_readReading (.code yX6_readReading cX6_readReading 4 (some .boolean) :: G_) (rm_ 4) (f_X6_readReading E.2.2.2.1) := good_all hE (by decide +kernel) (a_X6_readReading hE)
noncomputable def P_X6_readListeners (K : Sh_)  : List (Nat × Op_) := [(0, o_ald 0 1),
  (1, o_gI K 8 6),
  (4, o_ic 14 2),
  (6, o_cmpne 41),
  (9, o_ald 1 1),
  (10, o_gI K 0 12),
  (13, o_ic 1 1),
  (14, o_cmple 41),
  (17, o_ald 0 1),
  (18, o_callV K 8 (f_X8_next K) 0),
  (21, o_ald 0 1),
  (22, o_ic 1 1),
  (23, o_ald 1 1),
  (24, o_gI K 0 12),
  (27, o_ishl),
  (28, o_ic 1 1),
  (29, o_isub),
  (30, o_ic 1 1),
  (31, o_ild 2 1),
  (32, o_ishl),
  (33, o_ic (-1) 1),
  (34, o_ixor),
  (35, o_iand),
  (36, o_pI K 8 8),
  (39, o_ic 1 1),
  (40, o_zret),
  (41, o_ald 0 1),
  (42, o_gI K 8 6),
  (45, o_ic 2 1),
  (46, o_cmpeq 55),
  (49, o_ald 0 1),
  (50, o_ic 1 1),
  (51, o_callV K 8 (f_X8_fail K) 1),
  (54, o_zret),
  (55, o_ic 0 1),
  (56, o_ist 3 1),
  (57, o_ic 0 1),
  (58, o_aft [5] (o_ist 4 2)),
  (60, o_ild 4 2),
  (62, o_ic 9 2),
  (64, o_cmpge 129),
  (67, o_ald 0 1),
  (68, o_gI K 8 6),
  (71, o_ic 2 1),
  (72, o_cmpne 129),
  (75, o_ald 1 1),
  (76, o_ald 0 1),
  (77, o_gI K 8 7),
  (80, o_callV K 0 (f_X0_readerNamed K) 1),
  (83, o_ist 5 2),
  (85, o_ild 5 2),
  (87, o_ic (-1) 1),
  (88, o_cmpeq 106),
  (91, o_ild 5 2),
  (93, o_ild 2 1),
  (94, o_cmpeq 106),
  (97, o_ild 3 1),
  (98, o_ild 5 2),
  (100, o_ishr),
  (101, o_ic 1 1),
  (102, o_iand),
  (103, o_ifeq 112),
  (106, o_ald 0 1),
  (107, o_ic 3 1),
  (108, o_callV K 8 (f_X8_fail K) 1),
  (111, o_zret),
  (112, o_ild 3 1),
  (113, o_ic 1 1),
  (114, o_ild 5 2),
  (116, o_ishl),
  (117, o_ior),
  (118, o_ist 3 1),
  (119, o_ald 0 1),
  (120, o_callV K 8 (f_X8_next K) 0),
  (123, o_inc 4 1),
  (126, o_aft [5] (o_goto 60)),
  (129, o_ald 0 1),
  (130, o_ild 3 1),
  (131, o_pI K 8 8),
  (134, o_ic 1 1),
  (135, o_zret)]
noncomputable def f_X6_readListeners (K : Sh_) : Fn_ := fn_ (P_X6_readListeners K) 6
set_option maxRecDepth 100000 in
theorem a_X6_readListeners {l : Launch} {E : En_} (hE : EOK_ E)   : All_ (Snd_ l E yX6_readListeners.cls cX6_readListeners 6 (some .boolean) (.code yX6_readListeners cX6_readListeners 6 (some .boolean) :: G_) (rm_ 3)) (P_X6_readListeners E.2.2.2.1 ) :=
  all_c (s_ald_n (q := 0) (by decide +kernel) rfl)
  <| all_c (g_8_6 (by decide +kernel) fl_RX6_41)
  <| all_c (s_bipush (n := 14) (by decide +kernel) (by decide))
  <| all_c (s_cmpne (off := 35) (by decide +kernel) (by decide))
  <| all_c (s_ald_n (q := 1) (by decide +kernel) rfl)
  <| all_c (g_0_12 (by decide +kernel) fl_RX6_92)
  <| all_c (s_iconst (n := 1) (by decide +kernel) (by decide))
  <| all_c (s_cmple (off := 27) (by decide +kernel) (by decide))
  <| all_c (s_ald_n (q := 0) (by decide +kernel) rfl)
  <| all_c (s_callV (by decide +kernel) (t_X8_next hE) cl_X8_next ml_RX6_64 im_X8_next se_X8_next (by decide) rfl (rm_lt (by decide)))
  <| all_c (s_ald_n (q := 0) (by decide +kernel) rfl)
  <| all_c (s_iconst (n := 1) (by decide +kernel) (by decide))
  <| all_c (s_ald_n (q := 1) (by decide +kernel) rfl)
  <| all_c (g_0_12 (by decide +kernel) fl_RX6_92)
  <| all_c (s_ishl (by decide +kernel))
  <| all_c (s_iconst (n := 1) (by decide +kernel) (by decide))
  <| all_c (s_isub (by decide +kernel))
  <| all_c (s_iconst (n := 1) (by decide +kernel) (by decide))
  <| all_c (s_ild_n (q := 2) (by decide +kernel) rfl)
  <| all_c (s_ishl (by decide +kernel))
  <| all_c (s_iconst (n := (-1)) (by decide +kernel) (by decide))
  <| all_c (s_ixor (by decide +kernel))
  <| all_c (s_iand (by decide +kernel))
  <| all_c (p_8_8 (by decide +kernel) fl_RX6_78)
  <| all_c (s_iconst (n := 1) (by decide +kernel) (by decide))
  <| all_c (s_zret (by decide +kernel) rfl)
  <| all_c (s_ald_n (q := 0) (by decide +kernel) rfl)
  <| all_c (g_8_6 (by decide +kernel) fl_RX6_41)
  <| all_c (s_iconst (n := 2) (by decide +kernel) (by decide))
  <| all_c (s_cmpeq (off := 9) (by decide +kernel) (by decide))
  <| all_c (s_ald_n (q := 0) (by decide +kernel) rfl)
  <| all_c (s_iconst (n := 1) (by decide +kernel) (by decide))
  <| all_c (s_callV (by decide +kernel) (t_X8_fail hE) cl_X8_fail ml_RX6_54 im_X8_fail se_X8_fail (by decide) rfl (rm_lt (by decide)))
  <| all_c (s_zret (by decide +kernel) rfl)
  <| all_c (s_iconst (n := 0) (by decide +kernel) (by decide))
  <| all_c (s_ist_n (q := 3) (by decide +kernel) rfl)
  <| all_c (s_iconst (n := 0) (by decide +kernel) (by decide))
  <| all_c (s_aft (s_ist (by decide +kernel)))
  <| all_c (s_ild (by decide +kernel))
  <| all_c (s_bipush (n := 9) (by decide +kernel) (by decide))
  <| all_c (s_cmpge (off := 65) (by decide +kernel) (by decide))
  <| all_c (s_ald_n (q := 0) (by decide +kernel) rfl)
  <| all_c (g_8_6 (by decide +kernel) fl_RX6_41)
  <| all_c (s_iconst (n := 2) (by decide +kernel) (by decide))
  <| all_c (s_cmpne (off := 57) (by decide +kernel) (by decide))
  <| all_c (s_ald_n (q := 1) (by decide +kernel) rfl)
  <| all_c (s_ald_n (q := 0) (by decide +kernel) rfl)
  <| all_c (g_8_7 (by decide +kernel) fl_RX6_57)
  <| all_c (s_callV (by decide +kernel) (t_X0_readerNamed hE) cl_X0_readerNamed ml_RX6_60 im_X0_readerNamed se_X0_readerNamed (by decide) rfl (rm_lt (by decide)))
  <| all_c (s_ist (by decide +kernel))
  <| all_c (s_ild (by decide +kernel))
  <| all_c (s_iconst (n := (-1)) (by decide +kernel) (by decide))
  <| all_c (s_cmpeq (off := 18) (by decide +kernel) (by decide))
  <| all_c (s_ild (by decide +kernel))
  <| all_c (s_ild_n (q := 2) (by decide +kernel) rfl)
  <| all_c (s_cmpeq (off := 12) (by decide +kernel) (by decide))
  <| all_c (s_ild_n (q := 3) (by decide +kernel) rfl)
  <| all_c (s_ild (by decide +kernel))
  <| all_c (s_ishr (by decide +kernel))
  <| all_c (s_iconst (n := 1) (by decide +kernel) (by decide))
  <| all_c (s_iand (by decide +kernel))
  <| all_c (s_ifeq (off := 9) (by decide +kernel) (by decide))
  <| all_c (s_ald_n (q := 0) (by decide +kernel) rfl)
  <| all_c (s_iconst (n := 3) (by decide +kernel) (by decide))
  <| all_c (s_callV (by decide +kernel) (t_X8_fail hE) cl_X8_fail ml_RX6_54 im_X8_fail se_X8_fail (by decide) rfl (rm_lt (by decide)))
  <| all_c (s_zret (by decide +kernel) rfl)
  <| all_c (s_ild_n (q := 3) (by decide +kernel) rfl)
  <| all_c (s_iconst (n := 1) (by decide +kernel) (by decide))
  <| all_c (s_ild (by decide +kernel))
  <| all_c (s_ishl (by decide +kernel))
  <| all_c (s_ior (by decide +kernel))
  <| all_c (s_ist_n (q := 3) (by decide +kernel) rfl)
  <| all_c (s_ald_n (q := 0) (by decide +kernel) rfl)
  <| all_c (s_callV (by decide +kernel) (t_X8_next hE) cl_X8_next ml_RX6_64 im_X8_next se_X8_next (by decide) rfl (rm_lt (by decide)))
  <| all_c (s_inc (n := 1) (by decide +kernel) (by decide))
  <| all_c (s_aft (s_goto (off := (-66)) (by decide +kernel) (by decide)))
  <| all_c (s_ald_n (q := 0) (by decide +kernel) rfl)
  <| all_c (s_ild_n (q := 3) (by decide +kernel) rfl)
  <| all_c (p_8_8 (by decide +kernel) fl_RX6_78)
  <| all_c (s_iconst (n := 1) (by decide +kernel) (by decide))
  <| all_c (s_zret (by decide +kernel) rfl)
  <| all_n
theorem t_X6_readListeners {l : Launch} {E : En_} (hE : EOK_ E) : Good_ l E yX6_readListeners (.code yX6_readListeners cX6_readListeners 6 (some .boolean) :: G_) (rm_ 3) (f_X6_readListeners E.2.2.2.1) := good_all hE (by decide +kernel) (a_X6_readListeners hE)
noncomputable def P_X6_readTelling (K : Sh_)  : List (Nat × Op_) := [(0, o_ald 1 1),
  (1, o_ic 12 2),
  (3, o_callV K 8 (f_X8_take K) 1),
  (6, o_ifeq 17),
  (9, o_ald 1 1),
  (10, o_ald 2 1),
  (11, o_callV K 8 (f_X8_takeChap K) 1),
  (14, o_ifne 19),
  (17, o_ic 0 1),
  (18, o_zret),
  (19, o_ald 1 1),
  (20, o_gI K 8 8),
  (23, o_ist 4 2),
  (25, o_ald 1 1),
  (26, o_ic 1 1),
  (27, o_ic 4 1),
  (28, o_callV K 8 (f_X8_takeNumber K) 2),
  (31, o_ifne 36),
  (34, o_ic 0 1),
  (35, o_zret),
  (36, o_ald 1 1),
  (37, o_gI K 8 8),
  (40, o_ist 5 2),
  (42, o_ald 1 1),
  (43, o_ic 13 2),
  (45, o_callV K 8 (f_X8_take K) 1),
  (48, o_ifeq 60),
  (51, o_ald 1 1),
  (52, o_ald 2 1),
  (53, o_ild 3 1),
  (54, o_callS (f_X6_readListeners K) 3),
  (57, o_ifne 62),
  (60, o_ic 0 1),
  (61, o_zret),
  (62, o_ald 0 1),
  (63, o_ild 3 1),
  (64, o_ild 4 2),
  (66, o_ild 5 2),
  (68, o_ald 1 1),
  (69, o_gI K 8 8),
  (72, o_callV K 6 (f_X6_add K) 4),
  (75, o_ic 1 1),
  (76, o_zret)]
noncomputable def f_X6_readTelling (K : Sh_) : Fn_ := fn_ (P_X6_readTelling K) 6
set_option maxRecDepth 100000 in
theorem a_X6_readTelling {l : Launch} {E : En_} (hE : EOK_ E)   : All_ (Snd_ l E yX6_readTelling.cls cX6_readTelling 6 (some .boolean) (.code yX6_readTelling cX6_readTelling 6 (some .boolean) :: G_) (rm_ 4)) (P_X6_readTelling E.2.2.2.1 ) :=
  all_c (s_ald_n (q := 1) (by decide +kernel) rfl)
  <| all_c (s_bipush (n := 12) (by decide +kernel) (by decide))
  <| all_c (s_callV (by decide +kernel) (t_X8_take hE) cl_X8_take ml_RX6_50 im_X8_take se_X8_take (by decide) rfl (rm_lt (by decide)))
  <| all_c (s_ifeq (off := 11) (by decide +kernel) (by decide))
  <| all_c (s_ald_n (q := 1) (by decide +kernel) rfl)
  <| all_c (s_ald_n (q := 2) (by decide +kernel) rfl)
  <| all_c (s_callV (by decide +kernel) (t_X8_takeChap hE) cl_X8_takeChap ml_RX6_74 im_X8_takeChap se_X8_takeChap (by decide) rfl (rm_lt (by decide)))
  <| all_c (s_ifne (off := 5) (by decide +kernel) (by decide))
  <| all_c (s_iconst (n := 0) (by decide +kernel) (by decide))
  <| all_c (s_zret (by decide +kernel) rfl)
  <| all_c (s_ald_n (q := 1) (by decide +kernel) rfl)
  <| all_c (g_8_8 (by decide +kernel) fl_RX6_78)
  <| all_c (s_ist (by decide +kernel))
  <| all_c (s_ald_n (q := 1) (by decide +kernel) rfl)
  <| all_c (s_iconst (n := 1) (by decide +kernel) (by decide))
  <| all_c (s_iconst (n := 4) (by decide +kernel) (by decide))
  <| all_c (s_callV (by decide +kernel) (t_X8_takeNumber hE) cl_X8_takeNumber ml_RX6_85 im_X8_takeNumber se_X8_takeNumber (by decide) rfl (rm_lt (by decide)))
  <| all_c (s_ifne (off := 5) (by decide +kernel) (by decide))
  <| all_c (s_iconst (n := 0) (by decide +kernel) (by decide))
  <| all_c (s_zret (by decide +kernel) rfl)
  <| all_c (s_ald_n (q := 1) (by decide +kernel) rfl)
  <| all_c (g_8_8 (by decide +kernel) fl_RX6_78)
  <| all_c (s_ist (by decide +kernel))
  <| all_c (s_ald_n (q := 1) (by decide +kernel) rfl)
  <| all_c (s_bipush (n := 13) (by decide +kernel) (by decide))
  <| all_c (s_callV (by decide +kernel) (t_X8_take hE) cl_X8_take ml_RX6_50 im_X8_take se_X8_take (by decide) rfl (rm_lt (by decide)))
  <| all_c (s_ifeq (off := 12) (by decide +kernel) (by decide))
  <| all_c (s_ald_n (q := 1) (by decide +kernel) rfl)
  <| all_c (s_ald_n (q := 2) (by decide +kernel) rfl)
  <| all_c (s_ild_n (q := 3) (by decide +kernel) rfl)
  <| all_c (s_callS (by decide +kernel) (t_X6_readListeners hE) cl_X6_readListeners ml_RX6_89 sm_X6_readListeners (rm_lt (by decide)))
  <| all_c (s_ifne (off := 5) (by decide +kernel) (by decide))
  <| all_c (s_iconst (n := 0) (by decide +kernel) (by decide))
  <| all_c (s_zret (by decide +kernel) rfl)
  <| all_c (s_ald_n (q := 0) (by decide +kernel) rfl)
  <| all_c (s_ild_n (q := 3) (by decide +kernel) rfl)
  <| all_c (s_ild (by decide +kernel))
  <| all_c (s_ild (by decide +kernel))
  <| all_c (s_ald_n (q := 1) (by decide +kernel) rfl)
  <| all_c (g_8_8 (by decide +kernel) fl_RX6_78)
  <| all_c (s_callV (by decide +kernel) (t_X6_add hE) cl_X6_add ml_RX6_81 im_X6_add se_X6_add (by decide) rfl (rm_lt (by decide)))
  <| all_c (s_iconst (n := 1) (by decide +kernel) (by decide))
  <| all_c (s_zret (by decide +kernel) rfl)
  <| all_n
theorem t_X6_readTelling {l : Launch} {E : En_} (hE : EOK_ E) : Good_ l E yX6_readTelling (.code yX6_readTelling cX6_readTelling 6 (some .boolean) :: G_) (rm_ 4) (f_X6_readTelling E.2.2.2.1) := good_all hE (by decide +kernel) (a_X6_readTelling hE)
noncomputable def P_X6_readAct (K : Sh_)  : List (Nat × Op_) := [(0, o_ald 1 1),
  (1, o_gI K 8 6),
  (4, o_ic 2 1),
  (5, o_cmpeq 14),
  (8, o_ald 1 1),
  (9, o_ic 1 1),
  (10, o_callV K 8 (f_X8_fail K) 1),
  (13, o_zret),
  (14, o_ald 2 1),
  (15, o_ald 1 1),
  (16, o_gI K 8 7),
  (19, o_callV K 0 (f_X0_readerNamed K) 1),
  (22, o_ist 3 1),
  (23, o_ild 3 1),
  (24, o_ic (-1) 1),
  (25, o_cmpne 34),
  (28, o_ald 1 1),
  (29, o_ic 3 1),
  (30, o_callV K 8 (f_X8_fail K) 1),
  (33, o_zret),
  (34, o_ald 0 1),
  (35, o_gI K 6 4),
  (38, o_ic 60 2),
  (40, o_cmplt 49),
  (43, o_ald 1 1),
  (44, o_ic 4 1),
  (45, o_callV K 8 (f_X8_fail K) 1),
  (48, o_zret),
  (49, o_ald 1 1),
  (50, o_callV K 8 (f_X8_next K) 0),
  (53, o_ald 1 1),
  (54, o_gI K 8 6),
  (57, o_ic 11 2),
  (59, o_cmpne 70),
  (62, o_ald 0 1),
  (63, o_ald 1 1),
  (64, o_ald 2 1),
  (65, o_ild 3 1),
  (66, o_callV K 6 (f_X6_readReading K) 3),
  (69, o_zret),
  (70, o_ald 0 1),
  (71, o_ald 1 1),
  (72, o_ald 2 1),
  (73, o_ild 3 1),
  (74, o_callV K 6 (f_X6_readTelling K) 3),
  (77, o_zret)]
noncomputable def f_X6_readAct (K : Sh_) : Fn_ := fn_ (P_X6_readAct K) 4
set_option maxRecDepth 100000 in
theorem a_X6_readAct {l : Launch} {E : En_} (hE : EOK_ E)   : All_ (Snd_ l E yX6_readAct.cls cX6_readAct 4 (some .boolean) (.code yX6_readAct cX6_readAct 4 (some .boolean) :: G_) (rm_ 5)) (P_X6_readAct E.2.2.2.1 ) :=
  all_c (s_ald_n (q := 1) (by decide +kernel) rfl)
  <| all_c (g_8_6 (by decide +kernel) fl_RX6_41)
  <| all_c (s_iconst (n := 2) (by decide +kernel) (by decide))
  <| all_c (s_cmpeq (off := 9) (by decide +kernel) (by decide))
  <| all_c (s_ald_n (q := 1) (by decide +kernel) rfl)
  <| all_c (s_iconst (n := 1) (by decide +kernel) (by decide))
  <| all_c (s_callV (by decide +kernel) (t_X8_fail hE) cl_X8_fail ml_RX6_54 im_X8_fail se_X8_fail (by decide) rfl (rm_lt (by decide)))
  <| all_c (s_zret (by decide +kernel) rfl)
  <| all_c (s_ald_n (q := 2) (by decide +kernel) rfl)
  <| all_c (s_ald_n (q := 1) (by decide +kernel) rfl)
  <| all_c (g_8_7 (by decide +kernel) fl_RX6_57)
  <| all_c (s_callV (by decide +kernel) (t_X0_readerNamed hE) cl_X0_readerNamed ml_RX6_60 im_X0_readerNamed se_X0_readerNamed (by decide) rfl (rm_lt (by decide)))
  <| all_c (s_ist_n (q := 3) (by decide +kernel) rfl)
  <| all_c (s_ild_n (q := 3) (by decide +kernel) rfl)
  <| all_c (s_iconst (n := (-1)) (by decide +kernel) (by decide))
  <| all_c (s_cmpne (off := 9) (by decide +kernel) (by decide))
  <| all_c (s_ald_n (q := 1) (by decide +kernel) rfl)
  <| all_c (s_iconst (n := 3) (by decide +kernel) (by decide))
  <| all_c (s_callV (by decide +kernel) (t_X8_fail hE) cl_X8_fail ml_RX6_54 im_X8_fail se_X8_fail (by decide) rfl (rm_lt (by decide)))
  <| all_c (s_zret (by decide +kernel) rfl)
  <| all_c (s_ald_n (q := 0) (by decide +kernel) rfl)
  <| all_c (g_6_4 (by decide +kernel) fl_RX6_24)
  <| all_c (s_bipush (n := 60) (by decide +kernel) (by decide))
  <| all_c (s_cmplt (off := 9) (by decide +kernel) (by decide))
  <| all_c (s_ald_n (q := 1) (by decide +kernel) rfl)
  <| all_c (s_iconst (n := 4) (by decide +kernel) (by decide))
  <| all_c (s_callV (by decide +kernel) (t_X8_fail hE) cl_X8_fail ml_RX6_54 im_X8_fail se_X8_fail (by decide) rfl (rm_lt (by decide)))
  <| all_c (s_zret (by decide +kernel) rfl)
  <| all_c (s_ald_n (q := 1) (by decide +kernel) rfl)
  <| all_c (s_callV (by decide +kernel) (t_X8_next hE) cl_X8_next ml_RX6_64 im_X8_next se_X8_next (by decide) rfl (rm_lt (by decide)))
  <| all_c (s_ald_n (q := 1) (by decide +kernel) rfl)
  <| all_c (g_8_6 (by decide +kernel) fl_RX6_41)
  <| all_c (s_bipush (n := 11) (by decide +kernel) (by decide))
  <| all_c (s_cmpne (off := 11) (by decide +kernel) (by decide))
  <| all_c (s_ald_n (q := 0) (by decide +kernel) rfl)
  <| all_c (s_ald_n (q := 1) (by decide +kernel) rfl)
  <| all_c (s_ald_n (q := 2) (by decide +kernel) rfl)
  <| all_c (s_ild_n (q := 3) (by decide +kernel) rfl)
  <| all_c (s_callV (by decide +kernel) (t_X6_readReading hE) cl_X6_readReading ml_RX6_67 im_X6_readReading se_X6_readReading (by decide) rfl (rm_lt (by decide)))
  <| all_c (s_zret (by decide +kernel) rfl)
  <| all_c (s_ald_n (q := 0) (by decide +kernel) rfl)
  <| all_c (s_ald_n (q := 1) (by decide +kernel) rfl)
  <| all_c (s_ald_n (q := 2) (by decide +kernel) rfl)
  <| all_c (s_ild_n (q := 3) (by decide +kernel) rfl)
  <| all_c (s_callV (by decide +kernel) (t_X6_readTelling hE) cl_X6_readTelling ml_RX6_71 im_X6_readTelling se_X6_readTelling (by decide) rfl (rm_lt (by decide)))
  <| all_c (s_zret (by decide +kernel) rfl)
  <| all_n
theorem t_X6_readAct {l : Launch} {E : En_} (hE : EOK_ E) : Good_ l E yX6_readAct (.code yX6_readAct cX6_readAct 4 (some .boolean) :: G_) (rm_ 5) (f_X6_readAct E.2.2.2.1) := good_all hE (by decide +kernel) (a_X6_readAct hE)
noncomputable def P_X6_readFrom (K : Sh_)  : List (Nat × Op_) := [(0, o_ald 0 1),
  (1, o_callV K 6 (f_X6_clear K) 0),
  (4, o_ic 0 1),
  (5, o_ist 3 1),
  (6, o_ild 3 1),
  (7, o_ic 60 2),
  (9, o_cmpgt 45),
  (12, o_ald 1 1),
  (13, o_gI K 8 6),
  (16, o_ifeq 45),
  (19, o_ald 0 1),
  (20, o_ald 1 1),
  (21, o_ald 2 1),
  (22, o_callV K 6 (f_X6_readAct K) 2),
  (25, o_ifeq 37),
  (28, o_ald 1 1),
  (29, o_ic 59 2),
  (31, o_callV K 8 (f_X8_take K) 1),
  (34, o_ifne 39),
  (37, o_ic 0 1),
  (38, o_zret),
  (39, o_inc 3 1),
  (42, o_goto 6),
  (45, o_ic 1 1),
  (46, o_zret)]
noncomputable def f_X6_readFrom (K : Sh_) : Fn_ := fn_ (P_X6_readFrom K) 4
set_option maxRecDepth 100000 in
theorem a_X6_readFrom {l : Launch} {E : En_} (hE : EOK_ E)   : All_ (Snd_ l E yX6_readFrom.cls cX6_readFrom 4 (some .boolean) (.code yX6_readFrom cX6_readFrom 4 (some .boolean) :: G_) (rm_ 6)) (P_X6_readFrom E.2.2.2.1 ) :=
  all_c (s_ald_n (q := 0) (by decide +kernel) rfl)
  <| all_c (s_callV (by decide +kernel) (t_X6_clear hE) cl_X6_clear ml_RX6_38 im_X6_clear se_X6_clear (by decide) rfl (rm_lt (by decide)))
  <| all_c (s_iconst (n := 0) (by decide +kernel) (by decide))
  <| all_c (s_ist_n (q := 3) (by decide +kernel) rfl)
  <| all_c (s_ild_n (q := 3) (by decide +kernel) rfl)
  <| all_c (s_bipush (n := 60) (by decide +kernel) (by decide))
  <| all_c (s_cmpgt (off := 36) (by decide +kernel) (by decide))
  <| all_c (s_ald_n (q := 1) (by decide +kernel) rfl)
  <| all_c (g_8_6 (by decide +kernel) fl_RX6_41)
  <| all_c (s_ifeq (off := 29) (by decide +kernel) (by decide))
  <| all_c (s_ald_n (q := 0) (by decide +kernel) rfl)
  <| all_c (s_ald_n (q := 1) (by decide +kernel) rfl)
  <| all_c (s_ald_n (q := 2) (by decide +kernel) rfl)
  <| all_c (s_callV (by decide +kernel) (t_X6_readAct hE) cl_X6_readAct ml_RX6_46 im_X6_readAct se_X6_readAct (by decide) rfl (rm_lt (by decide)))
  <| all_c (s_ifeq (off := 12) (by decide +kernel) (by decide))
  <| all_c (s_ald_n (q := 1) (by decide +kernel) rfl)
  <| all_c (s_bipush (n := 59) (by decide +kernel) (by decide))
  <| all_c (s_callV (by decide +kernel) (t_X8_take hE) cl_X8_take ml_RX6_50 im_X8_take se_X8_take (by decide) rfl (rm_lt (by decide)))
  <| all_c (s_ifne (off := 5) (by decide +kernel) (by decide))
  <| all_c (s_iconst (n := 0) (by decide +kernel) (by decide))
  <| all_c (s_zret (by decide +kernel) rfl)
  <| all_c (s_inc (n := 1) (by decide +kernel) (by decide))
  <| all_c (s_goto (off := (-36)) (by decide +kernel) (by decide))
  <| all_c (s_iconst (n := 1) (by decide +kernel) (by decide))
  <| all_c (s_zret (by decide +kernel) rfl)
  <| all_n
theorem t_X6_readFrom {l : Launch} {E : En_} (hE : EOK_ E) : Good_ l E yX6_readFrom (.code yX6_readFrom cX6_readFrom 4 (some .boolean) :: G_) (rm_ 6) (f_X6_readFrom E.2.2.2.1) := good_all hE (by decide +kernel) (a_X6_readFrom hE)
noncomputable def P_X7_tryFrom (K : Sh_) (r_X7_tryFrom : Fn_) : List (Nat × Op_) := [(0, o_ild 1 1),
  (1, o_ald 0 1),
  (2, o_gI K 7 5),
  (5, o_cmplt 39),
  (8, o_ild 4 2),
  (10, o_ald 0 1),
  (11, o_gI K 7 6),
  (14, o_cmple 38),
  (17, o_ald 0 1),
  (18, o_ild 4 2),
  (20, o_pI K 7 6),
  (23, o_ald 0 1),
  (24, o_gF K 7 3),
  (27, o_ald 0 1),
  (28, o_gF K 7 0),
  (31, o_ald 0 1),
  (32, o_gI K 7 5),
  (35, o_callS (f_X0_copyRow K) 3),
  (38, o_vret),
  (39, o_ic 1 1),
  (40, o_aft [6] (o_ist 5 2)),
  (42, o_ild 5 2),
  (44, o_ald 0 1),
  (45, o_gI K 7 5),
  (48, o_cmpge 141),
  (51, o_ild 2 1),
  (52, o_ild 5 2),
  (54, o_ishr),
  (55, o_ic 1 1),
  (56, o_iand),
  (57, o_ifne 135),
  (60, o_ald 0 1),
  (61, o_gR K 7 4),
  (64, o_ild 3 1),
  (65, o_ald 0 1),
  (66, o_gF K 7 3),
  (69, o_ild 1 1),
  (70, o_ic 1 1),
  (71, o_isub),
  (72, o_iald K),
  (73, o_ic 4 1),
  (74, o_ald 0 1),
  (75, o_gF K 7 2),
  (78, o_ild 5 2),
  (80, o_iald K),
  (81, o_callV K 0 (f_X0_partsTold K) 4),
  (84, o_ist 6 2),
  (86, o_ild 1 1),
  (87, o_ic 1 1),
  (88, o_cmple 102),
  (91, o_ald 0 1),
  (92, o_gR K 7 4),
  (95, o_ild 6 2),
  (97, o_callV K 0 (f_X0_retold K) 1),
  (100, o_ist 6 2),
  (102, o_ald 0 1),
  (103, o_gF K 7 3),
  (106, o_ild 1 1),
  (107, o_ald 0 1),
  (108, o_gF K 7 2),
  (111, o_ild 5 2),
  (113, o_iald K),
  (114, o_iast K),
  (115, o_ald 0 1),
  (116, o_ild 1 1),
  (117, o_ic 1 1),
  (118, o_iadd),
  (119, o_ild 2 1),
  (120, o_ic 1 1),
  (121, o_ild 5 2),
  (123, o_ishl),
  (124, o_ior),
  (125, o_ild 6 2),
  (127, o_ild 4 2),
  (129, o_ild 6 2),
  (131, o_iadd),
  (132, o_callV K 7 (r_X7_tryFrom) 4),
  (135, o_inc 5 1),
  (138, o_aft [6] (o_goto 42)),
  (141, o_vret)]
noncomputable def F_X7_tryFrom (K : Sh_) : Nat → Fn_
  | 0 => (fun _ _ => none)
  | d + 1 => (fn_ (P_X7_tryFrom K (F_X7_tryFrom K d)) 7)
noncomputable def f_X7_tryFrom (K : Sh_) (d : Nat) : Fn_ := (F_X7_tryFrom K d)
set_option maxRecDepth 100000 in
theorem a_X7_tryFrom {l : Launch} {E : En_} (hE : EOK_ E) {d : Nat} {r_X7_tryFrom : Fn_} (h_X7_tryFrom : Good_ l E yX7_tryFrom (.code yX7_tryFrom cX7_tryFrom 7 (none) :: G_) (rm_ (2 + d)) r_X7_tryFrom) : All_ (Snd_ l E yX7_tryFrom.cls cX7_tryFrom 7 (none) (.code yX7_tryFrom cX7_tryFrom 7 (none) :: G_) (rm_ (2 + (d + 1)))) (P_X7_tryFrom E.2.2.2.1 r_X7_tryFrom) :=
  all_c (s_ild_n (q := 1) (by decide +kernel) rfl)
  <| all_c (s_ald_n (q := 0) (by decide +kernel) rfl)
  <| all_c (g_7_5 (by decide +kernel) fl_RX7_29)
  <| all_c (s_cmplt (off := 34) (by decide +kernel) (by decide))
  <| all_c (s_ild (by decide +kernel))
  <| all_c (s_ald_n (q := 0) (by decide +kernel) rfl)
  <| all_c (g_7_6 (by decide +kernel) fl_RX7_32)
  <| all_c (s_cmple (off := 24) (by decide +kernel) (by decide))
  <| all_c (s_ald_n (q := 0) (by decide +kernel) rfl)
  <| all_c (s_ild (by decide +kernel))
  <| all_c (p_7_6 (by decide +kernel) fl_RX7_32)
  <| all_c (s_ald_n (q := 0) (by decide +kernel) rfl)
  <| all_c (g_7_3 (by decide +kernel) fl_RX7_22)
  <| all_c (s_ald_n (q := 0) (by decide +kernel) rfl)
  <| all_c (g_7_0 (by decide +kernel) fl_RX7_11)
  <| all_c (s_ald_n (q := 0) (by decide +kernel) rfl)
  <| all_c (g_7_5 (by decide +kernel) fl_RX7_29)
  <| all_c (s_callS (by decide +kernel) (t_X0_copyRow hE) cl_X0_copyRow ml_RX7_46 sm_X0_copyRow (rm_lt (by omega)))
  <| all_c (s_vret (by decide +kernel) rfl)
  <| all_c (s_iconst (n := 1) (by decide +kernel) (by decide))
  <| all_c (s_aft (s_ist (by decide +kernel)))
  <| all_c (s_ild (by decide +kernel))
  <| all_c (s_ald_n (q := 0) (by decide +kernel) rfl)
  <| all_c (g_7_5 (by decide +kernel) fl_RX7_29)
  <| all_c (s_cmpge (off := 93) (by decide +kernel) (by decide))
  <| all_c (s_ild_n (q := 2) (by decide +kernel) rfl)
  <| all_c (s_ild (by decide +kernel))
  <| all_c (s_ishr (by decide +kernel))
  <| all_c (s_iconst (n := 1) (by decide +kernel) (by decide))
  <| all_c (s_iand (by decide +kernel))
  <| all_c (s_ifne (off := 78) (by decide +kernel) (by decide))
  <| all_c (s_ald_n (q := 0) (by decide +kernel) rfl)
  <| all_c (g_7_4 (by decide +kernel) fl_RX7_25)
  <| all_c (s_ild_n (q := 3) (by decide +kernel) rfl)
  <| all_c (s_ald_n (q := 0) (by decide +kernel) rfl)
  <| all_c (g_7_3 (by decide +kernel) fl_RX7_22)
  <| all_c (s_ild_n (q := 1) (by decide +kernel) rfl)
  <| all_c (s_iconst (n := 1) (by decide +kernel) (by decide))
  <| all_c (s_isub (by decide +kernel))
  <| all_c (s_iald (by decide +kernel))
  <| all_c (s_iconst (n := 4) (by decide +kernel) (by decide))
  <| all_c (s_ald_n (q := 0) (by decide +kernel) rfl)
  <| all_c (g_7_2 (by decide +kernel) fl_RX7_19)
  <| all_c (s_ild (by decide +kernel))
  <| all_c (s_iald (by decide +kernel))
  <| all_c (s_callV (by decide +kernel) (t_X0_partsTold hE) cl_X0_partsTold ml_RX7_52 im_X0_partsTold se_X0_partsTold (by decide) rfl (rm_lt (by omega)))
  <| all_c (s_ist (by decide +kernel))
  <| all_c (s_ild_n (q := 1) (by decide +kernel) rfl)
  <| all_c (s_iconst (n := 1) (by decide +kernel) (by decide))
  <| all_c (s_cmple (off := 14) (by decide +kernel) (by decide))
  <| all_c (s_ald_n (q := 0) (by decide +kernel) rfl)
  <| all_c (g_7_4 (by decide +kernel) fl_RX7_25)
  <| all_c (s_ild (by decide +kernel))
  <| all_c (s_callV (by decide +kernel) (t_X0_retold hE) cl_X0_retold ml_RX7_56 im_X0_retold se_X0_retold (by decide) rfl (rm_lt (by omega)))
  <| all_c (s_ist (by decide +kernel))
  <| all_c (s_ald_n (q := 0) (by decide +kernel) rfl)
  <| all_c (g_7_3 (by decide +kernel) fl_RX7_22)
  <| all_c (s_ild_n (q := 1) (by decide +kernel) rfl)
  <| all_c (s_ald_n (q := 0) (by decide +kernel) rfl)
  <| all_c (g_7_2 (by decide +kernel) fl_RX7_19)
  <| all_c (s_ild (by decide +kernel))
  <| all_c (s_iald (by decide +kernel))
  <| all_c (s_iast (by decide +kernel))
  <| all_c (s_ald_n (q := 0) (by decide +kernel) rfl)
  <| all_c (s_ild_n (q := 1) (by decide +kernel) rfl)
  <| all_c (s_iconst (n := 1) (by decide +kernel) (by decide))
  <| all_c (s_iadd (by decide +kernel))
  <| all_c (s_ild_n (q := 2) (by decide +kernel) rfl)
  <| all_c (s_iconst (n := 1) (by decide +kernel) (by decide))
  <| all_c (s_ild (by decide +kernel))
  <| all_c (s_ishl (by decide +kernel))
  <| all_c (s_ior (by decide +kernel))
  <| all_c (s_ild (by decide +kernel))
  <| all_c (s_ild (by decide +kernel))
  <| all_c (s_ild (by decide +kernel))
  <| all_c (s_iadd (by decide +kernel))
  <| all_c (s_callV (by decide +kernel) (h_X7_tryFrom) cl_X7_tryFrom ml_RX7_42 im_X7_tryFrom se_X7_tryFrom (by decide) rfl (rm_lt (by omega)))
  <| all_c (s_inc (n := 1) (by decide +kernel) (by decide))
  <| all_c (s_aft (s_goto (off := (-96)) (by decide +kernel) (by decide)))
  <| all_c (s_vret (by decide +kernel) rfl)
  <| all_n
theorem T_X7_tryFrom {l : Launch} {E : En_} (hE : EOK_ E) : ∀ d, Good_ l E yX7_tryFrom (.code yX7_tryFrom cX7_tryFrom 7 (none) :: G_) (rm_ (2 + d)) (f_X7_tryFrom E.2.2.2.1 d)
  | 0 => good_0
  | d + 1 => by
    have h_X7_tryFrom := T_X7_tryFrom (l := l) hE d
    exact good_all hE (by decide +kernel) (a_X7_tryFrom hE h_X7_tryFrom)
theorem t_X7_tryFrom {l : Launch} {E : En_} (hE : EOK_ E) (d : Nat) : Good_ l E yX7_tryFrom (.code yX7_tryFrom cX7_tryFrom 7 (none) :: G_) (rm_ (2 + d)) (f_X7_tryFrom E.2.2.2.1 d) := (T_X7_tryFrom hE d)
noncomputable def P_X7_search (K : Sh_)  : List (Nat × Op_) := [(0, o_ald 0 1),
  (1, o_ald 1 1),
  (2, o_pR K 7 4),
  (5, o_ald 0 1),
  (6, o_ild 3 1),
  (7, o_pI K 7 5),
  (10, o_ald 0 1),
  (11, o_ild 3 1),
  (12, o_pI K 7 1),
  (15, o_ald 0 1),
  (16, o_ic (-1) 1),
  (17, o_pI K 7 6),
  (20, o_ic 0 1),
  (21, o_ist 4 2),
  (23, o_ild 4 2),
  (25, o_ald 0 1),
  (26, o_gI K 7 5),
  (29, o_cmpge 51),
  (32, o_ald 0 1),
  (33, o_gF K 7 2),
  (36, o_ild 4 2),
  (38, o_ald 2 1),
  (39, o_ild 4 2),
  (41, o_callV K 8 (f_X8_byteAt K) 1),
  (44, o_iast K),
  (45, o_inc 4 1),
  (48, o_goto 23),
  (51, o_ald 0 1),
  (52, o_gF K 7 3),
  (55, o_ic 0 1),
  (56, o_ald 0 1),
  (57, o_gF K 7 2),
  (60, o_ic 0 1),
  (61, o_iald K),
  (62, o_iast K),
  (63, o_ald 0 1),
  (64, o_ic 1 1),
  (65, o_ic 1 1),
  (66, o_ic 1000000 2),
  (68, o_ic 1000000 2),
  (70, o_callV K 7 (f_X7_tryFrom K 80) 4),
  (73, o_ald 0 1),
  (74, o_gI K 7 6),
  (77, o_iret)]
noncomputable def f_X7_search (K : Sh_) : Fn_ := fn_ (P_X7_search K) 5
set_option maxRecDepth 100000 in
theorem a_X7_search {l : Launch} {E : En_} (hE : EOK_ E)   : All_ (Snd_ l E yX7_search.cls cX7_search 5 (some .int) (.code yX7_search cX7_search 5 (some .int) :: G_) (rm_ 83)) (P_X7_search E.2.2.2.1 ) :=
  all_c (s_ald_n (q := 0) (by decide +kernel) rfl)
  <| all_c (s_ald_n (q := 1) (by decide +kernel) rfl)
  <| all_c (p_7_4 (by decide +kernel) fl_RX7_25)
  <| all_c (s_ald_n (q := 0) (by decide +kernel) rfl)
  <| all_c (s_ild_n (q := 3) (by decide +kernel) rfl)
  <| all_c (p_7_5 (by decide +kernel) fl_RX7_29)
  <| all_c (s_ald_n (q := 0) (by decide +kernel) rfl)
  <| all_c (s_ild_n (q := 3) (by decide +kernel) rfl)
  <| all_c (p_7_1 (by decide +kernel) fl_RX7_15)
  <| all_c (s_ald_n (q := 0) (by decide +kernel) rfl)
  <| all_c (s_iconst (n := (-1)) (by decide +kernel) (by decide))
  <| all_c (p_7_6 (by decide +kernel) fl_RX7_32)
  <| all_c (s_iconst (n := 0) (by decide +kernel) (by decide))
  <| all_c (s_ist (by decide +kernel))
  <| all_c (s_ild (by decide +kernel))
  <| all_c (s_ald_n (q := 0) (by decide +kernel) rfl)
  <| all_c (g_7_5 (by decide +kernel) fl_RX7_29)
  <| all_c (s_cmpge (off := 22) (by decide +kernel) (by decide))
  <| all_c (s_ald_n (q := 0) (by decide +kernel) rfl)
  <| all_c (g_7_2 (by decide +kernel) fl_RX7_19)
  <| all_c (s_ild (by decide +kernel))
  <| all_c (s_ald_n (q := 2) (by decide +kernel) rfl)
  <| all_c (s_ild (by decide +kernel))
  <| all_c (s_callV (by decide +kernel) (t_X8_byteAt hE) cl_X8_byteAt ml_RX7_35 im_X8_byteAt se_X8_byteAt (by decide) rfl (rm_lt (by decide)))
  <| all_c (s_iast (by decide +kernel))
  <| all_c (s_inc (n := 1) (by decide +kernel) (by decide))
  <| all_c (s_goto (off := (-25)) (by decide +kernel) (by decide))
  <| all_c (s_ald_n (q := 0) (by decide +kernel) rfl)
  <| all_c (g_7_3 (by decide +kernel) fl_RX7_22)
  <| all_c (s_iconst (n := 0) (by decide +kernel) (by decide))
  <| all_c (s_ald_n (q := 0) (by decide +kernel) rfl)
  <| all_c (g_7_2 (by decide +kernel) fl_RX7_19)
  <| all_c (s_iconst (n := 0) (by decide +kernel) (by decide))
  <| all_c (s_iald (by decide +kernel))
  <| all_c (s_iast (by decide +kernel))
  <| all_c (s_ald_n (q := 0) (by decide +kernel) rfl)
  <| all_c (s_iconst (n := 1) (by decide +kernel) (by decide))
  <| all_c (s_iconst (n := 1) (by decide +kernel) (by decide))
  <| all_c (s_ldc (by decide +kernel) (G_w kk_RX7_41))
  <| all_c (s_ldc (by decide +kernel) (G_w kk_RX7_41))
  <| all_c (s_callV (by decide +kernel) (t_X7_tryFrom hE 80) cl_X7_tryFrom ml_RX7_42 im_X7_tryFrom se_X7_tryFrom (by decide) rfl (rm_lt (by decide)))
  <| all_c (s_ald_n (q := 0) (by decide +kernel) rfl)
  <| all_c (g_7_6 (by decide +kernel) fl_RX7_32)
  <| all_c (s_iret (by decide +kernel) rfl)
  <| all_n
theorem t_X7_search {l : Launch} {E : En_} (hE : EOK_ E) : Good_ l E yX7_search (.code yX7_search cX7_search 5 (some .int) :: G_) (rm_ 83) (f_X7_search E.2.2.2.1) := good_all hE (by decide +kernel) (a_X7_search hE)
noncomputable def P_X8_hasRoom (K : Sh_)  : List (Nat × Op_) := [(0, o_ald 0 1),
  (1, o_gI K 8 2),
  (4, o_ild 1 1),
  (5, o_iadd),
  (6, o_ic 1040 3),
  (9, o_cmpgt 16),
  (12, o_ic 1 1),
  (13, o_goto 17),
  (16, o_ic 0 1),
  (17, o_zret)]
noncomputable def f_X8_hasRoom (K : Sh_) : Fn_ := fn_ (P_X8_hasRoom K) 2
set_option maxRecDepth 100000 in
theorem a_X8_hasRoom {l : Launch} {E : En_} (hE : EOK_ E)   : All_ (Snd_ l E yX8_hasRoom.cls cX8_hasRoom 2 (some .boolean) (.code yX8_hasRoom cX8_hasRoom 2 (some .boolean) :: G_) (rm_ 1)) (P_X8_hasRoom E.2.2.2.1 ) :=
  all_c (s_ald_n (q := 0) (by decide +kernel) rfl)
  <| all_c (g_8_2 (by decide +kernel) fl_RX8_31)
  <| all_c (s_ild_n (q := 1) (by decide +kernel) rfl)
  <| all_c (s_iadd (by decide +kernel))
  <| all_c (s_sipush (n := 1040) (by decide +kernel) (by decide))
  <| all_c (s_cmpgt (off := 7) (by decide +kernel) (by decide))
  <| all_c (s_iconst (n := 1) (by decide +kernel) (by decide))
  <| all_c (s_goto (off := 4) (by decide +kernel) (by decide))
  <| all_c (s_iconst (n := 0) (by decide +kernel) (by decide))
  <| all_c (s_zret (by decide +kernel) rfl)
  <| all_n
theorem t_X8_hasRoom {l : Launch} {E : En_} (hE : EOK_ E) : Good_ l E yX8_hasRoom (.code yX8_hasRoom cX8_hasRoom 2 (some .boolean) :: G_) (rm_ 1) (f_X8_hasRoom E.2.2.2.1) := good_all hE (by decide +kernel) (a_X8_hasRoom hE)
noncomputable def P_X8_append (K : Sh_)  : List (Nat × Op_) := [(0, o_ic 24 2),
  (2, o_ist 2 1),
  (3, o_ild 2 1),
  (4, o_iflt 46),
  (7, o_ald 0 1),
  (8, o_gI K 8 2),
  (11, o_ic 1040 3),
  (14, o_cmpge 46),
  (17, o_ald 0 1),
  (18, o_gF K 8 0),
  (21, o_ald 0 1),
  (22, o_gI K 8 2),
  (25, o_ild 1 1),
  (26, o_ild 2 1),
  (27, o_iushr),
  (28, o_i2b),
  (29, o_bast K),
  (30, o_ald 0 1),
  (31, o_dup),
  (32, o_gI K 8 2),
  (35, o_ic 1 1),
  (36, o_iadd),
  (37, o_pI K 8 2),
  (40, o_inc 2 (-8)),
  (43, o_goto 3),
  (46, o_vret)]
noncomputable def f_X8_append (K : Sh_) : Fn_ := fn_ (P_X8_append K) 3
set_option maxRecDepth 100000 in
theorem a_X8_append {l : Launch} {E : En_} (hE : EOK_ E)   : All_ (Snd_ l E yX8_append.cls cX8_append 3 (none) (.code yX8_append cX8_append 3 (none) :: G_) (rm_ 1)) (P_X8_append E.2.2.2.1 ) :=
  all_c (s_bipush (n := 24) (by decide +kernel) (by decide))
  <| all_c (s_ist_n (q := 2) (by decide +kernel) rfl)
  <| all_c (s_ild_n (q := 2) (by decide +kernel) rfl)
  <| all_c (s_iflt (off := 42) (by decide +kernel) (by decide))
  <| all_c (s_ald_n (q := 0) (by decide +kernel) rfl)
  <| all_c (g_8_2 (by decide +kernel) fl_RX8_31)
  <| all_c (s_sipush (n := 1040) (by decide +kernel) (by decide))
  <| all_c (s_cmpge (off := 32) (by decide +kernel) (by decide))
  <| all_c (s_ald_n (q := 0) (by decide +kernel) rfl)
  <| all_c (g_8_0 (by decide +kernel) fl_RX8_11)
  <| all_c (s_ald_n (q := 0) (by decide +kernel) rfl)
  <| all_c (g_8_2 (by decide +kernel) fl_RX8_31)
  <| all_c (s_ild_n (q := 1) (by decide +kernel) rfl)
  <| all_c (s_ild_n (q := 2) (by decide +kernel) rfl)
  <| all_c (s_iushr (by decide +kernel))
  <| all_c (s_i2b (by decide +kernel))
  <| all_c (s_bast (by decide +kernel))
  <| all_c (s_ald_n (q := 0) (by decide +kernel) rfl)
  <| all_c (s_dup (by decide +kernel))
  <| all_c (g_8_2 (by decide +kernel) fl_RX8_31)
  <| all_c (s_iconst (n := 1) (by decide +kernel) (by decide))
  <| all_c (s_iadd (by decide +kernel))
  <| all_c (p_8_2 (by decide +kernel) fl_RX8_31)
  <| all_c (s_inc (n := (-8)) (by decide +kernel) (by decide))
  <| all_c (s_goto (off := (-40)) (by decide +kernel) (by decide))
  <| all_c (s_vret (by decide +kernel) rfl)
  <| all_n
theorem t_X8_append {l : Launch} {E : En_} (hE : EOK_ E) : Good_ l E yX8_append (.code yX8_append cX8_append 3 (none) :: G_) (rm_ 1) (f_X8_append E.2.2.2.1) := good_all hE (by decide +kernel) (a_X8_append hE)
noncomputable def P_X8_areUnlike (K : Sh_)  : List (Nat × Op_) := [(0, o_ild 1 1),
  (1, o_ic 2 1),
  (2, o_cmplt 10),
  (5, o_ild 1 1),
  (6, o_ild 2 1),
  (7, o_cmple 12),
  (10, o_ic 0 1),
  (11, o_zret),
  (12, o_ic 0 1),
  (13, o_ist 4 2),
  (15, o_ic 0 1),
  (16, o_aft [6] (o_ist 5 2)),
  (18, o_ild 5 2),
  (20, o_ild 1 1),
  (21, o_cmpge 65),
  (24, o_ald 0 1),
  (25, o_ild 5 2),
  (27, o_callV K 8 (f_X8_byteAt K) 1),
  (30, o_ist 6 2),
  (32, o_ild 6 2),
  (34, o_ild 3 1),
  (35, o_cmpge 48),
  (38, o_ild 4 2),
  (40, o_ild 6 2),
  (42, o_ishr),
  (43, o_ic 1 1),
  (44, o_iand),
  (45, o_ifeq 50),
  (48, o_ic 0 1),
  (49, o_zret),
  (50, o_ild 4 2),
  (52, o_ic 1 1),
  (53, o_ild 6 2),
  (55, o_ishl),
  (56, o_ior),
  (57, o_ist 4 2),
  (59, o_inc 5 1),
  (62, o_aft [6] (o_goto 18)),
  (65, o_ic 1 1),
  (66, o_zret)]
noncomputable def f_X8_areUnlike (K : Sh_) : Fn_ := fn_ (P_X8_areUnlike K) 7
set_option maxRecDepth 100000 in
theorem a_X8_areUnlike {l : Launch} {E : En_} (hE : EOK_ E)   : All_ (Snd_ l E yX8_areUnlike.cls cX8_areUnlike 7 (some .boolean) (.code yX8_areUnlike cX8_areUnlike 7 (some .boolean) :: G_) (rm_ 2)) (P_X8_areUnlike E.2.2.2.1 ) :=
  all_c (s_ild_n (q := 1) (by decide +kernel) rfl)
  <| all_c (s_iconst (n := 2) (by decide +kernel) (by decide))
  <| all_c (s_cmplt (off := 8) (by decide +kernel) (by decide))
  <| all_c (s_ild_n (q := 1) (by decide +kernel) rfl)
  <| all_c (s_ild_n (q := 2) (by decide +kernel) rfl)
  <| all_c (s_cmple (off := 5) (by decide +kernel) (by decide))
  <| all_c (s_iconst (n := 0) (by decide +kernel) (by decide))
  <| all_c (s_zret (by decide +kernel) rfl)
  <| all_c (s_iconst (n := 0) (by decide +kernel) (by decide))
  <| all_c (s_ist (by decide +kernel))
  <| all_c (s_iconst (n := 0) (by decide +kernel) (by decide))
  <| all_c (s_aft (s_ist (by decide +kernel)))
  <| all_c (s_ild (by decide +kernel))
  <| all_c (s_ild_n (q := 1) (by decide +kernel) rfl)
  <| all_c (s_cmpge (off := 44) (by decide +kernel) (by decide))
  <| all_c (s_ald_n (q := 0) (by decide +kernel) rfl)
  <| all_c (s_ild (by decide +kernel))
  <| all_c (s_callV (by decide +kernel) (t_X8_byteAt hE) cl_X8_byteAt ml_RX8_34 im_X8_byteAt se_X8_byteAt (by decide) rfl (rm_lt (by decide)))
  <| all_c (s_ist (by decide +kernel))
  <| all_c (s_ild (by decide +kernel))
  <| all_c (s_ild_n (q := 3) (by decide +kernel) rfl)
  <| all_c (s_cmpge (off := 13) (by decide +kernel) (by decide))
  <| all_c (s_ild (by decide +kernel))
  <| all_c (s_ild (by decide +kernel))
  <| all_c (s_ishr (by decide +kernel))
  <| all_c (s_iconst (n := 1) (by decide +kernel) (by decide))
  <| all_c (s_iand (by decide +kernel))
  <| all_c (s_ifeq (off := 5) (by decide +kernel) (by decide))
  <| all_c (s_iconst (n := 0) (by decide +kernel) (by decide))
  <| all_c (s_zret (by decide +kernel) rfl)
  <| all_c (s_ild (by decide +kernel))
  <| all_c (s_iconst (n := 1) (by decide +kernel) (by decide))
  <| all_c (s_ild (by decide +kernel))
  <| all_c (s_ishl (by decide +kernel))
  <| all_c (s_ior (by decide +kernel))
  <| all_c (s_ist (by decide +kernel))
  <| all_c (s_inc (n := 1) (by decide +kernel) (by decide))
  <| all_c (s_aft (s_goto (off := (-44)) (by decide +kernel) (by decide)))
  <| all_c (s_iconst (n := 1) (by decide +kernel) (by decide))
  <| all_c (s_zret (by decide +kernel) rfl)
  <| all_n
theorem t_X8_areUnlike {l : Launch} {E : En_} (hE : EOK_ E) : Good_ l E yX8_areUnlike (.code yX8_areUnlike cX8_areUnlike 7 (some .boolean) :: G_) (rm_ 2) (f_X8_areUnlike E.2.2.2.1) := good_all hE (by decide +kernel) (a_X8_areUnlike hE)
noncomputable def P_X8_start (K : Sh_)  : List (Nat × Op_) := [(0, o_ald 0 1),
  (1, o_ild 1 1),
  (2, o_pI K 8 3),
  (5, o_ald 0 1),
  (6, o_ic 0 1),
  (7, o_pI K 8 4),
  (10, o_ald 0 1),
  (11, o_ic 0 1),
  (12, o_pI K 8 9),
  (15, o_ald 0 1),
  (16, o_ic 0 1),
  (17, o_pI K 8 10),
  (20, o_ald 0 1),
  (21, o_callV K 8 (f_X8_next K) 0),
  (24, o_vret)]
noncomputable def f_X8_start (K : Sh_) : Fn_ := fn_ (P_X8_start K) 2
set_option maxRecDepth 100000 in
theorem a_X8_start {l : Launch} {E : En_} (hE : EOK_ E)   : All_ (Snd_ l E yX8_start.cls cX8_start 2 (none) (.code yX8_start cX8_start 2 (none) :: G_) (rm_ 3)) (P_X8_start E.2.2.2.1 ) :=
  all_c (s_ald_n (q := 0) (by decide +kernel) rfl)
  <| all_c (s_ild_n (q := 1) (by decide +kernel) rfl)
  <| all_c (p_8_3 (by decide +kernel) fl_RX8_38)
  <| all_c (s_ald_n (q := 0) (by decide +kernel) rfl)
  <| all_c (s_iconst (n := 0) (by decide +kernel) (by decide))
  <| all_c (p_8_4 (by decide +kernel) fl_RX8_41)
  <| all_c (s_ald_n (q := 0) (by decide +kernel) rfl)
  <| all_c (s_iconst (n := 0) (by decide +kernel) (by decide))
  <| all_c (p_8_9 (by decide +kernel) fl_RX8_44)
  <| all_c (s_ald_n (q := 0) (by decide +kernel) rfl)
  <| all_c (s_iconst (n := 0) (by decide +kernel) (by decide))
  <| all_c (p_8_10 (by decide +kernel) fl_RX8_47)
  <| all_c (s_ald_n (q := 0) (by decide +kernel) rfl)
  <| all_c (s_callV (by decide +kernel) (t_X8_next hE) cl_X8_next ml_RX8_50 im_X8_next se_X8_next (by decide) rfl (rm_lt (by decide)))
  <| all_c (s_vret (by decide +kernel) rfl)
  <| all_n
theorem t_X8_start {l : Launch} {E : En_} (hE : EOK_ E) : Good_ l E yX8_start (.code yX8_start cX8_start 2 (none) :: G_) (rm_ 3) (f_X8_start E.2.2.2.1) := good_all hE (by decide +kernel) (a_X8_start hE)
noncomputable def P_X8_isComparison (K : Sh_)  : List (Nat × Op_) := [(0, o_ild 0 1),
  (1, o_ic 60 2),
  (3, o_cmpeq 18),
  (6, o_ild 0 1),
  (7, o_ic 61 2),
  (9, o_cmpeq 18),
  (12, o_ild 0 1),
  (13, o_ic 62 2),
  (15, o_cmpne 22),
  (18, o_ic 1 1),
  (19, o_goto 23),
  (22, o_ic 0 1),
  (23, o_zret)]
noncomputable def f_X8_isComparison (K : Sh_) : Fn_ := fn_ (P_X8_isComparison K) 1
set_option maxRecDepth 100000 in
theorem a_X8_isComparison {l : Launch} {E : En_} (hE : EOK_ E)   : All_ (Snd_ l E yX8_isComparison.cls cX8_isComparison 1 (some .boolean) (.code yX8_isComparison cX8_isComparison 1 (some .boolean) :: G_) (rm_ 1)) (P_X8_isComparison E.2.2.2.1 ) :=
  all_c (s_ild_n (q := 0) (by decide +kernel) rfl)
  <| all_c (s_bipush (n := 60) (by decide +kernel) (by decide))
  <| all_c (s_cmpeq (off := 15) (by decide +kernel) (by decide))
  <| all_c (s_ild_n (q := 0) (by decide +kernel) rfl)
  <| all_c (s_bipush (n := 61) (by decide +kernel) (by decide))
  <| all_c (s_cmpeq (off := 9) (by decide +kernel) (by decide))
  <| all_c (s_ild_n (q := 0) (by decide +kernel) rfl)
  <| all_c (s_bipush (n := 62) (by decide +kernel) (by decide))
  <| all_c (s_cmpne (off := 7) (by decide +kernel) (by decide))
  <| all_c (s_iconst (n := 1) (by decide +kernel) (by decide))
  <| all_c (s_goto (off := 4) (by decide +kernel) (by decide))
  <| all_c (s_iconst (n := 0) (by decide +kernel) (by decide))
  <| all_c (s_zret (by decide +kernel) rfl)
  <| all_n
theorem t_X8_isComparison {l : Launch} {E : En_} (hE : EOK_ E) : Good_ l E yX8_isComparison (.code yX8_isComparison cX8_isComparison 1 (some .boolean) :: G_) (rm_ 1) (f_X8_isComparison E.2.2.2.1) := good_all hE (by decide +kernel) (a_X8_isComparison hE)
noncomputable def P_X8_faultAnswer (K : Sh_)  : List (Nat × Op_) := [(0, o_ic (-1) 1),
  (1, o_ald 0 1),
  (2, o_gI K 8 10),
  (5, o_isub),
  (6, o_iret)]
noncomputable def f_X8_faultAnswer (K : Sh_) : Fn_ := fn_ (P_X8_faultAnswer K) 1
set_option maxRecDepth 100000 in
theorem a_X8_faultAnswer {l : Launch} {E : En_} (hE : EOK_ E)   : All_ (Snd_ l E yX8_faultAnswer.cls cX8_faultAnswer 1 (some .int) (.code yX8_faultAnswer cX8_faultAnswer 1 (some .int) :: G_) (rm_ 1)) (P_X8_faultAnswer E.2.2.2.1 ) :=
  all_c (s_iconst (n := (-1)) (by decide +kernel) (by decide))
  <| all_c (s_ald_n (q := 0) (by decide +kernel) rfl)
  <| all_c (g_8_10 (by decide +kernel) fl_RX8_47)
  <| all_c (s_isub (by decide +kernel))
  <| all_c (s_iret (by decide +kernel) rfl)
  <| all_n
theorem t_X8_faultAnswer {l : Launch} {E : En_} (hE : EOK_ E) : Good_ l E yX8_faultAnswer (.code yX8_faultAnswer cX8_faultAnswer 1 (some .int) :: G_) (rm_ 1) (f_X8_faultAnswer E.2.2.2.1) := good_all hE (by decide +kernel) (a_X8_faultAnswer hE)
noncomputable def P_X9_clear (K : Sh_)  : List (Nat × Op_) := [(0, o_ald 0 1),
  (1, o_ic 0 1),
  (2, o_pI K 9 4),
  (5, o_ald 0 1),
  (6, o_ic 0 1),
  (7, o_pI K 9 5),
  (10, o_vret)]
noncomputable def f_X9_clear (K : Sh_) : Fn_ := fn_ (P_X9_clear K) 1
set_option maxRecDepth 100000 in
theorem a_X9_clear {l : Launch} {E : En_} (hE : EOK_ E)   : All_ (Snd_ l E yX9_clear.cls cX9_clear 1 (none) (.code yX9_clear cX9_clear 1 (none) :: G_) (rm_ 1)) (P_X9_clear E.2.2.2.1 ) :=
  all_c (s_ald_n (q := 0) (by decide +kernel) rfl)
  <| all_c (s_iconst (n := 0) (by decide +kernel) (by decide))
  <| all_c (p_9_4 (by decide +kernel) fl_RX9_24)
  <| all_c (s_ald_n (q := 0) (by decide +kernel) rfl)
  <| all_c (s_iconst (n := 0) (by decide +kernel) (by decide))
  <| all_c (p_9_5 (by decide +kernel) fl_RX9_28)
  <| all_c (s_vret (by decide +kernel) rfl)
  <| all_n
theorem t_X9_clear {l : Launch} {E : En_} (hE : EOK_ E) : Good_ l E yX9_clear (.code yX9_clear cX9_clear 1 (none) :: G_) (rm_ 1) (f_X9_clear E.2.2.2.1) := good_all hE (by decide +kernel) (a_X9_clear hE)
noncomputable def P_X9_copyFrom (K : Sh_)  : List (Nat × Op_) := [(0, o_ald 1 1),
  (1, o_gF K 9 0),
  (4, o_ald 0 1),
  (5, o_gF K 9 0),
  (8, o_ald 1 1),
  (9, o_gI K 9 4),
  (12, o_callS (f_X0_copyRow K) 3),
  (15, o_ald 1 1),
  (16, o_gF K 9 1),
  (19, o_ald 0 1),
  (20, o_gF K 9 1),
  (23, o_ald 1 1),
  (24, o_gI K 9 4),
  (27, o_callS (f_X0_copyRow K) 3),
  (30, o_ald 1 1),
  (31, o_gF K 9 2),
  (34, o_ald 0 1),
  (35, o_gF K 9 2),
  (38, o_ald 1 1),
  (39, o_gI K 9 4),
  (42, o_callS (f_X0_copyRow K) 3),
  (45, o_ald 1 1),
  (46, o_gF K 9 3),
  (49, o_ald 0 1),
  (50, o_gF K 9 3),
  (53, o_ald 1 1),
  (54, o_gI K 9 4),
  (57, o_callS (f_X0_copyRow K) 3),
  (60, o_ald 0 1),
  (61, o_ald 1 1),
  (62, o_gI K 9 4),
  (65, o_pI K 9 4),
  (68, o_ald 0 1),
  (69, o_ald 1 1),
  (70, o_gI K 9 5),
  (73, o_pI K 9 5),
  (76, o_vret)]
noncomputable def f_X9_copyFrom (K : Sh_) : Fn_ := fn_ (P_X9_copyFrom K) 2
set_option maxRecDepth 100000 in
theorem a_X9_copyFrom {l : Launch} {E : En_} (hE : EOK_ E)   : All_ (Snd_ l E yX9_copyFrom.cls cX9_copyFrom 2 (none) (.code yX9_copyFrom cX9_copyFrom 2 (none) :: G_) (rm_ 2)) (P_X9_copyFrom E.2.2.2.1 ) :=
  all_c (s_ald_n (q := 1) (by decide +kernel) rfl)
  <| all_c (g_9_0 (by decide +kernel) fl_RX9_11)
  <| all_c (s_ald_n (q := 0) (by decide +kernel) rfl)
  <| all_c (g_9_0 (by decide +kernel) fl_RX9_11)
  <| all_c (s_ald_n (q := 1) (by decide +kernel) rfl)
  <| all_c (g_9_4 (by decide +kernel) fl_RX9_24)
  <| all_c (s_callS (by decide +kernel) (t_X0_copyRow hE) cl_X0_copyRow ml_RX9_31 sm_X0_copyRow (rm_lt (by decide)))
  <| all_c (s_ald_n (q := 1) (by decide +kernel) rfl)
  <| all_c (g_9_1 (by decide +kernel) fl_RX9_15)
  <| all_c (s_ald_n (q := 0) (by decide +kernel) rfl)
  <| all_c (g_9_1 (by decide +kernel) fl_RX9_15)
  <| all_c (s_ald_n (q := 1) (by decide +kernel) rfl)
  <| all_c (g_9_4 (by decide +kernel) fl_RX9_24)
  <| all_c (s_callS (by decide +kernel) (t_X0_copyRow hE) cl_X0_copyRow ml_RX9_31 sm_X0_copyRow (rm_lt (by decide)))
  <| all_c (s_ald_n (q := 1) (by decide +kernel) rfl)
  <| all_c (g_9_2 (by decide +kernel) fl_RX9_18)
  <| all_c (s_ald_n (q := 0) (by decide +kernel) rfl)
  <| all_c (g_9_2 (by decide +kernel) fl_RX9_18)
  <| all_c (s_ald_n (q := 1) (by decide +kernel) rfl)
  <| all_c (g_9_4 (by decide +kernel) fl_RX9_24)
  <| all_c (s_callS (by decide +kernel) (t_X0_copyRow hE) cl_X0_copyRow ml_RX9_31 sm_X0_copyRow (rm_lt (by decide)))
  <| all_c (s_ald_n (q := 1) (by decide +kernel) rfl)
  <| all_c (g_9_3 (by decide +kernel) fl_RX9_21)
  <| all_c (s_ald_n (q := 0) (by decide +kernel) rfl)
  <| all_c (g_9_3 (by decide +kernel) fl_RX9_21)
  <| all_c (s_ald_n (q := 1) (by decide +kernel) rfl)
  <| all_c (g_9_4 (by decide +kernel) fl_RX9_24)
  <| all_c (s_callS (by decide +kernel) (t_X0_copyRow hE) cl_X0_copyRow ml_RX9_31 sm_X0_copyRow (rm_lt (by decide)))
  <| all_c (s_ald_n (q := 0) (by decide +kernel) rfl)
  <| all_c (s_ald_n (q := 1) (by decide +kernel) rfl)
  <| all_c (g_9_4 (by decide +kernel) fl_RX9_24)
  <| all_c (p_9_4 (by decide +kernel) fl_RX9_24)
  <| all_c (s_ald_n (q := 0) (by decide +kernel) rfl)
  <| all_c (s_ald_n (q := 1) (by decide +kernel) rfl)
  <| all_c (g_9_5 (by decide +kernel) fl_RX9_28)
  <| all_c (p_9_5 (by decide +kernel) fl_RX9_28)
  <| all_c (s_vret (by decide +kernel) rfl)
  <| all_n
theorem t_X9_copyFrom {l : Launch} {E : En_} (hE : EOK_ E) : Good_ l E yX9_copyFrom (.code yX9_copyFrom cX9_copyFrom 2 (none) :: G_) (rm_ 2) (f_X9_copyFrom E.2.2.2.1) := good_all hE (by decide +kernel) (a_X9_copyFrom hE)
noncomputable def P_X9_add (K : Sh_)  : List (Nat × Op_) := [(0, o_ald 0 1),
  (1, o_gI K 9 4),
  (4, o_ic 40 2),
  (6, o_cmpge 60),
  (9, o_ald 0 1),
  (10, o_gF K 9 0),
  (13, o_ald 0 1),
  (14, o_gI K 9 4),
  (17, o_ild 1 1),
  (18, o_iast K),
  (19, o_ald 0 1),
  (20, o_gF K 9 1),
  (23, o_ald 0 1),
  (24, o_gI K 9 4),
  (27, o_ild 2 1),
  (28, o_iast K),
  (29, o_ald 0 1),
  (30, o_gF K 9 2),
  (33, o_ald 0 1),
  (34, o_gI K 9 4),
  (37, o_ild 3 1),
  (38, o_iast K),
  (39, o_ald 0 1),
  (40, o_gF K 9 3),
  (43, o_ald 0 1),
  (44, o_gI K 9 4),
  (47, o_ild 4 2),
  (49, o_iast K),
  (50, o_ald 0 1),
  (51, o_dup),
  (52, o_gI K 9 4),
  (55, o_ic 1 1),
  (56, o_iadd),
  (57, o_pI K 9 4),
  (60, o_vret)]
noncomputable def f_X9_add (K : Sh_) : Fn_ := fn_ (P_X9_add K) 5
set_option maxRecDepth 100000 in
theorem a_X9_add {l : Launch} {E : En_} (hE : EOK_ E)   : All_ (Snd_ l E yX9_add.cls cX9_add 5 (none) (.code yX9_add cX9_add 5 (none) :: G_) (rm_ 1)) (P_X9_add E.2.2.2.1 ) :=
  all_c (s_ald_n (q := 0) (by decide +kernel) rfl)
  <| all_c (g_9_4 (by decide +kernel) fl_RX9_24)
  <| all_c (s_bipush (n := 40) (by decide +kernel) (by decide))
  <| all_c (s_cmpge (off := 54) (by decide +kernel) (by decide))
  <| all_c (s_ald_n (q := 0) (by decide +kernel) rfl)
  <| all_c (g_9_0 (by decide +kernel) fl_RX9_11)
  <| all_c (s_ald_n (q := 0) (by decide +kernel) rfl)
  <| all_c (g_9_4 (by decide +kernel) fl_RX9_24)
  <| all_c (s_ild_n (q := 1) (by decide +kernel) rfl)
  <| all_c (s_iast (by decide +kernel))
  <| all_c (s_ald_n (q := 0) (by decide +kernel) rfl)
  <| all_c (g_9_1 (by decide +kernel) fl_RX9_15)
  <| all_c (s_ald_n (q := 0) (by decide +kernel) rfl)
  <| all_c (g_9_4 (by decide +kernel) fl_RX9_24)
  <| all_c (s_ild_n (q := 2) (by decide +kernel) rfl)
  <| all_c (s_iast (by decide +kernel))
  <| all_c (s_ald_n (q := 0) (by decide +kernel) rfl)
  <| all_c (g_9_2 (by decide +kernel) fl_RX9_18)
  <| all_c (s_ald_n (q := 0) (by decide +kernel) rfl)
  <| all_c (g_9_4 (by decide +kernel) fl_RX9_24)
  <| all_c (s_ild_n (q := 3) (by decide +kernel) rfl)
  <| all_c (s_iast (by decide +kernel))
  <| all_c (s_ald_n (q := 0) (by decide +kernel) rfl)
  <| all_c (g_9_3 (by decide +kernel) fl_RX9_21)
  <| all_c (s_ald_n (q := 0) (by decide +kernel) rfl)
  <| all_c (g_9_4 (by decide +kernel) fl_RX9_24)
  <| all_c (s_ild (by decide +kernel))
  <| all_c (s_iast (by decide +kernel))
  <| all_c (s_ald_n (q := 0) (by decide +kernel) rfl)
  <| all_c (s_dup (by decide +kernel))
  <| all_c (g_9_4 (by decide +kernel) fl_RX9_24)
  <| all_c (s_iconst (n := 1) (by decide +kernel) (by decide))
  <| all_c (s_iadd (by decide +kernel))
  <| all_c (p_9_4 (by decide +kernel) fl_RX9_24)
  <| all_c (s_vret (by decide +kernel) rfl)
  <| all_n
theorem t_X9_add {l : Launch} {E : En_} (hE : EOK_ E) : Good_ l E yX9_add (.code yX9_add cX9_add 5 (none) :: G_) (rm_ 1) (f_X9_add E.2.2.2.1) := good_all hE (by decide +kernel) (a_X9_add hE)
noncomputable def P_X9_readAsking (K : Sh_)  : List (Nat × Op_) := [(0, o_ic 0 1),
  (1, o_ist 4 2),
  (3, o_ild 3 1),
  (4, o_ic 20 2),
  (6, o_aft [5] (o_cmpgt 25)),
  (9, o_ald 1 1),
  (10, o_ald 2 1),
  (11, o_callV K 8 (f_X8_takeChap K) 1),
  (14, o_ifne 19),
  (17, o_ic 0 1),
  (18, o_zret),
  (19, o_ald 1 1),
  (20, o_gI K 8 8),
  (23, o_aft [5] (o_ist 4 2)),
  (25, o_ild 3 1),
  (26, o_ic 20 2),
  (28, o_cmpge 42),
  (31, o_ald 0 1),
  (32, o_ild 3 1),
  (33, o_ild 4 2),
  (35, o_ic 0 1),
  (36, o_ic 0 1),
  (37, o_callV K 9 (f_X9_add K) 4),
  (40, o_ic 1 1),
  (41, o_zret),
  (42, o_ald 1 1),
  (43, o_gI K 8 6),
  (46, o_ist 5 2),
  (48, o_ild 5 2),
  (50, o_callS (f_X8_isComparison K) 1),
  (53, o_ifne 62),
  (56, o_ald 1 1),
  (57, o_ic 1 1),
  (58, o_callV K 8 (f_X8_fail K) 1),
  (61, o_zret),
  (62, o_ald 1 1),
  (63, o_callV K 8 (f_X8_next K) 0),
  (66, o_ald 1 1),
  (67, o_ic 0 1),
  (68, o_ic 999 3),
  (71, o_callV K 8 (f_X8_takeNumber K) 2),
  (74, o_ifne 79),
  (77, o_ic 0 1),
  (78, o_zret),
  (79, o_ald 0 1),
  (80, o_ild 3 1),
  (81, o_ild 4 2),
  (83, o_ild 5 2),
  (85, o_ald 1 1),
  (86, o_gI K 8 8),
  (89, o_callV K 9 (f_X9_add K) 4),
  (92, o_ic 1 1),
  (93, o_zret)]
noncomputable def f_X9_readAsking (K : Sh_) : Fn_ := fn_ (P_X9_readAsking K) 6
set_option maxRecDepth 100000 in
theorem a_X9_readAsking {l : Launch} {E : En_} (hE : EOK_ E)   : All_ (Snd_ l E yX9_readAsking.cls cX9_readAsking 6 (some .boolean) (.code yX9_readAsking cX9_readAsking 6 (some .boolean) :: G_) (rm_ 4)) (P_X9_readAsking E.2.2.2.1 ) :=
  all_c (s_iconst (n := 0) (by decide +kernel) (by decide))
  <| all_c (s_ist (by decide +kernel))
  <| all_c (s_ild_n (q := 3) (by decide +kernel) rfl)
  <| all_c (s_bipush (n := 20) (by decide +kernel) (by decide))
  <| all_c (s_aft (s_cmpgt (off := 19) (by decide +kernel) (by decide)))
  <| all_c (s_ald_n (q := 1) (by decide +kernel) rfl)
  <| all_c (s_ald_n (q := 2) (by decide +kernel) rfl)
  <| all_c (s_callV (by decide +kernel) (t_X8_takeChap hE) cl_X8_takeChap ml_RX9_69 im_X8_takeChap se_X8_takeChap (by decide) rfl (rm_lt (by decide)))
  <| all_c (s_ifne (off := 5) (by decide +kernel) (by decide))
  <| all_c (s_iconst (n := 0) (by decide +kernel) (by decide))
  <| all_c (s_zret (by decide +kernel) rfl)
  <| all_c (s_ald_n (q := 1) (by decide +kernel) rfl)
  <| all_c (g_8_8 (by decide +kernel) fl_RX9_73)
  <| all_c (s_aft (s_ist (by decide +kernel)))
  <| all_c (s_ild_n (q := 3) (by decide +kernel) rfl)
  <| all_c (s_bipush (n := 20) (by decide +kernel) (by decide))
  <| all_c (s_cmpge (off := 14) (by decide +kernel) (by decide))
  <| all_c (s_ald_n (q := 0) (by decide +kernel) rfl)
  <| all_c (s_ild_n (q := 3) (by decide +kernel) rfl)
  <| all_c (s_ild (by decide +kernel))
  <| all_c (s_iconst (n := 0) (by decide +kernel) (by decide))
  <| all_c (s_iconst (n := 0) (by decide +kernel) (by decide))
  <| all_c (s_callV (by decide +kernel) (t_X9_add hE) cl_X9_add ml_RX9_56 im_X9_add se_X9_add (by decide) rfl (rm_lt (by decide)))
  <| all_c (s_iconst (n := 1) (by decide +kernel) (by decide))
  <| all_c (s_zret (by decide +kernel) rfl)
  <| all_c (s_ald_n (q := 1) (by decide +kernel) rfl)
  <| all_c (g_8_6 (by decide +kernel) fl_RX9_44)
  <| all_c (s_ist (by decide +kernel))
  <| all_c (s_ild (by decide +kernel))
  <| all_c (s_callS (by decide +kernel) (t_X8_isComparison hE) cl_X8_isComparison ml_RX9_76 sm_X8_isComparison (rm_lt (by decide)))
  <| all_c (s_ifne (off := 9) (by decide +kernel) (by decide))
  <| all_c (s_ald_n (q := 1) (by decide +kernel) rfl)
  <| all_c (s_iconst (n := 1) (by decide +kernel) (by decide))
  <| all_c (s_callV (by decide +kernel) (t_X8_fail hE) cl_X8_fail ml_RX9_49 im_X8_fail se_X8_fail (by decide) rfl (rm_lt (by decide)))
  <| all_c (s_zret (by decide +kernel) rfl)
  <| all_c (s_ald_n (q := 1) (by decide +kernel) rfl)
  <| all_c (s_callV (by decide +kernel) (t_X8_next hE) cl_X8_next ml_RX9_60 im_X8_next se_X8_next (by decide) rfl (rm_lt (by decide)))
  <| all_c (s_ald_n (q := 1) (by decide +kernel) rfl)
  <| all_c (s_iconst (n := 0) (by decide +kernel) (by decide))
  <| all_c (s_sipush (n := 999) (by decide +kernel) (by decide))
  <| all_c (s_callV (by decide +kernel) (t_X8_takeNumber hE) cl_X8_takeNumber ml_RX9_79 im_X8_takeNumber se_X8_takeNumber (by decide) rfl (rm_lt (by decide)))
  <| all_c (s_ifne (off := 5) (by decide +kernel) (by decide))
  <| all_c (s_iconst (n := 0) (by decide +kernel) (by decide))
  <| all_c (s_zret (by decide +kernel) rfl)
  <| all_c (s_ald_n (q := 0) (by decide +kernel) rfl)
  <| all_c (s_ild_n (q := 3) (by decide +kernel) rfl)
  <| all_c (s_ild (by decide +kernel))
  <| all_c (s_ild (by decide +kernel))
  <| all_c (s_ald_n (q := 1) (by decide +kernel) rfl)
  <| all_c (g_8_8 (by decide +kernel) fl_RX9_73)
  <| all_c (s_callV (by decide +kernel) (t_X9_add hE) cl_X9_add ml_RX9_56 im_X9_add se_X9_add (by decide) rfl (rm_lt (by decide)))
  <| all_c (s_iconst (n := 1) (by decide +kernel) (by decide))
  <| all_c (s_zret (by decide +kernel) rfl)
  <| all_n
theorem t_X9_readAsking {l : Launch} {E : En_} (hE : EOK_ E) : Good_ l E yX9_readAsking (.code yX9_readAsking cX9_readAsking 6 (some .boolean) :: G_) (rm_ 4) (f_X9_readAsking E.2.2.2.1) := good_all hE (by decide +kernel) (a_X9_readAsking hE)
noncomputable def P_X9_readCond (K : Sh_) (r_X9_readCond : Fn_) (r_X9_readOne : Fn_) : List (Nat × Op_) := [(0, o_ic 0 1),
  (1, o_ist 4 2),
  (3, o_ic 0 1),
  (4, o_ist 5 2),
  (6, o_ic 0 1),
  (7, o_ist 6 2),
  (9, o_ild 6 2),
  (11, o_ic 20 2),
  (13, o_cmpgt 120),
  (16, o_ald 0 1),
  (17, o_ald 1 1),
  (18, o_ald 2 1),
  (19, o_ild 3 1),
  (20, o_callV K 9 (r_X9_readOne) 3),
  (23, o_ifne 28),
  (26, o_ic 0 1),
  (27, o_zret),
  (28, o_ild 4 2),
  (30, o_aft [4] (o_ifeq 42)),
  (33, o_ald 0 1),
  (34, o_ic 16 2),
  (36, o_ic 0 1),
  (37, o_ic 0 1),
  (38, o_ic 0 1),
  (39, o_aft [4] (o_callV K 9 (f_X9_add K) 4)),
  (42, o_ald 1 1),
  (43, o_gI K 8 6),
  (46, o_ic 16 2),
  (48, o_cmpne 55),
  (51, o_ic 1 1),
  (52, o_goto 56),
  (55, o_ic 0 1),
  (56, o_ist 4 2),
  (58, o_ild 4 2),
  (60, o_ifne 77),
  (63, o_ild 5 2),
  (65, o_ifeq 77),
  (68, o_ald 0 1),
  (69, o_ic 15 2),
  (71, o_ic 0 1),
  (72, o_ic 0 1),
  (73, o_ic 0 1),
  (74, o_callV K 9 (f_X9_add K) 4),
  (77, o_ild 4 2),
  (79, o_ifne 93),
  (82, o_ald 1 1),
  (83, o_gI K 8 6),
  (86, o_ic 15 2),
  (88, o_cmpeq 93),
  (91, o_ic 1 1),
  (92, o_zret),
  (93, o_ild 5 2),
  (95, o_ifne 103),
  (98, o_ild 4 2),
  (100, o_ifne 107),
  (103, o_ic 1 1),
  (104, o_goto 108),
  (107, o_ic 0 1),
  (108, o_ist 5 2),
  (110, o_ald 1 1),
  (111, o_callV K 8 (f_X8_next K) 0),
  (114, o_inc 6 1),
  (117, o_goto 9),
  (120, o_ic 0 1),
  (121, o_zret)]
noncomputable def P_X9_readOne (K : Sh_) (r_X9_readCond : Fn_) (r_X9_readOne : Fn_) : List (Nat × Op_) := [(0, o_ald 1 1),
  (1, o_gI K 8 6),
  (4, o_ist 4 2),
  (6, o_ild 4 2),
  (8, o_ic 40 2),
  (10, o_cmpeq 33),
  (13, o_ild 4 2),
  (15, o_ic 17 2),
  (17, o_cmplt 27),
  (20, o_ild 4 2),
  (22, o_ic 23 2),
  (24, o_cmple 33),
  (27, o_ald 1 1),
  (28, o_ic 1 1),
  (29, o_callV K 8 (f_X8_fail K) 1),
  (32, o_zret),
  (33, o_ald 0 1),
  (34, o_gI K 9 5),
  (37, o_ic 20 2),
  (39, o_cmpge 48),
  (42, o_ild 3 1),
  (43, o_ic 8 2),
  (45, o_cmple 54),
  (48, o_ald 1 1),
  (49, o_ic 4 1),
  (50, o_callV K 8 (f_X8_fail K) 1),
  (53, o_zret),
  (54, o_ald 0 1),
  (55, o_dup),
  (56, o_gI K 9 5),
  (59, o_ic 1 1),
  (60, o_iadd),
  (61, o_pI K 9 5),
  (64, o_ald 1 1),
  (65, o_callV K 8 (f_X8_next K) 0),
  (68, o_ild 4 2),
  (70, o_ic 40 2),
  (72, o_cmpne 102),
  (75, o_ald 0 1),
  (76, o_ald 1 1),
  (77, o_ald 2 1),
  (78, o_ild 3 1),
  (79, o_ic 1 1),
  (80, o_iadd),
  (81, o_callV K 9 (r_X9_readCond) 3),
  (84, o_ifeq 100),
  (87, o_ald 1 1),
  (88, o_ic 41 2),
  (90, o_callV K 8 (f_X8_take K) 1),
  (93, o_ifeq 100),
  (96, o_ic 1 1),
  (97, o_goto 101),
  (100, o_ic 0 1),
  (101, o_zret),
  (102, o_ild 4 2),
  (104, o_ic 17 2),
  (106, o_cmpne 134),
  (109, o_ald 0 1),
  (110, o_ald 1 1),
  (111, o_ald 2 1),
  (112, o_ild 3 1),
  (113, o_ic 1 1),
  (114, o_iadd),
  (115, o_callV K 9 (r_X9_readOne) 3),
  (118, o_ifne 123),
  (121, o_ic 0 1),
  (122, o_zret),
  (123, o_ald 0 1),
  (124, o_ic 17 2),
  (126, o_ic 0 1),
  (127, o_ic 0 1),
  (128, o_ic 0 1),
  (129, o_callV K 9 (f_X9_add K) 4),
  (132, o_ic 1 1),
  (133, o_zret),
  (134, o_ald 0 1),
  (135, o_ald 1 1),
  (136, o_ald 2 1),
  (137, o_ild 4 2),
  (139, o_callV K 9 (f_X9_readAsking K) 3),
  (142, o_zret)]
noncomputable def F_X9_readCond (K : Sh_) : Nat → Fn_ × Fn_
  | 0 => (fun _ _ => none, fun _ _ => none)
  | d + 1 => (fn_ (P_X9_readCond K (F_X9_readCond K d).1 (F_X9_readCond K d).2) 7, fn_ (P_X9_readOne K (F_X9_readCond K d).1 (F_X9_readCond K d).2) 5)
noncomputable def f_X9_readCond (K : Sh_) (d : Nat) : Fn_ := (F_X9_readCond K d).1
noncomputable def f_X9_readOne (K : Sh_) (d : Nat) : Fn_ := (F_X9_readCond K d).2
set_option maxRecDepth 100000 in
theorem a_X9_readCond {l : Launch} {E : En_} (hE : EOK_ E) {d : Nat} {r_X9_readCond : Fn_} (h_X9_readCond : Good_ l E yX9_readCond (.code yX9_readCond cX9_readCond 7 (some .boolean) :: G_) (rm_ (5 + d)) r_X9_readCond) {r_X9_readOne : Fn_} (h_X9_readOne : Good_ l E yX9_readOne (.code yX9_readOne cX9_readOne 5 (some .boolean) :: G_) (rm_ (5 + d)) r_X9_readOne) : All_ (Snd_ l E yX9_readCond.cls cX9_readCond 7 (some .boolean) (.code yX9_readCond cX9_readCond 7 (some .boolean) :: G_) (rm_ (5 + (d + 1)))) (P_X9_readCond E.2.2.2.1 r_X9_readCond r_X9_readOne) :=
  all_c (s_iconst (n := 0) (by decide +kernel) (by decide))
  <| all_c (s_ist (by decide +kernel))
  <| all_c (s_iconst (n := 0) (by decide +kernel) (by decide))
  <| all_c (s_ist (by decide +kernel))
  <| all_c (s_iconst (n := 0) (by decide +kernel) (by decide))
  <| all_c (s_ist (by decide +kernel))
  <| all_c (s_ild (by decide +kernel))
  <| all_c (s_bipush (n := 20) (by decide +kernel) (by decide))
  <| all_c (s_cmpgt (off := 107) (by decide +kernel) (by decide))
  <| all_c (s_ald_n (q := 0) (by decide +kernel) rfl)
  <| all_c (s_ald_n (q := 1) (by decide +kernel) rfl)
  <| all_c (s_ald_n (q := 2) (by decide +kernel) rfl)
  <| all_c (s_ild_n (q := 3) (by decide +kernel) rfl)
  <| all_c (s_callV (by decide +kernel) (h_X9_readOne) cl_X9_readOne ml_RX9_53 im_X9_readOne se_X9_readOne (by decide) rfl (rm_lt (by omega)))
  <| all_c (s_ifne (off := 5) (by decide +kernel) (by decide))
  <| all_c (s_iconst (n := 0) (by decide +kernel) (by decide))
  <| all_c (s_zret (by decide +kernel) rfl)
  <| all_c (s_ild (by decide +kernel))
  <| all_c (s_aft (s_ifeq (off := 12) (by decide +kernel) (by decide)))
  <| all_c (s_ald_n (q := 0) (by decide +kernel) rfl)
  <| all_c (s_bipush (n := 16) (by decide +kernel) (by decide))
  <| all_c (s_iconst (n := 0) (by decide +kernel) (by decide))
  <| all_c (s_iconst (n := 0) (by decide +kernel) (by decide))
  <| all_c (s_iconst (n := 0) (by decide +kernel) (by decide))
  <| all_c (s_aft (s_callV (by decide +kernel) (t_X9_add hE) cl_X9_add ml_RX9_56 im_X9_add se_X9_add (by decide) rfl (rm_lt (by omega))))
  <| all_c (s_ald_n (q := 1) (by decide +kernel) rfl)
  <| all_c (g_8_6 (by decide +kernel) fl_RX9_44)
  <| all_c (s_bipush (n := 16) (by decide +kernel) (by decide))
  <| all_c (s_cmpne (off := 7) (by decide +kernel) (by decide))
  <| all_c (s_iconst (n := 1) (by decide +kernel) (by decide))
  <| all_c (s_goto (off := 4) (by decide +kernel) (by decide))
  <| all_c (s_iconst (n := 0) (by decide +kernel) (by decide))
  <| all_c (s_ist (by decide +kernel))
  <| all_c (s_ild (by decide +kernel))
  <| all_c (s_ifne (off := 17) (by decide +kernel) (by decide))
  <| all_c (s_ild (by decide +kernel))
  <| all_c (s_ifeq (off := 12) (by decide +kernel) (by decide))
  <| all_c (s_ald_n (q := 0) (by decide +kernel) rfl)
  <| all_c (s_bipush (n := 15) (by decide +kernel) (by decide))
  <| all_c (s_iconst (n := 0) (by decide +kernel) (by decide))
  <| all_c (s_iconst (n := 0) (by decide +kernel) (by decide))
  <| all_c (s_iconst (n := 0) (by decide +kernel) (by decide))
  <| all_c (s_callV (by decide +kernel) (t_X9_add hE) cl_X9_add ml_RX9_56 im_X9_add se_X9_add (by decide) rfl (rm_lt (by omega)))
  <| all_c (s_ild (by decide +kernel))
  <| all_c (s_ifne (off := 14) (by decide +kernel) (by decide))
  <| all_c (s_ald_n (q := 1) (by decide +kernel) rfl)
  <| all_c (g_8_6 (by decide +kernel) fl_RX9_44)
  <| all_c (s_bipush (n := 15) (by decide +kernel) (by decide))
  <| all_c (s_cmpeq (off := 5) (by decide +kernel) (by decide))
  <| all_c (s_iconst (n := 1) (by decide +kernel) (by decide))
  <| all_c (s_zret (by decide +kernel) rfl)
  <| all_c (s_ild (by decide +kernel))
  <| all_c (s_ifne (off := 8) (by decide +kernel) (by decide))
  <| all_c (s_ild (by decide +kernel))
  <| all_c (s_ifne (off := 7) (by decide +kernel) (by decide))
  <| all_c (s_iconst (n := 1) (by decide +kernel) (by decide))
  <| all_c (s_goto (off := 4) (by decide +kernel) (by decide))
  <| all_c (s_iconst (n := 0) (by decide +kernel) (by decide))
  <| all_c (s_ist (by decide +kernel))
  <| all_c (s_ald_n (q := 1) (by decide +kernel) rfl)
  <| all_c (s_callV (by decide +kernel) (t_X8_next hE) cl_X8_next ml_RX9_60 im_X8_next se_X8_next (by decide) rfl (rm_lt (by omega)))
  <| all_c (s_inc (n := 1) (by decide +kernel) (by decide))
  <| all_c (s_goto (off := (-108)) (by decide +kernel) (by decide))
  <| all_c (s_iconst (n := 0) (by decide +kernel) (by decide))
  <| all_c (s_zret (by decide +kernel) rfl)
  <| all_n
set_option maxRecDepth 100000 in
theorem a_X9_readOne {l : Launch} {E : En_} (hE : EOK_ E) {d : Nat} {r_X9_readCond : Fn_} (h_X9_readCond : Good_ l E yX9_readCond (.code yX9_readCond cX9_readCond 7 (some .boolean) :: G_) (rm_ (5 + d)) r_X9_readCond) {r_X9_readOne : Fn_} (h_X9_readOne : Good_ l E yX9_readOne (.code yX9_readOne cX9_readOne 5 (some .boolean) :: G_) (rm_ (5 + d)) r_X9_readOne) : All_ (Snd_ l E yX9_readOne.cls cX9_readOne 5 (some .boolean) (.code yX9_readOne cX9_readOne 5 (some .boolean) :: G_) (rm_ (5 + (d + 1)))) (P_X9_readOne E.2.2.2.1 r_X9_readCond r_X9_readOne) :=
  all_c (s_ald_n (q := 1) (by decide +kernel) rfl)
  <| all_c (g_8_6 (by decide +kernel) fl_RX9_44)
  <| all_c (s_ist (by decide +kernel))
  <| all_c (s_ild (by decide +kernel))
  <| all_c (s_bipush (n := 40) (by decide +kernel) (by decide))
  <| all_c (s_cmpeq (off := 23) (by decide +kernel) (by decide))
  <| all_c (s_ild (by decide +kernel))
  <| all_c (s_bipush (n := 17) (by decide +kernel) (by decide))
  <| all_c (s_cmplt (off := 10) (by decide +kernel) (by decide))
  <| all_c (s_ild (by decide +kernel))
  <| all_c (s_bipush (n := 23) (by decide +kernel) (by decide))
  <| all_c (s_cmple (off := 9) (by decide +kernel) (by decide))
  <| all_c (s_ald_n (q := 1) (by decide +kernel) rfl)
  <| all_c (s_iconst (n := 1) (by decide +kernel) (by decide))
  <| all_c (s_callV (by decide +kernel) (t_X8_fail hE) cl_X8_fail ml_RX9_49 im_X8_fail se_X8_fail (by decide) rfl (rm_lt (by omega)))
  <| all_c (s_zret (by decide +kernel) rfl)
  <| all_c (s_ald_n (q := 0) (by decide +kernel) rfl)
  <| all_c (g_9_5 (by decide +kernel) fl_RX9_28)
  <| all_c (s_bipush (n := 20) (by decide +kernel) (by decide))
  <| all_c (s_cmpge (off := 9) (by decide +kernel) (by decide))
  <| all_c (s_ild_n (q := 3) (by decide +kernel) rfl)
  <| all_c (s_bipush (n := 8) (by decide +kernel) (by decide))
  <| all_c (s_cmple (off := 9) (by decide +kernel) (by decide))
  <| all_c (s_ald_n (q := 1) (by decide +kernel) rfl)
  <| all_c (s_iconst (n := 4) (by decide +kernel) (by decide))
  <| all_c (s_callV (by decide +kernel) (t_X8_fail hE) cl_X8_fail ml_RX9_49 im_X8_fail se_X8_fail (by decide) rfl (rm_lt (by omega)))
  <| all_c (s_zret (by decide +kernel) rfl)
  <| all_c (s_ald_n (q := 0) (by decide +kernel) rfl)
  <| all_c (s_dup (by decide +kernel))
  <| all_c (g_9_5 (by decide +kernel) fl_RX9_28)
  <| all_c (s_iconst (n := 1) (by decide +kernel) (by decide))
  <| all_c (s_iadd (by decide +kernel))
  <| all_c (p_9_5 (by decide +kernel) fl_RX9_28)
  <| all_c (s_ald_n (q := 1) (by decide +kernel) rfl)
  <| all_c (s_callV (by decide +kernel) (t_X8_next hE) cl_X8_next ml_RX9_60 im_X8_next se_X8_next (by decide) rfl (rm_lt (by omega)))
  <| all_c (s_ild (by decide +kernel))
  <| all_c (s_bipush (n := 40) (by decide +kernel) (by decide))
  <| all_c (s_cmpne (off := 30) (by decide +kernel) (by decide))
  <| all_c (s_ald_n (q := 0) (by decide +kernel) rfl)
  <| all_c (s_ald_n (q := 1) (by decide +kernel) rfl)
  <| all_c (s_ald_n (q := 2) (by decide +kernel) rfl)
  <| all_c (s_ild_n (q := 3) (by decide +kernel) rfl)
  <| all_c (s_iconst (n := 1) (by decide +kernel) (by decide))
  <| all_c (s_iadd (by decide +kernel))
  <| all_c (s_callV (by decide +kernel) (h_X9_readCond) cl_X9_readCond ml_RX9_40 im_X9_readCond se_X9_readCond (by decide) rfl (rm_lt (by omega)))
  <| all_c (s_ifeq (off := 16) (by decide +kernel) (by decide))
  <| all_c (s_ald_n (q := 1) (by decide +kernel) rfl)
  <| all_c (s_bipush (n := 41) (by decide +kernel) (by decide))
  <| all_c (s_callV (by decide +kernel) (t_X8_take hE) cl_X8_take ml_RX9_63 im_X8_take se_X8_take (by decide) rfl (rm_lt (by omega)))
  <| all_c (s_ifeq (off := 7) (by decide +kernel) (by decide))
  <| all_c (s_iconst (n := 1) (by decide +kernel) (by decide))
  <| all_c (s_goto (off := 4) (by decide +kernel) (by decide))
  <| all_c (s_iconst (n := 0) (by decide +kernel) (by decide))
  <| all_c (s_zret (by decide +kernel) rfl)
  <| all_c (s_ild (by decide +kernel))
  <| all_c (s_bipush (n := 17) (by decide +kernel) (by decide))
  <| all_c (s_cmpne (off := 28) (by decide +kernel) (by decide))
  <| all_c (s_ald_n (q := 0) (by decide +kernel) rfl)
  <| all_c (s_ald_n (q := 1) (by decide +kernel) rfl)
  <| all_c (s_ald_n (q := 2) (by decide +kernel) rfl)
  <| all_c (s_ild_n (q := 3) (by decide +kernel) rfl)
  <| all_c (s_iconst (n := 1) (by decide +kernel) (by decide))
  <| all_c (s_iadd (by decide +kernel))
  <| all_c (s_callV (by decide +kernel) (h_X9_readOne) cl_X9_readOne ml_RX9_53 im_X9_readOne se_X9_readOne (by decide) rfl (rm_lt (by omega)))
  <| all_c (s_ifne (off := 5) (by decide +kernel) (by decide))
  <| all_c (s_iconst (n := 0) (by decide +kernel) (by decide))
  <| all_c (s_zret (by decide +kernel) rfl)
  <| all_c (s_ald_n (q := 0) (by decide +kernel) rfl)
  <| all_c (s_bipush (n := 17) (by decide +kernel) (by decide))
  <| all_c (s_iconst (n := 0) (by decide +kernel) (by decide))
  <| all_c (s_iconst (n := 0) (by decide +kernel) (by decide))
  <| all_c (s_iconst (n := 0) (by decide +kernel) (by decide))
  <| all_c (s_callV (by decide +kernel) (t_X9_add hE) cl_X9_add ml_RX9_56 im_X9_add se_X9_add (by decide) rfl (rm_lt (by omega)))
  <| all_c (s_iconst (n := 1) (by decide +kernel) (by decide))
  <| all_c (s_zret (by decide +kernel) rfl)
  <| all_c (s_ald_n (q := 0) (by decide +kernel) rfl)
  <| all_c (s_ald_n (q := 1) (by decide +kernel) rfl)
  <| all_c (s_ald_n (q := 2) (by decide +kernel) rfl)
  <| all_c (s_ild (by decide +kernel))
  <| all_c (s_callV (by decide +kernel) (t_X9_readAsking hE) cl_X9_readAsking ml_RX9_66 im_X9_readAsking se_X9_readAsking (by decide) rfl (rm_lt (by omega)))
  <| all_c (s_zret (by decide +kernel) rfl)
  <| all_n
theorem T_X9_readCond {l : Launch} {E : En_} (hE : EOK_ E) : ∀ d, Good_ l E yX9_readCond (.code yX9_readCond cX9_readCond 7 (some .boolean) :: G_) (rm_ (5 + d)) (f_X9_readCond E.2.2.2.1 d) ∧ Good_ l E yX9_readOne (.code yX9_readOne cX9_readOne 5 (some .boolean) :: G_) (rm_ (5 + d)) (f_X9_readOne E.2.2.2.1 d)
  | 0 => ⟨good_0, good_0⟩
  | d + 1 => by
    obtain ⟨h_X9_readCond, h_X9_readOne⟩ := T_X9_readCond (l := l) hE d
    exact ⟨good_all hE (by decide +kernel) (a_X9_readCond hE h_X9_readCond h_X9_readOne), good_all hE (by decide +kernel) (a_X9_readOne hE h_X9_readCond h_X9_readOne)⟩
theorem t_X9_readCond {l : Launch} {E : En_} (hE : EOK_ E) (d : Nat) : Good_ l E yX9_readCond (.code yX9_readCond cX9_readCond 7 (some .boolean) :: G_) (rm_ (5 + d)) (f_X9_readCond E.2.2.2.1 d) := (T_X9_readCond hE d).1
theorem t_X9_readOne {l : Launch} {E : En_} (hE : EOK_ E) (d : Nat) : Good_ l E yX9_readOne (.code yX9_readOne cX9_readOne 5 (some .boolean) :: G_) (rm_ (5 + d)) (f_X9_readOne E.2.2.2.1 d) := (T_X9_readCond hE d).2
