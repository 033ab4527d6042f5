noncomputable def P_X12_idlest (K : Sh_)  : List (Nat × Op_) := [(0, o_ic (-1) 1),
  (1, o_ist 2 1),
  (2, o_ic 0 1),
  (3, o_ist 3 1),
  (4, o_ild 3 1),
  (5, o_ald 0 1),
  (6, o_callV K 12 (f_X12_readers K) 0),
  (9, o_cmpge 58),
  (12, o_ild 1 1),
  (13, o_ic (-1) 1),
  (14, o_cmpeq 30),
  (17, o_ald 0 1),
  (18, o_gF K 12 27),
  (21, o_ild 3 1),
  (22, o_iald K),
  (23, o_ild 1 1),
  (24, o_callS (f_X12_has K) 2),
  (27, o_ifne 52),
  (30, o_ild 2 1),
  (31, o_ic (-1) 1),
  (32, o_cmpeq 50),
  (35, o_ald 0 1),
  (36, o_gF K 12 26),
  (39, o_ild 3 1),
  (40, o_iald K),
  (41, o_ald 0 1),
  (42, o_gF K 12 26),
  (45, o_ild 2 1),
  (46, o_iald K),
  (47, o_cmple 52),
  (50, o_ild 3 1),
  (51, o_ist 2 1),
  (52, o_inc 3 1),
  (55, o_goto 4),
  (58, o_ild 2 1),
  (59, o_iret)]
noncomputable def f_X12_idlest (K : Sh_) : Fn_ := fn_ (P_X12_idlest K) 4
set_option maxRecDepth 100000 in
theorem a_X12_idlest {l : Launch} {E : En_} (hE : EOK_ E)   : All_ (Snd_ l E yX12_idlest.cls cX12_idlest 4 (some .int) (.code yX12_idlest cX12_idlest 4 (some .int) :: G_) (rm_ 2)) (P_X12_idlest E.2.2.2.1 ) :=
  all_c (s_iconst (n := (-1)) (by decide +kernel) (by decide))
  <| all_c (s_ist_n (q := 2) (by decide +kernel) rfl)
  <| all_c (s_iconst (n := 0) (by decide +kernel) (by decide))
  <| all_c (s_ist_n (q := 3) (by decide +kernel) rfl)
  <| all_c (s_ild_n (q := 3) (by decide +kernel) rfl)
  <| all_c (s_ald_n (q := 0) (by decide +kernel) rfl)
  <| all_c (s_callV (by decide +kernel) (t_X12_readers hE) cl_X12_readers ml_RX12_191 im_X12_readers se_X12_readers (by decide) rfl (rm_lt (by decide)))
  <| all_c (s_cmpge (off := 49) (by decide +kernel) (by decide))
  <| all_c (s_ild_n (q := 1) (by decide +kernel) rfl)
  <| all_c (s_iconst (n := (-1)) (by decide +kernel) (by decide))
  <| all_c (s_cmpeq (off := 16) (by decide +kernel) (by decide))
  <| all_c (s_ald_n (q := 0) (by decide +kernel) rfl)
  <| all_c (g_12_27 (by decide +kernel) fl_RX12_45)
  <| all_c (s_ild_n (q := 3) (by decide +kernel) rfl)
  <| all_c (s_iald (by decide +kernel))
  <| all_c (s_ild_n (q := 1) (by decide +kernel) rfl)
  <| all_c (s_callS (by decide +kernel) (t_X12_has hE) cl_X12_has ml_RX12_223 sm_X12_has (rm_lt (by decide)))
  <| all_c (s_ifne (off := 25) (by decide +kernel) (by decide))
  <| all_c (s_ild_n (q := 2) (by decide +kernel) rfl)
  <| all_c (s_iconst (n := (-1)) (by decide +kernel) (by decide))
  <| all_c (s_cmpeq (off := 18) (by decide +kernel) (by decide))
  <| all_c (s_ald_n (q := 0) (by decide +kernel) rfl)
  <| all_c (g_12_26 (by decide +kernel) fl_RX12_42)
  <| all_c (s_ild_n (q := 3) (by decide +kernel) rfl)
  <| all_c (s_iald (by decide +kernel))
  <| all_c (s_ald_n (q := 0) (by decide +kernel) rfl)
  <| all_c (g_12_26 (by decide +kernel) fl_RX12_42)
  <| all_c (s_ild_n (q := 2) (by decide +kernel) rfl)
  <| all_c (s_iald (by decide +kernel))
  <| all_c (s_cmple (off := 5) (by decide +kernel) (by decide))
  <| all_c (s_ild_n (q := 3) (by decide +kernel) rfl)
  <| all_c (s_ist_n (q := 2) (by decide +kernel) rfl)
  <| all_c (s_inc (n := 1) (by decide +kernel) (by decide))
  <| all_c (s_goto (off := (-51)) (by decide +kernel) (by decide))
  <| all_c (s_ild_n (q := 2) (by decide +kernel) rfl)
  <| all_c (s_iret (by decide +kernel) rfl)
  <| all_n
theorem t_X12_idlest {l : Launch} {E : En_} (hE : EOK_ E) : Good_ l E yX12_idlest (.code yX12_idlest cX12_idlest 4 (some .int) :: G_) (rm_ 2) (f_X12_idlest E.2.2.2.1) := good_all hE (by decide +kernel) (a_X12_idlest hE)
noncomputable def P_X12_makeLean (K : Sh_)  : List (Nat × Op_) := [(0, o_ic 0 1),
  (1, o_aft [3, 4, 5, 6] (o_ist 2 1)),
  (2, o_ild 2 1),
  (3, o_ald 0 1),
  (4, o_callV K 12 (f_X12_chaps K) 0),
  (7, o_cmpge 23),
  (10, o_ald 0 1),
  (11, o_gF K 12 32),
  (14, o_ild 2 1),
  (15, o_ild 2 1),
  (16, o_iast K),
  (17, o_inc 2 1),
  (20, o_aft [3, 4, 5, 6] (o_goto 2)),
  (23, o_ic 1 1),
  (24, o_aft [3, 4, 5, 6] (o_ist 2 1)),
  (25, o_ild 2 1),
  (26, o_ifeq 148),
  (29, o_ic 0 1),
  (30, o_ist 2 1),
  (31, o_ic 0 1),
  (32, o_aft [4, 5, 6] (o_ist 3 1)),
  (33, o_ild 3 1),
  (34, o_ald 0 1),
  (35, o_callV K 12 (f_X12_chaps K) 0),
  (38, o_cmpge 145),
  (41, o_ic 0 1),
  (42, o_aft [5, 6] (o_ist 4 2)),
  (44, o_ild 4 2),
  (46, o_ild 3 1),
  (47, o_cmpge 139),
  (50, o_ald 0 1),
  (51, o_ild 3 1),
  (52, o_ild 4 2),
  (54, o_callV K 12 (f_X12_leanOf K) 2),
  (57, o_ild 1 1),
  (58, o_cmplt 133),
  (61, o_ald 0 1),
  (62, o_gF K 12 32),
  (65, o_ild 3 1),
  (66, o_iald K),
  (67, o_ald 0 1),
  (68, o_gF K 12 32),
  (71, o_ild 4 2),
  (73, o_iald K),
  (74, o_cmpne 80),
  (77, o_goto 133),
  (80, o_ald 0 1),
  (81, o_gF K 12 32),
  (84, o_ild 3 1),
  (85, o_iald K),
  (86, o_ald 0 1),
  (87, o_gF K 12 32),
  (90, o_ild 4 2),
  (92, o_iald K),
  (93, o_cmpge 105),
  (96, o_ald 0 1),
  (97, o_gF K 12 32),
  (100, o_ild 3 1),
  (101, o_iald K),
  (102, o_aft [2, 5, 6] (o_goto 112)),
  (105, o_ald 0 1),
  (106, o_gF K 12 32),
  (109, o_ild 4 2),
  (111, o_aft [2, 5, 6] (o_iald K)),
  (112, o_ist 5 2),
  (114, o_ald 0 1),
  (115, o_gF K 12 32),
  (118, o_ild 3 1),
  (119, o_ild 5 2),
  (121, o_iast K),
  (122, o_ald 0 1),
  (123, o_gF K 12 32),
  (126, o_ild 4 2),
  (128, o_ild 5 2),
  (130, o_iast K),
  (131, o_ic 1 1),
  (132, o_ist 2 1),
  (133, o_inc 4 1),
  (136, o_aft [5, 6] (o_goto 44)),
  (139, o_inc 3 1),
  (142, o_aft [4, 5, 6] (o_goto 33)),
  (145, o_aft [3, 4, 5, 6] (o_goto 25)),
  (148, o_ic 0 1),
  (149, o_aft [2, 4, 5, 6] (o_ist 3 1)),
  (150, o_ild 3 1),
  (151, o_ald 0 1),
  (152, o_callV K 12 (f_X12_chaps K) 0),
  (155, o_cmpge 240),
  (158, o_ald 0 1),
  (159, o_callV K 12 (f_X12_readers K) 0),
  (162, o_ifle 240),
  (165, o_ald 0 1),
  (166, o_gF K 12 32),
  (169, o_ild 3 1),
  (170, o_iald K),
  (171, o_ild 3 1),
  (172, o_cmpeq 178),
  (175, o_goto 234),
  (178, o_ald 0 1),
  (179, o_ic (-1) 1),
  (180, o_callV K 12 (f_X12_idlest K) 1),
  (183, o_ist 4 2),
  (185, o_ic 1 1),
  (186, o_ist 5 2),
  (188, o_ild 3 1),
  (189, o_aft [2] (o_ist 6 2)),
  (191, o_ild 6 2),
  (193, o_ald 0 1),
  (194, o_callV K 12 (f_X12_chaps K) 0),
  (197, o_cmpge 234),
  (200, o_ild 5 2),
  (202, o_ifeq 234),
  (205, o_ald 0 1),
  (206, o_gF K 12 32),
  (209, o_ild 6 2),
  (211, o_iald K),
  (212, o_ild 3 1),
  (213, o_cmpne 228),
  (216, o_ald 0 1),
  (217, o_ild 4 2),
  (219, o_ild 6 2),
  (221, o_ic 0 1),
  (222, o_ic 0 1),
  (223, o_callV K 12 (f_X12_tries K) 4),
  (226, o_ist 5 2),
  (228, o_inc 6 1),
  (231, o_aft [2] (o_goto 191)),
  (234, o_inc 3 1),
  (237, o_aft [2, 4, 5, 6] (o_goto 150)),
  (240, o_vret)]
noncomputable def f_X12_makeLean (K : Sh_) : Fn_ := fn_ (P_X12_makeLean K) 7
set_option maxRecDepth 100000 in
theorem a_X12_makeLean {l : Launch} {E : En_} (hE : EOK_ E)   : All_ (Snd_ l E yX12_makeLean.cls cX12_makeLean 7 (none) (.code yX12_makeLean cX12_makeLean 7 (none) :: G_) (rm_ 6)) (P_X12_makeLean E.2.2.2.1 ) :=
  all_c (s_iconst (n := 0) (by decide +kernel) (by decide))
  <| all_c (s_aft (s_ist_n (q := 2) (by decide +kernel) rfl))
  <| all_c (s_ild_n (q := 2) (by decide +kernel) rfl)
  <| all_c (s_ald_n (q := 0) (by decide +kernel) rfl)
  <| all_c (s_callV (by decide +kernel) (t_X12_chaps hE) cl_X12_chaps ml_RX12_188 im_X12_chaps se_X12_chaps (by decide) rfl (rm_lt (by decide)))
  <| all_c (s_cmpge (off := 16) (by decide +kernel) (by decide))
  <| all_c (s_ald_n (q := 0) (by decide +kernel) rfl)
  <| all_c (g_12_32 (by decide +kernel) fl_RX12_51)
  <| all_c (s_ild_n (q := 2) (by decide +kernel) rfl)
  <| all_c (s_ild_n (q := 2) (by decide +kernel) rfl)
  <| all_c (s_iast (by decide +kernel))
  <| all_c (s_inc (n := 1) (by decide +kernel) (by decide))
  <| all_c (s_aft (s_goto (off := (-18)) (by decide +kernel) (by decide)))
  <| all_c (s_iconst (n := 1) (by decide +kernel) (by decide))
  <| all_c (s_aft (s_ist_n (q := 2) (by decide +kernel) rfl))
  <| all_c (s_ild_n (q := 2) (by decide +kernel) rfl)
  <| all_c (s_ifeq (off := 122) (by decide +kernel) (by decide))
  <| all_c (s_iconst (n := 0) (by decide +kernel) (by decide))
  <| all_c (s_ist_n (q := 2) (by decide +kernel) rfl)
  <| all_c (s_iconst (n := 0) (by decide +kernel) (by decide))
  <| all_c (s_aft (s_ist_n (q := 3) (by decide +kernel) rfl))
  <| all_c (s_ild_n (q := 3) (by decide +kernel) rfl)
  <| all_c (s_ald_n (q := 0) (by decide +kernel) rfl)
  <| all_c (s_callV (by decide +kernel) (t_X12_chaps hE) cl_X12_chaps ml_RX12_188 im_X12_chaps se_X12_chaps (by decide) rfl (rm_lt (by decide)))
  <| all_c (s_cmpge (off := 107) (by decide +kernel) (by decide))
  <| all_c (s_iconst (n := 0) (by decide +kernel) (by decide))
  <| all_c (s_aft (s_ist (by decide +kernel)))
  <| all_c (s_ild (by decide +kernel))
  <| all_c (s_ild_n (q := 3) (by decide +kernel) rfl)
  <| all_c (s_cmpge (off := 92) (by decide +kernel) (by decide))
  <| all_c (s_ald_n (q := 0) (by decide +kernel) rfl)
  <| all_c (s_ild_n (q := 3) (by decide +kernel) rfl)
  <| all_c (s_ild (by decide +kernel))
  <| all_c (s_callV (by decide +kernel) (t_X12_leanOf hE) cl_X12_leanOf ml_RX12_242 im_X12_leanOf se_X12_leanOf (by decide) rfl (rm_lt (by decide)))
  <| all_c (s_ild_n (q := 1) (by decide +kernel) rfl)
  <| all_c (s_cmplt (off := 75) (by decide +kernel) (by decide))
  <| all_c (s_ald_n (q := 0) (by decide +kernel) rfl)
  <| all_c (g_12_32 (by decide +kernel) fl_RX12_51)
  <| all_c (s_ild_n (q := 3) (by decide +kernel) rfl)
  <| all_c (s_iald (by decide +kernel))
  <| all_c (s_ald_n (q := 0) (by decide +kernel) rfl)
  <| all_c (g_12_32 (by decide +kernel) fl_RX12_51)
  <| all_c (s_ild (by decide +kernel))
  <| all_c (s_iald (by decide +kernel))
  <| all_c (s_cmpne (off := 6) (by decide +kernel) (by decide))
  <| all_c (s_goto (off := 56) (by decide +kernel) (by decide))
  <| all_c (s_ald_n (q := 0) (by decide +kernel) rfl)
  <| all_c (g_12_32 (by decide +kernel) fl_RX12_51)
  <| all_c (s_ild_n (q := 3) (by decide +kernel) rfl)
  <| all_c (s_iald (by decide +kernel))
  <| all_c (s_ald_n (q := 0) (by decide +kernel) rfl)
  <| all_c (g_12_32 (by decide +kernel) fl_RX12_51)
  <| all_c (s_ild (by decide +kernel))
  <| all_c (s_iald (by decide +kernel))
  <| all_c (s_cmpge (off := 12) (by decide +kernel) (by decide))
  <| all_c (s_ald_n (q := 0) (by decide +kernel) rfl)
  <| all_c (g_12_32 (by decide +kernel) fl_RX12_51)
  <| all_c (s_ild_n (q := 3) (by decide +kernel) rfl)
  <| all_c (s_iald (by decide +kernel))
  <| all_c (s_aft (s_goto (off := 10) (by decide +kernel) (by decide)))
  <| all_c (s_ald_n (q := 0) (by decide +kernel) rfl)
  <| all_c (g_12_32 (by decide +kernel) fl_RX12_51)
  <| all_c (s_ild (by decide +kernel))
  <| all_c (s_aft (s_iald (by decide +kernel)))
  <| all_c (s_ist (by decide +kernel))
  <| all_c (s_ald_n (q := 0) (by decide +kernel) rfl)
  <| all_c (g_12_32 (by decide +kernel) fl_RX12_51)
  <| all_c (s_ild_n (q := 3) (by decide +kernel) rfl)
  <| all_c (s_ild (by decide +kernel))
  <| all_c (s_iast (by decide +kernel))
  <| all_c (s_ald_n (q := 0) (by decide +kernel) rfl)
  <| all_c (g_12_32 (by decide +kernel) fl_RX12_51)
  <| all_c (s_ild (by decide +kernel))
  <| all_c (s_ild (by decide +kernel))
  <| all_c (s_iast (by decide +kernel))
  <| all_c (s_iconst (n := 1) (by decide +kernel) (by decide))
  <| all_c (s_ist_n (q := 2) (by decide +kernel) rfl)
  <| all_c (s_inc (n := 1) (by decide +kernel) (by decide))
  <| all_c (s_aft (s_goto (off := (-92)) (by decide +kernel) (by decide)))
  <| all_c (s_inc (n := 1) (by decide +kernel) (by decide))
  <| all_c (s_aft (s_goto (off := (-109)) (by decide +kernel) (by decide)))
  <| all_c (s_aft (s_goto (off := (-120)) (by decide +kernel) (by decide)))
  <| all_c (s_iconst (n := 0) (by decide +kernel) (by decide))
  <| all_c (s_aft (s_ist_n (q := 3) (by decide +kernel) rfl))
  <| all_c (s_ild_n (q := 3) (by decide +kernel) rfl)
  <| all_c (s_ald_n (q := 0) (by decide +kernel) rfl)
  <| all_c (s_callV (by decide +kernel) (t_X12_chaps hE) cl_X12_chaps ml_RX12_188 im_X12_chaps se_X12_chaps (by decide) rfl (rm_lt (by decide)))
  <| all_c (s_cmpge (off := 85) (by decide +kernel) (by decide))
  <| all_c (s_ald_n (q := 0) (by decide +kernel) rfl)
  <| all_c (s_callV (by decide +kernel) (t_X12_readers hE) cl_X12_readers ml_RX12_191 im_X12_readers se_X12_readers (by decide) rfl (rm_lt (by decide)))
  <| all_c (s_ifle (off := 78) (by decide +kernel) (by decide))
  <| all_c (s_ald_n (q := 0) (by decide +kernel) rfl)
  <| all_c (g_12_32 (by decide +kernel) fl_RX12_51)
  <| all_c (s_ild_n (q := 3) (by decide +kernel) rfl)
  <| all_c (s_iald (by decide +kernel))
  <| all_c (s_ild_n (q := 3) (by decide +kernel) rfl)
  <| all_c (s_cmpeq (off := 6) (by decide +kernel) (by decide))
  <| all_c (s_goto (off := 59) (by decide +kernel) (by decide))
  <| all_c (s_ald_n (q := 0) (by decide +kernel) rfl)
  <| all_c (s_iconst (n := (-1)) (by decide +kernel) (by decide))
  <| all_c (s_callV (by decide +kernel) (t_X12_idlest hE) cl_X12_idlest ml_RX12_334 im_X12_idlest se_X12_idlest (by decide) rfl (rm_lt (by decide)))
  <| all_c (s_ist (by decide +kernel))
  <| all_c (s_iconst (n := 1) (by decide +kernel) (by decide))
  <| all_c (s_ist (by decide +kernel))
  <| all_c (s_ild_n (q := 3) (by decide +kernel) rfl)
  <| all_c (s_aft (s_ist (by decide +kernel)))
  <| all_c (s_ild (by decide +kernel))
  <| all_c (s_ald_n (q := 0) (by decide +kernel) rfl)
  <| all_c (s_callV (by decide +kernel) (t_X12_chaps hE) cl_X12_chaps ml_RX12_188 im_X12_chaps se_X12_chaps (by decide) rfl (rm_lt (by decide)))
  <| all_c (s_cmpge (off := 37) (by decide +kernel) (by decide))
  <| all_c (s_ild (by decide +kernel))
  <| all_c (s_ifeq (off := 32) (by decide +kernel) (by decide))
  <| all_c (s_ald_n (q := 0) (by decide +kernel) rfl)
  <| all_c (g_12_32 (by decide +kernel) fl_RX12_51)
  <| all_c (s_ild (by decide +kernel))
  <| all_c (s_iald (by decide +kernel))
  <| all_c (s_ild_n (q := 3) (by decide +kernel) rfl)
  <| all_c (s_cmpne (off := 15) (by decide +kernel) (by decide))
  <| all_c (s_ald_n (q := 0) (by decide +kernel) rfl)
  <| all_c (s_ild (by decide +kernel))
  <| all_c (s_ild (by decide +kernel))
  <| all_c (s_iconst (n := 0) (by decide +kernel) (by decide))
  <| all_c (s_iconst (n := 0) (by decide +kernel) (by decide))
  <| all_c (s_callV (by decide +kernel) (t_X12_tries hE) cl_X12_tries ml_RX12_331 im_X12_tries se_X12_tries (by decide) rfl (rm_lt (by decide)))
  <| all_c (s_ist (by decide +kernel))
  <| all_c (s_inc (n := 1) (by decide +kernel) (by decide))
  <| all_c (s_aft (s_goto (off := (-40)) (by decide +kernel) (by decide)))
  <| all_c (s_inc (n := 1) (by decide +kernel) (by decide))
  <| all_c (s_aft (s_goto (off := (-87)) (by decide +kernel) (by decide)))
  <| all_c (s_vret (by decide +kernel) rfl)
  <| all_n
theorem t_X12_makeLean {l : Launch} {E : En_} (hE : EOK_ E) : Good_ l E yX12_makeLean (.code yX12_makeLean cX12_makeLean 7 (none) :: G_) (rm_ 6) (f_X12_makeLean E.2.2.2.1) := good_all hE (by decide +kernel) (a_X12_makeLean hE)
noncomputable def P_X12_makeTwice (K : Sh_)  : List (Nat × Op_) := [(0, o_ic 0 1),
  (1, o_ist 2 1),
  (2, o_ic 0 1),
  (3, o_aft [4, 5] (o_ist 3 1)),
  (4, o_ild 3 1),
  (5, o_ild 1 1),
  (6, o_cmpge 112),
  (9, o_ild 3 1),
  (10, o_ald 0 1),
  (11, o_callV K 12 (f_X12_chaps K) 0),
  (14, o_cmpge 112),
  (17, o_ic (-1) 1),
  (18, o_ist 4 2),
  (20, o_ic 0 1),
  (21, o_ist 5 2),
  (23, o_ild 5 2),
  (25, o_ald 0 1),
  (26, o_callV K 12 (f_X12_chaps K) 0),
  (29, o_cmpge 74),
  (32, o_ild 2 1),
  (33, o_ild 5 2),
  (35, o_callS (f_X12_has K) 2),
  (38, o_ifne 68),
  (41, o_ild 4 2),
  (43, o_ic (-1) 1),
  (44, o_cmpeq 64),
  (47, o_ald 0 1),
  (48, o_ild 5 2),
  (50, o_ic 1 1),
  (51, o_callV K 12 (f_X12_chapOf K) 2),
  (54, o_ald 0 1),
  (55, o_ild 4 2),
  (57, o_ic 1 1),
  (58, o_callV K 12 (f_X12_chapOf K) 2),
  (61, o_cmple 68),
  (64, o_ild 5 2),
  (66, o_ist 4 2),
  (68, o_inc 5 1),
  (71, o_goto 23),
  (74, o_ild 2 1),
  (75, o_ic 1 1),
  (76, o_ild 4 2),
  (78, o_ishl),
  (79, o_ior),
  (80, o_ist 2 1),
  (81, o_ald 0 1),
  (82, o_ild 4 2),
  (84, o_callV K 12 (f_X12_idlest K) 1),
  (87, o_ist 5 2),
  (89, o_ild 5 2),
  (91, o_ic (-1) 1),
  (92, o_cmpeq 106),
  (95, o_ald 0 1),
  (96, o_ild 5 2),
  (98, o_ild 4 2),
  (100, o_ic 0 1),
  (101, o_ic 0 1),
  (102, o_callV K 12 (f_X12_tries K) 4),
  (105, o_pop),
  (106, o_inc 3 1),
  (109, o_aft [4, 5] (o_goto 4)),
  (112, o_vret)]
noncomputable def f_X12_makeTwice (K : Sh_) : Fn_ := fn_ (P_X12_makeTwice K) 6
set_option maxRecDepth 100000 in
theorem a_X12_makeTwice {l : Launch} {E : En_} (hE : EOK_ E)   : All_ (Snd_ l E yX12_makeTwice.cls cX12_makeTwice 6 (none) (.code yX12_makeTwice cX12_makeTwice 6 (none) :: G_) (rm_ 6)) (P_X12_makeTwice E.2.2.2.1 ) :=
  all_c (s_iconst (n := 0) (by decide +kernel) (by decide))
  <| all_c (s_ist_n (q := 2) (by decide +kernel) rfl)
  <| all_c (s_iconst (n := 0) (by decide +kernel) (by decide))
  <| all_c (s_aft (s_ist_n (q := 3) (by decide +kernel) rfl))
  <| all_c (s_ild_n (q := 3) (by decide +kernel) rfl)
  <| all_c (s_ild_n (q := 1) (by decide +kernel) rfl)
  <| all_c (s_cmpge (off := 106) (by decide +kernel) (by decide))
  <| all_c (s_ild_n (q := 3) (by decide +kernel) rfl)
  <| all_c (s_ald_n (q := 0) (by decide +kernel) rfl)
  <| all_c (s_callV (by decide +kernel) (t_X12_chaps hE) cl_X12_chaps ml_RX12_188 im_X12_chaps se_X12_chaps (by decide) rfl (rm_lt (by decide)))
  <| all_c (s_cmpge (off := 98) (by decide +kernel) (by decide))
  <| all_c (s_iconst (n := (-1)) (by decide +kernel) (by decide))
  <| all_c (s_ist (by decide +kernel))
  <| all_c (s_iconst (n := 0) (by decide +kernel) (by decide))
  <| all_c (s_ist (by decide +kernel))
  <| all_c (s_ild (by decide +kernel))
  <| all_c (s_ald_n (q := 0) (by decide +kernel) rfl)
  <| all_c (s_callV (by decide +kernel) (t_X12_chaps hE) cl_X12_chaps ml_RX12_188 im_X12_chaps se_X12_chaps (by decide) rfl (rm_lt (by decide)))
  <| all_c (s_cmpge (off := 45) (by decide +kernel) (by decide))
  <| all_c (s_ild_n (q := 2) (by decide +kernel) rfl)
  <| all_c (s_ild (by decide +kernel))
  <| all_c (s_callS (by decide +kernel) (t_X12_has hE) cl_X12_has ml_RX12_223 sm_X12_has (rm_lt (by decide)))
  <| all_c (s_ifne (off := 30) (by decide +kernel) (by decide))
  <| all_c (s_ild (by decide +kernel))
  <| all_c (s_iconst (n := (-1)) (by decide +kernel) (by decide))
  <| all_c (s_cmpeq (off := 20) (by decide +kernel) (by decide))
  <| all_c (s_ald_n (q := 0) (by decide +kernel) rfl)
  <| all_c (s_ild (by decide +kernel))
  <| all_c (s_iconst (n := 1) (by decide +kernel) (by decide))
  <| all_c (s_callV (by decide +kernel) (t_X12_chapOf hE) cl_X12_chapOf ml_RX12_238 im_X12_chapOf se_X12_chapOf (by decide) rfl (rm_lt (by decide)))
  <| all_c (s_ald_n (q := 0) (by decide +kernel) rfl)
  <| all_c (s_ild (by decide +kernel))
  <| all_c (s_iconst (n := 1) (by decide +kernel) (by decide))
  <| all_c (s_callV (by decide +kernel) (t_X12_chapOf hE) cl_X12_chapOf ml_RX12_238 im_X12_chapOf se_X12_chapOf (by decide) rfl (rm_lt (by decide)))
  <| all_c (s_cmple (off := 7) (by decide +kernel) (by decide))
  <| all_c (s_ild (by decide +kernel))
  <| all_c (s_ist (by decide +kernel))
  <| all_c (s_inc (n := 1) (by decide +kernel) (by decide))
  <| all_c (s_goto (off := (-48)) (by decide +kernel) (by decide))
  <| all_c (s_ild_n (q := 2) (by decide +kernel) rfl)
  <| all_c (s_iconst (n := 1) (by decide +kernel) (by decide))
  <| all_c (s_ild (by decide +kernel))
  <| all_c (s_ishl (by decide +kernel))
  <| all_c (s_ior (by decide +kernel))
  <| all_c (s_ist_n (q := 2) (by decide +kernel) rfl)
  <| all_c (s_ald_n (q := 0) (by decide +kernel) rfl)
  <| all_c (s_ild (by decide +kernel))
  <| all_c (s_callV (by decide +kernel) (t_X12_idlest hE) cl_X12_idlest ml_RX12_334 im_X12_idlest se_X12_idlest (by decide) rfl (rm_lt (by decide)))
  <| all_c (s_ist (by decide +kernel))
  <| all_c (s_ild (by decide +kernel))
  <| all_c (s_iconst (n := (-1)) (by decide +kernel) (by decide))
  <| all_c (s_cmpeq (off := 14) (by decide +kernel) (by decide))
  <| all_c (s_ald_n (q := 0) (by decide +kernel) rfl)
  <| all_c (s_ild (by decide +kernel))
  <| all_c (s_ild (by decide +kernel))
  <| all_c (s_iconst (n := 0) (by decide +kernel) (by decide))
  <| all_c (s_iconst (n := 0) (by decide +kernel) (by decide))
  <| all_c (s_callV (by decide +kernel) (t_X12_tries hE) cl_X12_tries ml_RX12_331 im_X12_tries se_X12_tries (by decide) rfl (rm_lt (by decide)))
  <| all_c (s_pop (by decide +kernel))
  <| all_c (s_inc (n := 1) (by decide +kernel) (by decide))
  <| all_c (s_aft (s_goto (off := (-105)) (by decide +kernel) (by decide)))
  <| all_c (s_vret (by decide +kernel) rfl)
  <| all_n
theorem t_X12_makeTwice {l : Launch} {E : En_} (hE : EOK_ E) : Good_ l E yX12_makeTwice (.code yX12_makeTwice cX12_makeTwice 6 (none) :: G_) (rm_ 6) (f_X12_makeTwice E.2.2.2.1) := good_all hE (by decide +kernel) (a_X12_makeTwice hE)
noncomputable def P_X12_makeChain (K : Sh_)  : List (Nat × Op_) := [(0, o_ic 0 1),
  (1, o_aft [3, 4, 5] (o_ist 2 1)),
  (2, o_ild 2 1),
  (3, o_ald 0 1),
  (4, o_callV K 12 (f_X12_chaps K) 0),
  (7, o_cmpge 116),
  (10, o_ic 0 1),
  (11, o_aft [4, 5] (o_ist 3 1)),
  (12, o_ild 3 1),
  (13, o_ald 0 1),
  (14, o_callV K 12 (f_X12_readers K) 0),
  (17, o_cmpge 39),
  (20, o_ald 0 1),
  (21, o_gF K 12 27),
  (24, o_ild 3 1),
  (25, o_iald K),
  (26, o_ild 2 1),
  (27, o_callS (f_X12_has K) 2),
  (30, o_ifne 39),
  (33, o_inc 3 1),
  (36, o_aft [4, 5] (o_goto 12)),
  (39, o_ild 3 1),
  (40, o_ald 0 1),
  (41, o_callV K 12 (f_X12_readers K) 0),
  (44, o_cmpge 51),
  (47, o_ic 1 1),
  (48, o_goto 52),
  (51, o_ic 0 1),
  (52, o_aft [5] (o_ist 4 2)),
  (54, o_ild 4 2),
  (56, o_ifeq 110),
  (59, o_ild 3 1),
  (60, o_ic 1 1),
  (61, o_iadd),
  (62, o_ald 0 1),
  (63, o_callV K 12 (f_X12_readers K) 0),
  (66, o_irem),
  (67, o_ist 5 2),
  (69, o_ald 0 1),
  (70, o_gF K 12 27),
  (73, o_ild 5 2),
  (75, o_iald K),
  (76, o_ild 2 1),
  (77, o_callS (f_X12_has K) 2),
  (80, o_ifne 101),
  (83, o_ald 0 1),
  (84, o_ild 3 1),
  (85, o_ild 2 1),
  (86, o_ild 1 1),
  (87, o_ic 1 1),
  (88, o_ild 5 2),
  (90, o_ishl),
  (91, o_callV K 12 (f_X12_tries K) 4),
  (94, o_ifeq 101),
  (97, o_ic 1 1),
  (98, o_goto 102),
  (101, o_ic 0 1),
  (102, o_ist 4 2),
  (104, o_ild 5 2),
  (106, o_ist 3 1),
  (107, o_aft [5] (o_goto 54)),
  (110, o_inc 2 1),
  (113, o_aft [3, 4, 5] (o_goto 2)),
  (116, o_vret)]
noncomputable def f_X12_makeChain (K : Sh_) : Fn_ := fn_ (P_X12_makeChain K) 6
set_option maxRecDepth 100000 in
theorem a_X12_makeChain {l : Launch} {E : En_} (hE : EOK_ E)   : All_ (Snd_ l E yX12_makeChain.cls cX12_makeChain 6 (none) (.code yX12_makeChain cX12_makeChain 6 (none) :: G_) (rm_ 6)) (P_X12_makeChain E.2.2.2.1 ) :=
  all_c (s_iconst (n := 0) (by decide +kernel) (by decide))
  <| all_c (s_aft (s_ist_n (q := 2) (by decide +kernel) rfl))
  <| all_c (s_ild_n (q := 2) (by decide +kernel) rfl)
  <| all_c (s_ald_n (q := 0) (by decide +kernel) rfl)
  <| all_c (s_callV (by decide +kernel) (t_X12_chaps hE) cl_X12_chaps ml_RX12_188 im_X12_chaps se_X12_chaps (by decide) rfl (rm_lt (by decide)))
  <| all_c (s_cmpge (off := 109) (by decide +kernel) (by decide))
  <| all_c (s_iconst (n := 0) (by decide +kernel) (by decide))
  <| all_c (s_aft (s_ist_n (q := 3) (by decide +kernel) rfl))
  <| all_c (s_ild_n (q := 3) (by decide +kernel) rfl)
  <| all_c (s_ald_n (q := 0) (by decide +kernel) rfl)
  <| all_c (s_callV (by decide +kernel) (t_X12_readers hE) cl_X12_readers ml_RX12_191 im_X12_readers se_X12_readers (by decide) rfl (rm_lt (by decide)))
  <| all_c (s_cmpge (off := 22) (by decide +kernel) (by decide))
  <| all_c (s_ald_n (q := 0) (by decide +kernel) rfl)
  <| all_c (g_12_27 (by decide +kernel) fl_RX12_45)
  <| all_c (s_ild_n (q := 3) (by decide +kernel) rfl)
  <| all_c (s_iald (by decide +kernel))
  <| all_c (s_ild_n (q := 2) (by decide +kernel) rfl)
  <| all_c (s_callS (by decide +kernel) (t_X12_has hE) cl_X12_has ml_RX12_223 sm_X12_has (rm_lt (by decide)))
  <| all_c (s_ifne (off := 9) (by decide +kernel) (by decide))
  <| all_c (s_inc (n := 1) (by decide +kernel) (by decide))
  <| all_c (s_aft (s_goto (off := (-24)) (by decide +kernel) (by decide)))
  <| all_c (s_ild_n (q := 3) (by decide +kernel) rfl)
  <| all_c (s_ald_n (q := 0) (by decide +kernel) rfl)
  <| all_c (s_callV (by decide +kernel) (t_X12_readers hE) cl_X12_readers ml_RX12_191 im_X12_readers se_X12_readers (by decide) rfl (rm_lt (by decide)))
  <| all_c (s_cmpge (off := 7) (by decide +kernel) (by decide))
  <| all_c (s_iconst (n := 1) (by decide +kernel) (by decide))
  <| all_c (s_goto (off := 4) (by decide +kernel) (by decide))
  <| all_c (s_iconst (n := 0) (by decide +kernel) (by decide))
  <| all_c (s_aft (s_ist (by decide +kernel)))
  <| all_c (s_ild (by decide +kernel))
  <| all_c (s_ifeq (off := 54) (by decide +kernel) (by decide))
  <| all_c (s_ild_n (q := 3) (by decide +kernel) rfl)
  <| all_c (s_iconst (n := 1) (by decide +kernel) (by decide))
  <| all_c (s_iadd (by decide +kernel))
  <| all_c (s_ald_n (q := 0) (by decide +kernel) rfl)
  <| all_c (s_callV (by decide +kernel) (t_X12_readers hE) cl_X12_readers ml_RX12_191 im_X12_readers se_X12_readers (by decide) rfl (rm_lt (by decide)))
  <| all_c (s_irem (by decide +kernel))
  <| all_c (s_ist (by decide +kernel))
  <| all_c (s_ald_n (q := 0) (by decide +kernel) rfl)
  <| all_c (g_12_27 (by decide +kernel) fl_RX12_45)
  <| all_c (s_ild (by decide +kernel))
  <| all_c (s_iald (by decide +kernel))
  <| all_c (s_ild_n (q := 2) (by decide +kernel) rfl)
  <| all_c (s_callS (by decide +kernel) (t_X12_has hE) cl_X12_has ml_RX12_223 sm_X12_has (rm_lt (by decide)))
  <| all_c (s_ifne (off := 21) (by decide +kernel) (by decide))
  <| all_c (s_ald_n (q := 0) (by decide +kernel) rfl)
  <| all_c (s_ild_n (q := 3) (by decide +kernel) rfl)
  <| all_c (s_ild_n (q := 2) (by decide +kernel) rfl)
  <| all_c (s_ild_n (q := 1) (by decide +kernel) rfl)
  <| all_c (s_iconst (n := 1) (by decide +kernel) (by decide))
  <| all_c (s_ild (by decide +kernel))
  <| all_c (s_ishl (by decide +kernel))
  <| all_c (s_callV (by decide +kernel) (t_X12_tries hE) cl_X12_tries ml_RX12_331 im_X12_tries se_X12_tries (by decide) rfl (rm_lt (by decide)))
  <| all_c (s_ifeq (off := 7) (by decide +kernel) (by decide))
  <| all_c (s_iconst (n := 1) (by decide +kernel) (by decide))
  <| all_c (s_goto (off := 4) (by decide +kernel) (by decide))
  <| all_c (s_iconst (n := 0) (by decide +kernel) (by decide))
  <| all_c (s_ist (by decide +kernel))
  <| all_c (s_ild (by decide +kernel))
  <| all_c (s_ist_n (q := 3) (by decide +kernel) rfl)
  <| all_c (s_aft (s_goto (off := (-53)) (by decide +kernel) (by decide)))
  <| all_c (s_inc (n := 1) (by decide +kernel) (by decide))
  <| all_c (s_aft (s_goto (off := (-111)) (by decide +kernel) (by decide)))
  <| all_c (s_vret (by decide +kernel) rfl)
  <| all_n
theorem t_X12_makeChain {l : Launch} {E : En_} (hE : EOK_ E) : Good_ l E yX12_makeChain (.code yX12_makeChain cX12_makeChain 6 (none) :: G_) (rm_ 6) (f_X12_makeChain E.2.2.2.1) := good_all hE (by decide +kernel) (a_X12_makeChain hE)
noncomputable def P_X12_makeRound (K : Sh_)  : List (Nat × Op_) := [(0, o_ic 0 1),
  (1, o_aft [3, 4, 5] (o_ist 2 1)),
  (2, o_ild 2 1),
  (3, o_ald 0 1),
  (4, o_callV K 12 (f_X12_readers K) 0),
  (7, o_cmpge 115),
  (10, o_ic 0 1),
  (11, o_aft [4, 5] (o_ist 3 1)),
  (12, o_ild 3 1),
  (13, o_ald 0 1),
  (14, o_callV K 12 (f_X12_chaps K) 0),
  (17, o_cmpge 109),
  (20, o_ald 0 1),
  (21, o_gF K 12 27),
  (24, o_ild 2 1),
  (25, o_iald K),
  (26, o_ild 3 1),
  (27, o_callS (f_X12_has K) 2),
  (30, o_ifne 36),
  (33, o_goto 103),
  (36, o_ic 0 1),
  (37, o_ist 4 2),
  (39, o_ic 0 1),
  (40, o_ist 5 2),
  (42, o_ild 5 2),
  (44, o_ald 0 1),
  (45, o_callV K 12 (f_X12_readers K) 0),
  (48, o_cmpge 88),
  (51, o_ild 5 2),
  (53, o_ild 2 1),
  (54, o_cmpeq 82),
  (57, o_ald 0 1),
  (58, o_gF K 12 26),
  (61, o_ild 5 2),
  (63, o_iald K),
  (64, o_ald 0 1),
  (65, o_ild 3 1),
  (66, o_ild 1 1),
  (67, o_callV K 12 (f_X12_timeToTell K) 2),
  (70, o_cmplt 82),
  (73, o_ild 4 2),
  (75, o_ic 1 1),
  (76, o_ild 5 2),
  (78, o_ishl),
  (79, o_ior),
  (80, o_ist 4 2),
  (82, o_inc 5 1),
  (85, o_goto 42),
  (88, o_ild 4 2),
  (90, o_ifeq 103),
  (93, o_ald 0 1),
  (94, o_ild 2 1),
  (95, o_ild 3 1),
  (96, o_ild 1 1),
  (97, o_ild 4 2),
  (99, o_callV K 12 (f_X12_tries K) 4),
  (102, o_pop),
  (103, o_inc 3 1),
  (106, o_aft [4, 5] (o_goto 12)),
  (109, o_inc 2 1),
  (112, o_aft [3, 4, 5] (o_goto 2)),
  (115, o_vret)]
noncomputable def f_X12_makeRound (K : Sh_) : Fn_ := fn_ (P_X12_makeRound K) 6
set_option maxRecDepth 100000 in
theorem a_X12_makeRound {l : Launch} {E : En_} (hE : EOK_ E)   : All_ (Snd_ l E yX12_makeRound.cls cX12_makeRound 6 (none) (.code yX12_makeRound cX12_makeRound 6 (none) :: G_) (rm_ 6)) (P_X12_makeRound E.2.2.2.1 ) :=
  all_c (s_iconst (n := 0) (by decide +kernel) (by decide))
  <| all_c (s_aft (s_ist_n (q := 2) (by decide +kernel) rfl))
  <| all_c (s_ild_n (q := 2) (by decide +kernel) rfl)
  <| all_c (s_ald_n (q := 0) (by decide +kernel) rfl)
  <| all_c (s_callV (by decide +kernel) (t_X12_readers hE) cl_X12_readers ml_RX12_191 im_X12_readers se_X12_readers (by decide) rfl (rm_lt (by decide)))
  <| all_c (s_cmpge (off := 108) (by decide +kernel) (by decide))
  <| all_c (s_iconst (n := 0) (by decide +kernel) (by decide))
  <| all_c (s_aft (s_ist_n (q := 3) (by decide +kernel) rfl))
  <| all_c (s_ild_n (q := 3) (by decide +kernel) rfl)
  <| all_c (s_ald_n (q := 0) (by decide +kernel) rfl)
  <| all_c (s_callV (by decide +kernel) (t_X12_chaps hE) cl_X12_chaps ml_RX12_188 im_X12_chaps se_X12_chaps (by decide) rfl (rm_lt (by decide)))
  <| all_c (s_cmpge (off := 92) (by decide +kernel) (by decide))
  <| all_c (s_ald_n (q := 0) (by decide +kernel) rfl)
  <| all_c (g_12_27 (by decide +kernel) fl_RX12_45)
  <| all_c (s_ild_n (q := 2) (by decide +kernel) rfl)
  <| all_c (s_iald (by decide +kernel))
  <| all_c (s_ild_n (q := 3) (by decide +kernel) rfl)
  <| all_c (s_callS (by decide +kernel) (t_X12_has hE) cl_X12_has ml_RX12_223 sm_X12_has (rm_lt (by decide)))
  <| all_c (s_ifne (off := 6) (by decide +kernel) (by decide))
  <| all_c (s_goto (off := 70) (by decide +kernel) (by decide))
  <| all_c (s_iconst (n := 0) (by decide +kernel) (by decide))
  <| all_c (s_ist (by decide +kernel))
  <| all_c (s_iconst (n := 0) (by decide +kernel) (by decide))
  <| all_c (s_ist (by decide +kernel))
  <| all_c (s_ild (by decide +kernel))
  <| all_c (s_ald_n (q := 0) (by decide +kernel) rfl)
  <| all_c (s_callV (by decide +kernel) (t_X12_readers hE) cl_X12_readers ml_RX12_191 im_X12_readers se_X12_readers (by decide) rfl (rm_lt (by decide)))
  <| all_c (s_cmpge (off := 40) (by decide +kernel) (by decide))
  <| all_c (s_ild (by decide +kernel))
  <| all_c (s_ild_n (q := 2) (by decide +kernel) rfl)
  <| all_c (s_cmpeq (off := 28) (by decide +kernel) (by decide))
  <| all_c (s_ald_n (q := 0) (by decide +kernel) rfl)
  <| all_c (g_12_26 (by decide +kernel) fl_RX12_42)
  <| all_c (s_ild (by decide +kernel))
  <| all_c (s_iald (by decide +kernel))
  <| all_c (s_ald_n (q := 0) (by decide +kernel) rfl)
  <| all_c (s_ild_n (q := 3) (by decide +kernel) rfl)
  <| all_c (s_ild_n (q := 1) (by decide +kernel) rfl)
  <| all_c (s_callV (by decide +kernel) (t_X12_timeToTell hE) cl_X12_timeToTell ml_RX12_289 im_X12_timeToTell se_X12_timeToTell (by decide) rfl (rm_lt (by decide)))
  <| all_c (s_cmplt (off := 12) (by decide +kernel) (by decide))
  <| all_c (s_ild (by decide +kernel))
  <| all_c (s_iconst (n := 1) (by decide +kernel) (by decide))
  <| all_c (s_ild (by decide +kernel))
  <| all_c (s_ishl (by decide +kernel))
  <| all_c (s_ior (by decide +kernel))
  <| all_c (s_ist (by decide +kernel))
  <| all_c (s_inc (n := 1) (by decide +kernel) (by decide))
  <| all_c (s_goto (off := (-43)) (by decide +kernel) (by decide))
  <| all_c (s_ild (by decide +kernel))
  <| all_c (s_ifeq (off := 13) (by decide +kernel) (by decide))
  <| all_c (s_ald_n (q := 0) (by decide +kernel) rfl)
  <| all_c (s_ild_n (q := 2) (by decide +kernel) rfl)
  <| all_c (s_ild_n (q := 3) (by decide +kernel) rfl)
  <| all_c (s_ild_n (q := 1) (by decide +kernel) rfl)
  <| all_c (s_ild (by decide +kernel))
  <| all_c (s_callV (by decide +kernel) (t_X12_tries hE) cl_X12_tries ml_RX12_331 im_X12_tries se_X12_tries (by decide) rfl (rm_lt (by decide)))
  <| all_c (s_pop (by decide +kernel))
  <| all_c (s_inc (n := 1) (by decide +kernel) (by decide))
  <| all_c (s_aft (s_goto (off := (-94)) (by decide +kernel) (by decide)))
  <| all_c (s_inc (n := 1) (by decide +kernel) (by decide))
  <| all_c (s_aft (s_goto (off := (-110)) (by decide +kernel) (by decide)))
  <| all_c (s_vret (by decide +kernel) rfl)
  <| all_n
theorem t_X12_makeRound {l : Launch} {E : En_} (hE : EOK_ E) : Good_ l E yX12_makeRound (.code yX12_makeRound cX12_makeRound 6 (none) :: G_) (rm_ 6) (f_X12_makeRound E.2.2.2.1) := good_all hE (by decide +kernel) (a_X12_makeRound hE)
noncomputable def P_X12_make (K : Sh_)  : List (Nat × Op_) := [(0, o_ald 0 1),
  (1, o_ic 0 1),
  (2, o_pI K 12 0),
  (5, o_ald 0 1),
  (6, o_callV K 12 (f_X12_lay K) 0),
  (9, o_ild 1 1),
  (10, o_ic 0 1),
  (11, o_ic 4 1),
  (12, o_callS (f_X12_isIn K) 3),
  (15, o_ifeq 62),
  (18, o_ild 1 1),
  (19, o_ic 1 1),
  (20, o_cmpne 33),
  (23, o_ild 2 1),
  (24, o_ic 1 1),
  (25, o_ic 10 2),
  (27, o_callS (f_X12_isIn K) 3),
  (30, o_ifeq 62),
  (33, o_ild 1 1),
  (34, o_ic 2 1),
  (35, o_cmpne 48),
  (38, o_ild 2 1),
  (39, o_ic 1 1),
  (40, o_ic 16 2),
  (42, o_callS (f_X12_isIn K) 3),
  (45, o_ifeq 62),
  (48, o_ild 1 1),
  (49, o_ic 2 1),
  (50, o_cmple 64),
  (53, o_ild 2 1),
  (54, o_ic 1 1),
  (55, o_ic 4 1),
  (56, o_callS (f_X12_isIn K) 3),
  (59, o_ifne 64),
  (62, o_ic (-1) 1),
  (63, o_iret),
  (64, o_ald 0 1),
  (65, o_ic 0 1),
  (66, o_pI K 12 24),
  (69, o_ald 0 1),
  (70, o_callV K 12 (f_X12_dawn K) 0),
  (73, o_ild 1 1),
  (74, o_ic 1 1),
  (75, o_cmpne 86),
  (78, o_ald 0 1),
  (79, o_ild 2 1),
  (80, o_callV K 12 (f_X12_makeLean K) 1),
  (83, o_goto 90),
  (86, o_ald 0 1),
  (87, o_callV K 12 (f_X12_makeRows K) 0),
  (90, o_ild 1 1),
  (91, o_ic 2 1),
  (92, o_cmpne 100),
  (95, o_ald 0 1),
  (96, o_ild 2 1),
  (97, o_callV K 12 (f_X12_makeTwice K) 1),
  (100, o_ild 1 1),
  (101, o_ic 3 1),
  (102, o_cmpne 110),
  (105, o_ald 0 1),
  (106, o_ild 2 1),
  (107, o_callV K 12 (f_X12_makeChain K) 1),
  (110, o_ild 1 1),
  (111, o_ic 4 1),
  (112, o_cmpne 120),
  (115, o_ald 0 1),
  (116, o_ild 2 1),
  (117, o_callV K 12 (f_X12_makeRound K) 1),
  (120, o_ald 0 1),
  (121, o_callV K 12 (f_X12_plans K) 0),
  (124, o_iret)]
noncomputable def f_X12_make (K : Sh_) : Fn_ := fn_ (P_X12_make K) 3
set_option maxRecDepth 100000 in
theorem a_X12_make {l : Launch} {E : En_} (hE : EOK_ E)   : All_ (Snd_ l E yX12_make.cls cX12_make 3 (some .int) (.code yX12_make cX12_make 3 (some .int) :: G_) (rm_ 7)) (P_X12_make E.2.2.2.1 ) :=
  all_c (s_ald_n (q := 0) (by decide +kernel) rfl)
  <| all_c (s_iconst (n := 0) (by decide +kernel) (by decide))
  <| all_c (p_12_0 (by decide +kernel) fl_RX12_97)
  <| all_c (s_ald_n (q := 0) (by decide +kernel) rfl)
  <| all_c (s_callV (by decide +kernel) (t_X12_lay hE) cl_X12_lay ml_RX12_177 im_X12_lay se_X12_lay (by decide) rfl (rm_lt (by decide)))
  <| all_c (s_ild_n (q := 1) (by decide +kernel) rfl)
  <| all_c (s_iconst (n := 0) (by decide +kernel) (by decide))
  <| all_c (s_iconst (n := 4) (by decide +kernel) (by decide))
  <| all_c (s_callS (by decide +kernel) (t_X12_isIn hE) cl_X12_isIn ml_RX12_164 sm_X12_isIn (rm_lt (by decide)))
  <| all_c (s_ifeq (off := 47) (by decide +kernel) (by decide))
  <| all_c (s_ild_n (q := 1) (by decide +kernel) rfl)
  <| all_c (s_iconst (n := 1) (by decide +kernel) (by decide))
  <| all_c (s_cmpne (off := 13) (by decide +kernel) (by decide))
  <| all_c (s_ild_n (q := 2) (by decide +kernel) rfl)
  <| all_c (s_iconst (n := 1) (by decide +kernel) (by decide))
  <| all_c (s_bipush (n := 10) (by decide +kernel) (by decide))
  <| all_c (s_callS (by decide +kernel) (t_X12_isIn hE) cl_X12_isIn ml_RX12_164 sm_X12_isIn (rm_lt (by decide)))
  <| all_c (s_ifeq (off := 32) (by decide +kernel) (by decide))
  <| all_c (s_ild_n (q := 1) (by decide +kernel) rfl)
  <| all_c (s_iconst (n := 2) (by decide +kernel) (by decide))
  <| all_c (s_cmpne (off := 13) (by decide +kernel) (by decide))
  <| all_c (s_ild_n (q := 2) (by decide +kernel) rfl)
  <| all_c (s_iconst (n := 1) (by decide +kernel) (by decide))
  <| all_c (s_bipush (n := 16) (by decide +kernel) (by decide))
  <| all_c (s_callS (by decide +kernel) (t_X12_isIn hE) cl_X12_isIn ml_RX12_164 sm_X12_isIn (rm_lt (by decide)))
  <| all_c (s_ifeq (off := 17) (by decide +kernel) (by decide))
  <| all_c (s_ild_n (q := 1) (by decide +kernel) rfl)
  <| all_c (s_iconst (n := 2) (by decide +kernel) (by decide))
  <| all_c (s_cmple (off := 14) (by decide +kernel) (by decide))
  <| all_c (s_ild_n (q := 2) (by decide +kernel) rfl)
  <| all_c (s_iconst (n := 1) (by decide +kernel) (by decide))
  <| all_c (s_iconst (n := 4) (by decide +kernel) (by decide))
  <| all_c (s_callS (by decide +kernel) (t_X12_isIn hE) cl_X12_isIn ml_RX12_164 sm_X12_isIn (rm_lt (by decide)))
  <| all_c (s_ifne (off := 5) (by decide +kernel) (by decide))
  <| all_c (s_iconst (n := (-1)) (by decide +kernel) (by decide))
  <| all_c (s_iret (by decide +kernel) rfl)
  <| all_c (s_ald_n (q := 0) (by decide +kernel) rfl)
  <| all_c (s_iconst (n := 0) (by decide +kernel) (by decide))
  <| all_c (p_12_24 (by decide +kernel) fl_RX12_251)
  <| all_c (s_ald_n (q := 0) (by decide +kernel) rfl)
  <| all_c (s_callV (by decide +kernel) (t_X12_dawn hE) cl_X12_dawn ml_RX12_300 im_X12_dawn se_X12_dawn (by decide) rfl (rm_lt (by decide)))
  <| all_c (s_ild_n (q := 1) (by decide +kernel) rfl)
  <| all_c (s_iconst (n := 1) (by decide +kernel) (by decide))
  <| all_c (s_cmpne (off := 11) (by decide +kernel) (by decide))
  <| all_c (s_ald_n (q := 0) (by decide +kernel) rfl)
  <| all_c (s_ild_n (q := 2) (by decide +kernel) rfl)
  <| all_c (s_callV (by decide +kernel) (t_X12_makeLean hE) cl_X12_makeLean ml_RX12_337 im_X12_makeLean se_X12_makeLean (by decide) rfl (rm_lt (by decide)))
  <| all_c (s_goto (off := 7) (by decide +kernel) (by decide))
  <| all_c (s_ald_n (q := 0) (by decide +kernel) rfl)
  <| all_c (s_callV (by decide +kernel) (t_X12_makeRows hE) cl_X12_makeRows ml_RX12_340 im_X12_makeRows se_X12_makeRows (by decide) rfl (rm_lt (by decide)))
  <| all_c (s_ild_n (q := 1) (by decide +kernel) rfl)
  <| all_c (s_iconst (n := 2) (by decide +kernel) (by decide))
  <| all_c (s_cmpne (off := 8) (by decide +kernel) (by decide))
  <| all_c (s_ald_n (q := 0) (by decide +kernel) rfl)
  <| all_c (s_ild_n (q := 2) (by decide +kernel) rfl)
  <| all_c (s_callV (by decide +kernel) (t_X12_makeTwice hE) cl_X12_makeTwice ml_RX12_343 im_X12_makeTwice se_X12_makeTwice (by decide) rfl (rm_lt (by decide)))
  <| all_c (s_ild_n (q := 1) (by decide +kernel) rfl)
  <| all_c (s_iconst (n := 3) (by decide +kernel) (by decide))
  <| all_c (s_cmpne (off := 8) (by decide +kernel) (by decide))
  <| all_c (s_ald_n (q := 0) (by decide +kernel) rfl)
  <| all_c (s_ild_n (q := 2) (by decide +kernel) rfl)
  <| all_c (s_callV (by decide +kernel) (t_X12_makeChain hE) cl_X12_makeChain ml_RX12_346 im_X12_makeChain se_X12_makeChain (by decide) rfl (rm_lt (by decide)))
  <| all_c (s_ild_n (q := 1) (by decide +kernel) rfl)
  <| all_c (s_iconst (n := 4) (by decide +kernel) (by decide))
  <| all_c (s_cmpne (off := 8) (by decide +kernel) (by decide))
  <| all_c (s_ald_n (q := 0) (by decide +kernel) rfl)
  <| all_c (s_ild_n (q := 2) (by decide +kernel) rfl)
  <| all_c (s_callV (by decide +kernel) (t_X12_makeRound hE) cl_X12_makeRound ml_RX12_349 im_X12_makeRound se_X12_makeRound (by decide) rfl (rm_lt (by decide)))
  <| all_c (s_ald_n (q := 0) (by decide +kernel) rfl)
  <| all_c (s_callV (by decide +kernel) (t_X12_plans hE) cl_X12_plans ml_RX12_270 im_X12_plans se_X12_plans (by decide) rfl (rm_lt (by decide)))
  <| all_c (s_iret (by decide +kernel) rfl)
  <| all_n
theorem t_X12_make {l : Launch} {E : En_} (hE : EOK_ E) : Good_ l E yX12_make (.code yX12_make cX12_make 3 (some .int) :: G_) (rm_ 7) (f_X12_make E.2.2.2.1) := good_all hE (by decide +kernel) (a_X12_make hE)
noncomputable def P_X12_draw (K : Sh_)  : List (Nat × Op_) := [(0, o_ald 0 1),
  (1, o_ald 0 1),
  (2, o_gI K 12 33),
  (5, o_ic 1103515245 3),
  (8, o_imul),
  (9, o_ic 12345 3),
  (12, o_iadd),
  (13, o_pI K 12 33),
  (16, o_ald 0 1),
  (17, o_gI K 12 33),
  (20, o_ic 8 2),
  (22, o_iushr),
  (23, o_ild 1 1),
  (24, o_irem),
  (25, o_iret)]
noncomputable def f_X12_draw (K : Sh_) : Fn_ := fn_ (P_X12_draw K) 2
set_option maxRecDepth 100000 in
theorem a_X12_draw {l : Launch} {E : En_} (hE : EOK_ E)   : All_ (Snd_ l E yX12_draw.cls cX12_draw 2 (some .int) (.code yX12_draw cX12_draw 2 (some .int) :: G_) (rm_ 1)) (P_X12_draw E.2.2.2.1 ) :=
  all_c (s_ald_n (q := 0) (by decide +kernel) rfl)
  <| all_c (s_ald_n (q := 0) (by decide +kernel) rfl)
  <| all_c (g_12_33 (by decide +kernel) fl_RX12_352)
  <| all_c (s_ldcw (by decide +kernel) (G_w kk_RX12_355))
  <| all_c (s_imul (by decide +kernel))
  <| all_c (s_sipush (n := 12345) (by decide +kernel) (by decide))
  <| all_c (s_iadd (by decide +kernel))
  <| all_c (p_12_33 (by decide +kernel) fl_RX12_352)
  <| all_c (s_ald_n (q := 0) (by decide +kernel) rfl)
  <| all_c (g_12_33 (by decide +kernel) fl_RX12_352)
  <| all_c (s_bipush (n := 8) (by decide +kernel) (by decide))
  <| all_c (s_iushr (by decide +kernel))
  <| all_c (s_ild_n (q := 1) (by decide +kernel) rfl)
  <| all_c (s_irem (by decide +kernel))
  <| all_c (s_iret (by decide +kernel) rfl)
  <| all_n
theorem t_X12_draw {l : Launch} {E : En_} (hE : EOK_ E) : Good_ l E yX12_draw (.code yX12_draw cX12_draw 2 (some .int) :: G_) (rm_ 1) (f_X12_draw E.2.2.2.1) := good_all hE (by decide +kernel) (a_X12_draw hE)
noncomputable def P_X12_drawn (K : Sh_)  : List (Nat × Op_) := [(0, o_ald 0 1),
  (1, o_ic 0 1),
  (2, o_pI K 12 0),
  (5, o_ald 0 1),
  (6, o_callV K 12 (f_X12_lay K) 0),
  (9, o_ild 1 1),
  (10, o_ic 1 1),
  (11, o_ic 60 2),
  (13, o_callS (f_X12_isIn K) 3),
  (16, o_ifeq 34),
  (19, o_ald 0 1),
  (20, o_callV K 12 (f_X12_readers K) 0),
  (23, o_ic 2 1),
  (24, o_cmplt 34),
  (27, o_ald 0 1),
  (28, o_callV K 12 (f_X12_chaps K) 0),
  (31, o_ifne 36),
  (34, o_ic (-1) 1),
  (35, o_iret),
  (36, o_ald 0 1),
  (37, o_ild 2 1),
  (38, o_pI K 12 33),
  (41, o_ald 0 1),
  (42, o_ic 0 1),
  (43, o_pI K 12 24),
  (46, o_ic 0 1),
  (47, o_aft [4, 5] (o_ist 3 1)),
  (48, o_ild 3 1),
  (49, o_ild 1 1),
  (50, o_cmpge 132),
  (53, o_ald 0 1),
  (54, o_ald 0 1),
  (55, o_callV K 12 (f_X12_readers K) 0),
  (58, o_callV K 12 (f_X12_draw K) 1),
  (61, o_ist 4 2),
  (63, o_ald 0 1),
  (64, o_ald 0 1),
  (65, o_callV K 12 (f_X12_chaps K) 0),
  (68, o_callV K 12 (f_X12_draw K) 1),
  (71, o_ist 5 2),
  (73, o_ald 0 1),
  (74, o_ic 4 1),
  (75, o_callV K 12 (f_X12_draw K) 1),
  (78, o_ifne 115),
  (81, o_ald 0 1),
  (82, o_ild 4 2),
  (84, o_ild 5 2),
  (86, o_ic 1 1),
  (87, o_ald 0 1),
  (88, o_ic 4 1),
  (89, o_callV K 12 (f_X12_draw K) 1),
  (92, o_iadd),
  (93, o_ic 1 1),
  (94, o_ald 0 1),
  (95, o_callV K 12 (f_X12_readers K) 0),
  (98, o_ishl),
  (99, o_ic 1 1),
  (100, o_isub),
  (101, o_ic 1 1),
  (102, o_ild 4 2),
  (104, o_ishl),
  (105, o_ic (-1) 1),
  (106, o_ixor),
  (107, o_iand),
  (108, o_callV K 12 (f_X12_addAct K) 4),
  (111, o_pop),
  (112, o_goto 126),
  (115, o_ald 0 1),
  (116, o_ild 4 2),
  (118, o_ild 5 2),
  (120, o_ic 0 1),
  (121, o_ic 0 1),
  (122, o_callV K 12 (f_X12_addAct K) 4),
  (125, o_pop),
  (126, o_inc 3 1),
  (129, o_aft [4, 5] (o_goto 48)),
  (132, o_ald 0 1),
  (133, o_callV K 12 (f_X12_plans K) 0),
  (136, o_iret)]
noncomputable def f_X12_drawn (K : Sh_) : Fn_ := fn_ (P_X12_drawn K) 6
set_option maxRecDepth 100000 in
theorem a_X12_drawn {l : Launch} {E : En_} (hE : EOK_ E)   : All_ (Snd_ l E yX12_drawn.cls cX12_drawn 6 (some .int) (.code yX12_drawn cX12_drawn 6 (some .int) :: G_) (rm_ 2)) (P_X12_drawn E.2.2.2.1 ) :=
  all_c (s_ald_n (q := 0) (by decide +kernel) rfl)
  <| all_c (s_iconst (n := 0) (by decide +kernel) (by decide))
  <| all_c (p_12_0 (by decide +kernel) fl_RX12_97)
  <| all_c (s_ald_n (q := 0) (by decide +kernel) rfl)
  <| all_c (s_callV (by decide +kernel) (t_X12_lay hE) cl_X12_lay ml_RX12_177 im_X12_lay se_X12_lay (by decide) rfl (rm_lt (by decide)))
  <| all_c (s_ild_n (q := 1) (by decide +kernel) rfl)
  <| all_c (s_iconst (n := 1) (by decide +kernel) (by decide))
  <| all_c (s_bipush (n := 60) (by decide +kernel) (by decide))
  <| all_c (s_callS (by decide +kernel) (t_X12_isIn hE) cl_X12_isIn ml_RX12_164 sm_X12_isIn (rm_lt (by decide)))
  <| all_c (s_ifeq (off := 18) (by decide +kernel) (by decide))
  <| all_c (s_ald_n (q := 0) (by decide +kernel) rfl)
  <| all_c (s_callV (by decide +kernel) (t_X12_readers hE) cl_X12_readers ml_RX12_191 im_X12_readers se_X12_readers (by decide) rfl (rm_lt (by decide)))
  <| all_c (s_iconst (n := 2) (by decide +kernel) (by decide))
  <| all_c (s_cmplt (off := 10) (by decide +kernel) (by decide))
  <| all_c (s_ald_n (q := 0) (by decide +kernel) rfl)
  <| all_c (s_callV (by decide +kernel) (t_X12_chaps hE) cl_X12_chaps ml_RX12_188 im_X12_chaps se_X12_chaps (by decide) rfl (rm_lt (by decide)))
  <| all_c (s_ifne (off := 5) (by decide +kernel) (by decide))
  <| all_c (s_iconst (n := (-1)) (by decide +kernel) (by decide))
  <| all_c (s_iret (by decide +kernel) rfl)
  <| all_c (s_ald_n (q := 0) (by decide +kernel) rfl)
  <| all_c (s_ild_n (q := 2) (by decide +kernel) rfl)
  <| all_c (p_12_33 (by decide +kernel) fl_RX12_352)
  <| all_c (s_ald_n (q := 0) (by decide +kernel) rfl)
  <| all_c (s_iconst (n := 0) (by decide +kernel) (by decide))
  <| all_c (p_12_24 (by decide +kernel) fl_RX12_251)
  <| all_c (s_iconst (n := 0) (by decide +kernel) (by decide))
  <| all_c (s_aft (s_ist_n (q := 3) (by decide +kernel) rfl))
  <| all_c (s_ild_n (q := 3) (by decide +kernel) rfl)
  <| all_c (s_ild_n (q := 1) (by decide +kernel) rfl)
  <| all_c (s_cmpge (off := 82) (by decide +kernel) (by decide))
  <| all_c (s_ald_n (q := 0) (by decide +kernel) rfl)
  <| all_c (s_ald_n (q := 0) (by decide +kernel) rfl)
  <| all_c (s_callV (by decide +kernel) (t_X12_readers hE) cl_X12_readers ml_RX12_191 im_X12_readers se_X12_readers (by decide) rfl (rm_lt (by decide)))
  <| all_c (s_callV (by decide +kernel) (t_X12_draw hE) cl_X12_draw ml_RX12_356 im_X12_draw se_X12_draw (by decide) rfl (rm_lt (by decide)))
  <| all_c (s_ist (by decide +kernel))
  <| all_c (s_ald_n (q := 0) (by decide +kernel) rfl)
  <| all_c (s_ald_n (q := 0) (by decide +kernel) rfl)
  <| all_c (s_callV (by decide +kernel) (t_X12_chaps hE) cl_X12_chaps ml_RX12_188 im_X12_chaps se_X12_chaps (by decide) rfl (rm_lt (by decide)))
  <| all_c (s_callV (by decide +kernel) (t_X12_draw hE) cl_X12_draw ml_RX12_356 im_X12_draw se_X12_draw (by decide) rfl (rm_lt (by decide)))
  <| all_c (s_ist (by decide +kernel))
  <| all_c (s_ald_n (q := 0) (by decide +kernel) rfl)
  <| all_c (s_iconst (n := 4) (by decide +kernel) (by decide))
  <| all_c (s_callV (by decide +kernel) (t_X12_draw hE) cl_X12_draw ml_RX12_356 im_X12_draw se_X12_draw (by decide) rfl (rm_lt (by decide)))
  <| all_c (s_ifne (off := 37) (by decide +kernel) (by decide))
  <| all_c (s_ald_n (q := 0) (by decide +kernel) rfl)
  <| all_c (s_ild (by decide +kernel))
  <| all_c (s_ild (by decide +kernel))
  <| all_c (s_iconst (n := 1) (by decide +kernel) (by decide))
  <| all_c (s_ald_n (q := 0) (by decide +kernel) rfl)
  <| all_c (s_iconst (n := 4) (by decide +kernel) (by decide))
  <| all_c (s_callV (by decide +kernel) (t_X12_draw hE) cl_X12_draw ml_RX12_356 im_X12_draw se_X12_draw (by decide) rfl (rm_lt (by decide)))
  <| all_c (s_iadd (by decide +kernel))
  <| all_c (s_iconst (n := 1) (by decide +kernel) (by decide))
  <| all_c (s_ald_n (q := 0) (by decide +kernel) rfl)
  <| all_c (s_callV (by decide +kernel) (t_X12_readers hE) cl_X12_readers ml_RX12_191 im_X12_readers se_X12_readers (by decide) rfl (rm_lt (by decide)))
  <| all_c (s_ishl (by decide +kernel))
  <| all_c (s_iconst (n := 1) (by decide +kernel) (by decide))
  <| all_c (s_isub (by decide +kernel))
  <| all_c (s_iconst (n := 1) (by decide +kernel) (by decide))
  <| all_c (s_ild (by decide +kernel))
  <| all_c (s_ishl (by decide +kernel))
  <| all_c (s_iconst (n := (-1)) (by decide +kernel) (by decide))
  <| all_c (s_ixor (by decide +kernel))
  <| all_c (s_iand (by decide +kernel))
  <| all_c (s_callV (by decide +kernel) (t_X12_addAct hE) cl_X12_addAct ml_RX12_260 im_X12_addAct se_X12_addAct (by decide) rfl (rm_lt (by decide)))
  <| all_c (s_pop (by decide +kernel))
  <| all_c (s_goto (off := 14) (by decide +kernel) (by decide))
  <| all_c (s_ald_n (q := 0) (by decide +kernel) rfl)
  <| all_c (s_ild (by decide +kernel))
  <| all_c (s_ild (by decide +kernel))
  <| all_c (s_iconst (n := 0) (by decide +kernel) (by decide))
  <| all_c (s_iconst (n := 0) (by decide +kernel) (by decide))
  <| all_c (s_callV (by decide +kernel) (t_X12_addAct hE) cl_X12_addAct ml_RX12_260 im_X12_addAct se_X12_addAct (by decide) rfl (rm_lt (by decide)))
  <| all_c (s_pop (by decide +kernel))
  <| all_c (s_inc (n := 1) (by decide +kernel) (by decide))
  <| all_c (s_aft (s_goto (off := (-81)) (by decide +kernel) (by decide)))
  <| all_c (s_ald_n (q := 0) (by decide +kernel) rfl)
  <| all_c (s_callV (by decide +kernel) (t_X12_plans hE) cl_X12_plans ml_RX12_270 im_X12_plans se_X12_plans (by decide) rfl (rm_lt (by decide)))
  <| all_c (s_iret (by decide +kernel) rfl)
  <| all_n
theorem t_X12_drawn {l : Launch} {E : En_} (hE : EOK_ E) : Good_ l E yX12_drawn (.code yX12_drawn cX12_drawn 6 (some .int) :: G_) (rm_ 2) (f_X12_drawn E.2.2.2.1) := good_all hE (by decide +kernel) (a_X12_drawn hE)
noncomputable def P_X12_tryReaders (K : Sh_) (r_X12_tryReaders : Fn_) : List (Nat × Op_) := [(0, o_ild 1 1),
  (1, o_ald 0 1),
  (2, o_gI K 12 38),
  (5, o_cmpge 39),
  (8, o_ic 0 1),
  (9, o_aft [3, 4] (o_ist 2 1)),
  (10, o_ild 2 1),
  (11, o_ald 0 1),
  (12, o_gI K 12 39),
  (15, o_cmpgt 38),
  (18, o_ald 0 1),
  (19, o_gF K 12 34),
  (22, o_ild 1 1),
  (23, o_ild 2 1),
  (24, o_iast K),
  (25, o_ald 0 1),
  (26, o_ild 1 1),
  (27, o_ic 1 1),
  (28, o_iadd),
  (29, o_callV K 12 (r_X12_tryReaders) 1),
  (32, o_inc 2 1),
  (35, o_aft [3, 4] (o_goto 10)),
  (38, o_vret),
  (39, o_ald 0 1),
  (40, o_callV K 12 (f_X12_dawn K) 0),
  (43, o_ic 0 1),
  (44, o_aft [3, 4] (o_ist 2 1)),
  (45, o_ild 2 1),
  (46, o_ald 0 1),
  (47, o_gI K 12 38),
  (50, o_cmpge 99),
  (53, o_ald 0 1),
  (54, o_gF K 12 34),
  (57, o_ild 2 1),
  (58, o_iald K),
  (59, o_ist 3 1),
  (60, o_ild 3 1),
  (61, o_ald 0 1),
  (62, o_gI K 12 39),
  (65, o_cmpne 71),
  (68, o_goto 93),
  (71, o_ald 0 1),
  (72, o_gF K 12 26),
  (75, o_ild 3 1),
  (76, o_iald K),
  (77, o_ald 0 1),
  (78, o_ild 3 1),
  (79, o_ild 2 1),
  (80, o_callV K 12 (f_X12_timeToRead K) 2),
  (83, o_cmpge 87),
  (86, o_vret),
  (87, o_ald 0 1),
  (88, o_ild 3 1),
  (89, o_ild 2 1),
  (90, o_callV K 12 (f_X12_reads K) 2),
  (93, o_inc 2 1),
  (96, o_aft [3, 4] (o_goto 45)),
  (99, o_ic 0 1),
  (100, o_aft [3, 4] (o_ist 2 1)),
  (101, o_ild 2 1),
  (102, o_ald 0 1),
  (103, o_gI K 12 38),
  (106, o_cmpge 180),
  (109, o_ald 0 1),
  (110, o_gF K 12 34),
  (113, o_ild 2 1),
  (114, o_iald K),
  (115, o_ist 3 1),
  (116, o_ild 3 1),
  (117, o_ald 0 1),
  (118, o_gI K 12 39),
  (121, o_cmpeq 174),
  (124, o_ald 0 1),
  (125, o_gF K 12 25),
  (128, o_ic 16 2),
  (130, o_ild 3 1),
  (131, o_imul),
  (132, o_ild 2 1),
  (133, o_iadd),
  (134, o_iald K),
  (135, o_ifne 141),
  (138, o_goto 174),
  (141, o_ic 0 1),
  (142, o_ist 4 2),
  (144, o_ild 4 2),
  (146, o_ald 0 1),
  (147, o_gI K 12 39),
  (150, o_cmpge 174),
  (153, o_ild 4 2),
  (155, o_ild 3 1),
  (156, o_cmpeq 168),
  (159, o_ald 0 1),
  (160, o_ild 3 1),
  (161, o_ild 4 2),
  (163, o_ild 2 1),
  (164, o_ic 4 1),
  (165, o_callV K 12 (f_X12_gets K) 4),
  (168, o_inc 4 1),
  (171, o_goto 144),
  (174, o_inc 2 1),
  (177, o_aft [3, 4] (o_goto 101)),
  (180, o_ald 0 1),
  (181, o_ald 0 1),
  (182, o_gI K 12 39),
  (185, o_callV K 12 (f_X12_sum K) 1),
  (188, o_ist 2 1),
  (189, o_ild 2 1),
  (190, o_ald 0 1),
  (191, o_gI K 12 37),
  (194, o_cmpgt 198),
  (197, o_vret),
  (198, o_ald 0 1),
  (199, o_ild 2 1),
  (200, o_pI K 12 37),
  (203, o_ic 0 1),
  (204, o_aft [2, 4] (o_ist 3 1)),
  (205, o_ild 3 1),
  (206, o_ald 0 1),
  (207, o_gI K 12 38),
  (210, o_cmpge 231),
  (213, o_ald 0 1),
  (214, o_gF K 12 35),
  (217, o_ild 3 1),
  (218, o_ald 0 1),
  (219, o_gF K 12 34),
  (222, o_ild 3 1),
  (223, o_iald K),
  (224, o_iast K),
  (225, o_inc 3 1),
  (228, o_aft [2, 4] (o_goto 205)),
  (231, o_vret)]
noncomputable def F_X12_tryReaders (K : Sh_) : Nat → Fn_
  | 0 => (fun _ _ => none)
  | d + 1 => (fn_ (P_X12_tryReaders K (F_X12_tryReaders K d)) 5)
noncomputable def f_X12_tryReaders (K : Sh_) (d : Nat) : Fn_ := (F_X12_tryReaders K d)
set_option maxRecDepth 100000 in
theorem a_X12_tryReaders {l : Launch} {E : En_} (hE : EOK_ E) {d : Nat} {r_X12_tryReaders : Fn_} (h_X12_tryReaders : Good_ l E yX12_tryReaders (.code yX12_tryReaders cX12_tryReaders 5 (none) :: G_) (rm_ (4 + d)) r_X12_tryReaders) : All_ (Snd_ l E yX12_tryReaders.cls cX12_tryReaders 5 (none) (.code yX12_tryReaders cX12_tryReaders 5 (none) :: G_) (rm_ (4 + (d + 1)))) (P_X12_tryReaders E.2.2.2.1 r_X12_tryReaders) :=
  all_c (s_ild_n (q := 1) (by decide +kernel) rfl)
  <| all_c (s_ald_n (q := 0) (by decide +kernel) rfl)
  <| all_c (g_12_38 (by decide +kernel) fl_RX12_359)
  <| all_c (s_cmpge (off := 34) (by decide +kernel) (by decide))
  <| all_c (s_iconst (n := 0) (by decide +kernel) (by decide))
  <| all_c (s_aft (s_ist_n (q := 2) (by decide +kernel) rfl))
  <| all_c (s_ild_n (q := 2) (by decide +kernel) rfl)
  <| all_c (s_ald_n (q := 0) (by decide +kernel) rfl)
  <| all_c (g_12_39 (by decide +kernel) fl_RX12_362)
  <| all_c (s_cmpgt (off := 23) (by decide +kernel) (by decide))
  <| all_c (s_ald_n (q := 0) (by decide +kernel) rfl)
  <| all_c (g_12_34 (by decide +kernel) fl_RX12_54)
  <| all_c (s_ild_n (q := 1) (by decide +kernel) rfl)
  <| all_c (s_ild_n (q := 2) (by decide +kernel) rfl)
  <| all_c (s_iast (by decide +kernel))
  <| all_c (s_ald_n (q := 0) (by decide +kernel) rfl)
  <| all_c (s_ild_n (q := 1) (by decide +kernel) rfl)
  <| all_c (s_iconst (n := 1) (by decide +kernel) (by decide))
  <| all_c (s_iadd (by decide +kernel))
  <| all_c (s_callV (by decide +kernel) (h_X12_tryReaders) cl_X12_tryReaders ml_RX12_365 im_X12_tryReaders se_X12_tryReaders (by decide) rfl (rm_lt (by omega)))
  <| all_c (s_inc (n := 1) (by decide +kernel) (by decide))
  <| all_c (s_aft (s_goto (off := (-25)) (by decide +kernel) (by decide)))
  <| all_c (s_vret (by decide +kernel) rfl)
  <| all_c (s_ald_n (q := 0) (by decide +kernel) rfl)
  <| all_c (s_callV (by decide +kernel) (t_X12_dawn hE) cl_X12_dawn ml_RX12_300 im_X12_dawn se_X12_dawn (by decide) rfl (rm_lt (by omega)))
  <| all_c (s_iconst (n := 0) (by decide +kernel) (by decide))
  <| all_c (s_aft (s_ist_n (q := 2) (by decide +kernel) rfl))
  <| all_c (s_ild_n (q := 2) (by decide +kernel) rfl)
  <| all_c (s_ald_n (q := 0) (by decide +kernel) rfl)
  <| all_c (g_12_38 (by decide +kernel) fl_RX12_359)
  <| all_c (s_cmpge (off := 49) (by decide +kernel) (by decide))
  <| all_c (s_ald_n (q := 0) (by decide +kernel) rfl)
  <| all_c (g_12_34 (by decide +kernel) fl_RX12_54)
  <| all_c (s_ild_n (q := 2) (by decide +kernel) rfl)
  <| all_c (s_iald (by decide +kernel))
  <| all_c (s_ist_n (q := 3) (by decide +kernel) rfl)
  <| all_c (s_ild_n (q := 3) (by decide +kernel) rfl)
  <| all_c (s_ald_n (q := 0) (by decide +kernel) rfl)
  <| all_c (g_12_39 (by decide +kernel) fl_RX12_362)
  <| all_c (s_cmpne (off := 6) (by decide +kernel) (by decide))
  <| all_c (s_goto (off := 25) (by decide +kernel) (by decide))
  <| all_c (s_ald_n (q := 0) (by decide +kernel) rfl)
  <| all_c (g_12_26 (by decide +kernel) fl_RX12_42)
  <| all_c (s_ild_n (q := 3) (by decide +kernel) rfl)
  <| all_c (s_iald (by decide +kernel))
  <| all_c (s_ald_n (q := 0) (by decide +kernel) rfl)
  <| all_c (s_ild_n (q := 3) (by decide +kernel) rfl)
  <| all_c (s_ild_n (q := 2) (by decide +kernel) rfl)
  <| all_c (s_callV (by decide +kernel) (t_X12_timeToRead hE) cl_X12_timeToRead ml_RX12_277 im_X12_timeToRead se_X12_timeToRead (by decide) rfl (rm_lt (by omega)))
  <| all_c (s_cmpge (off := 4) (by decide +kernel) (by decide))
  <| all_c (s_vret (by decide +kernel) rfl)
  <| all_c (s_ald_n (q := 0) (by decide +kernel) rfl)
  <| all_c (s_ild_n (q := 3) (by decide +kernel) rfl)
  <| all_c (s_ild_n (q := 2) (by decide +kernel) rfl)
  <| all_c (s_callV (by decide +kernel) (t_X12_reads hE) cl_X12_reads ml_RX12_292 im_X12_reads se_X12_reads (by decide) rfl (rm_lt (by omega)))
  <| all_c (s_inc (n := 1) (by decide +kernel) (by decide))
  <| all_c (s_aft (s_goto (off := (-51)) (by decide +kernel) (by decide)))
  <| all_c (s_iconst (n := 0) (by decide +kernel) (by decide))
  <| all_c (s_aft (s_ist_n (q := 2) (by decide +kernel) rfl))
  <| all_c (s_ild_n (q := 2) (by decide +kernel) rfl)
  <| all_c (s_ald_n (q := 0) (by decide +kernel) rfl)
  <| all_c (g_12_38 (by decide +kernel) fl_RX12_359)
  <| all_c (s_cmpge (off := 74) (by decide +kernel) (by decide))
  <| all_c (s_ald_n (q := 0) (by decide +kernel) rfl)
  <| all_c (g_12_34 (by decide +kernel) fl_RX12_54)
  <| all_c (s_ild_n (q := 2) (by decide +kernel) rfl)
  <| all_c (s_iald (by decide +kernel))
  <| all_c (s_ist_n (q := 3) (by decide +kernel) rfl)
  <| all_c (s_ild_n (q := 3) (by decide +kernel) rfl)
  <| all_c (s_ald_n (q := 0) (by decide +kernel) rfl)
  <| all_c (g_12_39 (by decide +kernel) fl_RX12_362)
  <| all_c (s_cmpeq (off := 53) (by decide +kernel) (by decide))
  <| all_c (s_ald_n (q := 0) (by decide +kernel) rfl)
  <| all_c (g_12_25 (by decide +kernel) fl_RX12_39)
  <| all_c (s_bipush (n := 16) (by decide +kernel) (by decide))
  <| all_c (s_ild_n (q := 3) (by decide +kernel) rfl)
  <| all_c (s_imul (by decide +kernel))
  <| all_c (s_ild_n (q := 2) (by decide +kernel) rfl)
  <| all_c (s_iadd (by decide +kernel))
  <| all_c (s_iald (by decide +kernel))
  <| all_c (s_ifne (off := 6) (by decide +kernel) (by decide))
  <| all_c (s_goto (off := 36) (by decide +kernel) (by decide))
  <| all_c (s_iconst (n := 0) (by decide +kernel) (by decide))
  <| all_c (s_ist (by decide +kernel))
  <| all_c (s_ild (by decide +kernel))
  <| all_c (s_ald_n (q := 0) (by decide +kernel) rfl)
  <| all_c (g_12_39 (by decide +kernel) fl_RX12_362)
  <| all_c (s_cmpge (off := 24) (by decide +kernel) (by decide))
  <| all_c (s_ild (by decide +kernel))
  <| all_c (s_ild_n (q := 3) (by decide +kernel) rfl)
  <| all_c (s_cmpeq (off := 12) (by decide +kernel) (by decide))
  <| all_c (s_ald_n (q := 0) (by decide +kernel) rfl)
  <| all_c (s_ild_n (q := 3) (by decide +kernel) rfl)
  <| all_c (s_ild (by decide +kernel))
  <| all_c (s_ild_n (q := 2) (by decide +kernel) rfl)
  <| all_c (s_iconst (n := 4) (by decide +kernel) (by decide))
  <| all_c (s_callV (by decide +kernel) (t_X12_gets hE) cl_X12_gets ml_RX12_296 im_X12_gets se_X12_gets (by decide) rfl (rm_lt (by omega)))
  <| all_c (s_inc (n := 1) (by decide +kernel) (by decide))
  <| all_c (s_goto (off := (-27)) (by decide +kernel) (by decide))
  <| all_c (s_inc (n := 1) (by decide +kernel) (by decide))
  <| all_c (s_aft (s_goto (off := (-76)) (by decide +kernel) (by decide)))
  <| all_c (s_ald_n (q := 0) (by decide +kernel) rfl)
  <| all_c (s_ald_n (q := 0) (by decide +kernel) rfl)
  <| all_c (g_12_39 (by decide +kernel) fl_RX12_362)
  <| all_c (s_callV (by decide +kernel) (t_X12_sum hE) cl_X12_sum ml_RX12_325 im_X12_sum se_X12_sum (by decide) rfl (rm_lt (by omega)))
  <| all_c (s_ist_n (q := 2) (by decide +kernel) rfl)
  <| all_c (s_ild_n (q := 2) (by decide +kernel) rfl)
  <| all_c (s_ald_n (q := 0) (by decide +kernel) rfl)
  <| all_c (g_12_37 (by decide +kernel) fl_RX12_368)
  <| all_c (s_cmpgt (off := 4) (by decide +kernel) (by decide))
  <| all_c (s_vret (by decide +kernel) rfl)
  <| all_c (s_ald_n (q := 0) (by decide +kernel) rfl)
  <| all_c (s_ild_n (q := 2) (by decide +kernel) rfl)
  <| all_c (p_12_37 (by decide +kernel) fl_RX12_368)
  <| all_c (s_iconst (n := 0) (by decide +kernel) (by decide))
  <| all_c (s_aft (s_ist_n (q := 3) (by decide +kernel) rfl))
  <| all_c (s_ild_n (q := 3) (by decide +kernel) rfl)
  <| all_c (s_ald_n (q := 0) (by decide +kernel) rfl)
  <| all_c (g_12_38 (by decide +kernel) fl_RX12_359)
  <| all_c (s_cmpge (off := 21) (by decide +kernel) (by decide))
  <| all_c (s_ald_n (q := 0) (by decide +kernel) rfl)
  <| all_c (g_12_35 (by decide +kernel) fl_RX12_57)
  <| all_c (s_ild_n (q := 3) (by decide +kernel) rfl)
  <| all_c (s_ald_n (q := 0) (by decide +kernel) rfl)
  <| all_c (g_12_34 (by decide +kernel) fl_RX12_54)
  <| all_c (s_ild_n (q := 3) (by decide +kernel) rfl)
  <| all_c (s_iald (by decide +kernel))
  <| all_c (s_iast (by decide +kernel))
  <| all_c (s_inc (n := 1) (by decide +kernel) (by decide))
  <| all_c (s_aft (s_goto (off := (-23)) (by decide +kernel) (by decide)))
  <| all_c (s_vret (by decide +kernel) rfl)
  <| all_n
theorem T_X12_tryReaders {l : Launch} {E : En_} (hE : EOK_ E) : ∀ d, Good_ l E yX12_tryReaders (.code yX12_tryReaders cX12_tryReaders 5 (none) :: G_) (rm_ (4 + d)) (f_X12_tryReaders E.2.2.2.1 d)
  | 0 => good_0
  | d + 1 => by
    have h_X12_tryReaders := T_X12_tryReaders (l := l) hE d
    exact good_all hE (by decide +kernel) (a_X12_tryReaders hE h_X12_tryReaders)
theorem t_X12_tryReaders {l : Launch} {E : En_} (hE : EOK_ E) (d : Nat) : Good_ l E yX12_tryReaders (.code yX12_tryReaders cX12_tryReaders 5 (none) :: G_) (rm_ (4 + d)) (f_X12_tryReaders E.2.2.2.1 d) := (T_X12_tryReaders hE d)
noncomputable def P_X12_best (K : Sh_)  : List (Nat × Op_) := [(0, o_ald 0 1),
  (1, o_ic 0 1),
  (2, o_pI K 12 0),
  (5, o_ald 0 1),
  (6, o_callV K 12 (f_X12_lay K) 0),
  (9, o_ild 1 1),
  (10, o_ic 1 1),
  (11, o_ic 6 2),
  (13, o_callS (f_X12_isIn K) 3),
  (16, o_ifeq 44),
  (19, o_ild 2 1),
  (20, o_ic 1 1),
  (21, o_ic 4 1),
  (22, o_callS (f_X12_isIn K) 3),
  (25, o_ifeq 44),
  (28, o_ild 1 1),
  (29, o_ald 0 1),
  (30, o_callV K 12 (f_X12_chaps K) 0),
  (33, o_cmpgt 44),
  (36, o_ild 2 1),
  (37, o_ald 0 1),
  (38, o_callV K 12 (f_X12_readers K) 0),
  (41, o_cmple 46),
  (44, o_ic (-1) 1),
  (45, o_iret),
  (46, o_ald 0 1),
  (47, o_ild 1 1),
  (48, o_pI K 12 38),
  (51, o_ald 0 1),
  (52, o_ild 2 1),
  (53, o_pI K 12 39),
  (56, o_ald 0 1),
  (57, o_ic (-1) 1),
  (58, o_pI K 12 37),
  (61, o_ald 0 1),
  (62, o_ic 0 1),
  (63, o_callV K 12 (f_X12_tryReaders K 80) 1),
  (66, o_ald 0 1),
  (67, o_ild 1 1),
  (68, o_pI K 12 40),
  (71, o_ic 0 1),
  (72, o_ist 3 1),
  (73, o_ild 3 1),
  (74, o_ild 1 1),
  (75, o_cmpge 110),
  (78, o_ald 0 1),
  (79, o_gF K 12 36),
  (82, o_ild 3 1),
  (83, o_ald 0 1),
  (84, o_gF K 12 35),
  (87, o_ild 3 1),
  (88, o_iald K),
  (89, o_ild 2 1),
  (90, o_cmpne 97),
  (93, o_ic (-1) 1),
  (94, o_goto 103),
  (97, o_ald 0 1),
  (98, o_gF K 12 35),
  (101, o_ild 3 1),
  (102, o_iald K),
  (103, o_iast K),
  (104, o_inc 3 1),
  (107, o_goto 73),
  (110, o_ald 0 1),
  (111, o_gI K 12 37),
  (114, o_iret)]
noncomputable def f_X12_best (K : Sh_) : Fn_ := fn_ (P_X12_best K) 4
set_option maxRecDepth 100000 in
theorem a_X12_best {l : Launch} {E : En_} (hE : EOK_ E)   : All_ (Snd_ l E yX12_best.cls cX12_best 4 (some .int) (.code yX12_best cX12_best 4 (some .int) :: G_) (rm_ 85)) (P_X12_best E.2.2.2.1 ) :=
  all_c (s_ald_n (q := 0) (by decide +kernel) rfl)
  <| all_c (s_iconst (n := 0) (by decide +kernel) (by decide))
  <| all_c (p_12_0 (by decide +kernel) fl_RX12_97)
  <| all_c (s_ald_n (q := 0) (by decide +kernel) rfl)
  <| all_c (s_callV (by decide +kernel) (t_X12_lay hE) cl_X12_lay ml_RX12_177 im_X12_lay se_X12_lay (by decide) rfl (rm_lt (by decide)))
  <| all_c (s_ild_n (q := 1) (by decide +kernel) rfl)
  <| all_c (s_iconst (n := 1) (by decide +kernel) (by decide))
  <| all_c (s_bipush (n := 6) (by decide +kernel) (by decide))
  <| all_c (s_callS (by decide +kernel) (t_X12_isIn hE) cl_X12_isIn ml_RX12_164 sm_X12_isIn (rm_lt (by decide)))
  <| all_c (s_ifeq (off := 28) (by decide +kernel) (by decide))
  <| all_c (s_ild_n (q := 2) (by decide +kernel) rfl)
  <| all_c (s_iconst (n := 1) (by decide +kernel) (by decide))
  <| all_c (s_iconst (n := 4) (by decide +kernel) (by decide))
  <| all_c (s_callS (by decide +kernel) (t_X12_isIn hE) cl_X12_isIn ml_RX12_164 sm_X12_isIn (rm_lt (by decide)))
  <| all_c (s_ifeq (off := 19) (by decide +kernel) (by decide))
  <| all_c (s_ild_n (q := 1) (by decide +kernel) rfl)
  <| all_c (s_ald_n (q := 0) (by decide +kernel) rfl)
  <| all_c (s_callV (by decide +kernel) (t_X12_chaps hE) cl_X12_chaps ml_RX12_188 im_X12_chaps se_X12_chaps (by decide) rfl (rm_lt (by decide)))
  <| all_c (s_cmpgt (off := 11) (by decide +kernel) (by decide))
  <| all_c (s_ild_n (q := 2) (by decide +kernel) rfl)
  <| all_c (s_ald_n (q := 0) (by decide +kernel) rfl)
  <| all_c (s_callV (by decide +kernel) (t_X12_readers hE) cl_X12_readers ml_RX12_191 im_X12_readers se_X12_readers (by decide) rfl (rm_lt (by decide)))
  <| all_c (s_cmple (off := 5) (by decide +kernel) (by decide))
  <| all_c (s_iconst (n := (-1)) (by decide +kernel) (by decide))
  <| all_c (s_iret (by decide +kernel) rfl)
  <| all_c (s_ald_n (q := 0) (by decide +kernel) rfl)
  <| all_c (s_ild_n (q := 1) (by decide +kernel) rfl)
  <| all_c (p_12_38 (by decide +kernel) fl_RX12_359)
  <| all_c (s_ald_n (q := 0) (by decide +kernel) rfl)
  <| all_c (s_ild_n (q := 2) (by decide +kernel) rfl)
  <| all_c (p_12_39 (by decide +kernel) fl_RX12_362)
  <| all_c (s_ald_n (q := 0) (by decide +kernel) rfl)
  <| all_c (s_iconst (n := (-1)) (by decide +kernel) (by decide))
  <| all_c (p_12_37 (by decide +kernel) fl_RX12_368)
  <| all_c (s_ald_n (q := 0) (by decide +kernel) rfl)
  <| all_c (s_iconst (n := 0) (by decide +kernel) (by decide))
  <| all_c (s_callV (by decide +kernel) (t_X12_tryReaders hE 80) cl_X12_tryReaders ml_RX12_365 im_X12_tryReaders se_X12_tryReaders (by decide) rfl (rm_lt (by decide)))
  <| all_c (s_ald_n (q := 0) (by decide +kernel) rfl)
  <| all_c (s_ild_n (q := 1) (by decide +kernel) rfl)
  <| all_c (p_12_40 (by decide +kernel) fl_RX12_371)
  <| all_c (s_iconst (n := 0) (by decide +kernel) (by decide))
  <| all_c (s_ist_n (q := 3) (by decide +kernel) rfl)
  <| all_c (s_ild_n (q := 3) (by decide +kernel) rfl)
  <| all_c (s_ild_n (q := 1) (by decide +kernel) rfl)
  <| all_c (s_cmpge (off := 35) (by decide +kernel) (by decide))
  <| all_c (s_ald_n (q := 0) (by decide +kernel) rfl)
  <| all_c (g_12_36 (by decide +kernel) fl_RX12_60)
  <| all_c (s_ild_n (q := 3) (by decide +kernel) rfl)
  <| all_c (s_ald_n (q := 0) (by decide +kernel) rfl)
  <| all_c (g_12_35 (by decide +kernel) fl_RX12_57)
  <| all_c (s_ild_n (q := 3) (by decide +kernel) rfl)
  <| all_c (s_iald (by decide +kernel))
  <| all_c (s_ild_n (q := 2) (by decide +kernel) rfl)
  <| all_c (s_cmpne (off := 7) (by decide +kernel) (by decide))
  <| all_c (s_iconst (n := (-1)) (by decide +kernel) (by decide))
  <| all_c (s_goto (off := 9) (by decide +kernel) (by decide))
  <| all_c (s_ald_n (q := 0) (by decide +kernel) rfl)
  <| all_c (g_12_35 (by decide +kernel) fl_RX12_57)
  <| all_c (s_ild_n (q := 3) (by decide +kernel) rfl)
  <| all_c (s_iald (by decide +kernel))
  <| all_c (s_iast (by decide +kernel))
  <| all_c (s_inc (n := 1) (by decide +kernel) (by decide))
  <| all_c (s_goto (off := (-34)) (by decide +kernel) (by decide))
  <| all_c (s_ald_n (q := 0) (by decide +kernel) rfl)
  <| all_c (g_12_37 (by decide +kernel) fl_RX12_368)
  <| all_c (s_iret (by decide +kernel) rfl)
  <| all_n
theorem t_X12_best {l : Launch} {E : En_} (hE : EOK_ E) : Good_ l E yX12_best (.code yX12_best cX12_best 4 (some .int) :: G_) (rm_ 85) (f_X12_best E.2.2.2.1) := good_all hE (by decide +kernel) (a_X12_best hE)
noncomputable def P_X12_bestOf (K : Sh_)  : List (Nat × Op_) := [(0, o_ald 0 1),
  (1, o_ic 0 1),
  (2, o_pI K 12 0),
  (5, o_ild 1 1),
  (6, o_iflt 26),
  (9, o_ild 1 1),
  (10, o_ald 0 1),
  (11, o_gI K 12 40),
  (14, o_cmpge 26),
  (17, o_ald 0 1),
  (18, o_gF K 12 36),
  (21, o_ild 1 1),
  (22, o_iald K),
  (23, o_goto 27),
  (26, o_ic (-1) 1),
  (27, o_iret)]
noncomputable def f_X12_bestOf (K : Sh_) : Fn_ := fn_ (P_X12_bestOf K) 2
set_option maxRecDepth 100000 in
theorem a_X12_bestOf {l : Launch} {E : En_} (hE : EOK_ E)   : All_ (Snd_ l E yX12_bestOf.cls cX12_bestOf 2 (some .int) (.code yX12_bestOf cX12_bestOf 2 (some .int) :: G_) (rm_ 1)) (P_X12_bestOf E.2.2.2.1 ) :=
  all_c (s_ald_n (q := 0) (by decide +kernel) rfl)
  <| all_c (s_iconst (n := 0) (by decide +kernel) (by decide))
  <| all_c (p_12_0 (by decide +kernel) fl_RX12_97)
  <| all_c (s_ild_n (q := 1) (by decide +kernel) rfl)
  <| all_c (s_iflt (off := 20) (by decide +kernel) (by decide))
  <| all_c (s_ild_n (q := 1) (by decide +kernel) rfl)
  <| all_c (s_ald_n (q := 0) (by decide +kernel) rfl)
  <| all_c (g_12_40 (by decide +kernel) fl_RX12_371)
  <| all_c (s_cmpge (off := 12) (by decide +kernel) (by decide))
  <| all_c (s_ald_n (q := 0) (by decide +kernel) rfl)
  <| all_c (g_12_36 (by decide +kernel) fl_RX12_60)
  <| all_c (s_ild_n (q := 1) (by decide +kernel) rfl)
  <| all_c (s_iald (by decide +kernel))
  <| all_c (s_goto (off := 4) (by decide +kernel) (by decide))
  <| all_c (s_iconst (n := (-1)) (by decide +kernel) (by decide))
  <| all_c (s_iret (by decide +kernel) rfl)
  <| all_n
theorem t_X12_bestOf {l : Launch} {E : En_} (hE : EOK_ E) : Good_ l E yX12_bestOf (.code yX12_bestOf cX12_bestOf 2 (some .int) :: G_) (rm_ 1) (f_X12_bestOf E.2.2.2.1) := good_all hE (by decide +kernel) (a_X12_bestOf hE)
noncomputable def P_X12_stretch (K : Sh_)  : List (Nat × Op_) := [(0, o_ic 0 1),
  (1, o_ist 3 1),
  (2, o_ild 3 1),
  (3, o_ild 2 1),
  (4, o_ic 1 1),
  (5, o_isub),
  (6, o_cmpge 25),
  (9, o_ald 0 1),
  (10, o_gF K 12 41),
  (13, o_ild 3 1),
  (14, o_iald K),
  (15, o_ild 1 1),
  (16, o_cmpge 25),
  (19, o_inc 3 1),
  (22, o_goto 2),
  (25, o_ild 3 1),
  (26, o_iret)]
noncomputable def f_X12_stretch (K : Sh_) : Fn_ := fn_ (P_X12_stretch K) 4
set_option maxRecDepth 100000 in
theorem a_X12_stretch {l : Launch} {E : En_} (hE : EOK_ E)   : All_ (Snd_ l E yX12_stretch.cls cX12_stretch 4 (some .int) (.code yX12_stretch cX12_stretch 4 (some .int) :: G_) (rm_ 1)) (P_X12_stretch E.2.2.2.1 ) :=
  all_c (s_iconst (n := 0) (by decide +kernel) (by decide))
  <| all_c (s_ist_n (q := 3) (by decide +kernel) rfl)
  <| all_c (s_ild_n (q := 3) (by decide +kernel) rfl)
  <| all_c (s_ild_n (q := 2) (by decide +kernel) rfl)
  <| all_c (s_iconst (n := 1) (by decide +kernel) (by decide))
  <| all_c (s_isub (by decide +kernel))
  <| all_c (s_cmpge (off := 19) (by decide +kernel) (by decide))
  <| all_c (s_ald_n (q := 0) (by decide +kernel) rfl)
  <| all_c (g_12_41 (by decide +kernel) fl_RX12_63)
  <| all_c (s_ild_n (q := 3) (by decide +kernel) rfl)
  <| all_c (s_iald (by decide +kernel))
  <| all_c (s_ild_n (q := 1) (by decide +kernel) rfl)
  <| all_c (s_cmpge (off := 9) (by decide +kernel) (by decide))
  <| all_c (s_inc (n := 1) (by decide +kernel) (by decide))
  <| all_c (s_goto (off := (-20)) (by decide +kernel) (by decide))
  <| all_c (s_ild_n (q := 3) (by decide +kernel) rfl)
  <| all_c (s_iret (by decide +kernel) rfl)
  <| all_n
theorem t_X12_stretch {l : Launch} {E : En_} (hE : EOK_ E) : Good_ l E yX12_stretch (.code yX12_stretch cX12_stretch 4 (some .int) :: G_) (rm_ 1) (f_X12_stretch E.2.2.2.1) := good_all hE (by decide +kernel) (a_X12_stretch hE)
noncomputable def P_X12_over (K : Sh_)  : List (Nat × Op_) := [(0, o_ic 0 1),
  (1, o_ist 2 1),
  (2, o_ic 0 1),
  (3, o_aft [4] (o_ist 3 1)),
  (4, o_ild 3 1),
  (5, o_ald 0 1),
  (6, o_callV K 12 (f_X12_chaps K) 0),
  (9, o_cmpge 59),
  (12, o_ic 0 1),
  (13, o_ist 4 2),
  (15, o_ild 4 2),
  (17, o_ild 3 1),
  (18, o_cmpge 53),
  (21, o_ald 0 1),
  (22, o_ild 3 1),
  (23, o_ild 1 1),
  (24, o_callV K 12 (f_X12_stretch K) 2),
  (27, o_ald 0 1),
  (28, o_ild 4 2),
  (30, o_ild 1 1),
  (31, o_callV K 12 (f_X12_stretch K) 2),
  (34, o_cmpeq 47),
  (37, o_ild 2 1),
  (38, o_ald 0 1),
  (39, o_ild 3 1),
  (40, o_ild 4 2),
  (42, o_callV K 12 (f_X12_leanOf K) 2),
  (45, o_iadd),
  (46, o_ist 2 1),
  (47, o_inc 4 1),
  (50, o_goto 15),
  (53, o_inc 3 1),
  (56, o_aft [4] (o_goto 4)),
  (59, o_ild 2 1),
  (60, o_iret)]
noncomputable def f_X12_over (K : Sh_) : Fn_ := fn_ (P_X12_over K) 5
set_option maxRecDepth 100000 in
theorem a_X12_over {l : Launch} {E : En_} (hE : EOK_ E)   : All_ (Snd_ l E yX12_over.cls cX12_over 5 (some .int) (.code yX12_over cX12_over 5 (some .int) :: G_) (rm_ 2)) (P_X12_over E.2.2.2.1 ) :=
  all_c (s_iconst (n := 0) (by decide +kernel) (by decide))
  <| all_c (s_ist_n (q := 2) (by decide +kernel) rfl)
  <| all_c (s_iconst (n := 0) (by decide +kernel) (by decide))
  <| all_c (s_aft (s_ist_n (q := 3) (by decide +kernel) rfl))
  <| all_c (s_ild_n (q := 3) (by decide +kernel) rfl)
  <| all_c (s_ald_n (q := 0) (by decide +kernel) rfl)
  <| all_c (s_callV (by decide +kernel) (t_X12_chaps hE) cl_X12_chaps ml_RX12_188 im_X12_chaps se_X12_chaps (by decide) rfl (rm_lt (by decide)))
  <| all_c (s_cmpge (off := 50) (by decide +kernel) (by decide))
  <| all_c (s_iconst (n := 0) (by decide +kernel) (by decide))
  <| all_c (s_ist (by decide +kernel))
  <| all_c (s_ild (by decide +kernel))
  <| all_c (s_ild_n (q := 3) (by decide +kernel) rfl)
  <| all_c (s_cmpge (off := 35) (by decide +kernel) (by decide))
  <| all_c (s_ald_n (q := 0) (by decide +kernel) rfl)
  <| all_c (s_ild_n (q := 3) (by decide +kernel) rfl)
  <| all_c (s_ild_n (q := 1) (by decide +kernel) rfl)
  <| all_c (s_callV (by decide +kernel) (t_X12_stretch hE) cl_X12_stretch ml_RX12_374 im_X12_stretch se_X12_stretch (by decide) rfl (rm_lt (by decide)))
  <| all_c (s_ald_n (q := 0) (by decide +kernel) rfl)
  <| all_c (s_ild (by decide +kernel))
  <| all_c (s_ild_n (q := 1) (by decide +kernel) rfl)
  <| all_c (s_callV (by decide +kernel) (t_X12_stretch hE) cl_X12_stretch ml_RX12_374 im_X12_stretch se_X12_stretch (by decide) rfl (rm_lt (by decide)))
  <| all_c (s_cmpeq (off := 13) (by decide +kernel) (by decide))
  <| all_c (s_ild_n (q := 2) (by decide +kernel) rfl)
  <| all_c (s_ald_n (q := 0) (by decide +kernel) rfl)
  <| all_c (s_ild_n (q := 3) (by decide +kernel) rfl)
  <| all_c (s_ild (by decide +kernel))
  <| all_c (s_callV (by decide +kernel) (t_X12_leanOf hE) cl_X12_leanOf ml_RX12_242 im_X12_leanOf se_X12_leanOf (by decide) rfl (rm_lt (by decide)))
  <| all_c (s_iadd (by decide +kernel))
  <| all_c (s_ist_n (q := 2) (by decide +kernel) rfl)
  <| all_c (s_inc (n := 1) (by decide +kernel) (by decide))
  <| all_c (s_goto (off := (-35)) (by decide +kernel) (by decide))
  <| all_c (s_inc (n := 1) (by decide +kernel) (by decide))
  <| all_c (s_aft (s_goto (off := (-52)) (by decide +kernel) (by decide)))
  <| all_c (s_ild_n (q := 2) (by decide +kernel) rfl)
  <| all_c (s_iret (by decide +kernel) rfl)
  <| all_n
theorem t_X12_over {l : Launch} {E : En_} (hE : EOK_ E) : Good_ l E yX12_over (.code yX12_over cX12_over 5 (some .int) :: G_) (rm_ 2) (f_X12_over E.2.2.2.1) := good_all hE (by decide +kernel) (a_X12_over hE)
noncomputable def P_X12_tryEnds (K : Sh_) (r_X12_tryEnds : Fn_) : List (Nat × Op_) := [(0, o_ic 0 1),
  (1, o_ist 4 2),
  (3, o_ild 3 1),
  (4, o_aft [6, 7] (o_ist 5 2)),
  (6, o_ild 5 2),
  (8, o_ald 0 1),
  (9, o_callV K 12 (f_X12_chaps K) 0),
  (12, o_cmpge 176),
  (15, o_ild 4 2),
  (17, o_ald 0 1),
  (18, o_ild 5 2),
  (20, o_ic 0 1),
  (21, o_callV K 12 (f_X12_chapOf K) 2),
  (24, o_iadd),
  (25, o_ist 4 2),
  (27, o_ild 4 2),
  (29, o_ald 0 1),
  (30, o_gI K 12 45),
  (33, o_cmple 37),
  (36, o_vret),
  (37, o_ild 1 1),
  (38, o_ild 2 1),
  (39, o_ic 1 1),
  (40, o_isub),
  (41, o_cmpne 58),
  (44, o_ild 5 2),
  (46, o_ald 0 1),
  (47, o_callV K 12 (f_X12_chaps K) 0),
  (50, o_ic 1 1),
  (51, o_isub),
  (52, o_aft [6, 7] (o_cmpge 78)),
  (55, o_goto 170),
  (58, o_ald 0 1),
  (59, o_callV K 12 (f_X12_chaps K) 0),
  (62, o_ic 1 1),
  (63, o_isub),
  (64, o_ild 5 2),
  (66, o_isub),
  (67, o_ild 2 1),
  (68, o_ic 1 1),
  (69, o_isub),
  (70, o_ild 1 1),
  (71, o_isub),
  (72, o_aft [6, 7] (o_cmpge 78)),
  (75, o_goto 170),
  (78, o_ald 0 1),
  (79, o_gF K 12 41),
  (82, o_ild 1 1),
  (83, o_ild 5 2),
  (85, o_iast K),
  (86, o_ild 1 1),
  (87, o_ild 2 1),
  (88, o_ic 1 1),
  (89, o_isub),
  (90, o_cmpge 108),
  (93, o_ald 0 1),
  (94, o_ild 1 1),
  (95, o_ic 1 1),
  (96, o_iadd),
  (97, o_ild 2 1),
  (98, o_ild 5 2),
  (100, o_ic 1 1),
  (101, o_iadd),
  (102, o_callV K 12 (r_X12_tryEnds) 3),
  (105, o_goto 170),
  (108, o_ald 0 1),
  (109, o_ild 2 1),
  (110, o_callV K 12 (f_X12_over K) 1),
  (113, o_ist 6 2),
  (115, o_ald 0 1),
  (116, o_gI K 12 43),
  (119, o_ic (-1) 1),
  (120, o_cmpeq 135),
  (123, o_ild 6 2),
  (125, o_ald 0 1),
  (126, o_gI K 12 43),
  (129, o_cmplt 135),
  (132, o_goto 170),
  (135, o_ald 0 1),
  (136, o_ild 6 2),
  (138, o_pI K 12 43),
  (141, o_ic 0 1),
  (142, o_aft [6] (o_ist 7 2)),
  (144, o_ild 7 2),
  (146, o_ild 2 1),
  (147, o_cmpge 170),
  (150, o_ald 0 1),
  (151, o_gF K 12 46),
  (154, o_ild 7 2),
  (156, o_ald 0 1),
  (157, o_gF K 12 41),
  (160, o_ild 7 2),
  (162, o_iald K),
  (163, o_iast K),
  (164, o_inc 7 1),
  (167, o_aft [6] (o_goto 144)),
  (170, o_inc 5 1),
  (173, o_aft [6, 7] (o_goto 6)),
  (176, o_vret)]
noncomputable def F_X12_tryEnds (K : Sh_) : Nat → Fn_
  | 0 => (fun _ _ => none)
  | d + 1 => (fn_ (P_X12_tryEnds K (F_X12_tryEnds K d)) 8)
noncomputable def f_X12_tryEnds (K : Sh_) (d : Nat) : Fn_ := (F_X12_tryEnds K d)
set_option maxRecDepth 100000 in
theorem a_X12_tryEnds {l : Launch} {E : En_} (hE : EOK_ E) {d : Nat} {r_X12_tryEnds : Fn_} (h_X12_tryEnds : Good_ l E yX12_tryEnds (.code yX12_tryEnds cX12_tryEnds 8 (none) :: G_) (rm_ (3 + d)) r_X12_tryEnds) : All_ (Snd_ l E yX12_tryEnds.cls cX12_tryEnds 8 (none) (.code yX12_tryEnds cX12_tryEnds 8 (none) :: G_) (rm_ (3 + (d + 1)))) (P_X12_tryEnds E.2.2.2.1 r_X12_tryEnds) :=
  all_c (s_iconst (n := 0) (by decide +kernel) (by decide))
  <| all_c (s_ist (by decide +kernel))
  <| all_c (s_ild_n (q := 3) (by decide +kernel) rfl)
  <| all_c (s_aft (s_ist (by decide +kernel)))
  <| all_c (s_ild (by decide +kernel))
  <| all_c (s_ald_n (q := 0) (by decide +kernel) rfl)
  <| all_c (s_callV (by decide +kernel) (t_X12_chaps hE) cl_X12_chaps ml_RX12_188 im_X12_chaps se_X12_chaps (by decide) rfl (rm_lt (by omega)))
  <| all_c (s_cmpge (off := 164) (by decide +kernel) (by decide))
  <| all_c (s_ild (by decide +kernel))
  <| all_c (s_ald_n (q := 0) (by decide +kernel) rfl)
  <| all_c (s_ild (by decide +kernel))
  <| all_c (s_iconst (n := 0) (by decide +kernel) (by decide))
  <| all_c (s_callV (by decide +kernel) (t_X12_chapOf hE) cl_X12_chapOf ml_RX12_238 im_X12_chapOf se_X12_chapOf (by decide) rfl (rm_lt (by omega)))
  <| all_c (s_iadd (by decide +kernel))
  <| all_c (s_ist (by decide +kernel))
  <| all_c (s_ild (by decide +kernel))
  <| all_c (s_ald_n (q := 0) (by decide +kernel) rfl)
  <| all_c (g_12_45 (by decide +kernel) fl_RX12_377)
  <| all_c (s_cmple (off := 4) (by decide +kernel) (by decide))
  <| all_c (s_vret (by decide +kernel) rfl)
  <| all_c (s_ild_n (q := 1) (by decide +kernel) rfl)
  <| all_c (s_ild_n (q := 2) (by decide +kernel) rfl)
  <| all_c (s_iconst (n := 1) (by decide +kernel) (by decide))
  <| all_c (s_isub (by decide +kernel))
  <| all_c (s_cmpne (off := 17) (by decide +kernel) (by decide))
  <| all_c (s_ild (by decide +kernel))
  <| all_c (s_ald_n (q := 0) (by decide +kernel) rfl)
  <| all_c (s_callV (by decide +kernel) (t_X12_chaps hE) cl_X12_chaps ml_RX12_188 im_X12_chaps se_X12_chaps (by decide) rfl (rm_lt (by omega)))
  <| all_c (s_iconst (n := 1) (by decide +kernel) (by decide))
  <| all_c (s_isub (by decide +kernel))
  <| all_c (s_aft (s_cmpge (off := 26) (by decide +kernel) (by decide)))
  <| all_c (s_goto (off := 115) (by decide +kernel) (by decide))
  <| all_c (s_ald_n (q := 0) (by decide +kernel) rfl)
  <| all_c (s_callV (by decide +kernel) (t_X12_chaps hE) cl_X12_chaps ml_RX12_188 im_X12_chaps se_X12_chaps (by decide) rfl (rm_lt (by omega)))
  <| all_c (s_iconst (n := 1) (by decide +kernel) (by decide))
  <| all_c (s_isub (by decide +kernel))
  <| all_c (s_ild (by decide +kernel))
  <| all_c (s_isub (by decide +kernel))
  <| all_c (s_ild_n (q := 2) (by decide +kernel) rfl)
  <| all_c (s_iconst (n := 1) (by decide +kernel) (by decide))
  <| all_c (s_isub (by decide +kernel))
  <| all_c (s_ild_n (q := 1) (by decide +kernel) rfl)
  <| all_c (s_isub (by decide +kernel))
  <| all_c (s_aft (s_cmpge (off := 6) (by decide +kernel) (by decide)))
  <| all_c (s_goto (off := 95) (by decide +kernel) (by decide))
  <| all_c (s_ald_n (q := 0) (by decide +kernel) rfl)
  <| all_c (g_12_41 (by decide +kernel) fl_RX12_63)
  <| all_c (s_ild_n (q := 1) (by decide +kernel) rfl)
  <| all_c (s_ild (by decide +kernel))
  <| all_c (s_iast (by decide +kernel))
  <| all_c (s_ild_n (q := 1) (by decide +kernel) rfl)
  <| all_c (s_ild_n (q := 2) (by decide +kernel) rfl)
  <| all_c (s_iconst (n := 1) (by decide +kernel) (by decide))
  <| all_c (s_isub (by decide +kernel))
  <| all_c (s_cmpge (off := 18) (by decide +kernel) (by decide))
  <| all_c (s_ald_n (q := 0) (by decide +kernel) rfl)
  <| all_c (s_ild_n (q := 1) (by decide +kernel) rfl)
  <| all_c (s_iconst (n := 1) (by decide +kernel) (by decide))
  <| all_c (s_iadd (by decide +kernel))
  <| all_c (s_ild_n (q := 2) (by decide +kernel) rfl)
  <| all_c (s_ild (by decide +kernel))
  <| all_c (s_iconst (n := 1) (by decide +kernel) (by decide))
  <| all_c (s_iadd (by decide +kernel))
  <| all_c (s_callV (by decide +kernel) (h_X12_tryEnds) cl_X12_tryEnds ml_RX12_380 im_X12_tryEnds se_X12_tryEnds (by decide) rfl (rm_lt (by omega)))
  <| all_c (s_goto (off := 65) (by decide +kernel) (by decide))
  <| all_c (s_ald_n (q := 0) (by decide +kernel) rfl)
  <| all_c (s_ild_n (q := 2) (by decide +kernel) rfl)
  <| all_c (s_callV (by decide +kernel) (t_X12_over hE) cl_X12_over ml_RX12_384 im_X12_over se_X12_over (by decide) rfl (rm_lt (by omega)))
  <| all_c (s_ist (by decide +kernel))
  <| all_c (s_ald_n (q := 0) (by decide +kernel) rfl)
  <| all_c (g_12_43 (by decide +kernel) fl_RX12_387)
  <| all_c (s_iconst (n := (-1)) (by decide +kernel) (by decide))
  <| all_c (s_cmpeq (off := 15) (by decide +kernel) (by decide))
  <| all_c (s_ild (by decide +kernel))
  <| all_c (s_ald_n (q := 0) (by decide +kernel) rfl)
  <| all_c (g_12_43 (by decide +kernel) fl_RX12_387)
  <| all_c (s_cmplt (off := 6) (by decide +kernel) (by decide))
  <| all_c (s_goto (off := 38) (by decide +kernel) (by decide))
  <| all_c (s_ald_n (q := 0) (by decide +kernel) rfl)
  <| all_c (s_ild (by decide +kernel))
  <| all_c (p_12_43 (by decide +kernel) fl_RX12_387)
  <| all_c (s_iconst (n := 0) (by decide +kernel) (by decide))
  <| all_c (s_aft (s_ist (by decide +kernel)))
  <| all_c (s_ild (by decide +kernel))
  <| all_c (s_ild_n (q := 2) (by decide +kernel) rfl)
  <| all_c (s_cmpge (off := 23) (by decide +kernel) (by decide))
  <| all_c (s_ald_n (q := 0) (by decide +kernel) rfl)
  <| all_c (g_12_46 (by decide +kernel) fl_RX12_69)
  <| all_c (s_ild (by decide +kernel))
  <| all_c (s_ald_n (q := 0) (by decide +kernel) rfl)
  <| all_c (g_12_41 (by decide +kernel) fl_RX12_63)
  <| all_c (s_ild (by decide +kernel))
  <| all_c (s_iald (by decide +kernel))
  <| all_c (s_iast (by decide +kernel))
  <| all_c (s_inc (n := 1) (by decide +kernel) (by decide))
  <| all_c (s_aft (s_goto (off := (-23)) (by decide +kernel) (by decide)))
  <| all_c (s_inc (n := 1) (by decide +kernel) (by decide))
  <| all_c (s_aft (s_goto (off := (-167)) (by decide +kernel) (by decide)))
  <| all_c (s_vret (by decide +kernel) rfl)
  <| all_n
theorem T_X12_tryEnds {l : Launch} {E : En_} (hE : EOK_ E) : ∀ d, Good_ l E yX12_tryEnds (.code yX12_tryEnds cX12_tryEnds 8 (none) :: G_) (rm_ (3 + d)) (f_X12_tryEnds E.2.2.2.1 d)
  | 0 => good_0
  | d + 1 => by
    have h_X12_tryEnds := T_X12_tryEnds (l := l) hE d
    exact good_all hE (by decide +kernel) (a_X12_tryEnds hE h_X12_tryEnds)
theorem t_X12_tryEnds {l : Launch} {E : En_} (hE : EOK_ E) (d : Nat) : Good_ l E yX12_tryEnds (.code yX12_tryEnds cX12_tryEnds 8 (none) :: G_) (rm_ (3 + d)) (f_X12_tryEnds E.2.2.2.1 d) := (T_X12_tryEnds hE d)
noncomputable def P_X12_cut (K : Sh_)  : List (Nat × Op_) := [(0, o_ald 0 1),
  (1, o_ic 0 1),
  (2, o_pI K 12 0),
  (5, o_ald 0 1),
  (6, o_callV K 12 (f_X12_lay K) 0),
  (9, o_ild 1 1),
  (10, o_ic 1 1),
  (11, o_ic 9 2),
  (13, o_callS (f_X12_isIn K) 3),
  (16, o_ifeq 30),
  (19, o_ild 2 1),
  (20, o_ic 1 1),
  (21, o_ic 999 3),
  (24, o_callS (f_X12_isIn K) 3),
  (27, o_ifne 33),
  (30, o_ic (-2) 2),
  (32, o_iret),
  (33, o_ald 0 1),
  (34, o_ic (-1) 1),
  (35, o_pI K 12 43),
  (38, o_ald 0 1),
  (39, o_ild 2 1),
  (40, o_pI K 12 45),
  (43, o_ald 0 1),
  (44, o_ic 0 1),
  (45, o_ild 1 1),
  (46, o_ic 0 1),
  (47, o_callV K 12 (f_X12_tryEnds K 80) 3),
  (50, o_ald 0 1),
  (51, o_gI K 12 43),
  (54, o_ic (-1) 1),
  (55, o_cmpne 60),
  (58, o_ic (-1) 1),
  (59, o_iret),
  (60, o_ald 0 1),
  (61, o_ild 1 1),
  (62, o_pI K 12 44),
  (65, o_ic 0 1),
  (66, o_ist 3 1),
  (67, o_ild 3 1),
  (68, o_ild 1 1),
  (69, o_cmpge 90),
  (72, o_ald 0 1),
  (73, o_gF K 12 42),
  (76, o_ild 3 1),
  (77, o_ald 0 1),
  (78, o_gF K 12 46),
  (81, o_ild 3 1),
  (82, o_iald K),
  (83, o_iast K),
  (84, o_inc 3 1),
  (87, o_goto 67),
  (90, o_ald 0 1),
  (91, o_gI K 12 43),
  (94, o_iret)]
noncomputable def f_X12_cut (K : Sh_) : Fn_ := fn_ (P_X12_cut K) 4
set_option maxRecDepth 100000 in
theorem a_X12_cut {l : Launch} {E : En_} (hE : EOK_ E)   : All_ (Snd_ l E yX12_cut.cls cX12_cut 4 (some .int) (.code yX12_cut cX12_cut 4 (some .int) :: G_) (rm_ 84)) (P_X12_cut E.2.2.2.1 ) :=
  all_c (s_ald_n (q := 0) (by decide +kernel) rfl)
  <| all_c (s_iconst (n := 0) (by decide +kernel) (by decide))
  <| all_c (p_12_0 (by decide +kernel) fl_RX12_97)
  <| all_c (s_ald_n (q := 0) (by decide +kernel) rfl)
  <| all_c (s_callV (by decide +kernel) (t_X12_lay hE) cl_X12_lay ml_RX12_177 im_X12_lay se_X12_lay (by decide) rfl (rm_lt (by decide)))
  <| all_c (s_ild_n (q := 1) (by decide +kernel) rfl)
  <| all_c (s_iconst (n := 1) (by decide +kernel) (by decide))
  <| all_c (s_bipush (n := 9) (by decide +kernel) (by decide))
  <| all_c (s_callS (by decide +kernel) (t_X12_isIn hE) cl_X12_isIn ml_RX12_164 sm_X12_isIn (rm_lt (by decide)))
  <| all_c (s_ifeq (off := 14) (by decide +kernel) (by decide))
  <| all_c (s_ild_n (q := 2) (by decide +kernel) rfl)
  <| all_c (s_iconst (n := 1) (by decide +kernel) (by decide))
  <| all_c (s_sipush (n := 999) (by decide +kernel) (by decide))
  <| all_c (s_callS (by decide +kernel) (t_X12_isIn hE) cl_X12_isIn ml_RX12_164 sm_X12_isIn (rm_lt (by decide)))
  <| all_c (s_ifne (off := 6) (by decide +kernel) (by decide))
  <| all_c (s_bipush (n := (-2)) (by decide +kernel) (by decide))
  <| all_c (s_iret (by decide +kernel) rfl)
  <| all_c (s_ald_n (q := 0) (by decide +kernel) rfl)
  <| all_c (s_iconst (n := (-1)) (by decide +kernel) (by decide))
  <| all_c (p_12_43 (by decide +kernel) fl_RX12_387)
  <| all_c (s_ald_n (q := 0) (by decide +kernel) rfl)
  <| all_c (s_ild_n (q := 2) (by decide +kernel) rfl)
  <| all_c (p_12_45 (by decide +kernel) fl_RX12_377)
  <| all_c (s_ald_n (q := 0) (by decide +kernel) rfl)
  <| all_c (s_iconst (n := 0) (by decide +kernel) (by decide))
  <| all_c (s_ild_n (q := 1) (by decide +kernel) rfl)
  <| all_c (s_iconst (n := 0) (by decide +kernel) (by decide))
  <| all_c (s_callV (by decide +kernel) (t_X12_tryEnds hE 80) cl_X12_tryEnds ml_RX12_380 im_X12_tryEnds se_X12_tryEnds (by decide) rfl (rm_lt (by decide)))
  <| all_c (s_ald_n (q := 0) (by decide +kernel) rfl)
  <| all_c (g_12_43 (by decide +kernel) fl_RX12_387)
  <| all_c (s_iconst (n := (-1)) (by decide +kernel) (by decide))
  <| all_c (s_cmpne (off := 5) (by decide +kernel) (by decide))
  <| all_c (s_iconst (n := (-1)) (by decide +kernel) (by decide))
  <| all_c (s_iret (by decide +kernel) rfl)
  <| all_c (s_ald_n (q := 0) (by decide +kernel) rfl)
  <| all_c (s_ild_n (q := 1) (by decide +kernel) rfl)
  <| all_c (p_12_44 (by decide +kernel) fl_RX12_390)
  <| all_c (s_iconst (n := 0) (by decide +kernel) (by decide))
  <| all_c (s_ist_n (q := 3) (by decide +kernel) rfl)
  <| all_c (s_ild_n (q := 3) (by decide +kernel) rfl)
  <| all_c (s_ild_n (q := 1) (by decide +kernel) rfl)
  <| all_c (s_cmpge (off := 21) (by decide +kernel) (by decide))
  <| all_c (s_ald_n (q := 0) (by decide +kernel) rfl)
  <| all_c (g_12_42 (by decide +kernel) fl_RX12_66)
  <| all_c (s_ild_n (q := 3) (by decide +kernel) rfl)
  <| all_c (s_ald_n (q := 0) (by decide +kernel) rfl)
  <| all_c (g_12_46 (by decide +kernel) fl_RX12_69)
  <| all_c (s_ild_n (q := 3) (by decide +kernel) rfl)
  <| all_c (s_iald (by decide +kernel))
  <| all_c (s_iast (by decide +kernel))
  <| all_c (s_inc (n := 1) (by decide +kernel) (by decide))
  <| all_c (s_goto (off := (-20)) (by decide +kernel) (by decide))
  <| all_c (s_ald_n (q := 0) (by decide +kernel) rfl)
  <| all_c (g_12_43 (by decide +kernel) fl_RX12_387)
  <| all_c (s_iret (by decide +kernel) rfl)
  <| all_n
theorem t_X12_cut {l : Launch} {E : En_} (hE : EOK_ E) : Good_ l E yX12_cut (.code yX12_cut cX12_cut 4 (some .int) :: G_) (rm_ 84) (f_X12_cut E.2.2.2.1) := good_all hE (by decide +kernel) (a_X12_cut hE)
noncomputable def P_X12_cutAt (K : Sh_)  : List (Nat × Op_) := [(0, o_ald 0 1),
  (1, o_ic 0 1),
  (2, o_pI K 12 0),
  (5, o_ild 1 1),
  (6, o_iflt 26),
  (9, o_ild 1 1),
  (10, o_ald 0 1),
  (11, o_gI K 12 44),
  (14, o_cmpge 26),
  (17, o_ald 0 1),
  (18, o_gF K 12 42),
  (21, o_ild 1 1),
  (22, o_iald K),
  (23, o_goto 27),
  (26, o_ic (-1) 1),
  (27, o_iret)]
noncomputable def f_X12_cutAt (K : Sh_) : Fn_ := fn_ (P_X12_cutAt K) 2
set_option maxRecDepth 100000 in
theorem a_X12_cutAt {l : Launch} {E : En_} (hE : EOK_ E)   : All_ (Snd_ l E yX12_cutAt.cls cX12_cutAt 2 (some .int) (.code yX12_cutAt cX12_cutAt 2 (some .int) :: G_) (rm_ 1)) (P_X12_cutAt E.2.2.2.1 ) :=
  all_c (s_ald_n (q := 0) (by decide +kernel) rfl)
  <| all_c (s_iconst (n := 0) (by decide +kernel) (by decide))
  <| all_c (p_12_0 (by decide +kernel) fl_RX12_97)
  <| all_c (s_ild_n (q := 1) (by decide +kernel) rfl)
  <| all_c (s_iflt (off := 20) (by decide +kernel) (by decide))
  <| all_c (s_ild_n (q := 1) (by decide +kernel) rfl)
  <| all_c (s_ald_n (q := 0) (by decide +kernel) rfl)
  <| all_c (g_12_44 (by decide +kernel) fl_RX12_390)
  <| all_c (s_cmpge (off := 12) (by decide +kernel) (by decide))
  <| all_c (s_ald_n (q := 0) (by decide +kernel) rfl)
  <| all_c (g_12_42 (by decide +kernel) fl_RX12_66)
  <| all_c (s_ild_n (q := 1) (by decide +kernel) rfl)
  <| all_c (s_iald (by decide +kernel))
  <| all_c (s_goto (off := 4) (by decide +kernel) (by decide))
  <| all_c (s_iconst (n := (-1)) (by decide +kernel) (by decide))
  <| all_c (s_iret (by decide +kernel) rfl)
  <| all_n
theorem t_X12_cutAt {l : Launch} {E : En_} (hE : EOK_ E) : Good_ l E yX12_cutAt (.code yX12_cutAt cX12_cutAt 2 (some .int) :: G_) (rm_ 1) (f_X12_cutAt E.2.2.2.1) := good_all hE (by decide +kernel) (a_X12_cutAt hE)
noncomputable def P_X12_net (K : Sh_)  : List (Nat × Op_) := [(0, o_ald 0 1),
  (1, o_ic 0 1),
  (2, o_pI K 12 0),
  (5, o_ald 0 1),
  (6, o_callV K 12 (f_X12_lay K) 0),
  (9, o_ald 0 1),
  (10, o_callV K 12 (f_X12_take K) 0),
  (13, o_ist 2 1),
  (14, o_ild 2 1),
  (15, o_ic 2 1),
  (16, o_ic 10 2),
  (18, o_callS (f_X12_isIn K) 3),
  (21, o_ifeq 35),
  (24, o_ild 1 1),
  (25, o_ic 1 1),
  (26, o_ic 9999 3),
  (29, o_callS (f_X12_isIn K) 3),
  (32, o_ifne 38),
  (35, o_ic (-2) 2),
  (37, o_iret),
  (38, o_ic 0 1),
  (39, o_ist 3 1),
  (40, o_ic 0 1),
  (41, o_aft [5, 6, 7, 8, 9, 10, 11] (o_ist 4 2)),
  (43, o_ild 4 2),
  (45, o_ild 2 1),
  (46, o_cmpge 98),
  (49, o_ald 0 1),
  (50, o_ald 0 1),
  (51, o_gF K 12 1),
  (54, o_ild 4 2),
  (56, o_iald K),
  (57, o_callV K 12 (f_X12_isChap K) 1),
  (60, o_ifeq 77),
  (63, o_ild 3 1),
  (64, o_ald 0 1),
  (65, o_gF K 12 1),
  (68, o_ild 4 2),
  (70, o_iald K),
  (71, o_callS (f_X12_has K) 2),
  (74, o_ifeq 80),
  (77, o_ic (-2) 2),
  (79, o_iret),
  (80, o_ild 3 1),
  (81, o_ic 1 1),
  (82, o_ald 0 1),
  (83, o_gF K 12 1),
  (86, o_ild 4 2),
  (88, o_iald K),
  (89, o_ishl),
  (90, o_ior),
  (91, o_ist 3 1),
  (92, o_inc 4 1),
  (95, o_aft [5, 6, 7, 8, 9, 10, 11] (o_goto 43)),
  (98, o_ic (-1) 1),
  (99, o_ist 4 2),
  (101, o_ic 0 1),
  (102, o_ist 5 2),
  (104, o_ic 1 1),
  (105, o_aft [3, 7, 8, 9, 10, 11] (o_ist 6 2)),
  (107, o_ild 6 2),
  (109, o_ic 1 1),
  (110, o_ild 2 1),
  (111, o_ic 1 1),
  (112, o_isub),
  (113, o_ishl),
  (114, o_cmpge 302),
  (117, o_ic 0 1),
  (118, o_ist 7 2),
  (120, o_ic 0 1),
  (121, o_ist 8 2),
  (123, o_ic 0 1),
  (124, o_ist 9 2),
  (126, o_ic 0 1),
  (127, o_aft [3, 11] (o_ist 10 2)),
  (129, o_ild 10 2),
  (131, o_ild 2 1),
  (132, o_cmpge 260),
  (135, o_ild 6 2),
  (137, o_ild 10 2),
  (139, o_callS (f_X12_has K) 2),
  (142, o_ifeq 165),
  (145, o_ild 7 2),
  (147, o_ald 0 1),
  (148, o_ald 0 1),
  (149, o_gF K 12 1),
  (152, o_ild 10 2),
  (154, o_iald K),
  (155, o_ic 0 1),
  (156, o_callV K 12 (f_X12_chapOf K) 2),
  (159, o_iadd),
  (160, o_ist 7 2),
  (162, o_goto 182),
  (165, o_ild 8 2),
  (167, o_ald 0 1),
  (168, o_ald 0 1),
  (169, o_gF K 12 1),
  (172, o_ild 10 2),
  (174, o_iald K),
  (175, o_ic 0 1),
  (176, o_callV K 12 (f_X12_chapOf K) 2),
  (179, o_iadd),
  (180, o_ist 8 2),
  (182, o_ic 0 1),
  (183, o_aft [3] (o_ist 11 2)),
  (185, o_ild 11 2),
  (187, o_ild 2 1),
  (188, o_cmpge 254),
  (191, o_ild 6 2),
  (193, o_ild 10 2),
  (195, o_callS (f_X12_has K) 2),
  (198, o_ild 6 2),
  (200, o_ild 11 2),
  (202, o_callS (f_X12_has K) 2),
  (205, o_cmpeq 248),
  (208, o_ald 0 1),
  (209, o_gF K 12 1),
  (212, o_ild 11 2),
  (214, o_iald K),
  (215, o_ald 0 1),
  (216, o_gF K 12 1),
  (219, o_ild 10 2),
  (221, o_iald K),
  (222, o_cmpge 248),
  (225, o_ild 9 2),
  (227, o_ald 0 1),
  (228, o_ald 0 1),
  (229, o_gF K 12 1),
  (232, o_ild 10 2),
  (234, o_iald K),
  (235, o_ald 0 1),
  (236, o_gF K 12 1),
  (239, o_ild 11 2),
  (241, o_iald K),
  (242, o_callV K 12 (f_X12_leanOf K) 2),
  (245, o_iadd),
  (246, o_ist 9 2),
  (248, o_inc 11 1),
  (251, o_aft [3] (o_goto 185)),
  (254, o_inc 10 1),
  (257, o_aft [3, 11] (o_goto 129)),
  (260, o_ild 7 2),
  (262, o_ild 1 1),
  (263, o_cmpgt 296),
  (266, o_ild 8 2),
  (268, o_ild 1 1),
  (269, o_cmpgt 296),
  (272, o_ild 4 2),
  (274, o_ic (-1) 1),
  (275, o_cmpeq 288),
  (278, o_ild 9 2),
  (280, o_ild 4 2),
  (282, o_cmplt 288),
  (285, o_goto 296),
  (288, o_ild 9 2),
  (290, o_ist 4 2),
  (292, o_ild 6 2),
  (294, o_ist 5 2),
  (296, o_inc 6 1),
  (299, o_aft [3, 7, 8, 9, 10, 11] (o_goto 107)),
  (302, o_ild 4 2),
  (304, o_ic (-1) 1),
  (305, o_cmpeq 314),
  (308, o_ald 0 1),
  (309, o_ild 5 2),
  (311, o_pI K 12 47),
  (314, o_ild 4 2),
  (316, o_iret)]
noncomputable def f_X12_net (K : Sh_) : Fn_ := fn_ (P_X12_net K) 12
set_option maxRecDepth 100000 in
theorem a_X12_net {l : Launch} {E : En_} (hE : EOK_ E)   : All_ (Snd_ l E yX12_net.cls cX12_net 12 (some .int) (.code yX12_net cX12_net 12 (some .int) :: G_) (rm_ 3)) (P_X12_net E.2.2.2.1 ) :=
  all_c (s_ald_n (q := 0) (by decide +kernel) rfl)
  <| all_c (s_iconst (n := 0) (by decide +kernel) (by decide))
  <| all_c (p_12_0 (by decide +kernel) fl_RX12_97)
  <| all_c (s_ald_n (q := 0) (by decide +kernel) rfl)
  <| all_c (s_callV (by decide +kernel) (t_X12_lay hE) cl_X12_lay ml_RX12_177 im_X12_lay se_X12_lay (by decide) rfl (rm_lt (by decide)))
  <| all_c (s_ald_n (q := 0) (by decide +kernel) rfl)
  <| all_c (s_callV (by decide +kernel) (t_X12_take hE) cl_X12_take ml_RX12_180 im_X12_take se_X12_take (by decide) rfl (rm_lt (by decide)))
  <| all_c (s_ist_n (q := 2) (by decide +kernel) rfl)
  <| all_c (s_ild_n (q := 2) (by decide +kernel) rfl)
  <| all_c (s_iconst (n := 2) (by decide +kernel) (by decide))
  <| all_c (s_bipush (n := 10) (by decide +kernel) (by decide))
  <| all_c (s_callS (by decide +kernel) (t_X12_isIn hE) cl_X12_isIn ml_RX12_164 sm_X12_isIn (rm_lt (by decide)))
  <| all_c (s_ifeq (off := 14) (by decide +kernel) (by decide))
  <| all_c (s_ild_n (q := 1) (by decide +kernel) rfl)
  <| all_c (s_iconst (n := 1) (by decide +kernel) (by decide))
  <| all_c (s_sipush (n := 9999) (by decide +kernel) (by decide))
  <| all_c (s_callS (by decide +kernel) (t_X12_isIn hE) cl_X12_isIn ml_RX12_164 sm_X12_isIn (rm_lt (by decide)))
  <| all_c (s_ifne (off := 6) (by decide +kernel) (by decide))
  <| all_c (s_bipush (n := (-2)) (by decide +kernel) (by decide))
  <| all_c (s_iret (by decide +kernel) rfl)
  <| all_c (s_iconst (n := 0) (by decide +kernel) (by decide))
  <| all_c (s_ist_n (q := 3) (by decide +kernel) rfl)
  <| all_c (s_iconst (n := 0) (by decide +kernel) (by decide))
  <| all_c (s_aft (s_ist (by decide +kernel)))
  <| all_c (s_ild (by decide +kernel))
  <| all_c (s_ild_n (q := 2) (by decide +kernel) rfl)
  <| all_c (s_cmpge (off := 52) (by decide +kernel) (by decide))
  <| all_c (s_ald_n (q := 0) (by decide +kernel) rfl)
  <| all_c (s_ald_n (q := 0) (by decide +kernel) rfl)
  <| all_c (g_12_1 (by decide +kernel) fl_RX12_7)
  <| all_c (s_ild (by decide +kernel))
  <| all_c (s_iald (by decide +kernel))
  <| all_c (s_callV (by decide +kernel) (t_X12_isChap hE) cl_X12_isChap ml_RX12_232 im_X12_isChap se_X12_isChap (by decide) rfl (rm_lt (by decide)))
  <| all_c (s_ifeq (off := 17) (by decide +kernel) (by decide))
  <| all_c (s_ild_n (q := 3) (by decide +kernel) rfl)
  <| all_c (s_ald_n (q := 0) (by decide +kernel) rfl)
  <| all_c (g_12_1 (by decide +kernel) fl_RX12_7)
  <| all_c (s_ild (by decide +kernel))
  <| all_c (s_iald (by decide +kernel))
  <| all_c (s_callS (by decide +kernel) (t_X12_has hE) cl_X12_has ml_RX12_223 sm_X12_has (rm_lt (by decide)))
  <| all_c (s_ifeq (off := 6) (by decide +kernel) (by decide))
  <| all_c (s_bipush (n := (-2)) (by decide +kernel) (by decide))
  <| all_c (s_iret (by decide +kernel) rfl)
  <| all_c (s_ild_n (q := 3) (by decide +kernel) rfl)
  <| all_c (s_iconst (n := 1) (by decide +kernel) (by decide))
  <| all_c (s_ald_n (q := 0) (by decide +kernel) rfl)
  <| all_c (g_12_1 (by decide +kernel) fl_RX12_7)
  <| all_c (s_ild (by decide +kernel))
  <| all_c (s_iald (by decide +kernel))
  <| all_c (s_ishl (by decide +kernel))
  <| all_c (s_ior (by decide +kernel))
  <| all_c (s_ist_n (q := 3) (by decide +kernel) rfl)
  <| all_c (s_inc (n := 1) (by decide +kernel) (by decide))
  <| all_c (s_aft (s_goto (off := (-52)) (by decide +kernel) (by decide)))
  <| all_c (s_iconst (n := (-1)) (by decide +kernel) (by decide))
  <| all_c (s_ist (by decide +kernel))
  <| all_c (s_iconst (n := 0) (by decide +kernel) (by decide))
  <| all_c (s_ist (by decide +kernel))
  <| all_c (s_iconst (n := 1) (by decide +kernel) (by decide))
  <| all_c (s_aft (s_ist (by decide +kernel)))
  <| all_c (s_ild (by decide +kernel))
  <| all_c (s_iconst (n := 1) (by decide +kernel) (by decide))
  <| all_c (s_ild_n (q := 2) (by decide +kernel) rfl)
  <| all_c (s_iconst (n := 1) (by decide +kernel) (by decide))
  <| all_c (s_isub (by decide +kernel))
  <| all_c (s_ishl (by decide +kernel))
  <| all_c (s_cmpge (off := 188) (by decide +kernel) (by decide))
  <| all_c (s_iconst (n := 0) (by decide +kernel) (by decide))
  <| all_c (s_ist (by decide +kernel))
  <| all_c (s_iconst (n := 0) (by decide +kernel) (by decide))
  <| all_c (s_ist (by decide +kernel))
  <| all_c (s_iconst (n := 0) (by decide +kernel) (by decide))
  <| all_c (s_ist (by decide +kernel))
  <| all_c (s_iconst (n := 0) (by decide +kernel) (by decide))
  <| all_c (s_aft (s_ist (by decide +kernel)))
  <| all_c (s_ild (by decide +kernel))
  <| all_c (s_ild_n (q := 2) (by decide +kernel) rfl)
  <| all_c (s_cmpge (off := 128) (by decide +kernel) (by decide))
  <| all_c (s_ild (by decide +kernel))
  <| all_c (s_ild (by decide +kernel))
  <| all_c (s_callS (by decide +kernel) (t_X12_has hE) cl_X12_has ml_RX12_223 sm_X12_has (rm_lt (by decide)))
  <| all_c (s_ifeq (off := 23) (by decide +kernel) (by decide))
  <| all_c (s_ild (by decide +kernel))
  <| all_c (s_ald_n (q := 0) (by decide +kernel) rfl)
  <| all_c (s_ald_n (q := 0) (by decide +kernel) rfl)
  <| all_c (g_12_1 (by decide +kernel) fl_RX12_7)
  <| all_c (s_ild (by decide +kernel))
  <| all_c (s_iald (by decide +kernel))
  <| all_c (s_iconst (n := 0) (by decide +kernel) (by decide))
  <| all_c (s_callV (by decide +kernel) (t_X12_chapOf hE) cl_X12_chapOf ml_RX12_238 im_X12_chapOf se_X12_chapOf (by decide) rfl (rm_lt (by decide)))
  <| all_c (s_iadd (by decide +kernel))
  <| all_c (s_ist (by decide +kernel))
  <| all_c (s_goto (off := 20) (by decide +kernel) (by decide))
  <| all_c (s_ild (by decide +kernel))
  <| all_c (s_ald_n (q := 0) (by decide +kernel) rfl)
  <| all_c (s_ald_n (q := 0) (by decide +kernel) rfl)
  <| all_c (g_12_1 (by decide +kernel) fl_RX12_7)
  <| all_c (s_ild (by decide +kernel))
  <| all_c (s_iald (by decide +kernel))
  <| all_c (s_iconst (n := 0) (by decide +kernel) (by decide))
  <| all_c (s_callV (by decide +kernel) (t_X12_chapOf hE) cl_X12_chapOf ml_RX12_238 im_X12_chapOf se_X12_chapOf (by decide) rfl (rm_lt (by decide)))
  <| all_c (s_iadd (by decide +kernel))
  <| all_c (s_ist (by decide +kernel))
  <| all_c (s_iconst (n := 0) (by decide +kernel) (by decide))
  <| all_c (s_aft (s_ist (by decide +kernel)))
  <| all_c (s_ild (by decide +kernel))
  <| all_c (s_ild_n (q := 2) (by decide +kernel) rfl)
  <| all_c (s_cmpge (off := 66) (by decide +kernel) (by decide))
  <| all_c (s_ild (by decide +kernel))
  <| all_c (s_ild (by decide +kernel))
  <| all_c (s_callS (by decide +kernel) (t_X12_has hE) cl_X12_has ml_RX12_223 sm_X12_has (rm_lt (by decide)))
  <| all_c (s_ild (by decide +kernel))
  <| all_c (s_ild (by decide +kernel))
  <| all_c (s_callS (by decide +kernel) (t_X12_has hE) cl_X12_has ml_RX12_223 sm_X12_has (rm_lt (by decide)))
  <| all_c (s_cmpeq (off := 43) (by decide +kernel) (by decide))
  <| all_c (s_ald_n (q := 0) (by decide +kernel) rfl)
  <| all_c (g_12_1 (by decide +kernel) fl_RX12_7)
  <| all_c (s_ild (by decide +kernel))
  <| all_c (s_iald (by decide +kernel))
  <| all_c (s_ald_n (q := 0) (by decide +kernel) rfl)
  <| all_c (g_12_1 (by decide +kernel) fl_RX12_7)
  <| all_c (s_ild (by decide +kernel))
  <| all_c (s_iald (by decide +kernel))
  <| all_c (s_cmpge (off := 26) (by decide +kernel) (by decide))
  <| all_c (s_ild (by decide +kernel))
  <| all_c (s_ald_n (q := 0) (by decide +kernel) rfl)
  <| all_c (s_ald_n (q := 0) (by decide +kernel) rfl)
  <| all_c (g_12_1 (by decide +kernel) fl_RX12_7)
  <| all_c (s_ild (by decide +kernel))
  <| all_c (s_iald (by decide +kernel))
  <| all_c (s_ald_n (q := 0) (by decide +kernel) rfl)
  <| all_c (g_12_1 (by decide +kernel) fl_RX12_7)
  <| all_c (s_ild (by decide +kernel))
  <| all_c (s_iald (by decide +kernel))
  <| all_c (s_callV (by decide +kernel) (t_X12_leanOf hE) cl_X12_leanOf ml_RX12_242 im_X12_leanOf se_X12_leanOf (by decide) rfl (rm_lt (by decide)))
  <| all_c (s_iadd (by decide +kernel))
  <| all_c (s_ist (by decide +kernel))
  <| all_c (s_inc (n := 1) (by decide +kernel) (by decide))
  <| all_c (s_aft (s_goto (off := (-66)) (by decide +kernel) (by decide)))
  <| all_c (s_inc (n := 1) (by decide +kernel) (by decide))
  <| all_c (s_aft (s_goto (off := (-128)) (by decide +kernel) (by decide)))
  <| all_c (s_ild (by decide +kernel))
  <| all_c (s_ild_n (q := 1) (by decide +kernel) rfl)
  <| all_c (s_cmpgt (off := 33) (by decide +kernel) (by decide))
  <| all_c (s_ild (by decide +kernel))
  <| all_c (s_ild_n (q := 1) (by decide +kernel) rfl)
  <| all_c (s_cmpgt (off := 27) (by decide +kernel) (by decide))
  <| all_c (s_ild (by decide +kernel))
  <| all_c (s_iconst (n := (-1)) (by decide +kernel) (by decide))
  <| all_c (s_cmpeq (off := 13) (by decide +kernel) (by decide))
  <| all_c (s_ild (by decide +kernel))
  <| all_c (s_ild (by decide +kernel))
  <| all_c (s_cmplt (off := 6) (by decide +kernel) (by decide))
  <| all_c (s_goto (off := 11) (by decide +kernel) (by decide))
  <| all_c (s_ild (by decide +kernel))
  <| all_c (s_ist (by decide +kernel))
  <| all_c (s_ild (by decide +kernel))
  <| all_c (s_ist (by decide +kernel))
  <| all_c (s_inc (n := 1) (by decide +kernel) (by decide))
  <| all_c (s_aft (s_goto (off := (-192)) (by decide +kernel) (by decide)))
  <| all_c (s_ild (by decide +kernel))
  <| all_c (s_iconst (n := (-1)) (by decide +kernel) (by decide))
  <| all_c (s_cmpeq (off := 9) (by decide +kernel) (by decide))
  <| all_c (s_ald_n (q := 0) (by decide +kernel) rfl)
  <| all_c (s_ild (by decide +kernel))
  <| all_c (p_12_47 (by decide +kernel) fl_RX12_72)
  <| all_c (s_ild (by decide +kernel))
  <| all_c (s_iret (by decide +kernel) rfl)
  <| all_n
theorem t_X12_net {l : Launch} {E : En_} (hE : EOK_ E) : Good_ l E yX12_net (.code yX12_net cX12_net 12 (some .int) :: G_) (rm_ 3) (f_X12_net E.2.2.2.1) := good_all hE (by decide +kernel) (a_X12_net hE)
noncomputable def P_X12_netSide (K : Sh_)  : List (Nat × Op_) := [(0, o_ald 0 1),
  (1, o_ic 0 1),
  (2, o_pI K 12 0),
  (5, o_ald 0 1),
  (6, o_gI K 12 47),
  (9, o_iret)]
noncomputable def f_X12_netSide (K : Sh_) : Fn_ := fn_ (P_X12_netSide K) 1
set_option maxRecDepth 100000 in
theorem a_X12_netSide {l : Launch} {E : En_} (hE : EOK_ E)   : All_ (Snd_ l E yX12_netSide.cls cX12_netSide 1 (some .int) (.code yX12_netSide cX12_netSide 1 (some .int) :: G_) (rm_ 1)) (P_X12_netSide E.2.2.2.1 ) :=
  all_c (s_ald_n (q := 0) (by decide +kernel) rfl)
  <| all_c (s_iconst (n := 0) (by decide +kernel) (by decide))
  <| all_c (p_12_0 (by decide +kernel) fl_RX12_97)
  <| all_c (s_ald_n (q := 0) (by decide +kernel) rfl)
  <| all_c (g_12_47 (by decide +kernel) fl_RX12_72)
  <| all_c (s_iret (by decide +kernel) rfl)
  <| all_n
theorem t_X12_netSide {l : Launch} {E : En_} (hE : EOK_ E) : Good_ l E yX12_netSide (.code yX12_netSide cX12_netSide 1 (some .int) :: G_) (rm_ 1) (f_X12_netSide E.2.2.2.1) := good_all hE (by decide +kernel) (a_X12_netSide hE)
noncomputable def P_X12_tryChain (K : Sh_) (r_X12_tryChain : Fn_) : List (Nat × Op_) := [(0, o_ild 1 1),
  (1, o_ald 0 1),
  (2, o_gI K 12 54),
  (5, o_cmpne 54),
  (8, o_ild 4 2),
  (10, o_ald 0 1),
  (11, o_gI K 12 52),
  (14, o_cmpgt 18),
  (17, o_vret),
  (18, o_ald 0 1),
  (19, o_ild 4 2),
  (21, o_pI K 12 52),
  (24, o_ic 0 1),
  (25, o_aft [6] (o_ist 5 2)),
  (27, o_ild 5 2),
  (29, o_ild 1 1),
  (30, o_cmpge 53),
  (33, o_ald 0 1),
  (34, o_gF K 12 50),
  (37, o_ild 5 2),
  (39, o_ald 0 1),
  (40, o_gF K 12 48),
  (43, o_ild 5 2),
  (45, o_iald K),
  (46, o_iast K),
  (47, o_inc 5 1),
  (50, o_aft [6] (o_goto 27)),
  (53, o_vret),
  (54, o_ic 0 1),
  (55, o_aft [6] (o_ist 5 2)),
  (57, o_ild 5 2),
  (59, o_ald 0 1),
  (60, o_gI K 12 54),
  (63, o_cmpge 169),
  (66, o_ild 2 1),
  (67, o_ild 5 2),
  (69, o_callS (f_X12_has K) 2),
  (72, o_ifne 163),
  (75, o_ild 1 1),
  (76, o_aft [6] (o_ifne 87)),
  (79, o_ild 5 2),
  (81, o_aft [6] (o_ifle 87)),
  (84, o_goto 163),
  (87, o_ald 0 1),
  (88, o_gF K 12 48),
  (91, o_ild 1 1),
  (92, o_ald 0 1),
  (93, o_gF K 12 51),
  (96, o_ild 5 2),
  (98, o_iald K),
  (99, o_iast K),
  (100, o_ild 1 1),
  (101, o_ifne 110),
  (104, o_ic 1000000 3),
  (107, o_aft [6] (o_goto 141)),
  (110, o_ald 0 1),
  (111, o_ald 0 1),
  (112, o_gF K 12 48),
  (115, o_ild 1 1),
  (116, o_ic 1 1),
  (117, o_isub),
  (118, o_iald K),
  (119, o_ild 3 1),
  (120, o_ild 1 1),
  (121, o_ic 1 1),
  (122, o_cmpne 129),
  (125, o_ic 1 1),
  (126, o_goto 130),
  (129, o_ic 0 1),
  (130, o_ald 0 1),
  (131, o_gF K 12 51),
  (134, o_ild 5 2),
  (136, o_iald K),
  (137, o_ic 4 1),
  (138, o_aft [6] (o_callV K 12 (f_X12_given K) 5)),
  (141, o_ist 6 2),
  (143, o_ald 0 1),
  (144, o_ild 1 1),
  (145, o_ic 1 1),
  (146, o_iadd),
  (147, o_ild 2 1),
  (148, o_ic 1 1),
  (149, o_ild 5 2),
  (151, o_ishl),
  (152, o_ior),
  (153, o_ild 6 2),
  (155, o_ild 4 2),
  (157, o_ild 6 2),
  (159, o_iadd),
  (160, o_callV K 12 (r_X12_tryChain) 4),
  (163, o_inc 5 1),
  (166, o_aft [6] (o_goto 57)),
  (169, o_vret)]
noncomputable def F_X12_tryChain (K : Sh_) : Nat → Fn_
  | 0 => (fun _ _ => none)
  | d + 1 => (fn_ (P_X12_tryChain K (F_X12_tryChain K d)) 7)
noncomputable def f_X12_tryChain (K : Sh_) (d : Nat) : Fn_ := (F_X12_tryChain K d)
set_option maxRecDepth 100000 in
theorem a_X12_tryChain {l : Launch} {E : En_} (hE : EOK_ E) {d : Nat} {r_X12_tryChain : Fn_} (h_X12_tryChain : Good_ l E yX12_tryChain (.code yX12_tryChain cX12_tryChain 7 (none) :: G_) (rm_ (3 + d)) r_X12_tryChain) : All_ (Snd_ l E yX12_tryChain.cls cX12_tryChain 7 (none) (.code yX12_tryChain cX12_tryChain 7 (none) :: G_) (rm_ (3 + (d + 1)))) (P_X12_tryChain E.2.2.2.1 r_X12_tryChain) :=
  all_c (s_ild_n (q := 1) (by decide +kernel) rfl)
  <| all_c (s_ald_n (q := 0) (by decide +kernel) rfl)
  <| all_c (g_12_54 (by decide +kernel) fl_RX12_393)
  <| all_c (s_cmpne (off := 49) (by decide +kernel) (by decide))
  <| all_c (s_ild (by decide +kernel))
  <| all_c (s_ald_n (q := 0) (by decide +kernel) rfl)
  <| all_c (g_12_52 (by decide +kernel) fl_RX12_396)
  <| all_c (s_cmpgt (off := 4) (by decide +kernel) (by decide))
  <| all_c (s_vret (by decide +kernel) rfl)
  <| all_c (s_ald_n (q := 0) (by decide +kernel) rfl)
  <| all_c (s_ild (by decide +kernel))
  <| all_c (p_12_52 (by decide +kernel) fl_RX12_396)
  <| all_c (s_iconst (n := 0) (by decide +kernel) (by decide))
  <| all_c (s_aft (s_ist (by decide +kernel)))
  <| all_c (s_ild (by decide +kernel))
  <| all_c (s_ild_n (q := 1) (by decide +kernel) rfl)
  <| all_c (s_cmpge (off := 23) (by decide +kernel) (by decide))
  <| all_c (s_ald_n (q := 0) (by decide +kernel) rfl)
  <| all_c (g_12_50 (by decide +kernel) fl_RX12_82)
  <| all_c (s_ild (by decide +kernel))
  <| all_c (s_ald_n (q := 0) (by decide +kernel) rfl)
  <| all_c (g_12_48 (by decide +kernel) fl_RX12_76)
  <| all_c (s_ild (by decide +kernel))
  <| all_c (s_iald (by decide +kernel))
  <| all_c (s_iast (by decide +kernel))
  <| all_c (s_inc (n := 1) (by decide +kernel) (by decide))
  <| all_c (s_aft (s_goto (off := (-23)) (by decide +kernel) (by decide)))
  <| all_c (s_vret (by decide +kernel) rfl)
  <| all_c (s_iconst (n := 0) (by decide +kernel) (by decide))
  <| all_c (s_aft (s_ist (by decide +kernel)))
  <| all_c (s_ild (by decide +kernel))
  <| all_c (s_ald_n (q := 0) (by decide +kernel) rfl)
  <| all_c (g_12_54 (by decide +kernel) fl_RX12_393)
  <| all_c (s_cmpge (off := 106) (by decide +kernel) (by decide))
  <| all_c (s_ild_n (q := 2) (by decide +kernel) rfl)
  <| all_c (s_ild (by decide +kernel))
  <| all_c (s_callS (by decide +kernel) (t_X12_has hE) cl_X12_has ml_RX12_223 sm_X12_has (rm_lt (by omega)))
  <| all_c (s_ifne (off := 91) (by decide +kernel) (by decide))
  <| all_c (s_ild_n (q := 1) (by decide +kernel) rfl)
  <| all_c (s_aft (s_ifne (off := 11) (by decide +kernel) (by decide)))
  <| all_c (s_ild (by decide +kernel))
  <| all_c (s_aft (s_ifle (off := 6) (by decide +kernel) (by decide)))
  <| all_c (s_goto (off := 79) (by decide +kernel) (by decide))
  <| all_c (s_ald_n (q := 0) (by decide +kernel) rfl)
  <| all_c (g_12_48 (by decide +kernel) fl_RX12_76)
  <| all_c (s_ild_n (q := 1) (by decide +kernel) rfl)
  <| all_c (s_ald_n (q := 0) (by decide +kernel) rfl)
  <| all_c (g_12_51 (by decide +kernel) fl_RX12_85)
  <| all_c (s_ild (by decide +kernel))
  <| all_c (s_iald (by decide +kernel))
  <| all_c (s_iast (by decide +kernel))
  <| all_c (s_ild_n (q := 1) (by decide +kernel) rfl)
  <| all_c (s_ifne (off := 9) (by decide +kernel) (by decide))
  <| all_c (s_ldcw (by decide +kernel) (G_w kk_RX12_273))
  <| all_c (s_aft (s_goto (off := 34) (by decide +kernel) (by decide)))
  <| all_c (s_ald_n (q := 0) (by decide +kernel) rfl)
  <| all_c (s_ald_n (q := 0) (by decide +kernel) rfl)
  <| all_c (g_12_48 (by decide +kernel) fl_RX12_76)
  <| all_c (s_ild_n (q := 1) (by decide +kernel) rfl)
  <| all_c (s_iconst (n := 1) (by decide +kernel) (by decide))
  <| all_c (s_isub (by decide +kernel))
  <| all_c (s_iald (by decide +kernel))
  <| all_c (s_ild_n (q := 3) (by decide +kernel) rfl)
  <| all_c (s_ild_n (q := 1) (by decide +kernel) rfl)
  <| all_c (s_iconst (n := 1) (by decide +kernel) (by decide))
  <| all_c (s_cmpne (off := 7) (by decide +kernel) (by decide))
  <| all_c (s_iconst (n := 1) (by decide +kernel) (by decide))
  <| all_c (s_goto (off := 4) (by decide +kernel) (by decide))
  <| all_c (s_iconst (n := 0) (by decide +kernel) (by decide))
  <| all_c (s_ald_n (q := 0) (by decide +kernel) rfl)
  <| all_c (g_12_51 (by decide +kernel) fl_RX12_85)
  <| all_c (s_ild (by decide +kernel))
  <| all_c (s_iald (by decide +kernel))
  <| all_c (s_iconst (n := 4) (by decide +kernel) (by decide))
  <| all_c (s_aft (s_callV (by decide +kernel) (t_X12_given hE) cl_X12_given ml_RX12_283 im_X12_given se_X12_given (by decide) rfl (rm_lt (by omega))))
  <| all_c (s_ist (by decide +kernel))
  <| all_c (s_ald_n (q := 0) (by decide +kernel) rfl)
  <| all_c (s_ild_n (q := 1) (by decide +kernel) rfl)
  <| all_c (s_iconst (n := 1) (by decide +kernel) (by decide))
  <| all_c (s_iadd (by decide +kernel))
  <| all_c (s_ild_n (q := 2) (by decide +kernel) rfl)
  <| all_c (s_iconst (n := 1) (by decide +kernel) (by decide))
  <| all_c (s_ild (by decide +kernel))
  <| all_c (s_ishl (by decide +kernel))
  <| all_c (s_ior (by decide +kernel))
  <| all_c (s_ild (by decide +kernel))
  <| all_c (s_ild (by decide +kernel))
  <| all_c (s_ild (by decide +kernel))
  <| all_c (s_iadd (by decide +kernel))
  <| all_c (s_callV (by decide +kernel) (h_X12_tryChain) cl_X12_tryChain ml_RX12_399 im_X12_tryChain se_X12_tryChain (by decide) rfl (rm_lt (by omega)))
  <| all_c (s_inc (n := 1) (by decide +kernel) (by decide))
  <| all_c (s_aft (s_goto (off := (-109)) (by decide +kernel) (by decide)))
  <| all_c (s_vret (by decide +kernel) rfl)
  <| all_n
theorem T_X12_tryChain {l : Launch} {E : En_} (hE : EOK_ E) : ∀ d, Good_ l E yX12_tryChain (.code yX12_tryChain cX12_tryChain 7 (none) :: G_) (rm_ (3 + d)) (f_X12_tryChain E.2.2.2.1 d)
  | 0 => good_0
  | d + 1 => by
    have h_X12_tryChain := T_X12_tryChain (l := l) hE d
    exact good_all hE (by decide +kernel) (a_X12_tryChain hE h_X12_tryChain)
theorem t_X12_tryChain {l : Launch} {E : En_} (hE : EOK_ E) (d : Nat) : Good_ l E yX12_tryChain (.code yX12_tryChain cX12_tryChain 7 (none) :: G_) (rm_ (3 + d)) (f_X12_tryChain E.2.2.2.1 d) := (T_X12_tryChain hE d)
noncomputable def P_X12_chain (K : Sh_)  : List (Nat × Op_) := [(0, o_ald 0 1),
  (1, o_ic 0 1),
  (2, o_pI K 12 0),
  (5, o_ald 0 1),
  (6, o_callV K 12 (f_X12_lay K) 0),
  (9, o_ald 0 1),
  (10, o_ald 0 1),
  (11, o_callV K 12 (f_X12_take K) 0),
  (14, o_pI K 12 54),
  (17, o_ald 0 1),
  (18, o_gI K 12 54),
  (21, o_ic 2 1),
  (22, o_ic 7 2),
  (24, o_callS (f_X12_isIn K) 3),
  (27, o_ifne 32),
  (30, o_ic (-1) 1),
  (31, o_iret),
  (32, o_ic 0 1),
  (33, o_ist 1 1),
  (34, o_ic 0 1),
  (35, o_ist 2 1),
  (36, o_ild 2 1),
  (37, o_ald 0 1),
  (38, o_gI K 12 54),
  (41, o_cmpge 101),
  (44, o_ald 0 1),
  (45, o_ald 0 1),
  (46, o_gF K 12 1),
  (49, o_ild 2 1),
  (50, o_iald K),
  (51, o_callV K 12 (f_X12_isReader K) 1),
  (54, o_ifeq 70),
  (57, o_ild 1 1),
  (58, o_ald 0 1),
  (59, o_gF K 12 1),
  (62, o_ild 2 1),
  (63, o_iald K),
  (64, o_callS (f_X12_has K) 2),
  (67, o_ifeq 72),
  (70, o_ic (-1) 1),
  (71, o_iret),
  (72, o_ild 1 1),
  (73, o_ic 1 1),
  (74, o_ald 0 1),
  (75, o_gF K 12 1),
  (78, o_ild 2 1),
  (79, o_iald K),
  (80, o_ishl),
  (81, o_ior),
  (82, o_ist 1 1),
  (83, o_ald 0 1),
  (84, o_gF K 12 51),
  (87, o_ild 2 1),
  (88, o_ald 0 1),
  (89, o_gF K 12 1),
  (92, o_ild 2 1),
  (93, o_iald K),
  (94, o_iast K),
  (95, o_inc 2 1),
  (98, o_goto 36),
  (101, o_ald 0 1),
  (102, o_ic (-1) 1),
  (103, o_pI K 12 52),
  (106, o_ald 0 1),
  (107, o_ic 0 1),
  (108, o_ic 0 1),
  (109, o_ic 0 1),
  (110, o_ic 0 1),
  (111, o_callV K 12 (f_X12_tryChain K 80) 4),
  (114, o_ald 0 1),
  (115, o_ald 0 1),
  (116, o_gI K 12 54),
  (119, o_pI K 12 53),
  (122, o_ic 0 1),
  (123, o_aft [1] (o_ist 2 1)),
  (124, o_ild 2 1),
  (125, o_ald 0 1),
  (126, o_gI K 12 54),
  (129, o_cmpge 150),
  (132, o_ald 0 1),
  (133, o_gF K 12 49),
  (136, o_ild 2 1),
  (137, o_ald 0 1),
  (138, o_gF K 12 50),
  (141, o_ild 2 1),
  (142, o_iald K),
  (143, o_iast K),
  (144, o_inc 2 1),
  (147, o_aft [1] (o_goto 124)),
  (150, o_ald 0 1),
  (151, o_gI K 12 52),
  (154, o_iret)]
noncomputable def f_X12_chain (K : Sh_) : Fn_ := fn_ (P_X12_chain K) 3
set_option maxRecDepth 100000 in
theorem a_X12_chain {l : Launch} {E : En_} (hE : EOK_ E)   : All_ (Snd_ l E yX12_chain.cls cX12_chain 3 (some .int) (.code yX12_chain cX12_chain 3 (some .int) :: G_) (rm_ 84)) (P_X12_chain E.2.2.2.1 ) :=
  all_c (s_ald_n (q := 0) (by decide +kernel) rfl)
  <| all_c (s_iconst (n := 0) (by decide +kernel) (by decide))
  <| all_c (p_12_0 (by decide +kernel) fl_RX12_97)
  <| all_c (s_ald_n (q := 0) (by decide +kernel) rfl)
  <| all_c (s_callV (by decide +kernel) (t_X12_lay hE) cl_X12_lay ml_RX12_177 im_X12_lay se_X12_lay (by decide) rfl (rm_lt (by decide)))
  <| all_c (s_ald_n (q := 0) (by decide +kernel) rfl)
  <| all_c (s_ald_n (q := 0) (by decide +kernel) rfl)
  <| all_c (s_callV (by decide +kernel) (t_X12_take hE) cl_X12_take ml_RX12_180 im_X12_take se_X12_take (by decide) rfl (rm_lt (by decide)))
  <| all_c (p_12_54 (by decide +kernel) fl_RX12_393)
  <| all_c (s_ald_n (q := 0) (by decide +kernel) rfl)
  <| all_c (g_12_54 (by decide +kernel) fl_RX12_393)
  <| all_c (s_iconst (n := 2) (by decide +kernel) (by decide))
  <| all_c (s_bipush (n := 7) (by decide +kernel) (by decide))
  <| all_c (s_callS (by decide +kernel) (t_X12_isIn hE) cl_X12_isIn ml_RX12_164 sm_X12_isIn (rm_lt (by decide)))
  <| all_c (s_ifne (off := 5) (by decide +kernel) (by decide))
  <| all_c (s_iconst (n := (-1)) (by decide +kernel) (by decide))
  <| all_c (s_iret (by decide +kernel) rfl)
  <| all_c (s_iconst (n := 0) (by decide +kernel) (by decide))
  <| all_c (s_ist_n (q := 1) (by decide +kernel) rfl)
  <| all_c (s_iconst (n := 0) (by decide +kernel) (by decide))
  <| all_c (s_ist_n (q := 2) (by decide +kernel) rfl)
  <| all_c (s_ild_n (q := 2) (by decide +kernel) rfl)
  <| all_c (s_ald_n (q := 0) (by decide +kernel) rfl)
  <| all_c (g_12_54 (by decide +kernel) fl_RX12_393)
  <| all_c (s_cmpge (off := 60) (by decide +kernel) (by decide))
  <| all_c (s_ald_n (q := 0) (by decide +kernel) rfl)
  <| all_c (s_ald_n (q := 0) (by decide +kernel) rfl)
  <| all_c (g_12_1 (by decide +kernel) fl_RX12_7)
  <| all_c (s_ild_n (q := 2) (by decide +kernel) rfl)
  <| all_c (s_iald (by decide +kernel))
  <| all_c (s_callV (by decide +kernel) (t_X12_isReader hE) cl_X12_isReader ml_RX12_245 im_X12_isReader se_X12_isReader (by decide) rfl (rm_lt (by decide)))
  <| all_c (s_ifeq (off := 16) (by decide +kernel) (by decide))
  <| all_c (s_ild_n (q := 1) (by decide +kernel) rfl)
  <| all_c (s_ald_n (q := 0) (by decide +kernel) rfl)
  <| all_c (g_12_1 (by decide +kernel) fl_RX12_7)
  <| all_c (s_ild_n (q := 2) (by decide +kernel) rfl)
  <| all_c (s_iald (by decide +kernel))
  <| all_c (s_callS (by decide +kernel) (t_X12_has hE) cl_X12_has ml_RX12_223 sm_X12_has (rm_lt (by decide)))
  <| all_c (s_ifeq (off := 5) (by decide +kernel) (by decide))
  <| all_c (s_iconst (n := (-1)) (by decide +kernel) (by decide))
  <| all_c (s_iret (by decide +kernel) rfl)
  <| all_c (s_ild_n (q := 1) (by decide +kernel) rfl)
  <| all_c (s_iconst (n := 1) (by decide +kernel) (by decide))
  <| all_c (s_ald_n (q := 0) (by decide +kernel) rfl)
  <| all_c (g_12_1 (by decide +kernel) fl_RX12_7)
  <| all_c (s_ild_n (q := 2) (by decide +kernel) rfl)
  <| all_c (s_iald (by decide +kernel))
  <| all_c (s_ishl (by decide +kernel))
  <| all_c (s_ior (by decide +kernel))
  <| all_c (s_ist_n (q := 1) (by decide +kernel) rfl)
  <| all_c (s_ald_n (q := 0) (by decide +kernel) rfl)
  <| all_c (g_12_51 (by decide +kernel) fl_RX12_85)
  <| all_c (s_ild_n (q := 2) (by decide +kernel) rfl)
  <| all_c (s_ald_n (q := 0) (by decide +kernel) rfl)
  <| all_c (g_12_1 (by decide +kernel) fl_RX12_7)
  <| all_c (s_ild_n (q := 2) (by decide +kernel) rfl)
  <| all_c (s_iald (by decide +kernel))
  <| all_c (s_iast (by decide +kernel))
  <| all_c (s_inc (n := 1) (by decide +kernel) (by decide))
  <| all_c (s_goto (off := (-62)) (by decide +kernel) (by decide))
  <| all_c (s_ald_n (q := 0) (by decide +kernel) rfl)
  <| all_c (s_iconst (n := (-1)) (by decide +kernel) (by decide))
  <| all_c (p_12_52 (by decide +kernel) fl_RX12_396)
  <| all_c (s_ald_n (q := 0) (by decide +kernel) rfl)
  <| all_c (s_iconst (n := 0) (by decide +kernel) (by decide))
  <| all_c (s_iconst (n := 0) (by decide +kernel) (by decide))
  <| all_c (s_iconst (n := 0) (by decide +kernel) (by decide))
  <| all_c (s_iconst (n := 0) (by decide +kernel) (by decide))
  <| all_c (s_callV (by decide +kernel) (t_X12_tryChain hE 80) cl_X12_tryChain ml_RX12_399 im_X12_tryChain se_X12_tryChain (by decide) rfl (rm_lt (by decide)))
  <| all_c (s_ald_n (q := 0) (by decide +kernel) rfl)
  <| all_c (s_ald_n (q := 0) (by decide +kernel) rfl)
  <| all_c (g_12_54 (by decide +kernel) fl_RX12_393)
  <| all_c (p_12_53 (by decide +kernel) fl_RX12_402)
  <| all_c (s_iconst (n := 0) (by decide +kernel) (by decide))
  <| all_c (s_aft (s_ist_n (q := 2) (by decide +kernel) rfl))
  <| all_c (s_ild_n (q := 2) (by decide +kernel) rfl)
  <| all_c (s_ald_n (q := 0) (by decide +kernel) rfl)
  <| all_c (g_12_54 (by decide +kernel) fl_RX12_393)
  <| all_c (s_cmpge (off := 21) (by decide +kernel) (by decide))
  <| all_c (s_ald_n (q := 0) (by decide +kernel) rfl)
  <| all_c (g_12_49 (by decide +kernel) fl_RX12_79)
  <| all_c (s_ild_n (q := 2) (by decide +kernel) rfl)
  <| all_c (s_ald_n (q := 0) (by decide +kernel) rfl)
  <| all_c (g_12_50 (by decide +kernel) fl_RX12_82)
  <| all_c (s_ild_n (q := 2) (by decide +kernel) rfl)
  <| all_c (s_iald (by decide +kernel))
  <| all_c (s_iast (by decide +kernel))
  <| all_c (s_inc (n := 1) (by decide +kernel) (by decide))
  <| all_c (s_aft (s_goto (off := (-23)) (by decide +kernel) (by decide)))
  <| all_c (s_ald_n (q := 0) (by decide +kernel) rfl)
  <| all_c (g_12_52 (by decide +kernel) fl_RX12_396)
  <| all_c (s_iret (by decide +kernel) rfl)
  <| all_n
theorem t_X12_chain {l : Launch} {E : En_} (hE : EOK_ E) : Good_ l E yX12_chain (.code yX12_chain cX12_chain 3 (some .int) :: G_) (rm_ 84) (f_X12_chain E.2.2.2.1) := good_all hE (by decide +kernel) (a_X12_chain hE)
