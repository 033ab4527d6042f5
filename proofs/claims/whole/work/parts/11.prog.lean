noncomputable def P_J6_bitCount_0f7a4 (K : Sh_)  : List (Nat × Op_) := [(0, o_ild 0 1),
  (1, o_ild 0 1),
  (2, o_ic 1 1),
  (3, o_iushr),
  (4, o_ic 1431655765 3),
  (7, o_iand),
  (8, o_isub),
  (9, o_ist 0 1),
  (10, o_ild 0 1),
  (11, o_ic 858993459 3),
  (14, o_iand),
  (15, o_ild 0 1),
  (16, o_ic 2 1),
  (17, o_iushr),
  (18, o_ic 858993459 3),
  (21, o_iand),
  (22, o_iadd),
  (23, o_ist 0 1),
  (24, o_ild 0 1),
  (25, o_ild 0 1),
  (26, o_ic 4 1),
  (27, o_iushr),
  (28, o_iadd),
  (29, o_ic 252645135 3),
  (32, o_iand),
  (33, o_ist 0 1),
  (34, o_ild 0 1),
  (35, o_ild 0 1),
  (36, o_ic 8 2),
  (38, o_iushr),
  (39, o_iadd),
  (40, o_ist 0 1),
  (41, o_ild 0 1),
  (42, o_ild 0 1),
  (43, o_ic 16 2),
  (45, o_iushr),
  (46, o_iadd),
  (47, o_ist 0 1),
  (48, o_ild 0 1),
  (49, o_ic 63 2),
  (51, o_iand),
  (52, o_iret)]
noncomputable def f_J6_bitCount_0f7a4 (K : Sh_) : Fn_ := fn_ (P_J6_bitCount_0f7a4 K) 1
set_option maxRecDepth 100000 in
theorem a_J6_bitCount_0f7a4 {l : Launch} {E : En_} (hE : EOK_ E)   : All_ (Snd_ l E yJ6_bitCount_0f7a4.cls cJ6_bitCount_0f7a4 1 (some .int) (.code yJ6_bitCount_0f7a4 cJ6_bitCount_0f7a4 1 (some .int) :: G_) (rm_ 1)) (P_J6_bitCount_0f7a4 E.2.2.2.1 ) :=
  all_c (s_ild_n (q := 0) (by decide +kernel) rfl)
  <| all_c (s_ild_n (q := 0) (by decide +kernel) rfl)
  <| all_c (s_iconst (n := 1) (by decide +kernel) (by decide))
  <| all_c (s_iushr (by decide +kernel))
  <| all_c (s_ldcw (by decide +kernel) (G_w kk_RJ6_265))
  <| all_c (s_iand (by decide +kernel))
  <| all_c (s_isub (by decide +kernel))
  <| all_c (s_ist_n (q := 0) (by decide +kernel) rfl)
  <| all_c (s_ild_n (q := 0) (by decide +kernel) rfl)
  <| all_c (s_ldcw (by decide +kernel) (G_w kk_RJ6_266))
  <| all_c (s_iand (by decide +kernel))
  <| all_c (s_ild_n (q := 0) (by decide +kernel) rfl)
  <| all_c (s_iconst (n := 2) (by decide +kernel) (by decide))
  <| all_c (s_iushr (by decide +kernel))
  <| all_c (s_ldcw (by decide +kernel) (G_w kk_RJ6_266))
  <| all_c (s_iand (by decide +kernel))
  <| all_c (s_iadd (by decide +kernel))
  <| all_c (s_ist_n (q := 0) (by decide +kernel) rfl)
  <| all_c (s_ild_n (q := 0) (by decide +kernel) rfl)
  <| all_c (s_ild_n (q := 0) (by decide +kernel) rfl)
  <| all_c (s_iconst (n := 4) (by decide +kernel) (by decide))
  <| all_c (s_iushr (by decide +kernel))
  <| all_c (s_iadd (by decide +kernel))
  <| all_c (s_ldcw (by decide +kernel) (G_w kk_RJ6_267))
  <| all_c (s_iand (by decide +kernel))
  <| all_c (s_ist_n (q := 0) (by decide +kernel) rfl)
  <| all_c (s_ild_n (q := 0) (by decide +kernel) rfl)
  <| all_c (s_ild_n (q := 0) (by decide +kernel) rfl)
  <| all_c (s_bipush (n := 8) (by decide +kernel) (by decide))
  <| all_c (s_iushr (by decide +kernel))
  <| all_c (s_iadd (by decide +kernel))
  <| all_c (s_ist_n (q := 0) (by decide +kernel) rfl)
  <| all_c (s_ild_n (q := 0) (by decide +kernel) rfl)
  <| all_c (s_ild_n (q := 0) (by decide +kernel) rfl)
  <| all_c (s_bipush (n := 16) (by decide +kernel) (by decide))
  <| all_c (s_iushr (by decide +kernel))
  <| all_c (s_iadd (by decide +kernel))
  <| all_c (s_ist_n (q := 0) (by decide +kernel) rfl)
  <| all_c (s_ild_n (q := 0) (by decide +kernel) rfl)
  <| all_c (s_bipush (n := 63) (by decide +kernel) (by decide))
  <| all_c (s_iand (by decide +kernel))
  <| all_c (s_iret (by decide +kernel) rfl)
  <| all_n
theorem t_J6_bitCount_0f7a4 {l : Launch} {E : En_} (hE : EOK_ E) : Good_ l E yJ6_bitCount_0f7a4 (.code yJ6_bitCount_0f7a4 cJ6_bitCount_0f7a4 1 (some .int) :: G_) (rm_ 1) (f_J6_bitCount_0f7a4 E.2.2.2.1) := good_all hE (by decide +kernel) (a_J6_bitCount_0f7a4 hE)
noncomputable def P_X8_byteAt (K : Sh_)  : List (Nat × Op_) := [(0, o_ild 1 1),
  (1, o_iflt 11),
  (4, o_ild 1 1),
  (5, o_ic 1040 3),
  (8, o_cmplt 15),
  (11, o_ic 0 1),
  (12, o_goto 25),
  (15, o_ald 0 1),
  (16, o_gF K 8 0),
  (19, o_ild 1 1),
  (20, o_bald K),
  (21, o_ic 255 3),
  (24, o_iand),
  (25, o_iret)]
noncomputable def f_X8_byteAt (K : Sh_) : Fn_ := fn_ (P_X8_byteAt K) 2
set_option maxRecDepth 100000 in
theorem a_X8_byteAt {l : Launch} {E : En_} (hE : EOK_ E)   : All_ (Snd_ l E yX8_byteAt.cls cX8_byteAt 2 (some .int) (.code yX8_byteAt cX8_byteAt 2 (some .int) :: G_) (rm_ 1)) (P_X8_byteAt E.2.2.2.1 ) :=
  all_c (s_ild_n (q := 1) (by decide +kernel) rfl)
  <| all_c (s_iflt (off := 10) (by decide +kernel) (by decide))
  <| all_c (s_ild_n (q := 1) (by decide +kernel) rfl)
  <| all_c (s_sipush (n := 1040) (by decide +kernel) (by decide))
  <| all_c (s_cmplt (off := 7) (by decide +kernel) (by decide))
  <| all_c (s_iconst (n := 0) (by decide +kernel) (by decide))
  <| all_c (s_goto (off := 13) (by decide +kernel) (by decide))
  <| all_c (s_ald_n (q := 0) (by decide +kernel) rfl)
  <| all_c (g_8_0 (by decide +kernel) fl_RX8_11)
  <| all_c (s_ild_n (q := 1) (by decide +kernel) rfl)
  <| all_c (s_bald (by decide +kernel))
  <| all_c (s_sipush (n := 255) (by decide +kernel) (by decide))
  <| all_c (s_iand (by decide +kernel))
  <| all_c (s_iret (by decide +kernel) rfl)
  <| all_n
theorem t_X8_byteAt {l : Launch} {E : En_} (hE : EOK_ E) : Good_ l E yX8_byteAt (.code yX8_byteAt cX8_byteAt 2 (some .int) :: G_) (rm_ 1) (f_X8_byteAt E.2.2.2.1) := good_all hE (by decide +kernel) (a_X8_byteAt hE)
noncomputable def P_X1_readQuestions (K : Sh_)  : List (Nat × Op_) := [(0, o_ild 2 1),
  (1, o_ic 1 1),
  (2, o_cmplt 11),
  (5, o_ild 2 1),
  (6, o_ic 10 2),
  (8, o_cmple 13),
  (11, o_ic 0 1),
  (12, o_zret),
  (13, o_ic 0 1),
  (14, o_aft [5] (o_ist 4 2)),
  (16, o_ild 4 2),
  (18, o_ild 2 1),
  (19, o_cmpge 72),
  (22, o_ald 1 1),
  (23, o_ic 2 1),
  (24, o_ild 4 2),
  (26, o_imul),
  (27, o_callV K 8 (f_X8_byteAt K) 1),
  (30, o_ic 8 2),
  (32, o_ishl),
  (33, o_ald 1 1),
  (34, o_ic 2 1),
  (35, o_ild 4 2),
  (37, o_imul),
  (38, o_ic 1 1),
  (39, o_iadd),
  (40, o_callV K 8 (f_X8_byteAt K) 1),
  (43, o_ior),
  (44, o_ist 5 2),
  (46, o_ild 5 2),
  (48, o_ild 3 1),
  (49, o_ishr),
  (50, o_ifeq 55),
  (53, o_ic 0 1),
  (54, o_zret),
  (55, o_ald 0 1),
  (56, o_gF K 1 5),
  (59, o_ic 1 1),
  (60, o_ild 4 2),
  (62, o_ishl),
  (63, o_ild 5 2),
  (65, o_iast K),
  (66, o_inc 4 1),
  (69, o_aft [5] (o_goto 16)),
  (72, o_ic 1 1),
  (73, o_zret)]
noncomputable def f_X1_readQuestions (K : Sh_) : Fn_ := fn_ (P_X1_readQuestions K) 6
set_option maxRecDepth 100000 in
theorem a_X1_readQuestions {l : Launch} {E : En_} (hE : EOK_ E)   : All_ (Snd_ l E yX1_readQuestions.cls cX1_readQuestions 6 (some .boolean) (.code yX1_readQuestions cX1_readQuestions 6 (some .boolean) :: G_) (rm_ 2)) (P_X1_readQuestions E.2.2.2.1 ) :=
  all_c (s_ild_n (q := 2) (by decide +kernel) rfl)
  <| all_c (s_iconst (n := 1) (by decide +kernel) (by decide))
  <| all_c (s_cmplt (off := 9) (by decide +kernel) (by decide))
  <| all_c (s_ild_n (q := 2) (by decide +kernel) rfl)
  <| all_c (s_bipush (n := 10) (by decide +kernel) (by decide))
  <| all_c (s_cmple (off := 5) (by decide +kernel) (by decide))
  <| all_c (s_iconst (n := 0) (by decide +kernel) (by decide))
  <| all_c (s_zret (by decide +kernel) rfl)
  <| all_c (s_iconst (n := 0) (by decide +kernel) (by decide))
  <| all_c (s_aft (s_ist (by decide +kernel)))
  <| all_c (s_ild (by decide +kernel))
  <| all_c (s_ild_n (q := 2) (by decide +kernel) rfl)
  <| all_c (s_cmpge (off := 53) (by decide +kernel) (by decide))
  <| all_c (s_ald_n (q := 1) (by decide +kernel) rfl)
  <| all_c (s_iconst (n := 2) (by decide +kernel) (by decide))
  <| all_c (s_ild (by decide +kernel))
  <| all_c (s_imul (by decide +kernel))
  <| all_c (s_callV (by decide +kernel) (t_X8_byteAt hE) cl_X8_byteAt ml_RX1_87 im_X8_byteAt se_X8_byteAt (by decide) rfl (rm_lt (by decide)))
  <| all_c (s_bipush (n := 8) (by decide +kernel) (by decide))
  <| all_c (s_ishl (by decide +kernel))
  <| all_c (s_ald_n (q := 1) (by decide +kernel) rfl)
  <| all_c (s_iconst (n := 2) (by decide +kernel) (by decide))
  <| all_c (s_ild (by decide +kernel))
  <| all_c (s_imul (by decide +kernel))
  <| all_c (s_iconst (n := 1) (by decide +kernel) (by decide))
  <| all_c (s_iadd (by decide +kernel))
  <| all_c (s_callV (by decide +kernel) (t_X8_byteAt hE) cl_X8_byteAt ml_RX1_87 im_X8_byteAt se_X8_byteAt (by decide) rfl (rm_lt (by decide)))
  <| all_c (s_ior (by decide +kernel))
  <| all_c (s_ist (by decide +kernel))
  <| all_c (s_ild (by decide +kernel))
  <| all_c (s_ild_n (q := 3) (by decide +kernel) rfl)
  <| all_c (s_ishr (by decide +kernel))
  <| all_c (s_ifeq (off := 5) (by decide +kernel) (by decide))
  <| all_c (s_iconst (n := 0) (by decide +kernel) (by decide))
  <| all_c (s_zret (by decide +kernel) rfl)
  <| all_c (s_ald_n (q := 0) (by decide +kernel) rfl)
  <| all_c (g_1_5 (by decide +kernel) fl_RX1_22)
  <| all_c (s_iconst (n := 1) (by decide +kernel) (by decide))
  <| all_c (s_ild (by decide +kernel))
  <| all_c (s_ishl (by decide +kernel))
  <| all_c (s_ild (by decide +kernel))
  <| all_c (s_iast (by decide +kernel))
  <| all_c (s_inc (n := 1) (by decide +kernel) (by decide))
  <| all_c (s_aft (s_goto (off := (-53)) (by decide +kernel) (by decide)))
  <| all_c (s_iconst (n := 1) (by decide +kernel) (by decide))
  <| all_c (s_zret (by decide +kernel) rfl)
  <| all_n
theorem t_X1_readQuestions {l : Launch} {E : En_} (hE : EOK_ E) : Good_ l E yX1_readQuestions (.code yX1_readQuestions cX1_readQuestions 6 (some .boolean) :: G_) (rm_ 2) (f_X1_readQuestions E.2.2.2.1) := good_all hE (by decide +kernel) (a_X1_readQuestions hE)
noncomputable def P_X1_askFewest (K : Sh_)  : List (Nat × Op_) := [(0, o_ald 0 1),
  (1, o_ald 1 1),
  (2, o_ild 2 1),
  (3, o_ild 3 1),
  (4, o_callV K 1 (f_X1_readQuestions K) 3),
  (7, o_ifne 13),
  (10, o_ic (-2) 2),
  (12, o_iret),
  (13, o_ic 11 2),
  (15, o_ist 5 2),
  (17, o_ic (-1) 1),
  (18, o_ist 6 2),
  (20, o_ald 0 1),
  (21, o_gF K 1 5),
  (24, o_ic 0 1),
  (25, o_ic 0 1),
  (26, o_iast K),
  (27, o_ic 0 1),
  (28, o_ist 7 2),
  (30, o_ild 7 2),
  (32, o_ic 1 1),
  (33, o_ild 2 1),
  (34, o_ishl),
  (35, o_cmpge 116),
  (38, o_ild 7 2),
  (40, o_ifeq 74),
  (43, o_ald 0 1),
  (44, o_gF K 1 5),
  (47, o_ild 7 2),
  (49, o_ald 0 1),
  (50, o_gF K 1 5),
  (53, o_ild 7 2),
  (55, o_ild 7 2),
  (57, o_ic 1 1),
  (58, o_isub),
  (59, o_iand),
  (60, o_iald K),
  (61, o_ald 0 1),
  (62, o_gF K 1 5),
  (65, o_ild 7 2),
  (67, o_ild 7 2),
  (69, o_ineg),
  (70, o_iand),
  (71, o_iald K),
  (72, o_ior),
  (73, o_iast K),
  (74, o_ild 4 2),
  (76, o_ald 0 1),
  (77, o_gF K 1 5),
  (80, o_ild 7 2),
  (82, o_iald K),
  (83, o_ic (-1) 1),
  (84, o_ixor),
  (85, o_iand),
  (86, o_ifne 110),
  (89, o_ild 7 2),
  (91, o_callS (f_J6_bitCount_0f7a4 K) 1),
  (94, o_ild 5 2),
  (96, o_cmpge 110),
  (99, o_ild 7 2),
  (101, o_callS (f_J6_bitCount_0f7a4 K) 1),
  (104, o_ist 5 2),
  (106, o_ild 7 2),
  (108, o_ist 6 2),
  (110, o_inc 7 1),
  (113, o_goto 30),
  (116, o_ild 6 2),
  (118, o_ic (-1) 1),
  (119, o_cmpne 124),
  (122, o_ic (-1) 1),
  (123, o_iret),
  (124, o_ald 0 1),
  (125, o_ild 6 2),
  (127, o_pI K 1 2),
  (130, o_ild 5 2),
  (132, o_iret)]
noncomputable def f_X1_askFewest (K : Sh_) : Fn_ := fn_ (P_X1_askFewest K) 8
set_option maxRecDepth 100000 in
theorem a_X1_askFewest {l : Launch} {E : En_} (hE : EOK_ E)   : All_ (Snd_ l E yX1_askFewest.cls cX1_askFewest 8 (some .int) (.code yX1_askFewest cX1_askFewest 8 (some .int) :: G_) (rm_ 3)) (P_X1_askFewest E.2.2.2.1 ) :=
  all_c (s_ald_n (q := 0) (by decide +kernel) rfl)
  <| all_c (s_ald_n (q := 1) (by decide +kernel) rfl)
  <| all_c (s_ild_n (q := 2) (by decide +kernel) rfl)
  <| all_c (s_ild_n (q := 3) (by decide +kernel) rfl)
  <| all_c (s_callV (by decide +kernel) (t_X1_readQuestions hE) cl_X1_readQuestions ml_RX1_77 im_X1_readQuestions se_X1_readQuestions (by decide) rfl (rm_lt (by decide)))
  <| all_c (s_ifne (off := 6) (by decide +kernel) (by decide))
  <| all_c (s_bipush (n := (-2)) (by decide +kernel) (by decide))
  <| all_c (s_iret (by decide +kernel) rfl)
  <| all_c (s_bipush (n := 11) (by decide +kernel) (by decide))
  <| all_c (s_ist (by decide +kernel))
  <| all_c (s_iconst (n := (-1)) (by decide +kernel) (by decide))
  <| all_c (s_ist (by decide +kernel))
  <| all_c (s_ald_n (q := 0) (by decide +kernel) rfl)
  <| all_c (g_1_5 (by decide +kernel) fl_RX1_22)
  <| all_c (s_iconst (n := 0) (by decide +kernel) (by decide))
  <| all_c (s_iconst (n := 0) (by decide +kernel) (by decide))
  <| all_c (s_iast (by decide +kernel))
  <| all_c (s_iconst (n := 0) (by decide +kernel) (by decide))
  <| all_c (s_ist (by decide +kernel))
  <| all_c (s_ild (by decide +kernel))
  <| all_c (s_iconst (n := 1) (by decide +kernel) (by decide))
  <| all_c (s_ild_n (q := 2) (by decide +kernel) rfl)
  <| all_c (s_ishl (by decide +kernel))
  <| all_c (s_cmpge (off := 81) (by decide +kernel) (by decide))
  <| all_c (s_ild (by decide +kernel))
  <| all_c (s_ifeq (off := 34) (by decide +kernel) (by decide))
  <| all_c (s_ald_n (q := 0) (by decide +kernel) rfl)
  <| all_c (g_1_5 (by decide +kernel) fl_RX1_22)
  <| all_c (s_ild (by decide +kernel))
  <| all_c (s_ald_n (q := 0) (by decide +kernel) rfl)
  <| all_c (g_1_5 (by decide +kernel) fl_RX1_22)
  <| all_c (s_ild (by decide +kernel))
  <| all_c (s_ild (by decide +kernel))
  <| all_c (s_iconst (n := 1) (by decide +kernel) (by decide))
  <| all_c (s_isub (by decide +kernel))
  <| all_c (s_iand (by decide +kernel))
  <| all_c (s_iald (by decide +kernel))
  <| all_c (s_ald_n (q := 0) (by decide +kernel) rfl)
  <| all_c (g_1_5 (by decide +kernel) fl_RX1_22)
  <| all_c (s_ild (by decide +kernel))
  <| all_c (s_ild (by decide +kernel))
  <| all_c (s_ineg (by decide +kernel))
  <| all_c (s_iand (by decide +kernel))
  <| all_c (s_iald (by decide +kernel))
  <| all_c (s_ior (by decide +kernel))
  <| all_c (s_iast (by decide +kernel))
  <| all_c (s_ild (by decide +kernel))
  <| all_c (s_ald_n (q := 0) (by decide +kernel) rfl)
  <| all_c (g_1_5 (by decide +kernel) fl_RX1_22)
  <| all_c (s_ild (by decide +kernel))
  <| all_c (s_iald (by decide +kernel))
  <| all_c (s_iconst (n := (-1)) (by decide +kernel) (by decide))
  <| all_c (s_ixor (by decide +kernel))
  <| all_c (s_iand (by decide +kernel))
  <| all_c (s_ifne (off := 24) (by decide +kernel) (by decide))
  <| all_c (s_ild (by decide +kernel))
  <| all_c (s_callS (by decide +kernel) (t_J6_bitCount_0f7a4 hE) cl_J6_bitCount_0f7a4 ml_RX1_81 sm_J6_bitCount_0f7a4 (rm_lt (by decide)))
  <| all_c (s_ild (by decide +kernel))
  <| all_c (s_cmpge (off := 14) (by decide +kernel) (by decide))
  <| all_c (s_ild (by decide +kernel))
  <| all_c (s_callS (by decide +kernel) (t_J6_bitCount_0f7a4 hE) cl_J6_bitCount_0f7a4 ml_RX1_81 sm_J6_bitCount_0f7a4 (rm_lt (by decide)))
  <| all_c (s_ist (by decide +kernel))
  <| all_c (s_ild (by decide +kernel))
  <| all_c (s_ist (by decide +kernel))
  <| all_c (s_inc (n := 1) (by decide +kernel) (by decide))
  <| all_c (s_goto (off := (-83)) (by decide +kernel) (by decide))
  <| all_c (s_ild (by decide +kernel))
  <| all_c (s_iconst (n := (-1)) (by decide +kernel) (by decide))
  <| all_c (s_cmpne (off := 5) (by decide +kernel) (by decide))
  <| all_c (s_iconst (n := (-1)) (by decide +kernel) (by decide))
  <| all_c (s_iret (by decide +kernel) rfl)
  <| all_c (s_ald_n (q := 0) (by decide +kernel) rfl)
  <| all_c (s_ild (by decide +kernel))
  <| all_c (p_1_2 (by decide +kernel) fl_RX1_9)
  <| all_c (s_ild (by decide +kernel))
  <| all_c (s_iret (by decide +kernel) rfl)
  <| all_n
theorem t_X1_askFewest {l : Launch} {E : En_} (hE : EOK_ E) : Good_ l E yX1_askFewest (.code yX1_askFewest cX1_askFewest 8 (some .int) :: G_) (rm_ 3) (f_X1_askFewest E.2.2.2.1) := good_all hE (by decide +kernel) (a_X1_askFewest hE)
noncomputable def P_X2_chooseEnds (K : Sh_)  : List (Nat × Op_) := [(0, o_ic 0 1),
  (1, o_aft [6, 7, 8, 9] (o_ist 5 2)),
  (3, o_ild 5 2),
  (5, o_ild 2 1),
  (6, o_cmpgt 26),
  (9, o_ald 0 1),
  (10, o_gF K 2 3),
  (13, o_ild 5 2),
  (15, o_aald K),
  (16, o_ild 3 1),
  (17, o_ic 1000000 2),
  (19, o_iast K),
  (20, o_inc 5 1),
  (23, o_aft [6, 7, 8, 9] (o_goto 3)),
  (26, o_ic 0 1),
  (27, o_ist 5 2),
  (29, o_ic 0 1),
  (30, o_ist 6 2),
  (32, o_ild 3 1),
  (33, o_aft [8, 9] (o_ist 7 2)),
  (35, o_ild 7 2),
  (37, o_ald 1 1),
  (38, o_gI K 0 11),
  (41, o_cmpge 170),
  (44, o_ild 6 2),
  (46, o_ald 1 1),
  (47, o_gF K 0 1),
  (50, o_ild 7 2),
  (52, o_iald K),
  (53, o_iadd),
  (54, o_ist 6 2),
  (56, o_ild 6 2),
  (58, o_ild 4 2),
  (60, o_cmple 64),
  (63, o_vret),
  (64, o_ic 0 1),
  (65, o_aft [9] (o_ist 8 2)),
  (67, o_ild 8 2),
  (69, o_ild 3 1),
  (70, o_cmpge 94),
  (73, o_ild 5 2),
  (75, o_ald 1 1),
  (76, o_gF K 0 4),
  (79, o_ild 7 2),
  (81, o_aald K),
  (82, o_ild 8 2),
  (84, o_iald K),
  (85, o_iadd),
  (86, o_ist 5 2),
  (88, o_inc 8 1),
  (91, o_aft [9] (o_goto 67)),
  (94, o_ic 1 1),
  (95, o_aft [9] (o_ist 8 2)),
  (97, o_ild 8 2),
  (99, o_ild 2 1),
  (100, o_cmpgt 164),
  (103, o_ild 5 2),
  (105, o_ald 0 1),
  (106, o_gF K 2 3),
  (109, o_ild 8 2),
  (111, o_ic 1 1),
  (112, o_isub),
  (113, o_aald K),
  (114, o_ild 7 2),
  (116, o_ic 1 1),
  (117, o_iadd),
  (118, o_iald K),
  (119, o_iadd),
  (120, o_ist 9 2),
  (122, o_ild 9 2),
  (124, o_ald 0 1),
  (125, o_gF K 2 3),
  (128, o_ild 8 2),
  (130, o_aald K),
  (131, o_ild 3 1),
  (132, o_iald K),
  (133, o_cmpge 158),
  (136, o_ald 0 1),
  (137, o_gF K 2 3),
  (140, o_ild 8 2),
  (142, o_aald K),
  (143, o_ild 3 1),
  (144, o_ild 9 2),
  (146, o_iast K),
  (147, o_ald 0 1),
  (148, o_gF K 2 4),
  (151, o_ild 8 2),
  (153, o_aald K),
  (154, o_ild 3 1),
  (155, o_ild 7 2),
  (157, o_iast K),
  (158, o_inc 8 1),
  (161, o_aft [9] (o_goto 97)),
  (164, o_inc 7 1),
  (167, o_aft [8, 9] (o_goto 35)),
  (170, o_vret)]
noncomputable def f_X2_chooseEnds (K : Sh_) : Fn_ := fn_ (P_X2_chooseEnds K) 10
set_option maxRecDepth 100000 in
theorem a_X2_chooseEnds {l : Launch} {E : En_} (hE : EOK_ E)   : All_ (Snd_ l E yX2_chooseEnds.cls cX2_chooseEnds 10 (none) (.code yX2_chooseEnds cX2_chooseEnds 10 (none) :: G_) (rm_ 1)) (P_X2_chooseEnds E.2.2.2.1 ) :=
  all_c (s_iconst (n := 0) (by decide +kernel) (by decide))
  <| all_c (s_aft (s_ist (by decide +kernel)))
  <| all_c (s_ild (by decide +kernel))
  <| all_c (s_ild_n (q := 2) (by decide +kernel) rfl)
  <| all_c (s_cmpgt (off := 20) (by decide +kernel) (by decide))
  <| all_c (s_ald_n (q := 0) (by decide +kernel) rfl)
  <| all_c (g_2_3 (by decide +kernel) fl_RX2_24)
  <| all_c (s_ild (by decide +kernel))
  <| all_c (s_aald (by decide +kernel))
  <| all_c (s_ild_n (q := 3) (by decide +kernel) rfl)
  <| all_c (s_ldc (by decide +kernel) (G_w kk_RX2_35))
  <| all_c (s_iast (by decide +kernel))
  <| all_c (s_inc (n := 1) (by decide +kernel) (by decide))
  <| all_c (s_aft (s_goto (off := (-20)) (by decide +kernel) (by decide)))
  <| all_c (s_iconst (n := 0) (by decide +kernel) (by decide))
  <| all_c (s_ist (by decide +kernel))
  <| all_c (s_iconst (n := 0) (by decide +kernel) (by decide))
  <| all_c (s_ist (by decide +kernel))
  <| all_c (s_ild_n (q := 3) (by decide +kernel) rfl)
  <| all_c (s_aft (s_ist (by decide +kernel)))
  <| all_c (s_ild (by decide +kernel))
  <| all_c (s_ald_n (q := 1) (by decide +kernel) rfl)
  <| all_c (g_0_11 (by decide +kernel) fl_RX2_30)
  <| all_c (s_cmpge (off := 129) (by decide +kernel) (by decide))
  <| all_c (s_ild (by decide +kernel))
  <| all_c (s_ald_n (q := 1) (by decide +kernel) rfl)
  <| all_c (g_0_1 (by decide +kernel) fl_RX2_40)
  <| all_c (s_ild (by decide +kernel))
  <| all_c (s_iald (by decide +kernel))
  <| all_c (s_iadd (by decide +kernel))
  <| all_c (s_ist (by decide +kernel))
  <| all_c (s_ild (by decide +kernel))
  <| all_c (s_ild (by decide +kernel))
  <| all_c (s_cmple (off := 4) (by decide +kernel) (by decide))
  <| all_c (s_vret (by decide +kernel) rfl)
  <| all_c (s_iconst (n := 0) (by decide +kernel) (by decide))
  <| all_c (s_aft (s_ist (by decide +kernel)))
  <| all_c (s_ild (by decide +kernel))
  <| all_c (s_ild_n (q := 3) (by decide +kernel) rfl)
  <| all_c (s_cmpge (off := 24) (by decide +kernel) (by decide))
  <| all_c (s_ild (by decide +kernel))
  <| all_c (s_ald_n (q := 1) (by decide +kernel) rfl)
  <| all_c (g_0_4 (by decide +kernel) fl_RX2_43)
  <| all_c (s_ild (by decide +kernel))
  <| all_c (s_aald (by decide +kernel))
  <| all_c (s_ild (by decide +kernel))
  <| all_c (s_iald (by decide +kernel))
  <| all_c (s_iadd (by decide +kernel))
  <| all_c (s_ist (by decide +kernel))
  <| all_c (s_inc (n := 1) (by decide +kernel) (by decide))
  <| all_c (s_aft (s_goto (off := (-24)) (by decide +kernel) (by decide)))
  <| all_c (s_iconst (n := 1) (by decide +kernel) (by decide))
  <| all_c (s_aft (s_ist (by decide +kernel)))
  <| all_c (s_ild (by decide +kernel))
  <| all_c (s_ild_n (q := 2) (by decide +kernel) rfl)
  <| all_c (s_cmpgt (off := 64) (by decide +kernel) (by decide))
  <| all_c (s_ild (by decide +kernel))
  <| all_c (s_ald_n (q := 0) (by decide +kernel) rfl)
  <| all_c (g_2_3 (by decide +kernel) fl_RX2_24)
  <| all_c (s_ild (by decide +kernel))
  <| all_c (s_iconst (n := 1) (by decide +kernel) (by decide))
  <| all_c (s_isub (by decide +kernel))
  <| all_c (s_aald (by decide +kernel))
  <| all_c (s_ild (by decide +kernel))
  <| all_c (s_iconst (n := 1) (by decide +kernel) (by decide))
  <| all_c (s_iadd (by decide +kernel))
  <| all_c (s_iald (by decide +kernel))
  <| all_c (s_iadd (by decide +kernel))
  <| all_c (s_ist (by decide +kernel))
  <| all_c (s_ild (by decide +kernel))
  <| all_c (s_ald_n (q := 0) (by decide +kernel) rfl)
  <| all_c (g_2_3 (by decide +kernel) fl_RX2_24)
  <| all_c (s_ild (by decide +kernel))
  <| all_c (s_aald (by decide +kernel))
  <| all_c (s_ild_n (q := 3) (by decide +kernel) rfl)
  <| all_c (s_iald (by decide +kernel))
  <| all_c (s_cmpge (off := 25) (by decide +kernel) (by decide))
  <| all_c (s_ald_n (q := 0) (by decide +kernel) rfl)
  <| all_c (g_2_3 (by decide +kernel) fl_RX2_24)
  <| all_c (s_ild (by decide +kernel))
  <| all_c (s_aald (by decide +kernel))
  <| all_c (s_ild_n (q := 3) (by decide +kernel) rfl)
  <| all_c (s_ild (by decide +kernel))
  <| all_c (s_iast (by decide +kernel))
  <| all_c (s_ald_n (q := 0) (by decide +kernel) rfl)
  <| all_c (g_2_4 (by decide +kernel) fl_RX2_27)
  <| all_c (s_ild (by decide +kernel))
  <| all_c (s_aald (by decide +kernel))
  <| all_c (s_ild_n (q := 3) (by decide +kernel) rfl)
  <| all_c (s_ild (by decide +kernel))
  <| all_c (s_iast (by decide +kernel))
  <| all_c (s_inc (n := 1) (by decide +kernel) (by decide))
  <| all_c (s_aft (s_goto (off := (-64)) (by decide +kernel) (by decide)))
  <| all_c (s_inc (n := 1) (by decide +kernel) (by decide))
  <| all_c (s_aft (s_goto (off := (-132)) (by decide +kernel) (by decide)))
  <| all_c (s_vret (by decide +kernel) rfl)
  <| all_n
theorem t_X2_chooseEnds {l : Launch} {E : En_} (hE : EOK_ E) : Good_ l E yX2_chooseEnds (.code yX2_chooseEnds cX2_chooseEnds 10 (none) :: G_) (rm_ 1) (f_X2_chooseEnds E.2.2.2.1) := good_all hE (by decide +kernel) (a_X2_chooseEnds hE)
noncomputable def P_X2_stretch (K : Sh_)  : List (Nat × Op_) := [(0, o_ic 0 1),
  (1, o_aft [5, 6] (o_ist 4 2)),
  (3, o_ild 4 2),
  (5, o_ild 2 1),
  (6, o_cmpgt 38),
  (9, o_ald 0 1),
  (10, o_gF K 2 3),
  (13, o_ild 4 2),
  (15, o_aald K),
  (16, o_ald 1 1),
  (17, o_gI K 0 11),
  (20, o_ild 4 2),
  (22, o_ifne 29),
  (25, o_ic 0 1),
  (26, o_goto 31),
  (29, o_ic 1000000 2),
  (31, o_iast K),
  (32, o_inc 4 1),
  (35, o_aft [5, 6] (o_goto 3)),
  (38, o_ald 1 1),
  (39, o_gI K 0 11),
  (42, o_ic 1 1),
  (43, o_isub),
  (44, o_aft [5, 6] (o_ist 4 2)),
  (46, o_ild 4 2),
  (48, o_iflt 66),
  (51, o_ald 0 1),
  (52, o_ald 1 1),
  (53, o_ild 2 1),
  (54, o_ild 4 2),
  (56, o_ild 3 1),
  (57, o_callV K 2 (f_X2_chooseEnds K) 4),
  (60, o_inc 4 (-1)),
  (63, o_aft [5, 6] (o_goto 46)),
  (66, o_ald 0 1),
  (67, o_gF K 2 3),
  (70, o_ild 2 1),
  (71, o_aald K),
  (72, o_ic 0 1),
  (73, o_iald K),
  (74, o_ic 1000000 2),
  (76, o_cmplt 81),
  (79, o_ic (-1) 1),
  (80, o_iret),
  (81, o_ald 0 1),
  (82, o_ild 2 1),
  (83, o_pI K 2 1),
  (86, o_ic 0 1),
  (87, o_ist 4 2),
  (89, o_ild 2 1),
  (90, o_aft [6] (o_ist 5 2)),
  (92, o_ild 5 2),
  (94, o_ic 1 1),
  (95, o_cmplt 133),
  (98, o_ald 0 1),
  (99, o_gF K 2 4),
  (102, o_ild 5 2),
  (104, o_aald K),
  (105, o_ild 4 2),
  (107, o_iald K),
  (108, o_ist 6 2),
  (110, o_ald 0 1),
  (111, o_gF K 2 0),
  (114, o_ild 2 1),
  (115, o_ild 5 2),
  (117, o_isub),
  (118, o_ild 6 2),
  (120, o_iast K),
  (121, o_ild 6 2),
  (123, o_ic 1 1),
  (124, o_iadd),
  (125, o_ist 4 2),
  (127, o_inc 5 (-1)),
  (130, o_aft [6] (o_goto 92)),
  (133, o_ald 0 1),
  (134, o_gF K 2 3),
  (137, o_ild 2 1),
  (138, o_aald K),
  (139, o_ic 0 1),
  (140, o_iald K),
  (141, o_iret)]
noncomputable def f_X2_stretch (K : Sh_) : Fn_ := fn_ (P_X2_stretch K) 7
set_option maxRecDepth 100000 in
theorem a_X2_stretch {l : Launch} {E : En_} (hE : EOK_ E)   : All_ (Snd_ l E yX2_stretch.cls cX2_stretch 7 (some .int) (.code yX2_stretch cX2_stretch 7 (some .int) :: G_) (rm_ 2)) (P_X2_stretch E.2.2.2.1 ) :=
  all_c (s_iconst (n := 0) (by decide +kernel) (by decide))
  <| all_c (s_aft (s_ist (by decide +kernel)))
  <| all_c (s_ild (by decide +kernel))
  <| all_c (s_ild_n (q := 2) (by decide +kernel) rfl)
  <| all_c (s_cmpgt (off := 32) (by decide +kernel) (by decide))
  <| all_c (s_ald_n (q := 0) (by decide +kernel) rfl)
  <| all_c (g_2_3 (by decide +kernel) fl_RX2_24)
  <| all_c (s_ild (by decide +kernel))
  <| all_c (s_aald (by decide +kernel))
  <| all_c (s_ald_n (q := 1) (by decide +kernel) rfl)
  <| all_c (g_0_11 (by decide +kernel) fl_RX2_30)
  <| all_c (s_ild (by decide +kernel))
  <| all_c (s_ifne (off := 7) (by decide +kernel) (by decide))
  <| all_c (s_iconst (n := 0) (by decide +kernel) (by decide))
  <| all_c (s_goto (off := 5) (by decide +kernel) (by decide))
  <| all_c (s_ldc (by decide +kernel) (G_w kk_RX2_35))
  <| all_c (s_iast (by decide +kernel))
  <| all_c (s_inc (n := 1) (by decide +kernel) (by decide))
  <| all_c (s_aft (s_goto (off := (-32)) (by decide +kernel) (by decide)))
  <| all_c (s_ald_n (q := 1) (by decide +kernel) rfl)
  <| all_c (g_0_11 (by decide +kernel) fl_RX2_30)
  <| all_c (s_iconst (n := 1) (by decide +kernel) (by decide))
  <| all_c (s_isub (by decide +kernel))
  <| all_c (s_aft (s_ist (by decide +kernel)))
  <| all_c (s_ild (by decide +kernel))
  <| all_c (s_iflt (off := 18) (by decide +kernel) (by decide))
  <| all_c (s_ald_n (q := 0) (by decide +kernel) rfl)
  <| all_c (s_ald_n (q := 1) (by decide +kernel) rfl)
  <| all_c (s_ild_n (q := 2) (by decide +kernel) rfl)
  <| all_c (s_ild (by decide +kernel))
  <| all_c (s_ild_n (q := 3) (by decide +kernel) rfl)
  <| all_c (s_callV (by decide +kernel) (t_X2_chooseEnds hE) cl_X2_chooseEnds ml_RX2_36 im_X2_chooseEnds se_X2_chooseEnds (by decide) rfl (rm_lt (by decide)))
  <| all_c (s_inc (n := (-1)) (by decide +kernel) (by decide))
  <| all_c (s_aft (s_goto (off := (-17)) (by decide +kernel) (by decide)))
  <| all_c (s_ald_n (q := 0) (by decide +kernel) rfl)
  <| all_c (g_2_3 (by decide +kernel) fl_RX2_24)
  <| all_c (s_ild_n (q := 2) (by decide +kernel) rfl)
  <| all_c (s_aald (by decide +kernel))
  <| all_c (s_iconst (n := 0) (by decide +kernel) (by decide))
  <| all_c (s_iald (by decide +kernel))
  <| all_c (s_ldc (by decide +kernel) (G_w kk_RX2_35))
  <| all_c (s_cmplt (off := 5) (by decide +kernel) (by decide))
  <| all_c (s_iconst (n := (-1)) (by decide +kernel) (by decide))
  <| all_c (s_iret (by decide +kernel) rfl)
  <| all_c (s_ald_n (q := 0) (by decide +kernel) rfl)
  <| all_c (s_ild_n (q := 2) (by decide +kernel) rfl)
  <| all_c (p_2_1 (by decide +kernel) fl_RX2_15)
  <| all_c (s_iconst (n := 0) (by decide +kernel) (by decide))
  <| all_c (s_ist (by decide +kernel))
  <| all_c (s_ild_n (q := 2) (by decide +kernel) rfl)
  <| all_c (s_aft (s_ist (by decide +kernel)))
  <| all_c (s_ild (by decide +kernel))
  <| all_c (s_iconst (n := 1) (by decide +kernel) (by decide))
  <| all_c (s_cmplt (off := 38) (by decide +kernel) (by decide))
  <| all_c (s_ald_n (q := 0) (by decide +kernel) rfl)
  <| all_c (g_2_4 (by decide +kernel) fl_RX2_27)
  <| all_c (s_ild (by decide +kernel))
  <| all_c (s_aald (by decide +kernel))
  <| all_c (s_ild (by decide +kernel))
  <| all_c (s_iald (by decide +kernel))
  <| all_c (s_ist (by decide +kernel))
  <| all_c (s_ald_n (q := 0) (by decide +kernel) rfl)
  <| all_c (g_2_0 (by decide +kernel) fl_RX2_11)
  <| all_c (s_ild_n (q := 2) (by decide +kernel) rfl)
  <| all_c (s_ild (by decide +kernel))
  <| all_c (s_isub (by decide +kernel))
  <| all_c (s_ild (by decide +kernel))
  <| all_c (s_iast (by decide +kernel))
  <| all_c (s_ild (by decide +kernel))
  <| all_c (s_iconst (n := 1) (by decide +kernel) (by decide))
  <| all_c (s_iadd (by decide +kernel))
  <| all_c (s_ist (by decide +kernel))
  <| all_c (s_inc (n := (-1)) (by decide +kernel) (by decide))
  <| all_c (s_aft (s_goto (off := (-38)) (by decide +kernel) (by decide)))
  <| all_c (s_ald_n (q := 0) (by decide +kernel) rfl)
  <| all_c (g_2_3 (by decide +kernel) fl_RX2_24)
  <| all_c (s_ild_n (q := 2) (by decide +kernel) rfl)
  <| all_c (s_aald (by decide +kernel))
  <| all_c (s_iconst (n := 0) (by decide +kernel) (by decide))
  <| all_c (s_iald (by decide +kernel))
  <| all_c (s_iret (by decide +kernel) rfl)
  <| all_n
theorem t_X2_stretch {l : Launch} {E : En_} (hE : EOK_ E) : Good_ l E yX2_stretch (.code yX2_stretch cX2_stretch 7 (some .int) :: G_) (rm_ 2) (f_X2_stretch E.2.2.2.1) := good_all hE (by decide +kernel) (a_X2_stretch hE)
noncomputable def P_X2_overSides (K : Sh_)  : List (Nat × Op_) := [(0, o_ic 0 1),
  (1, o_ist 4 2),
  (3, o_ic 0 1),
  (4, o_aft [6, 7] (o_ist 5 2)),
  (6, o_ild 5 2),
  (8, o_ild 2 1),
  (9, o_cmpge 75),
  (12, o_ald 0 1),
  (13, o_gF K 0 4),
  (16, o_ald 1 1),
  (17, o_ild 5 2),
  (19, o_callV K 8 (f_X8_byteAt K) 1),
  (22, o_aald K),
  (23, o_ast 6 2),
  (25, o_ic 0 1),
  (26, o_ist 7 2),
  (28, o_ild 7 2),
  (30, o_ild 2 1),
  (31, o_cmpge 69),
  (34, o_ild 3 1),
  (35, o_ild 5 2),
  (37, o_ishr),
  (38, o_ic 1 1),
  (39, o_iand),
  (40, o_ild 3 1),
  (41, o_ild 7 2),
  (43, o_ishr),
  (44, o_ic 1 1),
  (45, o_iand),
  (46, o_cmpeq 63),
  (49, o_ild 4 2),
  (51, o_ald 6 2),
  (53, o_ald 1 1),
  (54, o_ild 7 2),
  (56, o_callV K 8 (f_X8_byteAt K) 1),
  (59, o_iald K),
  (60, o_iadd),
  (61, o_ist 4 2),
  (63, o_inc 7 1),
  (66, o_goto 28),
  (69, o_inc 5 1),
  (72, o_aft [6, 7] (o_goto 6)),
  (75, o_ild 4 2),
  (77, o_iret)]
noncomputable def f_X2_overSides (K : Sh_) : Fn_ := fn_ (P_X2_overSides K) 8
set_option maxRecDepth 100000 in
theorem a_X2_overSides {l : Launch} {E : En_} (hE : EOK_ E)   : All_ (Snd_ l E yX2_overSides.cls cX2_overSides 8 (some .int) (.code yX2_overSides cX2_overSides 8 (some .int) :: G_) (rm_ 2)) (P_X2_overSides E.2.2.2.1 ) :=
  all_c (s_iconst (n := 0) (by decide +kernel) (by decide))
  <| all_c (s_ist (by decide +kernel))
  <| all_c (s_iconst (n := 0) (by decide +kernel) (by decide))
  <| all_c (s_aft (s_ist (by decide +kernel)))
  <| all_c (s_ild (by decide +kernel))
  <| all_c (s_ild_n (q := 2) (by decide +kernel) rfl)
  <| all_c (s_cmpge (off := 66) (by decide +kernel) (by decide))
  <| all_c (s_ald_n (q := 0) (by decide +kernel) rfl)
  <| all_c (g_0_4 (by decide +kernel) fl_RX2_43)
  <| all_c (s_ald_n (q := 1) (by decide +kernel) rfl)
  <| all_c (s_ild (by decide +kernel))
  <| all_c (s_callV (by decide +kernel) (t_X8_byteAt hE) cl_X8_byteAt ml_RX2_54 im_X8_byteAt se_X8_byteAt (by decide) rfl (rm_lt (by decide)))
  <| all_c (s_aald (by decide +kernel))
  <| all_c (s_ast (by decide +kernel))
  <| all_c (s_iconst (n := 0) (by decide +kernel) (by decide))
  <| all_c (s_ist (by decide +kernel))
  <| all_c (s_ild (by decide +kernel))
  <| all_c (s_ild_n (q := 2) (by decide +kernel) rfl)
  <| all_c (s_cmpge (off := 38) (by decide +kernel) (by decide))
  <| all_c (s_ild_n (q := 3) (by decide +kernel) rfl)
  <| all_c (s_ild (by decide +kernel))
  <| all_c (s_ishr (by decide +kernel))
  <| all_c (s_iconst (n := 1) (by decide +kernel) (by decide))
  <| all_c (s_iand (by decide +kernel))
  <| all_c (s_ild_n (q := 3) (by decide +kernel) rfl)
  <| all_c (s_ild (by decide +kernel))
  <| all_c (s_ishr (by decide +kernel))
  <| all_c (s_iconst (n := 1) (by decide +kernel) (by decide))
  <| all_c (s_iand (by decide +kernel))
  <| all_c (s_cmpeq (off := 17) (by decide +kernel) (by decide))
  <| all_c (s_ild (by decide +kernel))
  <| all_c (s_ald (by decide +kernel))
  <| all_c (s_ald_n (q := 1) (by decide +kernel) rfl)
  <| all_c (s_ild (by decide +kernel))
  <| all_c (s_callV (by decide +kernel) (t_X8_byteAt hE) cl_X8_byteAt ml_RX2_54 im_X8_byteAt se_X8_byteAt (by decide) rfl (rm_lt (by decide)))
  <| all_c (s_iald (by decide +kernel))
  <| all_c (s_iadd (by decide +kernel))
  <| all_c (s_ist (by decide +kernel))
  <| all_c (s_inc (n := 1) (by decide +kernel) (by decide))
  <| all_c (s_goto (off := (-38)) (by decide +kernel) (by decide))
  <| all_c (s_inc (n := 1) (by decide +kernel) (by decide))
  <| all_c (s_aft (s_goto (off := (-66)) (by decide +kernel) (by decide)))
  <| all_c (s_ild (by decide +kernel))
  <| all_c (s_iret (by decide +kernel) rfl)
  <| all_n
theorem t_X2_overSides {l : Launch} {E : En_} (hE : EOK_ E) : Good_ l E yX2_overSides (.code yX2_overSides cX2_overSides 8 (some .int) :: G_) (rm_ 2) (f_X2_overSides E.2.2.2.1) := good_all hE (by decide +kernel) (a_X2_overSides hE)
noncomputable def P_X2_sidesFit (K : Sh_)  : List (Nat × Op_) := [(0, o_ic 0 1),
  (1, o_ist 5 2),
  (3, o_ic 0 1),
  (4, o_ist 6 2),
  (6, o_ic 0 1),
  (7, o_aft [8] (o_ist 7 2)),
  (9, o_ild 7 2),
  (11, o_ild 2 1),
  (12, o_cmpge 60),
  (15, o_ald 0 1),
  (16, o_gF K 0 1),
  (19, o_ald 1 1),
  (20, o_ild 7 2),
  (22, o_callV K 8 (f_X8_byteAt K) 1),
  (25, o_iald K),
  (26, o_ist 8 2),
  (28, o_ild 3 1),
  (29, o_ild 7 2),
  (31, o_ishr),
  (32, o_ic 1 1),
  (33, o_iand),
  (34, o_ifeq 47),
  (37, o_ild 5 2),
  (39, o_ild 8 2),
  (41, o_iadd),
  (42, o_ist 5 2),
  (44, o_goto 54),
  (47, o_ild 6 2),
  (49, o_ild 8 2),
  (51, o_iadd),
  (52, o_ist 6 2),
  (54, o_inc 7 1),
  (57, o_aft [8] (o_goto 9)),
  (60, o_ild 5 2),
  (62, o_ild 4 2),
  (64, o_cmpgt 78),
  (67, o_ild 6 2),
  (69, o_ild 4 2),
  (71, o_cmpgt 78),
  (74, o_ic 1 1),
  (75, o_goto 79),
  (78, o_ic 0 1),
  (79, o_zret)]
noncomputable def f_X2_sidesFit (K : Sh_) : Fn_ := fn_ (P_X2_sidesFit K) 9
set_option maxRecDepth 100000 in
theorem a_X2_sidesFit {l : Launch} {E : En_} (hE : EOK_ E)   : All_ (Snd_ l E yX2_sidesFit.cls cX2_sidesFit 9 (some .boolean) (.code yX2_sidesFit cX2_sidesFit 9 (some .boolean) :: G_) (rm_ 2)) (P_X2_sidesFit E.2.2.2.1 ) :=
  all_c (s_iconst (n := 0) (by decide +kernel) (by decide))
  <| all_c (s_ist (by decide +kernel))
  <| all_c (s_iconst (n := 0) (by decide +kernel) (by decide))
  <| all_c (s_ist (by decide +kernel))
  <| all_c (s_iconst (n := 0) (by decide +kernel) (by decide))
  <| all_c (s_aft (s_ist (by decide +kernel)))
  <| all_c (s_ild (by decide +kernel))
  <| all_c (s_ild_n (q := 2) (by decide +kernel) rfl)
  <| all_c (s_cmpge (off := 48) (by decide +kernel) (by decide))
  <| all_c (s_ald_n (q := 0) (by decide +kernel) rfl)
  <| all_c (g_0_1 (by decide +kernel) fl_RX2_40)
  <| all_c (s_ald_n (q := 1) (by decide +kernel) rfl)
  <| all_c (s_ild (by decide +kernel))
  <| all_c (s_callV (by decide +kernel) (t_X8_byteAt hE) cl_X8_byteAt ml_RX2_54 im_X8_byteAt se_X8_byteAt (by decide) rfl (rm_lt (by decide)))
  <| all_c (s_iald (by decide +kernel))
  <| all_c (s_ist (by decide +kernel))
  <| all_c (s_ild_n (q := 3) (by decide +kernel) rfl)
  <| all_c (s_ild (by decide +kernel))
  <| all_c (s_ishr (by decide +kernel))
  <| all_c (s_iconst (n := 1) (by decide +kernel) (by decide))
  <| all_c (s_iand (by decide +kernel))
  <| all_c (s_ifeq (off := 13) (by decide +kernel) (by decide))
  <| all_c (s_ild (by decide +kernel))
  <| all_c (s_ild (by decide +kernel))
  <| all_c (s_iadd (by decide +kernel))
  <| all_c (s_ist (by decide +kernel))
  <| all_c (s_goto (off := 10) (by decide +kernel) (by decide))
  <| all_c (s_ild (by decide +kernel))
  <| all_c (s_ild (by decide +kernel))
  <| all_c (s_iadd (by decide +kernel))
  <| all_c (s_ist (by decide +kernel))
  <| all_c (s_inc (n := 1) (by decide +kernel) (by decide))
  <| all_c (s_aft (s_goto (off := (-48)) (by decide +kernel) (by decide)))
  <| all_c (s_ild (by decide +kernel))
  <| all_c (s_ild (by decide +kernel))
  <| all_c (s_cmpgt (off := 14) (by decide +kernel) (by decide))
  <| all_c (s_ild (by decide +kernel))
  <| all_c (s_ild (by decide +kernel))
  <| all_c (s_cmpgt (off := 7) (by decide +kernel) (by decide))
  <| all_c (s_iconst (n := 1) (by decide +kernel) (by decide))
  <| all_c (s_goto (off := 4) (by decide +kernel) (by decide))
  <| all_c (s_iconst (n := 0) (by decide +kernel) (by decide))
  <| all_c (s_zret (by decide +kernel) rfl)
  <| all_n
theorem t_X2_sidesFit {l : Launch} {E : En_} (hE : EOK_ E) : Good_ l E yX2_sidesFit (.code yX2_sidesFit cX2_sidesFit 9 (some .boolean) :: G_) (rm_ 2) (f_X2_sidesFit E.2.2.2.1) := good_all hE (by decide +kernel) (a_X2_sidesFit hE)
noncomputable def P_X2_divide (K : Sh_)  : List (Nat × Op_) := [(0, o_ic 1000000 2),
  (2, o_ist 5 2),
  (4, o_ic (-1) 1),
  (5, o_ist 6 2),
  (7, o_ic 1 1),
  (8, o_aft [8] (o_ist 7 2)),
  (10, o_ild 7 2),
  (12, o_ic 1 1),
  (13, o_ild 3 1),
  (14, o_ic 1 1),
  (15, o_isub),
  (16, o_ishl),
  (17, o_cmpge 64),
  (20, o_ald 1 1),
  (21, o_ald 2 1),
  (22, o_ild 3 1),
  (23, o_ild 7 2),
  (25, o_ild 4 2),
  (27, o_callS (f_X2_sidesFit K) 5),
  (30, o_ifeq 58),
  (33, o_ald 1 1),
  (34, o_ald 2 1),
  (35, o_ild 3 1),
  (36, o_ild 7 2),
  (38, o_callS (f_X2_overSides K) 4),
  (41, o_ist 8 2),
  (43, o_ild 8 2),
  (45, o_ild 5 2),
  (47, o_cmpge 58),
  (50, o_ild 8 2),
  (52, o_ist 5 2),
  (54, o_ild 7 2),
  (56, o_ist 6 2),
  (58, o_inc 7 1),
  (61, o_aft [8] (o_goto 10)),
  (64, o_ild 6 2),
  (66, o_ic (-1) 1),
  (67, o_cmpne 72),
  (70, o_ic (-1) 1),
  (71, o_iret),
  (72, o_ald 0 1),
  (73, o_ild 6 2),
  (75, o_pI K 2 2),
  (78, o_ild 5 2),
  (80, o_iret)]
noncomputable def f_X2_divide (K : Sh_) : Fn_ := fn_ (P_X2_divide K) 9
set_option maxRecDepth 100000 in
theorem a_X2_divide {l : Launch} {E : En_} (hE : EOK_ E)   : All_ (Snd_ l E yX2_divide.cls cX2_divide 9 (some .int) (.code yX2_divide cX2_divide 9 (some .int) :: G_) (rm_ 3)) (P_X2_divide E.2.2.2.1 ) :=
  all_c (s_ldc (by decide +kernel) (G_w kk_RX2_35))
  <| all_c (s_ist (by decide +kernel))
  <| all_c (s_iconst (n := (-1)) (by decide +kernel) (by decide))
  <| all_c (s_ist (by decide +kernel))
  <| all_c (s_iconst (n := 1) (by decide +kernel) (by decide))
  <| all_c (s_aft (s_ist (by decide +kernel)))
  <| all_c (s_ild (by decide +kernel))
  <| all_c (s_iconst (n := 1) (by decide +kernel) (by decide))
  <| all_c (s_ild_n (q := 3) (by decide +kernel) rfl)
  <| all_c (s_iconst (n := 1) (by decide +kernel) (by decide))
  <| all_c (s_isub (by decide +kernel))
  <| all_c (s_ishl (by decide +kernel))
  <| all_c (s_cmpge (off := 47) (by decide +kernel) (by decide))
  <| all_c (s_ald_n (q := 1) (by decide +kernel) rfl)
  <| all_c (s_ald_n (q := 2) (by decide +kernel) rfl)
  <| all_c (s_ild_n (q := 3) (by decide +kernel) rfl)
  <| all_c (s_ild (by decide +kernel))
  <| all_c (s_ild (by decide +kernel))
  <| all_c (s_callS (by decide +kernel) (t_X2_sidesFit hE) cl_X2_sidesFit ml_RX2_46 sm_X2_sidesFit (rm_lt (by decide)))
  <| all_c (s_ifeq (off := 28) (by decide +kernel) (by decide))
  <| all_c (s_ald_n (q := 1) (by decide +kernel) rfl)
  <| all_c (s_ald_n (q := 2) (by decide +kernel) rfl)
  <| all_c (s_ild_n (q := 3) (by decide +kernel) rfl)
  <| all_c (s_ild (by decide +kernel))
  <| all_c (s_callS (by decide +kernel) (t_X2_overSides hE) cl_X2_overSides ml_RX2_50 sm_X2_overSides (rm_lt (by decide)))
  <| all_c (s_ist (by decide +kernel))
  <| all_c (s_ild (by decide +kernel))
  <| all_c (s_ild (by decide +kernel))
  <| all_c (s_cmpge (off := 11) (by decide +kernel) (by decide))
  <| all_c (s_ild (by decide +kernel))
  <| all_c (s_ist (by decide +kernel))
  <| all_c (s_ild (by decide +kernel))
  <| all_c (s_ist (by decide +kernel))
  <| all_c (s_inc (n := 1) (by decide +kernel) (by decide))
  <| all_c (s_aft (s_goto (off := (-51)) (by decide +kernel) (by decide)))
  <| all_c (s_ild (by decide +kernel))
  <| all_c (s_iconst (n := (-1)) (by decide +kernel) (by decide))
  <| all_c (s_cmpne (off := 5) (by decide +kernel) (by decide))
  <| all_c (s_iconst (n := (-1)) (by decide +kernel) (by decide))
  <| all_c (s_iret (by decide +kernel) rfl)
  <| all_c (s_ald_n (q := 0) (by decide +kernel) rfl)
  <| all_c (s_ild (by decide +kernel))
  <| all_c (p_2_2 (by decide +kernel) fl_RX2_19)
  <| all_c (s_ild (by decide +kernel))
  <| all_c (s_iret (by decide +kernel) rfl)
  <| all_n
theorem t_X2_divide {l : Launch} {E : En_} (hE : EOK_ E) : Good_ l E yX2_divide (.code yX2_divide cX2_divide 9 (some .int) :: G_) (rm_ 3) (f_X2_divide E.2.2.2.1) := good_all hE (by decide +kernel) (a_X2_divide hE)
noncomputable def P_X5_hear (K : Sh_)  : List (Nat × Op_) := [(0, o_ald 0 1),
  (1, o_gR K 5 9),
  (4, o_ald 0 1),
  (5, o_gF K 5 3),
  (8, o_ild 3 1),
  (9, o_ic 16 2),
  (11, o_imul),
  (12, o_ild 2 1),
  (13, o_iadd),
  (14, o_iald K),
  (15, o_ild 3 1),
  (16, o_ild 4 2),
  (18, o_ild 1 1),
  (19, o_callV K 0 (f_X0_partsTold K) 4),
  (22, o_ist 5 2),
  (24, o_ald 0 1),
  (25, o_gF K 5 1),
  (28, o_ild 3 1),
  (29, o_iald K),
  (30, o_ild 2 1),
  (31, o_ishr),
  (32, o_ic 1 1),
  (33, o_iand),
  (34, o_aft [6, 7, 8] (o_ifne 48)),
  (37, o_ald 0 1),
  (38, o_gR K 5 9),
  (41, o_ild 5 2),
  (43, o_callV K 0 (f_X0_retold K) 1),
  (46, o_aft [6, 7, 8] (o_ist 5 2)),
  (48, o_ild 1 1),
  (49, o_ic 16 2),
  (51, o_imul),
  (52, o_ist 6 2),
  (54, o_ild 5 2),
  (56, o_ic 1000000 2),
  (58, o_ald 0 1),
  (59, o_gR K 5 9),
  (62, o_ild 2 1),
  (63, o_ald 0 1),
  (64, o_gF K 5 3),
  (67, o_ild 6 2),
  (69, o_callV K 0 (f_X0_lackAt K) 3),
  (72, o_isub),
  (73, o_callS (f_X0_ofMillion K) 2),
  (76, o_ist 7 2),
  (78, o_ald 0 1),
  (79, o_gF K 5 3),
  (82, o_ild 6 2),
  (84, o_ild 2 1),
  (85, o_iadd),
  (86, o_iald K),
  (87, o_ist 8 2),
  (89, o_ald 0 1),
  (90, o_gF K 5 3),
  (93, o_ild 6 2),
  (95, o_ild 2 1),
  (96, o_iadd),
  (97, o_ild 8 2),
  (99, o_ic 1000000 2),
  (101, o_ild 8 2),
  (103, o_isub),
  (104, o_ild 7 2),
  (106, o_callS (f_X0_ofMillion K) 2),
  (109, o_iadd),
  (110, o_iast K),
  (111, o_ald 0 1),
  (112, o_gF K 5 2),
  (115, o_ild 1 1),
  (116, o_dup2),
  (117, o_iald K),
  (118, o_ic 1 1),
  (119, o_ild 2 1),
  (120, o_ishl),
  (121, o_ior),
  (122, o_iast K),
  (123, o_vret)]
noncomputable def f_X5_hear (K : Sh_) : Fn_ := fn_ (P_X5_hear K) 9
set_option maxRecDepth 100000 in
theorem a_X5_hear {l : Launch} {E : En_} (hE : EOK_ E)   : All_ (Snd_ l E yX5_hear.cls cX5_hear 9 (none) (.code yX5_hear cX5_hear 9 (none) :: G_) (rm_ 2)) (P_X5_hear E.2.2.2.1 ) :=
  all_c (s_ald_n (q := 0) (by decide +kernel) rfl)
  <| all_c (g_5_9 (by decide +kernel) fl_RX5_28)
  <| all_c (s_ald_n (q := 0) (by decide +kernel) rfl)
  <| all_c (g_5_3 (by decide +kernel) fl_RX5_21)
  <| all_c (s_ild_n (q := 3) (by decide +kernel) rfl)
  <| all_c (s_bipush (n := 16) (by decide +kernel) (by decide))
  <| all_c (s_imul (by decide +kernel))
  <| all_c (s_ild_n (q := 2) (by decide +kernel) rfl)
  <| all_c (s_iadd (by decide +kernel))
  <| all_c (s_iald (by decide +kernel))
  <| all_c (s_ild_n (q := 3) (by decide +kernel) rfl)
  <| all_c (s_ild (by decide +kernel))
  <| all_c (s_ild_n (q := 1) (by decide +kernel) rfl)
  <| all_c (s_callV (by decide +kernel) (t_X0_partsTold hE) cl_X0_partsTold ml_RX5_96 im_X0_partsTold se_X0_partsTold (by decide) rfl (rm_lt (by decide)))
  <| all_c (s_ist (by decide +kernel))
  <| all_c (s_ald_n (q := 0) (by decide +kernel) rfl)
  <| all_c (g_5_1 (by decide +kernel) fl_RX5_15)
  <| all_c (s_ild_n (q := 3) (by decide +kernel) rfl)
  <| all_c (s_iald (by decide +kernel))
  <| all_c (s_ild_n (q := 2) (by decide +kernel) rfl)
  <| all_c (s_ishr (by decide +kernel))
  <| all_c (s_iconst (n := 1) (by decide +kernel) (by decide))
  <| all_c (s_iand (by decide +kernel))
  <| all_c (s_aft (s_ifne (off := 14) (by decide +kernel) (by decide)))
  <| all_c (s_ald_n (q := 0) (by decide +kernel) rfl)
  <| all_c (g_5_9 (by decide +kernel) fl_RX5_28)
  <| all_c (s_ild (by decide +kernel))
  <| all_c (s_callV (by decide +kernel) (t_X0_retold hE) cl_X0_retold ml_RX5_99 im_X0_retold se_X0_retold (by decide) rfl (rm_lt (by decide)))
  <| all_c (s_aft (s_ist (by decide +kernel)))
  <| all_c (s_ild_n (q := 1) (by decide +kernel) rfl)
  <| all_c (s_bipush (n := 16) (by decide +kernel) (by decide))
  <| all_c (s_imul (by decide +kernel))
  <| all_c (s_ist (by decide +kernel))
  <| all_c (s_ild (by decide +kernel))
  <| all_c (s_ldc (by decide +kernel) (G_w kk_RX5_102))
  <| all_c (s_ald_n (q := 0) (by decide +kernel) rfl)
  <| all_c (g_5_9 (by decide +kernel) fl_RX5_28)
  <| all_c (s_ild_n (q := 2) (by decide +kernel) rfl)
  <| all_c (s_ald_n (q := 0) (by decide +kernel) rfl)
  <| all_c (g_5_3 (by decide +kernel) fl_RX5_21)
  <| all_c (s_ild (by decide +kernel))
  <| all_c (s_callV (by decide +kernel) (t_X0_lackAt hE) cl_X0_lackAt ml_RX5_84 im_X0_lackAt se_X0_lackAt (by decide) rfl (rm_lt (by decide)))
  <| all_c (s_isub (by decide +kernel))
  <| all_c (s_callS (by decide +kernel) (t_X0_ofMillion hE) cl_X0_ofMillion ml_RX5_103 sm_X0_ofMillion (rm_lt (by decide)))
  <| all_c (s_ist (by decide +kernel))
  <| all_c (s_ald_n (q := 0) (by decide +kernel) rfl)
  <| all_c (g_5_3 (by decide +kernel) fl_RX5_21)
  <| all_c (s_ild (by decide +kernel))
  <| all_c (s_ild_n (q := 2) (by decide +kernel) rfl)
  <| all_c (s_iadd (by decide +kernel))
  <| all_c (s_iald (by decide +kernel))
  <| all_c (s_ist (by decide +kernel))
  <| all_c (s_ald_n (q := 0) (by decide +kernel) rfl)
  <| all_c (g_5_3 (by decide +kernel) fl_RX5_21)
  <| all_c (s_ild (by decide +kernel))
  <| all_c (s_ild_n (q := 2) (by decide +kernel) rfl)
  <| all_c (s_iadd (by decide +kernel))
  <| all_c (s_ild (by decide +kernel))
  <| all_c (s_ldc (by decide +kernel) (G_w kk_RX5_102))
  <| all_c (s_ild (by decide +kernel))
  <| all_c (s_isub (by decide +kernel))
  <| all_c (s_ild (by decide +kernel))
  <| all_c (s_callS (by decide +kernel) (t_X0_ofMillion hE) cl_X0_ofMillion ml_RX5_103 sm_X0_ofMillion (rm_lt (by decide)))
  <| all_c (s_iadd (by decide +kernel))
  <| all_c (s_iast (by decide +kernel))
  <| all_c (s_ald_n (q := 0) (by decide +kernel) rfl)
  <| all_c (g_5_2 (by decide +kernel) fl_RX5_18)
  <| all_c (s_ild_n (q := 1) (by decide +kernel) rfl)
  <| all_c (s_dup2 (by decide +kernel))
  <| all_c (s_iald (by decide +kernel))
  <| all_c (s_iconst (n := 1) (by decide +kernel) (by decide))
  <| all_c (s_ild_n (q := 2) (by decide +kernel) rfl)
  <| all_c (s_ishl (by decide +kernel))
  <| all_c (s_ior (by decide +kernel))
  <| all_c (s_iast (by decide +kernel))
  <| all_c (s_vret (by decide +kernel) rfl)
  <| all_n
theorem t_X5_hear {l : Launch} {E : En_} (hE : EOK_ E) : Good_ l E yX5_hear (.code yX5_hear cX5_hear 9 (none) :: G_) (rm_ 2) (f_X5_hear E.2.2.2.1) := good_all hE (by decide +kernel) (a_X5_hear hE)
noncomputable def P_X5_partsIfRead (K : Sh_)  : List (Nat × Op_) := [(0, o_ild 1 1),
  (1, o_ic 16 2),
  (3, o_imul),
  (4, o_ist 3 1),
  (5, o_ald 0 1),
  (6, o_gF K 5 3),
  (9, o_ild 3 1),
  (10, o_ild 2 1),
  (11, o_iadd),
  (12, o_iald K),
  (13, o_ald 0 1),
  (14, o_gR K 5 9),
  (17, o_ild 1 1),
  (18, o_ald 0 1),
  (19, o_gR K 5 9),
  (22, o_ild 2 1),
  (23, o_ald 0 1),
  (24, o_gF K 5 3),
  (27, o_ild 3 1),
  (28, o_callV K 0 (f_X0_lackAt K) 3),
  (31, o_callV K 0 (f_X0_partsRead K) 2),
  (34, o_max),
  (37, o_iret)]
noncomputable def f_X5_partsIfRead (K : Sh_) : Fn_ := fn_ (P_X5_partsIfRead K) 4
set_option maxRecDepth 100000 in
theorem a_X5_partsIfRead {l : Launch} {E : En_} (hE : EOK_ E)   : All_ (Snd_ l E yX5_partsIfRead.cls cX5_partsIfRead 4 (some .int) (.code yX5_partsIfRead cX5_partsIfRead 4 (some .int) :: G_) (rm_ 2)) (P_X5_partsIfRead E.2.2.2.1 ) :=
  all_c (s_ild_n (q := 1) (by decide +kernel) rfl)
  <| all_c (s_bipush (n := 16) (by decide +kernel) (by decide))
  <| all_c (s_imul (by decide +kernel))
  <| all_c (s_ist_n (q := 3) (by decide +kernel) rfl)
  <| all_c (s_ald_n (q := 0) (by decide +kernel) rfl)
  <| all_c (g_5_3 (by decide +kernel) fl_RX5_21)
  <| all_c (s_ild_n (q := 3) (by decide +kernel) rfl)
  <| all_c (s_ild_n (q := 2) (by decide +kernel) rfl)
  <| all_c (s_iadd (by decide +kernel))
  <| all_c (s_iald (by decide +kernel))
  <| all_c (s_ald_n (q := 0) (by decide +kernel) rfl)
  <| all_c (g_5_9 (by decide +kernel) fl_RX5_28)
  <| all_c (s_ild_n (q := 1) (by decide +kernel) rfl)
  <| all_c (s_ald_n (q := 0) (by decide +kernel) rfl)
  <| all_c (g_5_9 (by decide +kernel) fl_RX5_28)
  <| all_c (s_ild_n (q := 2) (by decide +kernel) rfl)
  <| all_c (s_ald_n (q := 0) (by decide +kernel) rfl)
  <| all_c (g_5_3 (by decide +kernel) fl_RX5_21)
  <| all_c (s_ild_n (q := 3) (by decide +kernel) rfl)
  <| all_c (s_callV (by decide +kernel) (t_X0_lackAt hE) cl_X0_lackAt ml_RX5_84 im_X0_lackAt se_X0_lackAt (by decide) rfl (rm_lt (by decide)))
  <| all_c (s_callV (by decide +kernel) (t_X0_partsRead hE) cl_X0_partsRead ml_RX5_88 im_X0_partsRead se_X0_partsRead (by decide) rfl (rm_lt (by decide)))
  <| all_c (s_max (by decide +kernel) (G_w ml_RX5_91) (G_w mm_max_s) (G_w mm_i) (G_w mm_max_c) (rm_lt (lv := 0) (by decide)))
  <| all_c (s_iret (by decide +kernel) rfl)
  <| all_n
theorem t_X5_partsIfRead {l : Launch} {E : En_} (hE : EOK_ E) : Good_ l E yX5_partsIfRead (.code yX5_partsIfRead cX5_partsIfRead 4 (some .int) :: G_) (rm_ 2) (f_X5_partsIfRead E.2.2.2.1) := good_all hE (by decide +kernel) (a_X5_partsIfRead hE)
noncomputable def P_X5_perform (K : Sh_)  : List (Nat × Op_) := [(0, o_ild 3 1),
  (1, o_ifne 52),
  (4, o_ald 0 1),
  (5, o_gF K 5 0),
  (8, o_ild 1 1),
  (9, o_dup2),
  (10, o_iald K),
  (11, o_ald 0 1),
  (12, o_gR K 5 9),
  (15, o_ild 1 1),
  (16, o_ild 2 1),
  (17, o_callV K 0 (f_X0_readTime K) 2),
  (20, o_isub),
  (21, o_iast K),
  (22, o_ald 0 1),
  (23, o_gF K 5 3),
  (26, o_ild 1 1),
  (27, o_ic 16 2),
  (29, o_imul),
  (30, o_ild 2 1),
  (31, o_iadd),
  (32, o_ald 0 1),
  (33, o_ild 1 1),
  (34, o_ild 2 1),
  (35, o_callV K 5 (f_X5_partsIfRead K) 2),
  (38, o_iast K),
  (39, o_ald 0 1),
  (40, o_gF K 5 1),
  (43, o_ild 1 1),
  (44, o_dup2),
  (45, o_iald K),
  (46, o_ic 1 1),
  (47, o_ild 2 1),
  (48, o_ishl),
  (49, o_ior),
  (50, o_iast K),
  (51, o_vret),
  (52, o_ald 0 1),
  (53, o_gR K 5 9),
  (56, o_ild 2 1),
  (57, o_ild 3 1),
  (58, o_callV K 0 (f_X0_tellTime K) 2),
  (61, o_ist 5 2),
  (63, o_ald 0 1),
  (64, o_gF K 5 0),
  (67, o_ild 1 1),
  (68, o_dup2),
  (69, o_iald K),
  (70, o_ild 5 2),
  (72, o_isub),
  (73, o_iast K),
  (74, o_ic 0 1),
  (75, o_ist 6 2),
  (77, o_ild 6 2),
  (79, o_ald 0 1),
  (80, o_gR K 5 9),
  (83, o_gI K 0 12),
  (86, o_cmpge 126),
  (89, o_ild 4 2),
  (91, o_ild 6 2),
  (93, o_ishr),
  (94, o_ic 1 1),
  (95, o_iand),
  (96, o_ifeq 120),
  (99, o_ald 0 1),
  (100, o_gF K 5 0),
  (103, o_ild 6 2),
  (105, o_dup2),
  (106, o_iald K),
  (107, o_ild 5 2),
  (109, o_isub),
  (110, o_iast K),
  (111, o_ald 0 1),
  (112, o_ild 6 2),
  (114, o_ild 2 1),
  (115, o_ild 1 1),
  (116, o_ild 3 1),
  (117, o_callV K 5 (f_X5_hear K) 4),
  (120, o_inc 6 1),
  (123, o_goto 77),
  (126, o_vret)]
noncomputable def f_X5_perform (K : Sh_) : Fn_ := fn_ (P_X5_perform K) 7
set_option maxRecDepth 100000 in
theorem a_X5_perform {l : Launch} {E : En_} (hE : EOK_ E)   : All_ (Snd_ l E yX5_perform.cls cX5_perform 7 (none) (.code yX5_perform cX5_perform 7 (none) :: G_) (rm_ 3)) (P_X5_perform E.2.2.2.1 ) :=
  all_c (s_ild_n (q := 3) (by decide +kernel) rfl)
  <| all_c (s_ifne (off := 51) (by decide +kernel) (by decide))
  <| all_c (s_ald_n (q := 0) (by decide +kernel) rfl)
  <| all_c (g_5_0 (by decide +kernel) fl_RX5_9)
  <| all_c (s_ild_n (q := 1) (by decide +kernel) rfl)
  <| all_c (s_dup2 (by decide +kernel))
  <| all_c (s_iald (by decide +kernel))
  <| all_c (s_ald_n (q := 0) (by decide +kernel) rfl)
  <| all_c (g_5_9 (by decide +kernel) fl_RX5_28)
  <| all_c (s_ild_n (q := 1) (by decide +kernel) rfl)
  <| all_c (s_ild_n (q := 2) (by decide +kernel) rfl)
  <| all_c (s_callV (by decide +kernel) (t_X0_readTime hE) cl_X0_readTime ml_RX5_68 im_X0_readTime se_X0_readTime (by decide) rfl (rm_lt (by decide)))
  <| all_c (s_isub (by decide +kernel))
  <| all_c (s_iast (by decide +kernel))
  <| all_c (s_ald_n (q := 0) (by decide +kernel) rfl)
  <| all_c (g_5_3 (by decide +kernel) fl_RX5_21)
  <| all_c (s_ild_n (q := 1) (by decide +kernel) rfl)
  <| all_c (s_bipush (n := 16) (by decide +kernel) (by decide))
  <| all_c (s_imul (by decide +kernel))
  <| all_c (s_ild_n (q := 2) (by decide +kernel) rfl)
  <| all_c (s_iadd (by decide +kernel))
  <| all_c (s_ald_n (q := 0) (by decide +kernel) rfl)
  <| all_c (s_ild_n (q := 1) (by decide +kernel) rfl)
  <| all_c (s_ild_n (q := 2) (by decide +kernel) rfl)
  <| all_c (s_callV (by decide +kernel) (t_X5_partsIfRead hE) cl_X5_partsIfRead ml_RX5_79 im_X5_partsIfRead se_X5_partsIfRead (by decide) rfl (rm_lt (by decide)))
  <| all_c (s_iast (by decide +kernel))
  <| all_c (s_ald_n (q := 0) (by decide +kernel) rfl)
  <| all_c (g_5_1 (by decide +kernel) fl_RX5_15)
  <| all_c (s_ild_n (q := 1) (by decide +kernel) rfl)
  <| all_c (s_dup2 (by decide +kernel))
  <| all_c (s_iald (by decide +kernel))
  <| all_c (s_iconst (n := 1) (by decide +kernel) (by decide))
  <| all_c (s_ild_n (q := 2) (by decide +kernel) rfl)
  <| all_c (s_ishl (by decide +kernel))
  <| all_c (s_ior (by decide +kernel))
  <| all_c (s_iast (by decide +kernel))
  <| all_c (s_vret (by decide +kernel) rfl)
  <| all_c (s_ald_n (q := 0) (by decide +kernel) rfl)
  <| all_c (g_5_9 (by decide +kernel) fl_RX5_28)
  <| all_c (s_ild_n (q := 2) (by decide +kernel) rfl)
  <| all_c (s_ild_n (q := 3) (by decide +kernel) rfl)
  <| all_c (s_callV (by decide +kernel) (t_X0_tellTime hE) cl_X0_tellTime ml_RX5_72 im_X0_tellTime se_X0_tellTime (by decide) rfl (rm_lt (by decide)))
  <| all_c (s_ist (by decide +kernel))
  <| all_c (s_ald_n (q := 0) (by decide +kernel) rfl)
  <| all_c (g_5_0 (by decide +kernel) fl_RX5_9)
  <| all_c (s_ild_n (q := 1) (by decide +kernel) rfl)
  <| all_c (s_dup2 (by decide +kernel))
  <| all_c (s_iald (by decide +kernel))
  <| all_c (s_ild (by decide +kernel))
  <| all_c (s_isub (by decide +kernel))
  <| all_c (s_iast (by decide +kernel))
  <| all_c (s_iconst (n := 0) (by decide +kernel) (by decide))
  <| all_c (s_ist (by decide +kernel))
  <| all_c (s_ild (by decide +kernel))
  <| all_c (s_ald_n (q := 0) (by decide +kernel) rfl)
  <| all_c (g_5_9 (by decide +kernel) fl_RX5_28)
  <| all_c (g_0_12 (by decide +kernel) fl_RX5_32)
  <| all_c (s_cmpge (off := 40) (by decide +kernel) (by decide))
  <| all_c (s_ild (by decide +kernel))
  <| all_c (s_ild (by decide +kernel))
  <| all_c (s_ishr (by decide +kernel))
  <| all_c (s_iconst (n := 1) (by decide +kernel) (by decide))
  <| all_c (s_iand (by decide +kernel))
  <| all_c (s_ifeq (off := 24) (by decide +kernel) (by decide))
  <| all_c (s_ald_n (q := 0) (by decide +kernel) rfl)
  <| all_c (g_5_0 (by decide +kernel) fl_RX5_9)
  <| all_c (s_ild (by decide +kernel))
  <| all_c (s_dup2 (by decide +kernel))
  <| all_c (s_iald (by decide +kernel))
  <| all_c (s_ild (by decide +kernel))
  <| all_c (s_isub (by decide +kernel))
  <| all_c (s_iast (by decide +kernel))
  <| all_c (s_ald_n (q := 0) (by decide +kernel) rfl)
  <| all_c (s_ild (by decide +kernel))
  <| all_c (s_ild_n (q := 2) (by decide +kernel) rfl)
  <| all_c (s_ild_n (q := 1) (by decide +kernel) rfl)
  <| all_c (s_ild_n (q := 3) (by decide +kernel) rfl)
  <| all_c (s_callV (by decide +kernel) (t_X5_hear hE) cl_X5_hear ml_RX5_82 im_X5_hear se_X5_hear (by decide) rfl (rm_lt (by decide)))
  <| all_c (s_inc (n := 1) (by decide +kernel) (by decide))
  <| all_c (s_goto (off := (-46)) (by decide +kernel) (by decide))
  <| all_c (s_vret (by decide +kernel) rfl)
  <| all_n
theorem t_X5_perform {l : Launch} {E : En_} (hE : EOK_ E) : Good_ l E yX5_perform (.code yX5_perform cX5_perform 7 (none) :: G_) (rm_ 3) (f_X5_perform E.2.2.2.1) := good_all hE (by decide +kernel) (a_X5_perform hE)
noncomputable def P_X5_withTime (K : Sh_)  : List (Nat × Op_) := [(0, o_ic 0 1),
  (1, o_ist 2 1),
  (2, o_ic 0 1),
  (3, o_ist 3 1),
  (4, o_ild 3 1),
  (5, o_ald 0 1),
  (6, o_gR K 5 9),
  (9, o_gI K 0 12),
  (12, o_cmpge 37),
  (15, o_ald 0 1),
  (16, o_gF K 5 0),
  (19, o_ild 3 1),
  (20, o_iald K),
  (21, o_ild 1 1),
  (22, o_cmplt 31),
  (25, o_ild 2 1),
  (26, o_ic 1 1),
  (27, o_ild 3 1),
  (28, o_ishl),
  (29, o_ior),
  (30, o_ist 2 1),
  (31, o_inc 3 1),
  (34, o_goto 4),
  (37, o_ild 2 1),
  (38, o_iret)]
noncomputable def f_X5_withTime (K : Sh_) : Fn_ := fn_ (P_X5_withTime K) 4
set_option maxRecDepth 100000 in
theorem a_X5_withTime {l : Launch} {E : En_} (hE : EOK_ E)   : All_ (Snd_ l E yX5_withTime.cls cX5_withTime 4 (some .int) (.code yX5_withTime cX5_withTime 4 (some .int) :: G_) (rm_ 1)) (P_X5_withTime E.2.2.2.1 ) :=
  all_c (s_iconst (n := 0) (by decide +kernel) (by decide))
  <| all_c (s_ist_n (q := 2) (by decide +kernel) rfl)
  <| all_c (s_iconst (n := 0) (by decide +kernel) (by decide))
  <| all_c (s_ist_n (q := 3) (by decide +kernel) rfl)
  <| all_c (s_ild_n (q := 3) (by decide +kernel) rfl)
  <| all_c (s_ald_n (q := 0) (by decide +kernel) rfl)
  <| all_c (g_5_9 (by decide +kernel) fl_RX5_28)
  <| all_c (g_0_12 (by decide +kernel) fl_RX5_32)
  <| all_c (s_cmpge (off := 25) (by decide +kernel) (by decide))
  <| all_c (s_ald_n (q := 0) (by decide +kernel) rfl)
  <| all_c (g_5_0 (by decide +kernel) fl_RX5_9)
  <| all_c (s_ild_n (q := 3) (by decide +kernel) rfl)
  <| all_c (s_iald (by decide +kernel))
  <| all_c (s_ild_n (q := 1) (by decide +kernel) rfl)
  <| all_c (s_cmplt (off := 9) (by decide +kernel) (by decide))
  <| all_c (s_ild_n (q := 2) (by decide +kernel) rfl)
  <| all_c (s_iconst (n := 1) (by decide +kernel) (by decide))
  <| all_c (s_ild_n (q := 3) (by decide +kernel) rfl)
  <| all_c (s_ishl (by decide +kernel))
  <| all_c (s_ior (by decide +kernel))
  <| all_c (s_ist_n (q := 2) (by decide +kernel) rfl)
  <| all_c (s_inc (n := 1) (by decide +kernel) (by decide))
  <| all_c (s_goto (off := (-30)) (by decide +kernel) (by decide))
  <| all_c (s_ild_n (q := 2) (by decide +kernel) rfl)
  <| all_c (s_iret (by decide +kernel) rfl)
  <| all_n
theorem t_X5_withTime {l : Launch} {E : En_} (hE : EOK_ E) : Good_ l E yX5_withTime (.code yX5_withTime cX5_withTime 4 (some .int) :: G_) (rm_ 1) (f_X5_withTime E.2.2.2.1) := good_all hE (by decide +kernel) (a_X5_withTime hE)
noncomputable def P_X5_wrongOf (K : Sh_)  : List (Nat × Op_) := [(0, o_ild 3 1),
  (1, o_ifne 28),
  (4, o_ald 0 1),
  (5, o_gF K 5 0),
  (8, o_ild 1 1),
  (9, o_iald K),
  (10, o_ald 0 1),
  (11, o_gR K 5 9),
  (14, o_ild 1 1),
  (15, o_ild 2 1),
  (16, o_callV K 0 (f_X0_readTime K) 2),
  (19, o_cmpge 26),
  (22, o_ic 1 1),
  (23, o_goto 27),
  (26, o_ic 0 1),
  (27, o_iret),
  (28, o_ald 0 1),
  (29, o_gR K 5 9),
  (32, o_ild 2 1),
  (33, o_ild 3 1),
  (34, o_callV K 0 (f_X0_tellTime K) 2),
  (37, o_ist 5 2),
  (39, o_ald 0 1),
  (40, o_gF K 5 0),
  (43, o_ild 1 1),
  (44, o_iald K),
  (45, o_ild 5 2),
  (47, o_cmplt 64),
  (50, o_ild 4 2),
  (52, o_ald 0 1),
  (53, o_ild 5 2),
  (55, o_callV K 5 (f_X5_withTime K) 1),
  (58, o_ic (-1) 1),
  (59, o_ixor),
  (60, o_iand),
  (61, o_ifeq 66),
  (64, o_ic 1 1),
  (65, o_iret),
  (66, o_ald 0 1),
  (67, o_gF K 5 3),
  (70, o_ild 1 1),
  (71, o_ic 16 2),
  (73, o_imul),
  (74, o_ild 2 1),
  (75, o_iadd),
  (76, o_iald K),
  (77, o_ifne 84),
  (80, o_ic 2 1),
  (81, o_goto 85),
  (84, o_ic 0 1),
  (85, o_iret)]
noncomputable def f_X5_wrongOf (K : Sh_) : Fn_ := fn_ (P_X5_wrongOf K) 6
set_option maxRecDepth 100000 in
theorem a_X5_wrongOf {l : Launch} {E : En_} (hE : EOK_ E)   : All_ (Snd_ l E yX5_wrongOf.cls cX5_wrongOf 6 (some .int) (.code yX5_wrongOf cX5_wrongOf 6 (some .int) :: G_) (rm_ 3)) (P_X5_wrongOf E.2.2.2.1 ) :=
  all_c (s_ild_n (q := 3) (by decide +kernel) rfl)
  <| all_c (s_ifne (off := 27) (by decide +kernel) (by decide))
  <| all_c (s_ald_n (q := 0) (by decide +kernel) rfl)
  <| all_c (g_5_0 (by decide +kernel) fl_RX5_9)
  <| all_c (s_ild_n (q := 1) (by decide +kernel) rfl)
  <| all_c (s_iald (by decide +kernel))
  <| all_c (s_ald_n (q := 0) (by decide +kernel) rfl)
  <| all_c (g_5_9 (by decide +kernel) fl_RX5_28)
  <| all_c (s_ild_n (q := 1) (by decide +kernel) rfl)
  <| all_c (s_ild_n (q := 2) (by decide +kernel) rfl)
  <| all_c (s_callV (by decide +kernel) (t_X0_readTime hE) cl_X0_readTime ml_RX5_68 im_X0_readTime se_X0_readTime (by decide) rfl (rm_lt (by decide)))
  <| all_c (s_cmpge (off := 7) (by decide +kernel) (by decide))
  <| all_c (s_iconst (n := 1) (by decide +kernel) (by decide))
  <| all_c (s_goto (off := 4) (by decide +kernel) (by decide))
  <| all_c (s_iconst (n := 0) (by decide +kernel) (by decide))
  <| all_c (s_iret (by decide +kernel) rfl)
  <| all_c (s_ald_n (q := 0) (by decide +kernel) rfl)
  <| all_c (g_5_9 (by decide +kernel) fl_RX5_28)
  <| all_c (s_ild_n (q := 2) (by decide +kernel) rfl)
  <| all_c (s_ild_n (q := 3) (by decide +kernel) rfl)
  <| all_c (s_callV (by decide +kernel) (t_X0_tellTime hE) cl_X0_tellTime ml_RX5_72 im_X0_tellTime se_X0_tellTime (by decide) rfl (rm_lt (by decide)))
  <| all_c (s_ist (by decide +kernel))
  <| all_c (s_ald_n (q := 0) (by decide +kernel) rfl)
  <| all_c (g_5_0 (by decide +kernel) fl_RX5_9)
  <| all_c (s_ild_n (q := 1) (by decide +kernel) rfl)
  <| all_c (s_iald (by decide +kernel))
  <| all_c (s_ild (by decide +kernel))
  <| all_c (s_cmplt (off := 17) (by decide +kernel) (by decide))
  <| all_c (s_ild (by decide +kernel))
  <| all_c (s_ald_n (q := 0) (by decide +kernel) rfl)
  <| all_c (s_ild (by decide +kernel))
  <| all_c (s_callV (by decide +kernel) (t_X5_withTime hE) cl_X5_withTime ml_RX5_75 im_X5_withTime se_X5_withTime (by decide) rfl (rm_lt (by decide)))
  <| all_c (s_iconst (n := (-1)) (by decide +kernel) (by decide))
  <| all_c (s_ixor (by decide +kernel))
  <| all_c (s_iand (by decide +kernel))
  <| all_c (s_ifeq (off := 5) (by decide +kernel) (by decide))
  <| all_c (s_iconst (n := 1) (by decide +kernel) (by decide))
  <| all_c (s_iret (by decide +kernel) rfl)
  <| all_c (s_ald_n (q := 0) (by decide +kernel) rfl)
  <| all_c (g_5_3 (by decide +kernel) fl_RX5_21)
  <| all_c (s_ild_n (q := 1) (by decide +kernel) rfl)
  <| all_c (s_bipush (n := 16) (by decide +kernel) (by decide))
  <| all_c (s_imul (by decide +kernel))
  <| all_c (s_ild_n (q := 2) (by decide +kernel) rfl)
  <| all_c (s_iadd (by decide +kernel))
  <| all_c (s_iald (by decide +kernel))
  <| all_c (s_ifne (off := 7) (by decide +kernel) (by decide))
  <| all_c (s_iconst (n := 2) (by decide +kernel) (by decide))
  <| all_c (s_goto (off := 4) (by decide +kernel) (by decide))
  <| all_c (s_iconst (n := 0) (by decide +kernel) (by decide))
  <| all_c (s_iret (by decide +kernel) rfl)
  <| all_n
theorem t_X5_wrongOf {l : Launch} {E : En_} (hE : EOK_ E) : Good_ l E yX5_wrongOf (.code yX5_wrongOf cX5_wrongOf 6 (some .int) :: G_) (rm_ 3) (f_X5_wrongOf E.2.2.2.1) := good_all hE (by decide +kernel) (a_X5_wrongOf hE)
noncomputable def P_X3_readMissed (K : Sh_)  : List (Nat × Op_) := [(0, o_ic 0 1),
  (1, o_aft [3] (o_ist 2 1)),
  (2, o_ild 2 1),
  (3, o_ald 0 1),
  (4, o_gI K 3 2),
  (7, o_cmpge 65),
  (10, o_ald 0 1),
  (11, o_gF K 3 1),
  (14, o_ild 2 1),
  (15, o_iald K),
  (16, o_ist 3 1),
  (17, o_ald 0 1),
  (18, o_gF K 3 0),
  (21, o_gF K 5 1),
  (24, o_ild 1 1),
  (25, o_iald K),
  (26, o_ild 3 1),
  (27, o_ishr),
  (28, o_ic 1 1),
  (29, o_iand),
  (30, o_ifne 59),
  (33, o_ald 0 1),
  (34, o_gF K 3 0),
  (37, o_ild 1 1),
  (38, o_ild 3 1),
  (39, o_ic 0 1),
  (40, o_ic 0 1),
  (41, o_callV K 5 (f_X5_wrongOf K) 4),
  (44, o_ifeq 48),
  (47, o_vret),
  (48, o_ald 0 1),
  (49, o_gF K 3 0),
  (52, o_ild 1 1),
  (53, o_ild 3 1),
  (54, o_ic 0 1),
  (55, o_ic 0 1),
  (56, o_callV K 5 (f_X5_perform K) 4),
  (59, o_inc 2 1),
  (62, o_aft [3] (o_goto 2)),
  (65, o_vret)]
noncomputable def f_X3_readMissed (K : Sh_) : Fn_ := fn_ (P_X3_readMissed K) 4
set_option maxRecDepth 100000 in
theorem a_X3_readMissed {l : Launch} {E : En_} (hE : EOK_ E)   : All_ (Snd_ l E yX3_readMissed.cls cX3_readMissed 4 (none) (.code yX3_readMissed cX3_readMissed 4 (none) :: G_) (rm_ 4)) (P_X3_readMissed E.2.2.2.1 ) :=
  all_c (s_iconst (n := 0) (by decide +kernel) (by decide))
  <| all_c (s_aft (s_ist_n (q := 2) (by decide +kernel) rfl))
  <| all_c (s_ild_n (q := 2) (by decide +kernel) rfl)
  <| all_c (s_ald_n (q := 0) (by decide +kernel) rfl)
  <| all_c (g_3_2 (by decide +kernel) fl_RX3_29)
  <| all_c (s_cmpge (off := 58) (by decide +kernel) (by decide))
  <| all_c (s_ald_n (q := 0) (by decide +kernel) rfl)
  <| all_c (g_3_1 (by decide +kernel) fl_RX3_22)
  <| all_c (s_ild_n (q := 2) (by decide +kernel) rfl)
  <| all_c (s_iald (by decide +kernel))
  <| all_c (s_ist_n (q := 3) (by decide +kernel) rfl)
  <| all_c (s_ald_n (q := 0) (by decide +kernel) rfl)
  <| all_c (g_3_0 (by decide +kernel) fl_RX3_14)
  <| all_c (g_5_1 (by decide +kernel) fl_RX3_91)
  <| all_c (s_ild_n (q := 1) (by decide +kernel) rfl)
  <| all_c (s_iald (by decide +kernel))
  <| all_c (s_ild_n (q := 3) (by decide +kernel) rfl)
  <| all_c (s_ishr (by decide +kernel))
  <| all_c (s_iconst (n := 1) (by decide +kernel) (by decide))
  <| all_c (s_iand (by decide +kernel))
  <| all_c (s_ifne (off := 29) (by decide +kernel) (by decide))
  <| all_c (s_ald_n (q := 0) (by decide +kernel) rfl)
  <| all_c (g_3_0 (by decide +kernel) fl_RX3_14)
  <| all_c (s_ild_n (q := 1) (by decide +kernel) rfl)
  <| all_c (s_ild_n (q := 3) (by decide +kernel) rfl)
  <| all_c (s_iconst (n := 0) (by decide +kernel) (by decide))
  <| all_c (s_iconst (n := 0) (by decide +kernel) (by decide))
  <| all_c (s_callV (by decide +kernel) (t_X5_wrongOf hE) cl_X5_wrongOf ml_RX3_76 im_X5_wrongOf se_X5_wrongOf (by decide) rfl (rm_lt (by decide)))
  <| all_c (s_ifeq (off := 4) (by decide +kernel) (by decide))
  <| all_c (s_vret (by decide +kernel) rfl)
  <| all_c (s_ald_n (q := 0) (by decide +kernel) rfl)
  <| all_c (g_3_0 (by decide +kernel) fl_RX3_14)
  <| all_c (s_ild_n (q := 1) (by decide +kernel) rfl)
  <| all_c (s_ild_n (q := 3) (by decide +kernel) rfl)
  <| all_c (s_iconst (n := 0) (by decide +kernel) (by decide))
  <| all_c (s_iconst (n := 0) (by decide +kernel) (by decide))
  <| all_c (s_callV (by decide +kernel) (t_X5_perform hE) cl_X5_perform ml_RX3_80 im_X5_perform se_X5_perform (by decide) rfl (rm_lt (by decide)))
  <| all_c (s_inc (n := 1) (by decide +kernel) (by decide))
  <| all_c (s_aft (s_goto (off := (-60)) (by decide +kernel) (by decide)))
  <| all_c (s_vret (by decide +kernel) rfl)
  <| all_n
theorem t_X3_readMissed {l : Launch} {E : En_} (hE : EOK_ E) : Good_ l E yX3_readMissed (.code yX3_readMissed cX3_readMissed 4 (none) :: G_) (rm_ 4) (f_X3_readMissed E.2.2.2.1) := good_all hE (by decide +kernel) (a_X3_readMissed hE)
noncomputable def P_X5_inAll (K : Sh_)  : List (Nat × Op_) := [(0, o_ic 0 1),
  (1, o_ist 2 1),
  (2, o_ic 0 1),
  (3, o_ist 3 1),
  (4, o_ild 3 1),
  (5, o_ald 0 1),
  (6, o_gR K 5 9),
  (9, o_gI K 0 11),
  (12, o_cmpge 47),
  (15, o_ild 2 1),
  (16, o_ald 0 1),
  (17, o_gR K 5 9),
  (20, o_gF K 0 2),
  (23, o_ild 3 1),
  (24, o_iald K),
  (25, o_ald 0 1),
  (26, o_gF K 5 3),
  (29, o_ild 1 1),
  (30, o_ic 16 2),
  (32, o_imul),
  (33, o_ild 3 1),
  (34, o_iadd),
  (35, o_iald K),
  (36, o_callS (f_X0_ofMillion K) 2),
  (39, o_iadd),
  (40, o_ist 2 1),
  (41, o_inc 3 1),
  (44, o_goto 4),
  (47, o_ild 2 1),
  (48, o_iret)]
noncomputable def f_X5_inAll (K : Sh_) : Fn_ := fn_ (P_X5_inAll K) 4
set_option maxRecDepth 100000 in
theorem a_X5_inAll {l : Launch} {E : En_} (hE : EOK_ E)   : All_ (Snd_ l E yX5_inAll.cls cX5_inAll 4 (some .int) (.code yX5_inAll cX5_inAll 4 (some .int) :: G_) (rm_ 2)) (P_X5_inAll E.2.2.2.1 ) :=
  all_c (s_iconst (n := 0) (by decide +kernel) (by decide))
  <| all_c (s_ist_n (q := 2) (by decide +kernel) rfl)
  <| all_c (s_iconst (n := 0) (by decide +kernel) (by decide))
  <| all_c (s_ist_n (q := 3) (by decide +kernel) rfl)
  <| all_c (s_ild_n (q := 3) (by decide +kernel) rfl)
  <| all_c (s_ald_n (q := 0) (by decide +kernel) rfl)
  <| all_c (g_5_9 (by decide +kernel) fl_RX5_28)
  <| all_c (g_0_11 (by decide +kernel) fl_RX5_106)
  <| all_c (s_cmpge (off := 35) (by decide +kernel) (by decide))
  <| all_c (s_ild_n (q := 2) (by decide +kernel) rfl)
  <| all_c (s_ald_n (q := 0) (by decide +kernel) rfl)
  <| all_c (g_5_9 (by decide +kernel) fl_RX5_28)
  <| all_c (g_0_2 (by decide +kernel) fl_RX5_109)
  <| all_c (s_ild_n (q := 3) (by decide +kernel) rfl)
  <| all_c (s_iald (by decide +kernel))
  <| all_c (s_ald_n (q := 0) (by decide +kernel) rfl)
  <| all_c (g_5_3 (by decide +kernel) fl_RX5_21)
  <| all_c (s_ild_n (q := 1) (by decide +kernel) rfl)
  <| all_c (s_bipush (n := 16) (by decide +kernel) (by decide))
  <| all_c (s_imul (by decide +kernel))
  <| all_c (s_ild_n (q := 3) (by decide +kernel) rfl)
  <| all_c (s_iadd (by decide +kernel))
  <| all_c (s_iald (by decide +kernel))
  <| all_c (s_callS (by decide +kernel) (t_X0_ofMillion hE) cl_X0_ofMillion ml_RX5_103 sm_X0_ofMillion (rm_lt (by decide)))
  <| all_c (s_iadd (by decide +kernel))
  <| all_c (s_ist_n (q := 2) (by decide +kernel) rfl)
  <| all_c (s_inc (n := 1) (by decide +kernel) (by decide))
  <| all_c (s_goto (off := (-40)) (by decide +kernel) (by decide))
  <| all_c (s_ild_n (q := 2) (by decide +kernel) rfl)
  <| all_c (s_iret (by decide +kernel) rfl)
  <| all_n
theorem t_X5_inAll {l : Launch} {E : En_} (hE : EOK_ E) : Good_ l E yX5_inAll (.code yX5_inAll cX5_inAll 4 (some .int) :: G_) (rm_ 2) (f_X5_inAll E.2.2.2.1) := good_all hE (by decide +kernel) (a_X5_inAll hE)
noncomputable def P_X3_offerHelp (K : Sh_)  : List (Nat × Op_) := [(0, o_ald 0 1),
  (1, o_gI K 3 3),
  (4, o_ald 0 1),
  (5, o_gF K 3 0),
  (8, o_ild 1 1),
  (9, o_callV K 5 (f_X5_inAll K) 1),
  (12, o_isub),
  (13, o_ist 2 1),
  (14, o_ald 0 1),
  (15, o_ild 1 1),
  (16, o_callV K 3 (f_X3_readMissed K) 1),
  (19, o_ild 2 1),
  (20, o_ald 0 1),
  (21, o_gF K 3 0),
  (24, o_ild 1 1),
  (25, o_callV K 5 (f_X5_inAll K) 1),
  (28, o_iadd),
  (29, o_ist 3 1),
  (30, o_ild 3 1),
  (31, o_ald 0 1),
  (32, o_gI K 3 6),
  (35, o_cmple 48),
  (38, o_ald 0 1),
  (39, o_ild 3 1),
  (40, o_pI K 3 6),
  (43, o_ald 0 1),
  (44, o_ild 1 1),
  (45, o_pI K 3 5),
  (48, o_vret)]
noncomputable def f_X3_offerHelp (K : Sh_) : Fn_ := fn_ (P_X3_offerHelp K) 4
set_option maxRecDepth 100000 in
theorem a_X3_offerHelp {l : Launch} {E : En_} (hE : EOK_ E)   : All_ (Snd_ l E yX3_offerHelp.cls cX3_offerHelp 4 (none) (.code yX3_offerHelp cX3_offerHelp 4 (none) :: G_) (rm_ 5)) (P_X3_offerHelp E.2.2.2.1 ) :=
  all_c (s_ald_n (q := 0) (by decide +kernel) rfl)
  <| all_c (g_3_3 (by decide +kernel) fl_RX3_56)
  <| all_c (s_ald_n (q := 0) (by decide +kernel) rfl)
  <| all_c (g_3_0 (by decide +kernel) fl_RX3_14)
  <| all_c (s_ild_n (q := 1) (by decide +kernel) rfl)
  <| all_c (s_callV (by decide +kernel) (t_X5_inAll hE) cl_X5_inAll ml_RX3_84 im_X5_inAll se_X5_inAll (by decide) rfl (rm_lt (by decide)))
  <| all_c (s_isub (by decide +kernel))
  <| all_c (s_ist_n (q := 2) (by decide +kernel) rfl)
  <| all_c (s_ald_n (q := 0) (by decide +kernel) rfl)
  <| all_c (s_ild_n (q := 1) (by decide +kernel) rfl)
  <| all_c (s_callV (by decide +kernel) (t_X3_readMissed hE) cl_X3_readMissed ml_RX3_88 im_X3_readMissed se_X3_readMissed (by decide) rfl (rm_lt (by decide)))
  <| all_c (s_ild_n (q := 2) (by decide +kernel) rfl)
  <| all_c (s_ald_n (q := 0) (by decide +kernel) rfl)
  <| all_c (g_3_0 (by decide +kernel) fl_RX3_14)
  <| all_c (s_ild_n (q := 1) (by decide +kernel) rfl)
  <| all_c (s_callV (by decide +kernel) (t_X5_inAll hE) cl_X5_inAll ml_RX3_84 im_X5_inAll se_X5_inAll (by decide) rfl (rm_lt (by decide)))
  <| all_c (s_iadd (by decide +kernel))
  <| all_c (s_ist_n (q := 3) (by decide +kernel) rfl)
  <| all_c (s_ild_n (q := 3) (by decide +kernel) rfl)
  <| all_c (s_ald_n (q := 0) (by decide +kernel) rfl)
  <| all_c (g_3_6 (by decide +kernel) fl_RX3_61)
  <| all_c (s_cmple (off := 13) (by decide +kernel) (by decide))
  <| all_c (s_ald_n (q := 0) (by decide +kernel) rfl)
  <| all_c (s_ild_n (q := 3) (by decide +kernel) rfl)
  <| all_c (p_3_6 (by decide +kernel) fl_RX3_61)
  <| all_c (s_ald_n (q := 0) (by decide +kernel) rfl)
  <| all_c (s_ild_n (q := 1) (by decide +kernel) rfl)
  <| all_c (p_3_5 (by decide +kernel) fl_RX3_58)
  <| all_c (s_vret (by decide +kernel) rfl)
  <| all_n
theorem t_X3_offerHelp {l : Launch} {E : En_} (hE : EOK_ E) : Good_ l E yX3_offerHelp (.code yX3_offerHelp cX3_offerHelp 4 (none) :: G_) (rm_ 5) (f_X3_offerHelp E.2.2.2.1) := good_all hE (by decide +kernel) (a_X3_offerHelp hE)
noncomputable def P_X3_tryAct (K : Sh_)  : List (Nat × Op_) := [(0, o_ald 1 1),
  (1, o_gF K 6 3),
  (4, o_ild 2 1),
  (5, o_iald K),
  (6, o_ist 4 2),
  (8, o_ild 3 1),
  (9, o_ic (-1) 1),
  (10, o_cmpeq 23),
  (13, o_ild 4 2),
  (15, o_ic 1 1),
  (16, o_ild 3 1),
  (17, o_ishl),
  (18, o_ic (-1) 1),
  (19, o_ixor),
  (20, o_iand),
  (21, o_ist 4 2),
  (23, o_ald 1 1),
  (24, o_gF K 6 0),
  (27, o_ild 2 1),
  (28, o_iald K),
  (29, o_ild 3 1),
  (30, o_cmpeq 47),
  (33, o_ald 1 1),
  (34, o_gF K 6 2),
  (37, o_ild 2 1),
  (38, o_iald K),
  (39, o_ifeq 49),
  (42, o_ild 4 2),
  (44, o_ifne 49),
  (47, o_ic 0 1),
  (48, o_zret),
  (49, o_ald 0 1),
  (50, o_gF K 3 0),
  (53, o_ald 1 1),
  (54, o_gF K 6 0),
  (57, o_ild 2 1),
  (58, o_iald K),
  (59, o_ald 1 1),
  (60, o_gF K 6 1),
  (63, o_ild 2 1),
  (64, o_iald K),
  (65, o_ald 1 1),
  (66, o_gF K 6 2),
  (69, o_ild 2 1),
  (70, o_iald K),
  (71, o_ild 4 2),
  (73, o_callV K 5 (f_X5_wrongOf K) 4),
  (76, o_ifeq 81),
  (79, o_ic 0 1),
  (80, o_zret),
  (81, o_ald 0 1),
  (82, o_gF K 3 0),
  (85, o_ald 1 1),
  (86, o_gF K 6 0),
  (89, o_ild 2 1),
  (90, o_iald K),
  (91, o_ald 1 1),
  (92, o_gF K 6 1),
  (95, o_ild 2 1),
  (96, o_iald K),
  (97, o_ald 1 1),
  (98, o_gF K 6 2),
  (101, o_ild 2 1),
  (102, o_iald K),
  (103, o_ild 4 2),
  (105, o_callV K 5 (f_X5_perform K) 4),
  (108, o_ic 1 1),
  (109, o_zret)]
noncomputable def f_X3_tryAct (K : Sh_) : Fn_ := fn_ (P_X3_tryAct K) 5
set_option maxRecDepth 100000 in
theorem a_X3_tryAct {l : Launch} {E : En_} (hE : EOK_ E)   : All_ (Snd_ l E yX3_tryAct.cls cX3_tryAct 5 (some .boolean) (.code yX3_tryAct cX3_tryAct 5 (some .boolean) :: G_) (rm_ 4)) (P_X3_tryAct E.2.2.2.1 ) :=
  all_c (s_ald_n (q := 1) (by decide +kernel) rfl)
  <| all_c (g_6_3 (by decide +kernel) fl_RX3_73)
  <| all_c (s_ild_n (q := 2) (by decide +kernel) rfl)
  <| all_c (s_iald (by decide +kernel))
  <| all_c (s_ist (by decide +kernel))
  <| all_c (s_ild_n (q := 3) (by decide +kernel) rfl)
  <| all_c (s_iconst (n := (-1)) (by decide +kernel) (by decide))
  <| all_c (s_cmpeq (off := 13) (by decide +kernel) (by decide))
  <| all_c (s_ild (by decide +kernel))
  <| all_c (s_iconst (n := 1) (by decide +kernel) (by decide))
  <| all_c (s_ild_n (q := 3) (by decide +kernel) rfl)
  <| all_c (s_ishl (by decide +kernel))
  <| all_c (s_iconst (n := (-1)) (by decide +kernel) (by decide))
  <| all_c (s_ixor (by decide +kernel))
  <| all_c (s_iand (by decide +kernel))
  <| all_c (s_ist (by decide +kernel))
  <| all_c (s_ald_n (q := 1) (by decide +kernel) rfl)
  <| all_c (g_6_0 (by decide +kernel) fl_RX3_39)
  <| all_c (s_ild_n (q := 2) (by decide +kernel) rfl)
  <| all_c (s_iald (by decide +kernel))
  <| all_c (s_ild_n (q := 3) (by decide +kernel) rfl)
  <| all_c (s_cmpeq (off := 17) (by decide +kernel) (by decide))
  <| all_c (s_ald_n (q := 1) (by decide +kernel) rfl)
  <| all_c (g_6_2 (by decide +kernel) fl_RX3_42)
  <| all_c (s_ild_n (q := 2) (by decide +kernel) rfl)
  <| all_c (s_iald (by decide +kernel))
  <| all_c (s_ifeq (off := 10) (by decide +kernel) (by decide))
  <| all_c (s_ild (by decide +kernel))
  <| all_c (s_ifne (off := 5) (by decide +kernel) (by decide))
  <| all_c (s_iconst (n := 0) (by decide +kernel) (by decide))
  <| all_c (s_zret (by decide +kernel) rfl)
  <| all_c (s_ald_n (q := 0) (by decide +kernel) rfl)
  <| all_c (g_3_0 (by decide +kernel) fl_RX3_14)
  <| all_c (s_ald_n (q := 1) (by decide +kernel) rfl)
  <| all_c (g_6_0 (by decide +kernel) fl_RX3_39)
  <| all_c (s_ild_n (q := 2) (by decide +kernel) rfl)
  <| all_c (s_iald (by decide +kernel))
  <| all_c (s_ald_n (q := 1) (by decide +kernel) rfl)
  <| all_c (g_6_1 (by decide +kernel) fl_RX3_45)
  <| all_c (s_ild_n (q := 2) (by decide +kernel) rfl)
  <| all_c (s_iald (by decide +kernel))
  <| all_c (s_ald_n (q := 1) (by decide +kernel) rfl)
  <| all_c (g_6_2 (by decide +kernel) fl_RX3_42)
  <| all_c (s_ild_n (q := 2) (by decide +kernel) rfl)
  <| all_c (s_iald (by decide +kernel))
  <| all_c (s_ild (by decide +kernel))
  <| all_c (s_callV (by decide +kernel) (t_X5_wrongOf hE) cl_X5_wrongOf ml_RX3_76 im_X5_wrongOf se_X5_wrongOf (by decide) rfl (rm_lt (by decide)))
  <| all_c (s_ifeq (off := 5) (by decide +kernel) (by decide))
  <| all_c (s_iconst (n := 0) (by decide +kernel) (by decide))
  <| all_c (s_zret (by decide +kernel) rfl)
  <| all_c (s_ald_n (q := 0) (by decide +kernel) rfl)
  <| all_c (g_3_0 (by decide +kernel) fl_RX3_14)
  <| all_c (s_ald_n (q := 1) (by decide +kernel) rfl)
  <| all_c (g_6_0 (by decide +kernel) fl_RX3_39)
  <| all_c (s_ild_n (q := 2) (by decide +kernel) rfl)
  <| all_c (s_iald (by decide +kernel))
  <| all_c (s_ald_n (q := 1) (by decide +kernel) rfl)
  <| all_c (g_6_1 (by decide +kernel) fl_RX3_45)
  <| all_c (s_ild_n (q := 2) (by decide +kernel) rfl)
  <| all_c (s_iald (by decide +kernel))
  <| all_c (s_ald_n (q := 1) (by decide +kernel) rfl)
  <| all_c (g_6_2 (by decide +kernel) fl_RX3_42)
  <| all_c (s_ild_n (q := 2) (by decide +kernel) rfl)
  <| all_c (s_iald (by decide +kernel))
  <| all_c (s_ild (by decide +kernel))
  <| all_c (s_callV (by decide +kernel) (t_X5_perform hE) cl_X5_perform ml_RX3_80 im_X5_perform se_X5_perform (by decide) rfl (rm_lt (by decide)))
  <| all_c (s_iconst (n := 1) (by decide +kernel) (by decide))
  <| all_c (s_zret (by decide +kernel) rfl)
  <| all_n
theorem t_X3_tryAct {l : Launch} {E : En_} (hE : EOK_ E) : Good_ l E yX3_tryAct (.code yX3_tryAct cX3_tryAct 5 (some .boolean) :: G_) (rm_ 4) (f_X3_tryAct E.2.2.2.1) := good_all hE (by decide +kernel) (a_X3_tryAct hE)
noncomputable def P_X5_begin (K : Sh_)  : List (Nat × Op_) := [(0, o_ald 0 1),
  (1, o_ald 1 1),
  (2, o_pR K 5 9),
  (5, o_ic 0 1),
  (6, o_ist 2 1),
  (7, o_ild 2 1),
  (8, o_ald 0 1),
  (9, o_gR K 5 9),
  (12, o_gI K 0 12),
  (15, o_cmpge 53),
  (18, o_ald 0 1),
  (19, o_gF K 5 0),
  (22, o_ild 2 1),
  (23, o_ald 0 1),
  (24, o_gR K 5 9),
  (27, o_gF K 0 9),
  (30, o_ild 2 1),
  (31, o_iald K),
  (32, o_iast K),
  (33, o_ald 0 1),
  (34, o_gF K 5 1),
  (37, o_ild 2 1),
  (38, o_ic 0 1),
  (39, o_iast K),
  (40, o_ald 0 1),
  (41, o_gF K 5 2),
  (44, o_ild 2 1),
  (45, o_ic 0 1),
  (46, o_iast K),
  (47, o_inc 2 1),
  (50, o_goto 7),
  (53, o_ic 0 1),
  (54, o_ist 2 1),
  (55, o_ild 2 1),
  (56, o_ald 0 1),
  (57, o_gF K 5 3),
  (60, o_alen K),
  (61, o_cmpge 77),
  (64, o_ald 0 1),
  (65, o_gF K 5 3),
  (68, o_ild 2 1),
  (69, o_ic 0 1),
  (70, o_iast K),
  (71, o_inc 2 1),
  (74, o_goto 55),
  (77, o_ald 0 1),
  (78, o_ic (-1) 1),
  (79, o_pI K 5 4),
  (82, o_ald 0 1),
  (83, o_ic 0 1),
  (84, o_pI K 5 5),
  (87, o_vret)]
noncomputable def f_X5_begin (K : Sh_) : Fn_ := fn_ (P_X5_begin K) 3
set_option maxRecDepth 100000 in
theorem a_X5_begin {l : Launch} {E : En_} (hE : EOK_ E)   : All_ (Snd_ l E yX5_begin.cls cX5_begin 3 (none) (.code yX5_begin cX5_begin 3 (none) :: G_) (rm_ 1)) (P_X5_begin E.2.2.2.1 ) :=
  all_c (s_ald_n (q := 0) (by decide +kernel) rfl)
  <| all_c (s_ald_n (q := 1) (by decide +kernel) rfl)
  <| all_c (p_5_9 (by decide +kernel) fl_RX5_28)
  <| all_c (s_iconst (n := 0) (by decide +kernel) (by decide))
  <| all_c (s_ist_n (q := 2) (by decide +kernel) rfl)
  <| all_c (s_ild_n (q := 2) (by decide +kernel) rfl)
  <| all_c (s_ald_n (q := 0) (by decide +kernel) rfl)
  <| all_c (g_5_9 (by decide +kernel) fl_RX5_28)
  <| all_c (g_0_12 (by decide +kernel) fl_RX5_32)
  <| all_c (s_cmpge (off := 38) (by decide +kernel) (by decide))
  <| all_c (s_ald_n (q := 0) (by decide +kernel) rfl)
  <| all_c (g_5_0 (by decide +kernel) fl_RX5_9)
  <| all_c (s_ild_n (q := 2) (by decide +kernel) rfl)
  <| all_c (s_ald_n (q := 0) (by decide +kernel) rfl)
  <| all_c (g_5_9 (by decide +kernel) fl_RX5_28)
  <| all_c (g_0_9 (by decide +kernel) fl_RX5_37)
  <| all_c (s_ild_n (q := 2) (by decide +kernel) rfl)
  <| all_c (s_iald (by decide +kernel))
  <| all_c (s_iast (by decide +kernel))
  <| all_c (s_ald_n (q := 0) (by decide +kernel) rfl)
  <| all_c (g_5_1 (by decide +kernel) fl_RX5_15)
  <| all_c (s_ild_n (q := 2) (by decide +kernel) rfl)
  <| all_c (s_iconst (n := 0) (by decide +kernel) (by decide))
  <| all_c (s_iast (by decide +kernel))
  <| all_c (s_ald_n (q := 0) (by decide +kernel) rfl)
  <| all_c (g_5_2 (by decide +kernel) fl_RX5_18)
  <| all_c (s_ild_n (q := 2) (by decide +kernel) rfl)
  <| all_c (s_iconst (n := 0) (by decide +kernel) (by decide))
  <| all_c (s_iast (by decide +kernel))
  <| all_c (s_inc (n := 1) (by decide +kernel) (by decide))
  <| all_c (s_goto (off := (-43)) (by decide +kernel) (by decide))
  <| all_c (s_iconst (n := 0) (by decide +kernel) (by decide))
  <| all_c (s_ist_n (q := 2) (by decide +kernel) rfl)
  <| all_c (s_ild_n (q := 2) (by decide +kernel) rfl)
  <| all_c (s_ald_n (q := 0) (by decide +kernel) rfl)
  <| all_c (g_5_3 (by decide +kernel) fl_RX5_21)
  <| all_c (s_alen (by decide +kernel))
  <| all_c (s_cmpge (off := 16) (by decide +kernel) (by decide))
  <| all_c (s_ald_n (q := 0) (by decide +kernel) rfl)
  <| all_c (g_5_3 (by decide +kernel) fl_RX5_21)
  <| all_c (s_ild_n (q := 2) (by decide +kernel) rfl)
  <| all_c (s_iconst (n := 0) (by decide +kernel) (by decide))
  <| all_c (s_iast (by decide +kernel))
  <| all_c (s_inc (n := 1) (by decide +kernel) (by decide))
  <| all_c (s_goto (off := (-19)) (by decide +kernel) (by decide))
  <| all_c (s_ald_n (q := 0) (by decide +kernel) rfl)
  <| all_c (s_iconst (n := (-1)) (by decide +kernel) (by decide))
  <| all_c (p_5_4 (by decide +kernel) fl_RX5_24)
  <| all_c (s_ald_n (q := 0) (by decide +kernel) rfl)
  <| all_c (s_iconst (n := 0) (by decide +kernel) (by decide))
  <| all_c (p_5_5 (by decide +kernel) fl_RX5_40)
  <| all_c (s_vret (by decide +kernel) rfl)
  <| all_n
theorem t_X5_begin {l : Launch} {E : En_} (hE : EOK_ E) : Good_ l E yX5_begin (.code yX5_begin cX5_begin 3 (none) :: G_) (rm_ 1) (f_X5_begin E.2.2.2.1) := good_all hE (by decide +kernel) (a_X5_begin hE)
noncomputable def P_X5_sum (K : Sh_)  : List (Nat × Op_) := [(0, o_ic 0 1),
  (1, o_ist 1 1),
  (2, o_ic 0 1),
  (3, o_ist 2 1),
  (4, o_ild 2 1),
  (5, o_ald 0 1),
  (6, o_gR K 5 9),
  (9, o_gI K 0 12),
  (12, o_cmpge 29),
  (15, o_ild 1 1),
  (16, o_ald 0 1),
  (17, o_ild 2 1),
  (18, o_callV K 5 (f_X5_inAll K) 1),
  (21, o_iadd),
  (22, o_ist 1 1),
  (23, o_inc 2 1),
  (26, o_goto 4),
  (29, o_ild 1 1),
  (30, o_iret)]
noncomputable def f_X5_sum (K : Sh_) : Fn_ := fn_ (P_X5_sum K) 3
set_option maxRecDepth 100000 in
theorem a_X5_sum {l : Launch} {E : En_} (hE : EOK_ E)   : All_ (Snd_ l E yX5_sum.cls cX5_sum 3 (some .int) (.code yX5_sum cX5_sum 3 (some .int) :: G_) (rm_ 3)) (P_X5_sum E.2.2.2.1 ) :=
  all_c (s_iconst (n := 0) (by decide +kernel) (by decide))
  <| all_c (s_ist_n (q := 1) (by decide +kernel) rfl)
  <| all_c (s_iconst (n := 0) (by decide +kernel) (by decide))
  <| all_c (s_ist_n (q := 2) (by decide +kernel) rfl)
  <| all_c (s_ild_n (q := 2) (by decide +kernel) rfl)
  <| all_c (s_ald_n (q := 0) (by decide +kernel) rfl)
  <| all_c (g_5_9 (by decide +kernel) fl_RX5_28)
  <| all_c (g_0_12 (by decide +kernel) fl_RX5_32)
  <| all_c (s_cmpge (off := 17) (by decide +kernel) (by decide))
  <| all_c (s_ild_n (q := 1) (by decide +kernel) rfl)
  <| all_c (s_ald_n (q := 0) (by decide +kernel) rfl)
  <| all_c (s_ild_n (q := 2) (by decide +kernel) rfl)
  <| all_c (s_callV (by decide +kernel) (t_X5_inAll hE) cl_X5_inAll ml_RX5_112 im_X5_inAll se_X5_inAll (by decide) rfl (rm_lt (by decide)))
  <| all_c (s_iadd (by decide +kernel))
  <| all_c (s_ist_n (q := 1) (by decide +kernel) rfl)
  <| all_c (s_inc (n := 1) (by decide +kernel) (by decide))
  <| all_c (s_goto (off := (-22)) (by decide +kernel) (by decide))
  <| all_c (s_ild_n (q := 1) (by decide +kernel) rfl)
  <| all_c (s_iret (by decide +kernel) rfl)
  <| all_n
theorem t_X5_sum {l : Launch} {E : En_} (hE : EOK_ E) : Good_ l E yX5_sum (.code yX5_sum cX5_sum 3 (some .int) :: G_) (rm_ 3) (f_X5_sum E.2.2.2.1) := good_all hE (by decide +kernel) (a_X5_sum hE)
noncomputable def P_X3_fall (K : Sh_)  : List (Nat × Op_) := [(0, o_ald 0 1),
  (1, o_gF K 3 0),
  (4, o_ald 1 1),
  (5, o_callV K 5 (f_X5_begin K) 1),
  (8, o_ald 0 1),
  (9, o_ic 0 1),
  (10, o_pI K 3 2),
  (13, o_ald 0 1),
  (14, o_ic 0 1),
  (15, o_pI K 3 4),
  (18, o_ic 0 1),
  (19, o_aft [6] (o_ist 5 2)),
  (21, o_ild 5 2),
  (23, o_ald 2 1),
  (24, o_gI K 6 4),
  (27, o_cmpge 127),
  (30, o_ild 5 2),
  (32, o_ic 100 2),
  (34, o_cmpge 127),
  (37, o_ild 5 2),
  (39, o_ild 4 2),
  (41, o_cmplt 48),
  (44, o_ild 3 1),
  (45, o_aft [6] (o_goto 49)),
  (48, o_aft [6] (o_ic (-1) 1)),
  (49, o_ist 6 2),
  (51, o_ald 2 1),
  (52, o_gF K 6 0),
  (55, o_ild 5 2),
  (57, o_iald K),
  (58, o_ild 6 2),
  (60, o_cmpne 99),
  (63, o_ald 2 1),
  (64, o_gF K 6 2),
  (67, o_ild 5 2),
  (69, o_iald K),
  (70, o_ifne 99),
  (73, o_ald 0 1),
  (74, o_gF K 3 1),
  (77, o_ald 0 1),
  (78, o_gI K 3 2),
  (81, o_ald 2 1),
  (82, o_gF K 6 1),
  (85, o_ild 5 2),
  (87, o_iald K),
  (88, o_iast K),
  (89, o_ald 0 1),
  (90, o_dup),
  (91, o_gI K 3 2),
  (94, o_ic 1 1),
  (95, o_iadd),
  (96, o_pI K 3 2),
  (99, o_ald 0 1),
  (100, o_ald 2 1),
  (101, o_ild 5 2),
  (103, o_ild 6 2),
  (105, o_callV K 3 (f_X3_tryAct K) 3),
  (108, o_ifne 121),
  (111, o_ald 0 1),
  (112, o_dup),
  (113, o_gI K 3 4),
  (116, o_ic 1 1),
  (117, o_iadd),
  (118, o_pI K 3 4),
  (121, o_inc 5 1),
  (124, o_aft [6] (o_goto 21)),
  (127, o_ald 0 1),
  (128, o_ald 0 1),
  (129, o_gF K 3 0),
  (132, o_callV K 5 (f_X5_sum K) 0),
  (135, o_pI K 3 3),
  (138, o_ald 0 1),
  (139, o_ic (-1) 1),
  (140, o_pI K 3 5),
  (143, o_ald 0 1),
  (144, o_ic (-1) 1),
  (145, o_pI K 3 6),
  (148, o_ic 0 1),
  (149, o_aft [6] (o_ist 5 2)),
  (151, o_ild 5 2),
  (153, o_ald 1 1),
  (154, o_gI K 0 12),
  (157, o_cmpge 178),
  (160, o_ild 5 2),
  (162, o_ild 3 1),
  (163, o_cmpeq 172),
  (166, o_ald 0 1),
  (167, o_ild 5 2),
  (169, o_callV K 3 (f_X3_offerHelp K) 1),
  (172, o_inc 5 1),
  (175, o_aft [6] (o_goto 151)),
  (178, o_vret)]
noncomputable def f_X3_fall (K : Sh_) : Fn_ := fn_ (P_X3_fall K) 7
set_option maxRecDepth 100000 in
theorem a_X3_fall {l : Launch} {E : En_} (hE : EOK_ E)   : All_ (Snd_ l E yX3_fall.cls cX3_fall 7 (none) (.code yX3_fall cX3_fall 7 (none) :: G_) (rm_ 6)) (P_X3_fall E.2.2.2.1 ) :=
  all_c (s_ald_n (q := 0) (by decide +kernel) rfl)
  <| all_c (g_3_0 (by decide +kernel) fl_RX3_14)
  <| all_c (s_ald_n (q := 1) (by decide +kernel) rfl)
  <| all_c (s_callV (by decide +kernel) (t_X5_begin hE) cl_X5_begin ml_RX3_26 im_X5_begin se_X5_begin (by decide) rfl (rm_lt (by decide)))
  <| all_c (s_ald_n (q := 0) (by decide +kernel) rfl)
  <| all_c (s_iconst (n := 0) (by decide +kernel) (by decide))
  <| all_c (p_3_2 (by decide +kernel) fl_RX3_29)
  <| all_c (s_ald_n (q := 0) (by decide +kernel) rfl)
  <| all_c (s_iconst (n := 0) (by decide +kernel) (by decide))
  <| all_c (p_3_4 (by decide +kernel) fl_RX3_33)
  <| all_c (s_iconst (n := 0) (by decide +kernel) (by decide))
  <| all_c (s_aft (s_ist (by decide +kernel)))
  <| all_c (s_ild (by decide +kernel))
  <| all_c (s_ald_n (q := 2) (by decide +kernel) rfl)
  <| all_c (g_6_4 (by decide +kernel) fl_RX3_36)
  <| all_c (s_cmpge (off := 100) (by decide +kernel) (by decide))
  <| all_c (s_ild (by decide +kernel))
  <| all_c (s_bipush (n := 100) (by decide +kernel) (by decide))
  <| all_c (s_cmpge (off := 93) (by decide +kernel) (by decide))
  <| all_c (s_ild (by decide +kernel))
  <| all_c (s_ild (by decide +kernel))
  <| all_c (s_cmplt (off := 7) (by decide +kernel) (by decide))
  <| all_c (s_ild_n (q := 3) (by decide +kernel) rfl)
  <| all_c (s_aft (s_goto (off := 4) (by decide +kernel) (by decide)))
  <| all_c (s_aft (s_iconst (n := (-1)) (by decide +kernel) (by decide)))
  <| all_c (s_ist (by decide +kernel))
  <| all_c (s_ald_n (q := 2) (by decide +kernel) rfl)
  <| all_c (g_6_0 (by decide +kernel) fl_RX3_39)
  <| all_c (s_ild (by decide +kernel))
  <| all_c (s_iald (by decide +kernel))
  <| all_c (s_ild (by decide +kernel))
  <| all_c (s_cmpne (off := 39) (by decide +kernel) (by decide))
  <| all_c (s_ald_n (q := 2) (by decide +kernel) rfl)
  <| all_c (g_6_2 (by decide +kernel) fl_RX3_42)
  <| all_c (s_ild (by decide +kernel))
  <| all_c (s_iald (by decide +kernel))
  <| all_c (s_ifne (off := 29) (by decide +kernel) (by decide))
  <| all_c (s_ald_n (q := 0) (by decide +kernel) rfl)
  <| all_c (g_3_1 (by decide +kernel) fl_RX3_22)
  <| all_c (s_ald_n (q := 0) (by decide +kernel) rfl)
  <| all_c (g_3_2 (by decide +kernel) fl_RX3_29)
  <| all_c (s_ald_n (q := 2) (by decide +kernel) rfl)
  <| all_c (g_6_1 (by decide +kernel) fl_RX3_45)
  <| all_c (s_ild (by decide +kernel))
  <| all_c (s_iald (by decide +kernel))
  <| all_c (s_iast (by decide +kernel))
  <| all_c (s_ald_n (q := 0) (by decide +kernel) rfl)
  <| all_c (s_dup (by decide +kernel))
  <| all_c (g_3_2 (by decide +kernel) fl_RX3_29)
  <| all_c (s_iconst (n := 1) (by decide +kernel) (by decide))
  <| all_c (s_iadd (by decide +kernel))
  <| all_c (p_3_2 (by decide +kernel) fl_RX3_29)
  <| all_c (s_ald_n (q := 0) (by decide +kernel) rfl)
  <| all_c (s_ald_n (q := 2) (by decide +kernel) rfl)
  <| all_c (s_ild (by decide +kernel))
  <| all_c (s_ild (by decide +kernel))
  <| all_c (s_callV (by decide +kernel) (t_X3_tryAct hE) cl_X3_tryAct ml_RX3_48 im_X3_tryAct se_X3_tryAct (by decide) rfl (rm_lt (by decide)))
  <| all_c (s_ifne (off := 13) (by decide +kernel) (by decide))
  <| all_c (s_ald_n (q := 0) (by decide +kernel) rfl)
  <| all_c (s_dup (by decide +kernel))
  <| all_c (g_3_4 (by decide +kernel) fl_RX3_33)
  <| all_c (s_iconst (n := 1) (by decide +kernel) (by decide))
  <| all_c (s_iadd (by decide +kernel))
  <| all_c (p_3_4 (by decide +kernel) fl_RX3_33)
  <| all_c (s_inc (n := 1) (by decide +kernel) (by decide))
  <| all_c (s_aft (s_goto (off := (-103)) (by decide +kernel) (by decide)))
  <| all_c (s_ald_n (q := 0) (by decide +kernel) rfl)
  <| all_c (s_ald_n (q := 0) (by decide +kernel) rfl)
  <| all_c (g_3_0 (by decide +kernel) fl_RX3_14)
  <| all_c (s_callV (by decide +kernel) (t_X5_sum hE) cl_X5_sum ml_RX3_52 im_X5_sum se_X5_sum (by decide) rfl (rm_lt (by decide)))
  <| all_c (p_3_3 (by decide +kernel) fl_RX3_56)
  <| all_c (s_ald_n (q := 0) (by decide +kernel) rfl)
  <| all_c (s_iconst (n := (-1)) (by decide +kernel) (by decide))
  <| all_c (p_3_5 (by decide +kernel) fl_RX3_58)
  <| all_c (s_ald_n (q := 0) (by decide +kernel) rfl)
  <| all_c (s_iconst (n := (-1)) (by decide +kernel) (by decide))
  <| all_c (p_3_6 (by decide +kernel) fl_RX3_61)
  <| all_c (s_iconst (n := 0) (by decide +kernel) (by decide))
  <| all_c (s_aft (s_ist (by decide +kernel)))
  <| all_c (s_ild (by decide +kernel))
  <| all_c (s_ald_n (q := 1) (by decide +kernel) rfl)
  <| all_c (g_0_12 (by decide +kernel) fl_RX3_64)
  <| all_c (s_cmpge (off := 21) (by decide +kernel) (by decide))
  <| all_c (s_ild (by decide +kernel))
  <| all_c (s_ild_n (q := 3) (by decide +kernel) rfl)
  <| all_c (s_cmpeq (off := 9) (by decide +kernel) (by decide))
  <| all_c (s_ald_n (q := 0) (by decide +kernel) rfl)
  <| all_c (s_ild (by decide +kernel))
  <| all_c (s_callV (by decide +kernel) (t_X3_offerHelp hE) cl_X3_offerHelp ml_RX3_69 im_X3_offerHelp se_X3_offerHelp (by decide) rfl (rm_lt (by decide)))
  <| all_c (s_inc (n := 1) (by decide +kernel) (by decide))
  <| all_c (s_aft (s_goto (off := (-24)) (by decide +kernel) (by decide)))
  <| all_c (s_vret (by decide +kernel) rfl)
  <| all_n
theorem t_X3_fall {l : Launch} {E : En_} (hE : EOK_ E) : Good_ l E yX3_fall (.code yX3_fall cX3_fall 7 (none) :: G_) (rm_ 6) (f_X3_fall E.2.2.2.1) := good_all hE (by decide +kernel) (a_X3_fall hE)
noncomputable def P_X4_isKind (K : Sh_)  : List (Nat × Op_) := [(0, o_ild 0 1),
  (1, o_tsw 0 4 88 [36, 38, 55, 72, 72]),
  (36, o_ic 1 1),
  (37, o_zret),
  (38, o_ild 1 1),
  (39, o_ic 1 1),
  (40, o_cmplt 53),
  (43, o_ild 1 1),
  (44, o_ic 10 2),
  (46, o_cmpgt 53),
  (49, o_ic 1 1),
  (50, o_goto 54),
  (53, o_ic 0 1),
  (54, o_zret),
  (55, o_ild 1 1),
  (56, o_ic 1 1),
  (57, o_cmplt 70),
  (60, o_ild 1 1),
  (61, o_ic 16 2),
  (63, o_cmpgt 70),
  (66, o_ic 1 1),
  (67, o_goto 71),
  (70, o_ic 0 1),
  (71, o_zret),
  (72, o_ild 1 1),
  (73, o_ic 1 1),
  (74, o_cmplt 86),
  (77, o_ild 1 1),
  (78, o_ic 4 1),
  (79, o_cmpgt 86),
  (82, o_ic 1 1),
  (83, o_goto 87),
  (86, o_ic 0 1),
  (87, o_zret),
  (88, o_ic 0 1),
  (89, o_zret)]
noncomputable def f_X4_isKind (K : Sh_) : Fn_ := fn_ (P_X4_isKind K) 2
set_option maxRecDepth 100000 in
theorem a_X4_isKind {l : Launch} {E : En_} (hE : EOK_ E)   : All_ (Snd_ l E yX4_isKind.cls cX4_isKind 2 (some .boolean) (.code yX4_isKind cX4_isKind 2 (some .boolean) :: G_) (rm_ 1)) (P_X4_isKind E.2.2.2.1 ) :=
  all_c (s_ild_n (q := 0) (by decide +kernel) rfl)
  <| all_c (s_tsw (df := 87) (offs := #[35, 37, 54, 71, 71]) (n := 35) (by decide +kernel) (by decide) (by decide))
  <| all_c (s_iconst (n := 1) (by decide +kernel) (by decide))
  <| all_c (s_zret (by decide +kernel) rfl)
  <| all_c (s_ild_n (q := 1) (by decide +kernel) rfl)
  <| all_c (s_iconst (n := 1) (by decide +kernel) (by decide))
  <| all_c (s_cmplt (off := 13) (by decide +kernel) (by decide))
  <| all_c (s_ild_n (q := 1) (by decide +kernel) rfl)
  <| all_c (s_bipush (n := 10) (by decide +kernel) (by decide))
  <| all_c (s_cmpgt (off := 7) (by decide +kernel) (by decide))
  <| all_c (s_iconst (n := 1) (by decide +kernel) (by decide))
  <| all_c (s_goto (off := 4) (by decide +kernel) (by decide))
  <| all_c (s_iconst (n := 0) (by decide +kernel) (by decide))
  <| all_c (s_zret (by decide +kernel) rfl)
  <| all_c (s_ild_n (q := 1) (by decide +kernel) rfl)
  <| all_c (s_iconst (n := 1) (by decide +kernel) (by decide))
  <| all_c (s_cmplt (off := 13) (by decide +kernel) (by decide))
  <| all_c (s_ild_n (q := 1) (by decide +kernel) rfl)
  <| all_c (s_bipush (n := 16) (by decide +kernel) (by decide))
  <| all_c (s_cmpgt (off := 7) (by decide +kernel) (by decide))
  <| all_c (s_iconst (n := 1) (by decide +kernel) (by decide))
  <| all_c (s_goto (off := 4) (by decide +kernel) (by decide))
  <| all_c (s_iconst (n := 0) (by decide +kernel) (by decide))
  <| all_c (s_zret (by decide +kernel) rfl)
  <| all_c (s_ild_n (q := 1) (by decide +kernel) rfl)
  <| all_c (s_iconst (n := 1) (by decide +kernel) (by decide))
  <| all_c (s_cmplt (off := 12) (by decide +kernel) (by decide))
  <| all_c (s_ild_n (q := 1) (by decide +kernel) rfl)
  <| all_c (s_iconst (n := 4) (by decide +kernel) (by decide))
  <| all_c (s_cmpgt (off := 7) (by decide +kernel) (by decide))
  <| all_c (s_iconst (n := 1) (by decide +kernel) (by decide))
  <| all_c (s_goto (off := 4) (by decide +kernel) (by decide))
  <| all_c (s_iconst (n := 0) (by decide +kernel) (by decide))
  <| all_c (s_zret (by decide +kernel) rfl)
  <| all_c (s_iconst (n := 0) (by decide +kernel) (by decide))
  <| all_c (s_zret (by decide +kernel) rfl)
  <| all_n
theorem t_X4_isKind {l : Launch} {E : En_} (hE : EOK_ E) : Good_ l E yX4_isKind (.code yX4_isKind cX4_isKind 2 (some .boolean) :: G_) (rm_ 1) (f_X4_isKind E.2.2.2.1) := good_all hE (by decide +kernel) (a_X4_isKind hE)
noncomputable def P_X6_clear (K : Sh_)  : List (Nat × Op_) := [(0, o_ald 0 1),
  (1, o_ic 0 1),
  (2, o_pI K 6 4),
  (5, o_vret)]
noncomputable def f_X6_clear (K : Sh_) : Fn_ := fn_ (P_X6_clear K) 1
set_option maxRecDepth 100000 in
theorem a_X6_clear {l : Launch} {E : En_} (hE : EOK_ E)   : All_ (Snd_ l E yX6_clear.cls cX6_clear 1 (none) (.code yX6_clear cX6_clear 1 (none) :: G_) (rm_ 1)) (P_X6_clear E.2.2.2.1 ) :=
  all_c (s_ald_n (q := 0) (by decide +kernel) rfl)
  <| all_c (s_iconst (n := 0) (by decide +kernel) (by decide))
  <| all_c (p_6_4 (by decide +kernel) fl_RX6_24)
  <| all_c (s_vret (by decide +kernel) rfl)
  <| all_n
theorem t_X6_clear {l : Launch} {E : En_} (hE : EOK_ E) : Good_ l E yX6_clear (.code yX6_clear cX6_clear 1 (none) :: G_) (rm_ 1) (f_X6_clear E.2.2.2.1) := good_all hE (by decide +kernel) (a_X6_clear hE)
noncomputable def P_X4_begin (K : Sh_)  : List (Nat × Op_) := [(0, o_ald 0 1),
  (1, o_ald 1 1),
  (2, o_pR K 4 2),
  (5, o_ald 0 1),
  (6, o_ald 2 1),
  (7, o_pR K 4 3),
  (10, o_ald 0 1),
  (11, o_gR K 4 3),
  (14, o_callV K 6 (f_X6_clear K) 0),
  (17, o_ald 0 1),
  (18, o_gF K 4 0),
  (21, o_ald 0 1),
  (22, o_gR K 4 2),
  (25, o_callV K 5 (f_X5_begin K) 1),
  (28, o_vret)]
noncomputable def f_X4_begin (K : Sh_) : Fn_ := fn_ (P_X4_begin K) 3
set_option maxRecDepth 100000 in
theorem a_X4_begin {l : Launch} {E : En_} (hE : EOK_ E)   : All_ (Snd_ l E yX4_begin.cls cX4_begin 3 (none) (.code yX4_begin cX4_begin 3 (none) :: G_) (rm_ 2)) (P_X4_begin E.2.2.2.1 ) :=
  all_c (s_ald_n (q := 0) (by decide +kernel) rfl)
  <| all_c (s_ald_n (q := 1) (by decide +kernel) rfl)
  <| all_c (p_4_2 (by decide +kernel) fl_RX4_24)
  <| all_c (s_ald_n (q := 0) (by decide +kernel) rfl)
  <| all_c (s_ald_n (q := 2) (by decide +kernel) rfl)
  <| all_c (p_4_3 (by decide +kernel) fl_RX4_28)
  <| all_c (s_ald_n (q := 0) (by decide +kernel) rfl)
  <| all_c (g_4_3 (by decide +kernel) fl_RX4_28)
  <| all_c (s_callV (by decide +kernel) (t_X6_clear hE) cl_X6_clear ml_RX4_32 im_X6_clear se_X6_clear (by decide) rfl (rm_lt (by decide)))
  <| all_c (s_ald_n (q := 0) (by decide +kernel) rfl)
  <| all_c (g_4_0 (by decide +kernel) fl_RX4_14)
  <| all_c (s_ald_n (q := 0) (by decide +kernel) rfl)
  <| all_c (g_4_2 (by decide +kernel) fl_RX4_24)
  <| all_c (s_callV (by decide +kernel) (t_X5_begin hE) cl_X5_begin ml_RX4_37 im_X5_begin se_X5_begin (by decide) rfl (rm_lt (by decide)))
  <| all_c (s_vret (by decide +kernel) rfl)
  <| all_n
theorem t_X4_begin {l : Launch} {E : En_} (hE : EOK_ E) : Good_ l E yX4_begin (.code yX4_begin cX4_begin 3 (none) :: G_) (rm_ 2) (f_X4_begin E.2.2.2.1) := good_all hE (by decide +kernel) (a_X4_begin hE)
noncomputable def P_X4_readerOf (K : Sh_)  : List (Nat × Op_) := [(0, o_ic 0 1),
  (1, o_ist 2 1),
  (2, o_ild 2 1),
  (3, o_ald 0 1),
  (4, o_gR K 4 2),
  (7, o_gI K 0 12),
  (10, o_cmpge 37),
  (13, o_ald 0 1),
  (14, o_gF K 4 0),
  (17, o_gF K 5 1),
  (20, o_ild 2 1),
  (21, o_iald K),
  (22, o_ild 1 1),
  (23, o_ishr),
  (24, o_ic 1 1),
  (25, o_iand),
  (26, o_ifeq 31),
  (29, o_ild 2 1),
  (30, o_iret),
  (31, o_inc 2 1),
  (34, o_goto 2),
  (37, o_ic (-1) 1),
  (38, o_iret)]
noncomputable def f_X4_readerOf (K : Sh_) : Fn_ := fn_ (P_X4_readerOf K) 3
set_option maxRecDepth 100000 in
theorem a_X4_readerOf {l : Launch} {E : En_} (hE : EOK_ E)   : All_ (Snd_ l E yX4_readerOf.cls cX4_readerOf 3 (some .int) (.code yX4_readerOf cX4_readerOf 3 (some .int) :: G_) (rm_ 1)) (P_X4_readerOf E.2.2.2.1 ) :=
  all_c (s_iconst (n := 0) (by decide +kernel) (by decide))
  <| all_c (s_ist_n (q := 2) (by decide +kernel) rfl)
  <| all_c (s_ild_n (q := 2) (by decide +kernel) rfl)
  <| all_c (s_ald_n (q := 0) (by decide +kernel) rfl)
  <| all_c (g_4_2 (by decide +kernel) fl_RX4_24)
  <| all_c (g_0_12 (by decide +kernel) fl_RX4_71)
  <| all_c (s_cmpge (off := 27) (by decide +kernel) (by decide))
  <| all_c (s_ald_n (q := 0) (by decide +kernel) rfl)
  <| all_c (g_4_0 (by decide +kernel) fl_RX4_14)
  <| all_c (g_5_1 (by decide +kernel) fl_RX4_120)
  <| all_c (s_ild_n (q := 2) (by decide +kernel) rfl)
  <| all_c (s_iald (by decide +kernel))
  <| all_c (s_ild_n (q := 1) (by decide +kernel) rfl)
  <| all_c (s_ishr (by decide +kernel))
  <| all_c (s_iconst (n := 1) (by decide +kernel) (by decide))
  <| all_c (s_iand (by decide +kernel))
  <| all_c (s_ifeq (off := 5) (by decide +kernel) (by decide))
  <| all_c (s_ild_n (q := 2) (by decide +kernel) rfl)
  <| all_c (s_iret (by decide +kernel) rfl)
  <| all_c (s_inc (n := 1) (by decide +kernel) (by decide))
  <| all_c (s_goto (off := (-32)) (by decide +kernel) (by decide))
  <| all_c (s_iconst (n := (-1)) (by decide +kernel) (by decide))
  <| all_c (s_iret (by decide +kernel) rfl)
  <| all_n
theorem t_X4_readerOf {l : Launch} {E : En_} (hE : EOK_ E) : Good_ l E yX4_readerOf (.code yX4_readerOf cX4_readerOf 3 (some .int) :: G_) (rm_ 1) (f_X4_readerOf E.2.2.2.1) := good_all hE (by decide +kernel) (a_X4_readerOf hE)
noncomputable def P_X6_isFull (K : Sh_)  : List (Nat × Op_) := [(0, o_ald 0 1),
  (1, o_gI K 6 4),
  (4, o_ic 100 2),
  (6, o_cmplt 13),
  (9, o_ic 1 1),
  (10, o_goto 14),
  (13, o_ic 0 1),
  (14, o_zret)]
noncomputable def f_X6_isFull (K : Sh_) : Fn_ := fn_ (P_X6_isFull K) 1
set_option maxRecDepth 100000 in
theorem a_X6_isFull {l : Launch} {E : En_} (hE : EOK_ E)   : All_ (Snd_ l E yX6_isFull.cls cX6_isFull 1 (some .boolean) (.code yX6_isFull cX6_isFull 1 (some .boolean) :: G_) (rm_ 1)) (P_X6_isFull E.2.2.2.1 ) :=
  all_c (s_ald_n (q := 0) (by decide +kernel) rfl)
  <| all_c (g_6_4 (by decide +kernel) fl_RX6_24)
  <| all_c (s_bipush (n := 100) (by decide +kernel) (by decide))
  <| all_c (s_cmplt (off := 7) (by decide +kernel) (by decide))
  <| all_c (s_iconst (n := 1) (by decide +kernel) (by decide))
  <| all_c (s_goto (off := 4) (by decide +kernel) (by decide))
  <| all_c (s_iconst (n := 0) (by decide +kernel) (by decide))
  <| all_c (s_zret (by decide +kernel) rfl)
  <| all_n
theorem t_X6_isFull {l : Launch} {E : En_} (hE : EOK_ E) : Good_ l E yX6_isFull (.code yX6_isFull cX6_isFull 1 (some .boolean) :: G_) (rm_ 1) (f_X6_isFull E.2.2.2.1) := good_all hE (by decide +kernel) (a_X6_isFull hE)
noncomputable def P_X6_add (K : Sh_)  : List (Nat × Op_) := [(0, o_ald 0 1),
  (1, o_callV K 6 (f_X6_isFull K) 0),
  (4, o_ifne 58),
  (7, o_ald 0 1),
  (8, o_gF K 6 0),
  (11, o_ald 0 1),
  (12, o_gI K 6 4),
  (15, o_ild 1 1),
  (16, o_iast K),
  (17, o_ald 0 1),
  (18, o_gF K 6 1),
  (21, o_ald 0 1),
  (22, o_gI K 6 4),
  (25, o_ild 2 1),
  (26, o_iast K),
  (27, o_ald 0 1),
  (28, o_gF K 6 2),
  (31, o_ald 0 1),
  (32, o_gI K 6 4),
  (35, o_ild 3 1),
  (36, o_iast K),
  (37, o_ald 0 1),
  (38, o_gF K 6 3),
  (41, o_ald 0 1),
  (42, o_gI K 6 4),
  (45, o_ild 4 2),
  (47, o_iast K),
  (48, o_ald 0 1),
  (49, o_dup),
  (50, o_gI K 6 4),
  (53, o_ic 1 1),
  (54, o_iadd),
  (55, o_pI K 6 4),
  (58, o_vret)]
noncomputable def f_X6_add (K : Sh_) : Fn_ := fn_ (P_X6_add K) 5
set_option maxRecDepth 100000 in
theorem a_X6_add {l : Launch} {E : En_} (hE : EOK_ E)   : All_ (Snd_ l E yX6_add.cls cX6_add 5 (none) (.code yX6_add cX6_add 5 (none) :: G_) (rm_ 2)) (P_X6_add E.2.2.2.1 ) :=
  all_c (s_ald_n (q := 0) (by decide +kernel) rfl)
  <| all_c (s_callV (by decide +kernel) (t_X6_isFull hE) cl_X6_isFull ml_RX6_34 im_X6_isFull se_X6_isFull (by decide) rfl (rm_lt (by decide)))
  <| all_c (s_ifne (off := 54) (by decide +kernel) (by decide))
  <| all_c (s_ald_n (q := 0) (by decide +kernel) rfl)
  <| all_c (g_6_0 (by decide +kernel) fl_RX6_11)
  <| all_c (s_ald_n (q := 0) (by decide +kernel) rfl)
  <| all_c (g_6_4 (by decide +kernel) fl_RX6_24)
  <| all_c (s_ild_n (q := 1) (by decide +kernel) rfl)
  <| all_c (s_iast (by decide +kernel))
  <| all_c (s_ald_n (q := 0) (by decide +kernel) rfl)
  <| all_c (g_6_1 (by decide +kernel) fl_RX6_15)
  <| all_c (s_ald_n (q := 0) (by decide +kernel) rfl)
  <| all_c (g_6_4 (by decide +kernel) fl_RX6_24)
  <| all_c (s_ild_n (q := 2) (by decide +kernel) rfl)
  <| all_c (s_iast (by decide +kernel))
  <| all_c (s_ald_n (q := 0) (by decide +kernel) rfl)
  <| all_c (g_6_2 (by decide +kernel) fl_RX6_18)
  <| all_c (s_ald_n (q := 0) (by decide +kernel) rfl)
  <| all_c (g_6_4 (by decide +kernel) fl_RX6_24)
  <| all_c (s_ild_n (q := 3) (by decide +kernel) rfl)
  <| all_c (s_iast (by decide +kernel))
  <| all_c (s_ald_n (q := 0) (by decide +kernel) rfl)
  <| all_c (g_6_3 (by decide +kernel) fl_RX6_21)
  <| all_c (s_ald_n (q := 0) (by decide +kernel) rfl)
  <| all_c (g_6_4 (by decide +kernel) fl_RX6_24)
  <| all_c (s_ild (by decide +kernel))
  <| all_c (s_iast (by decide +kernel))
  <| all_c (s_ald_n (q := 0) (by decide +kernel) rfl)
  <| all_c (s_dup (by decide +kernel))
  <| all_c (g_6_4 (by decide +kernel) fl_RX6_24)
  <| all_c (s_iconst (n := 1) (by decide +kernel) (by decide))
  <| all_c (s_iadd (by decide +kernel))
  <| all_c (p_6_4 (by decide +kernel) fl_RX6_24)
  <| all_c (s_vret (by decide +kernel) rfl)
  <| all_n
theorem t_X6_add {l : Launch} {E : En_} (hE : EOK_ E) : Good_ l E yX6_add (.code yX6_add cX6_add 5 (none) :: G_) (rm_ 2) (f_X6_add E.2.2.2.1) := good_all hE (by decide +kernel) (a_X6_add hE)
noncomputable def P_X4_tryAct (K : Sh_)  : List (Nat × Op_) := [(0, o_ald 0 1),
  (1, o_gR K 4 3),
  (4, o_callV K 6 (f_X6_isFull K) 0),
  (7, o_ifne 25),
  (10, o_ald 0 1),
  (11, o_gF K 4 0),
  (14, o_ild 1 1),
  (15, o_ild 2 1),
  (16, o_ild 3 1),
  (17, o_ild 4 2),
  (19, o_callV K 5 (f_X5_wrongOf K) 4),
  (22, o_ifeq 27),
  (25, o_ic 0 1),
  (26, o_zret),
  (27, o_ald 0 1),
  (28, o_gF K 4 0),
  (31, o_ild 1 1),
  (32, o_ild 2 1),
  (33, o_ild 3 1),
  (34, o_ild 4 2),
  (36, o_callV K 5 (f_X5_perform K) 4),
  (39, o_ald 0 1),
  (40, o_gR K 4 3),
  (43, o_ild 1 1),
  (44, o_ild 2 1),
  (45, o_ild 3 1),
  (46, o_ild 4 2),
  (48, o_callV K 6 (f_X6_add K) 4),
  (51, o_ic 1 1),
  (52, o_zret)]
noncomputable def f_X4_tryAct (K : Sh_) : Fn_ := fn_ (P_X4_tryAct K) 5
set_option maxRecDepth 100000 in
theorem a_X4_tryAct {l : Launch} {E : En_} (hE : EOK_ E)   : All_ (Snd_ l E yX4_tryAct.cls cX4_tryAct 5 (some .boolean) (.code yX4_tryAct cX4_tryAct 5 (some .boolean) :: G_) (rm_ 4)) (P_X4_tryAct E.2.2.2.1 ) :=
  all_c (s_ald_n (q := 0) (by decide +kernel) rfl)
  <| all_c (g_4_3 (by decide +kernel) fl_RX4_28)
  <| all_c (s_callV (by decide +kernel) (t_X6_isFull hE) cl_X6_isFull ml_RX4_56 im_X6_isFull se_X6_isFull (by decide) rfl (rm_lt (by decide)))
  <| all_c (s_ifne (off := 18) (by decide +kernel) (by decide))
  <| all_c (s_ald_n (q := 0) (by decide +kernel) rfl)
  <| all_c (g_4_0 (by decide +kernel) fl_RX4_14)
  <| all_c (s_ild_n (q := 1) (by decide +kernel) rfl)
  <| all_c (s_ild_n (q := 2) (by decide +kernel) rfl)
  <| all_c (s_ild_n (q := 3) (by decide +kernel) rfl)
  <| all_c (s_ild (by decide +kernel))
  <| all_c (s_callV (by decide +kernel) (t_X5_wrongOf hE) cl_X5_wrongOf ml_RX4_60 im_X5_wrongOf se_X5_wrongOf (by decide) rfl (rm_lt (by decide)))
  <| all_c (s_ifeq (off := 5) (by decide +kernel) (by decide))
  <| all_c (s_iconst (n := 0) (by decide +kernel) (by decide))
  <| all_c (s_zret (by decide +kernel) rfl)
  <| all_c (s_ald_n (q := 0) (by decide +kernel) rfl)
  <| all_c (g_4_0 (by decide +kernel) fl_RX4_14)
  <| all_c (s_ild_n (q := 1) (by decide +kernel) rfl)
  <| all_c (s_ild_n (q := 2) (by decide +kernel) rfl)
  <| all_c (s_ild_n (q := 3) (by decide +kernel) rfl)
  <| all_c (s_ild (by decide +kernel))
  <| all_c (s_callV (by decide +kernel) (t_X5_perform hE) cl_X5_perform ml_RX4_64 im_X5_perform se_X5_perform (by decide) rfl (rm_lt (by decide)))
  <| all_c (s_ald_n (q := 0) (by decide +kernel) rfl)
  <| all_c (g_4_3 (by decide +kernel) fl_RX4_28)
  <| all_c (s_ild_n (q := 1) (by decide +kernel) rfl)
  <| all_c (s_ild_n (q := 2) (by decide +kernel) rfl)
  <| all_c (s_ild_n (q := 3) (by decide +kernel) rfl)
  <| all_c (s_ild (by decide +kernel))
  <| all_c (s_callV (by decide +kernel) (t_X6_add hE) cl_X6_add ml_RX4_68 im_X6_add se_X6_add (by decide) rfl (rm_lt (by decide)))
  <| all_c (s_iconst (n := 1) (by decide +kernel) (by decide))
  <| all_c (s_zret (by decide +kernel) rfl)
  <| all_n
theorem t_X4_tryAct {l : Launch} {E : En_} (hE : EOK_ E) : Good_ l E yX4_tryAct (.code yX4_tryAct cX4_tryAct 5 (some .boolean) :: G_) (rm_ 4) (f_X4_tryAct E.2.2.2.1) := good_all hE (by decide +kernel) (a_X4_tryAct hE)
noncomputable def P_X4_addChains (K : Sh_)  : List (Nat × Op_) := [(0, o_ic 0 1),
  (1, o_aft [3, 4, 5] (o_ist 2 1)),
  (2, o_ild 2 1),
  (3, o_ald 0 1),
  (4, o_gR K 4 2),
  (7, o_gI K 0 11),
  (10, o_cmpge 94),
  (13, o_ald 0 1),
  (14, o_ild 2 1),
  (15, o_callV K 4 (f_X4_readerOf K) 1),
  (18, o_ist 3 1),
  (19, o_ic 1 1),
  (20, o_aft [5] (o_ist 4 2)),
  (22, o_ild 4 2),
  (24, o_ald 0 1),
  (25, o_gR K 4 2),
  (28, o_gI K 0 12),
  (31, o_cmpge 88),
  (34, o_ild 3 1),
  (35, o_ic (-1) 1),
  (36, o_cmpeq 88),
  (39, o_ild 3 1),
  (40, o_ic 1 1),
  (41, o_iadd),
  (42, o_ald 0 1),
  (43, o_gR K 4 2),
  (46, o_gI K 0 12),
  (49, o_cmpge 58),
  (52, o_ild 3 1),
  (53, o_ic 1 1),
  (54, o_iadd),
  (55, o_aft [5] (o_goto 59)),
  (58, o_aft [5] (o_ic 0 1)),
  (59, o_ist 5 2),
  (61, o_ald 0 1),
  (62, o_ild 3 1),
  (63, o_ild 2 1),
  (64, o_ild 1 1),
  (65, o_ic 1 1),
  (66, o_ild 5 2),
  (68, o_ishl),
  (69, o_callV K 4 (f_X4_tryAct K) 4),
  (72, o_ifeq 80),
  (75, o_ild 5 2),
  (77, o_goto 81),
  (80, o_ic (-1) 1),
  (81, o_ist 3 1),
  (82, o_inc 4 1),
  (85, o_aft [5] (o_goto 22)),
  (88, o_inc 2 1),
  (91, o_aft [3, 4, 5] (o_goto 2)),
  (94, o_vret)]
noncomputable def f_X4_addChains (K : Sh_) : Fn_ := fn_ (P_X4_addChains K) 6
set_option maxRecDepth 100000 in
theorem a_X4_addChains {l : Launch} {E : En_} (hE : EOK_ E)   : All_ (Snd_ l E yX4_addChains.cls cX4_addChains 6 (none) (.code yX4_addChains cX4_addChains 6 (none) :: G_) (rm_ 5)) (P_X4_addChains E.2.2.2.1 ) :=
  all_c (s_iconst (n := 0) (by decide +kernel) (by decide))
  <| all_c (s_aft (s_ist_n (q := 2) (by decide +kernel) rfl))
  <| all_c (s_ild_n (q := 2) (by decide +kernel) rfl)
  <| all_c (s_ald_n (q := 0) (by decide +kernel) rfl)
  <| all_c (g_4_2 (by decide +kernel) fl_RX4_24)
  <| all_c (g_0_11 (by decide +kernel) fl_RX4_77)
  <| all_c (s_cmpge (off := 84) (by decide +kernel) (by decide))
  <| all_c (s_ald_n (q := 0) (by decide +kernel) rfl)
  <| all_c (s_ild_n (q := 2) (by decide +kernel) rfl)
  <| all_c (s_callV (by decide +kernel) (t_X4_readerOf hE) cl_X4_readerOf ml_RX4_123 im_X4_readerOf se_X4_readerOf (by decide) rfl (rm_lt (by decide)))
  <| all_c (s_ist_n (q := 3) (by decide +kernel) rfl)
  <| all_c (s_iconst (n := 1) (by decide +kernel) (by decide))
  <| all_c (s_aft (s_ist (by decide +kernel)))
  <| all_c (s_ild (by decide +kernel))
  <| all_c (s_ald_n (q := 0) (by decide +kernel) rfl)
  <| all_c (g_4_2 (by decide +kernel) fl_RX4_24)
  <| all_c (g_0_12 (by decide +kernel) fl_RX4_71)
  <| all_c (s_cmpge (off := 57) (by decide +kernel) (by decide))
  <| all_c (s_ild_n (q := 3) (by decide +kernel) rfl)
  <| all_c (s_iconst (n := (-1)) (by decide +kernel) (by decide))
  <| all_c (s_cmpeq (off := 52) (by decide +kernel) (by decide))
  <| all_c (s_ild_n (q := 3) (by decide +kernel) rfl)
  <| all_c (s_iconst (n := 1) (by decide +kernel) (by decide))
  <| all_c (s_iadd (by decide +kernel))
  <| all_c (s_ald_n (q := 0) (by decide +kernel) rfl)
  <| all_c (g_4_2 (by decide +kernel) fl_RX4_24)
  <| all_c (g_0_12 (by decide +kernel) fl_RX4_71)
  <| all_c (s_cmpge (off := 9) (by decide +kernel) (by decide))
  <| all_c (s_ild_n (q := 3) (by decide +kernel) rfl)
  <| all_c (s_iconst (n := 1) (by decide +kernel) (by decide))
  <| all_c (s_iadd (by decide +kernel))
  <| all_c (s_aft (s_goto (off := 4) (by decide +kernel) (by decide)))
  <| all_c (s_aft (s_iconst (n := 0) (by decide +kernel) (by decide)))
  <| all_c (s_ist (by decide +kernel))
  <| all_c (s_ald_n (q := 0) (by decide +kernel) rfl)
  <| all_c (s_ild_n (q := 3) (by decide +kernel) rfl)
  <| all_c (s_ild_n (q := 2) (by decide +kernel) rfl)
  <| all_c (s_ild_n (q := 1) (by decide +kernel) rfl)
  <| all_c (s_iconst (n := 1) (by decide +kernel) (by decide))
  <| all_c (s_ild (by decide +kernel))
  <| all_c (s_ishl (by decide +kernel))
  <| all_c (s_callV (by decide +kernel) (t_X4_tryAct hE) cl_X4_tryAct ml_RX4_80 im_X4_tryAct se_X4_tryAct (by decide) rfl (rm_lt (by decide)))
  <| all_c (s_ifeq (off := 8) (by decide +kernel) (by decide))
  <| all_c (s_ild (by decide +kernel))
  <| all_c (s_goto (off := 4) (by decide +kernel) (by decide))
  <| all_c (s_iconst (n := (-1)) (by decide +kernel) (by decide))
  <| all_c (s_ist_n (q := 3) (by decide +kernel) rfl)
  <| all_c (s_inc (n := 1) (by decide +kernel) (by decide))
  <| all_c (s_aft (s_goto (off := (-63)) (by decide +kernel) (by decide)))
  <| all_c (s_inc (n := 1) (by decide +kernel) (by decide))
  <| all_c (s_aft (s_goto (off := (-89)) (by decide +kernel) (by decide)))
  <| all_c (s_vret (by decide +kernel) rfl)
  <| all_n
theorem t_X4_addChains {l : Launch} {E : En_} (hE : EOK_ E) : Good_ l E yX4_addChains (.code yX4_addChains cX4_addChains 6 (none) :: G_) (rm_ 5) (f_X4_addChains E.2.2.2.1) := good_all hE (by decide +kernel) (a_X4_addChains hE)
noncomputable def P_X4_join (K : Sh_)  : List (Nat × Op_) := [(0, o_ild 1 1),
  (1, o_ild 2 1),
  (2, o_min),
  (5, o_ist 3 1),
  (6, o_ic 0 1),
  (7, o_ist 4 2),
  (9, o_ild 4 2),
  (11, o_ald 0 1),
  (12, o_gR K 4 2),
  (15, o_gI K 0 11),
  (18, o_cmpge 57),
  (21, o_ald 0 1),
  (22, o_gF K 4 1),
  (25, o_ild 4 2),
  (27, o_iald K),
  (28, o_ild 1 1),
  (29, o_cmpeq 43),
  (32, o_ald 0 1),
  (33, o_gF K 4 1),
  (36, o_ild 4 2),
  (38, o_iald K),
  (39, o_ild 2 1),
  (40, o_cmpne 51),
  (43, o_ald 0 1),
  (44, o_gF K 4 1),
  (47, o_ild 4 2),
  (49, o_ild 3 1),
  (50, o_iast K),
  (51, o_inc 4 1),
  (54, o_goto 9),
  (57, o_vret)]
noncomputable def f_X4_join (K : Sh_) : Fn_ := fn_ (P_X4_join K) 5
set_option maxRecDepth 100000 in
theorem a_X4_join {l : Launch} {E : En_} (hE : EOK_ E)   : All_ (Snd_ l E yX4_join.cls cX4_join 5 (none) (.code yX4_join cX4_join 5 (none) :: G_) (rm_ 1)) (P_X4_join E.2.2.2.1 ) :=
  all_c (s_ild_n (q := 1) (by decide +kernel) rfl)
  <| all_c (s_ild_n (q := 2) (by decide +kernel) rfl)
  <| all_c (s_min (by decide +kernel) (G_w ml_RX4_102) (G_w mm_min_s) (G_w mm_i) (G_w mm_min_c) (rm_lt (lv := 0) (by decide)))
  <| all_c (s_ist_n (q := 3) (by decide +kernel) rfl)
  <| all_c (s_iconst (n := 0) (by decide +kernel) (by decide))
  <| all_c (s_ist (by decide +kernel))
  <| all_c (s_ild (by decide +kernel))
  <| all_c (s_ald_n (q := 0) (by decide +kernel) rfl)
  <| all_c (g_4_2 (by decide +kernel) fl_RX4_24)
  <| all_c (g_0_11 (by decide +kernel) fl_RX4_77)
  <| all_c (s_cmpge (off := 39) (by decide +kernel) (by decide))
  <| all_c (s_ald_n (q := 0) (by decide +kernel) rfl)
  <| all_c (g_4_1 (by decide +kernel) fl_RX4_20)
  <| all_c (s_ild (by decide +kernel))
  <| all_c (s_iald (by decide +kernel))
  <| all_c (s_ild_n (q := 1) (by decide +kernel) rfl)
  <| all_c (s_cmpeq (off := 14) (by decide +kernel) (by decide))
  <| all_c (s_ald_n (q := 0) (by decide +kernel) rfl)
  <| all_c (g_4_1 (by decide +kernel) fl_RX4_20)
  <| all_c (s_ild (by decide +kernel))
  <| all_c (s_iald (by decide +kernel))
  <| all_c (s_ild_n (q := 2) (by decide +kernel) rfl)
  <| all_c (s_cmpne (off := 11) (by decide +kernel) (by decide))
  <| all_c (s_ald_n (q := 0) (by decide +kernel) rfl)
  <| all_c (g_4_1 (by decide +kernel) fl_RX4_20)
  <| all_c (s_ild (by decide +kernel))
  <| all_c (s_ild_n (q := 3) (by decide +kernel) rfl)
  <| all_c (s_iast (by decide +kernel))
  <| all_c (s_inc (n := 1) (by decide +kernel) (by decide))
  <| all_c (s_goto (off := (-45)) (by decide +kernel) (by decide))
  <| all_c (s_vret (by decide +kernel) rfl)
  <| all_n
theorem t_X4_join {l : Launch} {E : En_} (hE : EOK_ E) : Good_ l E yX4_join (.code yX4_join cX4_join 5 (none) :: G_) (rm_ 1) (f_X4_join E.2.2.2.1) := good_all hE (by decide +kernel) (a_X4_join hE)
