noncomputable def P_X9_readFrom (K : Sh_)  : List (Nat × Op_) := [(0, o_ald 0 1),
  (1, o_callV K 9 (f_X9_clear K) 0),
  (4, o_ald 0 1),
  (5, o_ald 1 1),
  (6, o_ald 2 1),
  (7, o_ic 1 1),
  (8, o_callV K 9 (f_X9_readCond K 80) 3),
  (11, o_ifne 16),
  (14, o_ic 0 1),
  (15, o_zret),
  (16, o_ald 1 1),
  (17, o_gI K 8 6),
  (20, o_ifeq 31),
  (23, o_ald 1 1),
  (24, o_ic 1 1),
  (25, o_callV K 8 (f_X8_fail K) 1),
  (28, o_ifeq 35),
  (31, o_ic 1 1),
  (32, o_goto 36),
  (35, o_ic 0 1),
  (36, o_zret)]
noncomputable def f_X9_readFrom (K : Sh_) : Fn_ := fn_ (P_X9_readFrom K) 3
set_option maxRecDepth 100000 in
theorem a_X9_readFrom {l : Launch} {E : En_} (hE : EOK_ E)   : All_ (Snd_ l E yX9_readFrom.cls cX9_readFrom 3 (some .boolean) (.code yX9_readFrom cX9_readFrom 3 (some .boolean) :: G_) (rm_ 86)) (P_X9_readFrom E.2.2.2.1 ) :=
  all_c (s_ald_n (q := 0) (by decide +kernel) rfl)
  <| all_c (s_callV (by decide +kernel) (t_X9_clear hE) cl_X9_clear ml_RX9_37 im_X9_clear se_X9_clear (by decide) rfl (rm_lt (by decide)))
  <| all_c (s_ald_n (q := 0) (by decide +kernel) rfl)
  <| all_c (s_ald_n (q := 1) (by decide +kernel) rfl)
  <| all_c (s_ald_n (q := 2) (by decide +kernel) rfl)
  <| all_c (s_iconst (n := 1) (by decide +kernel) (by decide))
  <| all_c (s_callV (by decide +kernel) (t_X9_readCond hE 80) cl_X9_readCond ml_RX9_40 im_X9_readCond se_X9_readCond (by decide) rfl (rm_lt (by decide)))
  <| all_c (s_ifne (off := 5) (by decide +kernel) (by decide))
  <| all_c (s_iconst (n := 0) (by decide +kernel) (by decide))
  <| all_c (s_zret (by decide +kernel) rfl)
  <| all_c (s_ald_n (q := 1) (by decide +kernel) rfl)
  <| all_c (g_8_6 (by decide +kernel) fl_RX9_44)
  <| all_c (s_ifeq (off := 11) (by decide +kernel) (by decide))
  <| all_c (s_ald_n (q := 1) (by decide +kernel) rfl)
  <| all_c (s_iconst (n := 1) (by decide +kernel) (by decide))
  <| all_c (s_callV (by decide +kernel) (t_X8_fail hE) cl_X8_fail ml_RX9_49 im_X8_fail se_X8_fail (by decide) rfl (rm_lt (by decide)))
  <| all_c (s_ifeq (off := 7) (by decide +kernel) (by decide))
  <| all_c (s_iconst (n := 1) (by decide +kernel) (by decide))
  <| all_c (s_goto (off := 4) (by decide +kernel) (by decide))
  <| all_c (s_iconst (n := 0) (by decide +kernel) (by decide))
  <| all_c (s_zret (by decide +kernel) rfl)
  <| all_n
theorem t_X9_readFrom {l : Launch} {E : En_} (hE : EOK_ E) : Good_ l E yX9_readFrom (.code yX9_readFrom cX9_readFrom 3 (some .boolean) :: G_) (rm_ 86) (f_X9_readFrom E.2.2.2.1) := good_all hE (by decide +kernel) (a_X9_readFrom hE)
noncomputable def P_X9_compares (K : Sh_)  : List (Nat × Op_) := [(0, o_ald 0 1),
  (1, o_gF K 9 2),
  (4, o_ild 2 1),
  (5, o_iald K),
  (6, o_lsw 58 [(60, 26), (62, 42)]),
  (32, o_ild 1 1),
  (33, o_ald 0 1),
  (34, o_gF K 9 3),
  (37, o_ild 2 1),
  (38, o_iald K),
  (39, o_cmpge 46),
  (42, o_ic 1 1),
  (43, o_goto 47),
  (46, o_ic 0 1),
  (47, o_zret),
  (48, o_ild 1 1),
  (49, o_ald 0 1),
  (50, o_gF K 9 3),
  (53, o_ild 2 1),
  (54, o_iald K),
  (55, o_cmple 62),
  (58, o_ic 1 1),
  (59, o_goto 63),
  (62, o_ic 0 1),
  (63, o_zret),
  (64, o_ild 1 1),
  (65, o_ald 0 1),
  (66, o_gF K 9 3),
  (69, o_ild 2 1),
  (70, o_iald K),
  (71, o_cmpne 78),
  (74, o_ic 1 1),
  (75, o_goto 79),
  (78, o_ic 0 1),
  (79, o_zret)]
noncomputable def f_X9_compares (K : Sh_) : Fn_ := fn_ (P_X9_compares K) 3
set_option maxRecDepth 100000 in
theorem a_X9_compares {l : Launch} {E : En_} (hE : EOK_ E)   : All_ (Snd_ l E yX9_compares.cls cX9_compares 3 (some .boolean) (.code yX9_compares cX9_compares 3 (some .boolean) :: G_) (rm_ 1)) (P_X9_compares E.2.2.2.1 ) :=
  all_c (s_ald_n (q := 0) (by decide +kernel) rfl)
  <| all_c (g_9_2 (by decide +kernel) fl_RX9_18)
  <| all_c (s_ild_n (q := 2) (by decide +kernel) rfl)
  <| all_c (s_iald (by decide +kernel))
  <| all_c (s_lsw (qs := #[(60, 26), (62, 42)]) (n := 26) (by decide +kernel) rfl (by decide))
  <| all_c (s_ild_n (q := 1) (by decide +kernel) rfl)
  <| all_c (s_ald_n (q := 0) (by decide +kernel) rfl)
  <| all_c (g_9_3 (by decide +kernel) fl_RX9_21)
  <| all_c (s_ild_n (q := 2) (by decide +kernel) rfl)
  <| all_c (s_iald (by decide +kernel))
  <| all_c (s_cmpge (off := 7) (by decide +kernel) (by decide))
  <| all_c (s_iconst (n := 1) (by decide +kernel) (by decide))
  <| all_c (s_goto (off := 4) (by decide +kernel) (by decide))
  <| all_c (s_iconst (n := 0) (by decide +kernel) (by decide))
  <| all_c (s_zret (by decide +kernel) rfl)
  <| all_c (s_ild_n (q := 1) (by decide +kernel) rfl)
  <| all_c (s_ald_n (q := 0) (by decide +kernel) rfl)
  <| all_c (g_9_3 (by decide +kernel) fl_RX9_21)
  <| all_c (s_ild_n (q := 2) (by decide +kernel) rfl)
  <| all_c (s_iald (by decide +kernel))
  <| all_c (s_cmple (off := 7) (by decide +kernel) (by decide))
  <| all_c (s_iconst (n := 1) (by decide +kernel) (by decide))
  <| all_c (s_goto (off := 4) (by decide +kernel) (by decide))
  <| all_c (s_iconst (n := 0) (by decide +kernel) (by decide))
  <| all_c (s_zret (by decide +kernel) rfl)
  <| all_c (s_ild_n (q := 1) (by decide +kernel) rfl)
  <| all_c (s_ald_n (q := 0) (by decide +kernel) rfl)
  <| all_c (g_9_3 (by decide +kernel) fl_RX9_21)
  <| all_c (s_ild_n (q := 2) (by decide +kernel) rfl)
  <| all_c (s_iald (by decide +kernel))
  <| all_c (s_cmpne (off := 7) (by decide +kernel) (by decide))
  <| all_c (s_iconst (n := 1) (by decide +kernel) (by decide))
  <| all_c (s_goto (off := 4) (by decide +kernel) (by decide))
  <| all_c (s_iconst (n := 0) (by decide +kernel) (by decide))
  <| all_c (s_zret (by decide +kernel) rfl)
  <| all_n
theorem t_X9_compares {l : Launch} {E : En_} (hE : EOK_ E) : Good_ l E yX9_compares (.code yX9_compares cX9_compares 3 (some .boolean) :: G_) (rm_ 1) (f_X9_compares E.2.2.2.1) := good_all hE (by decide +kernel) (a_X9_compares hE)
noncomputable def P_X9_isSo (K : Sh_)  : List (Nat × Op_) := [(0, o_ald 0 1),
  (1, o_gF K 9 0),
  (4, o_ild 3 1),
  (5, o_iald K),
  (6, o_tsw 18 22 137 [40, 64, 88, 114, 125]),
  (40, o_ald 1 1),
  (41, o_gF K 5 1),
  (44, o_ild 2 1),
  (45, o_iald K),
  (46, o_ald 0 1),
  (47, o_gF K 9 1),
  (50, o_ild 3 1),
  (51, o_iald K),
  (52, o_ishr),
  (53, o_ic 1 1),
  (54, o_iand),
  (55, o_ifeq 62),
  (58, o_ic 1 1),
  (59, o_goto 63),
  (62, o_ic 0 1),
  (63, o_zret),
  (64, o_ald 1 1),
  (65, o_gF K 5 2),
  (68, o_ild 2 1),
  (69, o_iald K),
  (70, o_ald 0 1),
  (71, o_gF K 9 1),
  (74, o_ild 3 1),
  (75, o_iald K),
  (76, o_ishr),
  (77, o_ic 1 1),
  (78, o_iand),
  (79, o_ifeq 86),
  (82, o_ic 1 1),
  (83, o_goto 87),
  (86, o_ic 0 1),
  (87, o_zret),
  (88, o_ald 0 1),
  (89, o_ald 1 1),
  (90, o_gF K 5 3),
  (93, o_ild 2 1),
  (94, o_ic 16 2),
  (96, o_imul),
  (97, o_ald 0 1),
  (98, o_gF K 9 1),
  (101, o_ild 3 1),
  (102, o_iald K),
  (103, o_iadd),
  (104, o_iald K),
  (105, o_ic 10000 3),
  (108, o_idiv),
  (109, o_ild 3 1),
  (110, o_callV K 9 (f_X9_compares K) 2),
  (113, o_zret),
  (114, o_ald 0 1),
  (115, o_ald 1 1),
  (116, o_ild 2 1),
  (117, o_callV K 5 (f_X5_inAll K) 1),
  (120, o_ild 3 1),
  (121, o_callV K 9 (f_X9_compares K) 2),
  (124, o_zret),
  (125, o_ald 0 1),
  (126, o_ald 1 1),
  (127, o_gF K 5 0),
  (130, o_ild 2 1),
  (131, o_iald K),
  (132, o_ild 3 1),
  (133, o_callV K 9 (f_X9_compares K) 2),
  (136, o_zret),
  (137, o_ald 0 1),
  (138, o_ald 1 1),
  (139, o_gF K 5 1),
  (142, o_ild 2 1),
  (143, o_iald K),
  (144, o_callS (f_J6_bitCount_0f7a4 K) 1),
  (147, o_ild 3 1),
  (148, o_callV K 9 (f_X9_compares K) 2),
  (151, o_zret)]
noncomputable def f_X9_isSo (K : Sh_) : Fn_ := fn_ (P_X9_isSo K) 4
set_option maxRecDepth 100000 in
theorem a_X9_isSo {l : Launch} {E : En_} (hE : EOK_ E)   : All_ (Snd_ l E yX9_isSo.cls cX9_isSo 4 (some .boolean) (.code yX9_isSo cX9_isSo 4 (some .boolean) :: G_) (rm_ 3)) (P_X9_isSo E.2.2.2.1 ) :=
  all_c (s_ald_n (q := 0) (by decide +kernel) rfl)
  <| all_c (g_9_0 (by decide +kernel) fl_RX9_11)
  <| all_c (s_ild_n (q := 3) (by decide +kernel) rfl)
  <| all_c (s_iald (by decide +kernel))
  <| all_c (s_tsw (df := 131) (offs := #[34, 58, 82, 108, 119]) (n := 34) (by decide +kernel) (by decide) (by decide))
  <| all_c (s_ald_n (q := 1) (by decide +kernel) rfl)
  <| all_c (g_5_1 (by decide +kernel) fl_RX9_87)
  <| all_c (s_ild_n (q := 2) (by decide +kernel) rfl)
  <| all_c (s_iald (by decide +kernel))
  <| all_c (s_ald_n (q := 0) (by decide +kernel) rfl)
  <| all_c (g_9_1 (by decide +kernel) fl_RX9_15)
  <| all_c (s_ild_n (q := 3) (by decide +kernel) rfl)
  <| all_c (s_iald (by decide +kernel))
  <| all_c (s_ishr (by decide +kernel))
  <| all_c (s_iconst (n := 1) (by decide +kernel) (by decide))
  <| all_c (s_iand (by decide +kernel))
  <| all_c (s_ifeq (off := 7) (by decide +kernel) (by decide))
  <| all_c (s_iconst (n := 1) (by decide +kernel) (by decide))
  <| all_c (s_goto (off := 4) (by decide +kernel) (by decide))
  <| all_c (s_iconst (n := 0) (by decide +kernel) (by decide))
  <| all_c (s_zret (by decide +kernel) rfl)
  <| all_c (s_ald_n (q := 1) (by decide +kernel) rfl)
  <| all_c (g_5_2 (by decide +kernel) fl_RX9_92)
  <| all_c (s_ild_n (q := 2) (by decide +kernel) rfl)
  <| all_c (s_iald (by decide +kernel))
  <| all_c (s_ald_n (q := 0) (by decide +kernel) rfl)
  <| all_c (g_9_1 (by decide +kernel) fl_RX9_15)
  <| all_c (s_ild_n (q := 3) (by decide +kernel) rfl)
  <| all_c (s_iald (by decide +kernel))
  <| all_c (s_ishr (by decide +kernel))
  <| all_c (s_iconst (n := 1) (by decide +kernel) (by decide))
  <| all_c (s_iand (by decide +kernel))
  <| all_c (s_ifeq (off := 7) (by decide +kernel) (by decide))
  <| all_c (s_iconst (n := 1) (by decide +kernel) (by decide))
  <| all_c (s_goto (off := 4) (by decide +kernel) (by decide))
  <| all_c (s_iconst (n := 0) (by decide +kernel) (by decide))
  <| all_c (s_zret (by decide +kernel) rfl)
  <| all_c (s_ald_n (q := 0) (by decide +kernel) rfl)
  <| all_c (s_ald_n (q := 1) (by decide +kernel) rfl)
  <| all_c (g_5_3 (by decide +kernel) fl_RX9_95)
  <| all_c (s_ild_n (q := 2) (by decide +kernel) rfl)
  <| all_c (s_bipush (n := 16) (by decide +kernel) (by decide))
  <| all_c (s_imul (by decide +kernel))
  <| all_c (s_ald_n (q := 0) (by decide +kernel) rfl)
  <| all_c (g_9_1 (by decide +kernel) fl_RX9_15)
  <| all_c (s_ild_n (q := 3) (by decide +kernel) rfl)
  <| all_c (s_iald (by decide +kernel))
  <| all_c (s_iadd (by decide +kernel))
  <| all_c (s_iald (by decide +kernel))
  <| all_c (s_sipush (n := 10000) (by decide +kernel) (by decide))
  <| all_c (s_idiv (by decide +kernel))
  <| all_c (s_ild_n (q := 3) (by decide +kernel) rfl)
  <| all_c (s_callV (by decide +kernel) (t_X9_compares hE) cl_X9_compares ml_RX9_98 im_X9_compares se_X9_compares (by decide) rfl (rm_lt (by decide)))
  <| all_c (s_zret (by decide +kernel) rfl)
  <| all_c (s_ald_n (q := 0) (by decide +kernel) rfl)
  <| all_c (s_ald_n (q := 1) (by decide +kernel) rfl)
  <| all_c (s_ild_n (q := 2) (by decide +kernel) rfl)
  <| all_c (s_callV (by decide +kernel) (t_X5_inAll hE) cl_X5_inAll ml_RX9_101 im_X5_inAll se_X5_inAll (by decide) rfl (rm_lt (by decide)))
  <| all_c (s_ild_n (q := 3) (by decide +kernel) rfl)
  <| all_c (s_callV (by decide +kernel) (t_X9_compares hE) cl_X9_compares ml_RX9_98 im_X9_compares se_X9_compares (by decide) rfl (rm_lt (by decide)))
  <| all_c (s_zret (by decide +kernel) rfl)
  <| all_c (s_ald_n (q := 0) (by decide +kernel) rfl)
  <| all_c (s_ald_n (q := 1) (by decide +kernel) rfl)
  <| all_c (g_5_0 (by decide +kernel) fl_RX9_105)
  <| all_c (s_ild_n (q := 2) (by decide +kernel) rfl)
  <| all_c (s_iald (by decide +kernel))
  <| all_c (s_ild_n (q := 3) (by decide +kernel) rfl)
  <| all_c (s_callV (by decide +kernel) (t_X9_compares hE) cl_X9_compares ml_RX9_98 im_X9_compares se_X9_compares (by decide) rfl (rm_lt (by decide)))
  <| all_c (s_zret (by decide +kernel) rfl)
  <| all_c (s_ald_n (q := 0) (by decide +kernel) rfl)
  <| all_c (s_ald_n (q := 1) (by decide +kernel) rfl)
  <| all_c (g_5_1 (by decide +kernel) fl_RX9_87)
  <| all_c (s_ild_n (q := 2) (by decide +kernel) rfl)
  <| all_c (s_iald (by decide +kernel))
  <| all_c (s_callS (by decide +kernel) (t_J6_bitCount_0f7a4 hE) cl_J6_bitCount_0f7a4 ml_RX9_108 sm_J6_bitCount_0f7a4 (rm_lt (by decide)))
  <| all_c (s_ild_n (q := 3) (by decide +kernel) rfl)
  <| all_c (s_callV (by decide +kernel) (t_X9_compares hE) cl_X9_compares ml_RX9_98 im_X9_compares se_X9_compares (by decide) rfl (rm_lt (by decide)))
  <| all_c (s_zret (by decide +kernel) rfl)
  <| all_n
theorem t_X9_isSo {l : Launch} {E : En_} (hE : EOK_ E) : Good_ l E yX9_isSo (.code yX9_isSo cX9_isSo 4 (some .boolean) :: G_) (rm_ 3) (f_X9_isSo E.2.2.2.1) := good_all hE (by decide +kernel) (a_X9_isSo hE)
noncomputable def P_X9_holds (K : Sh_)  : List (Nat × Op_) := [(0, o_ic 0 1),
  (1, o_ist 3 1),
  (2, o_ic 0 1),
  (3, o_aft [5] (o_ist 4 2)),
  (5, o_ild 4 2),
  (7, o_ald 0 1),
  (8, o_gI K 9 4),
  (11, o_cmpge 109),
  (14, o_ild 3 1),
  (15, o_ic 1 1),
  (16, o_iand),
  (17, o_ist 5 2),
  (19, o_ald 0 1),
  (20, o_gF K 9 0),
  (23, o_ild 4 2),
  (25, o_iald K),
  (26, o_tsw 15 17 82 [72, 59, 52]),
  (52, o_ild 3 1),
  (53, o_ic 1 1),
  (54, o_ixor),
  (55, o_ist 3 1),
  (56, o_goto 103),
  (59, o_ild 3 1),
  (60, o_ic 1 1),
  (61, o_ishr),
  (62, o_ild 5 2),
  (64, o_ic (-2) 2),
  (66, o_ior),
  (67, o_iand),
  (68, o_ist 3 1),
  (69, o_goto 103),
  (72, o_ild 3 1),
  (73, o_ic 1 1),
  (74, o_ishr),
  (75, o_ild 5 2),
  (77, o_ior),
  (78, o_ist 3 1),
  (79, o_goto 103),
  (82, o_ild 3 1),
  (83, o_ic 1 1),
  (84, o_ishl),
  (85, o_ald 0 1),
  (86, o_ald 1 1),
  (87, o_ild 2 1),
  (88, o_ild 4 2),
  (90, o_callV K 9 (f_X9_isSo K) 3),
  (93, o_ifeq 100),
  (96, o_ic 1 1),
  (97, o_goto 101),
  (100, o_ic 0 1),
  (101, o_ior),
  (102, o_ist 3 1),
  (103, o_inc 4 1),
  (106, o_aft [5] (o_goto 5)),
  (109, o_ild 3 1),
  (110, o_ic 1 1),
  (111, o_iand),
  (112, o_ifeq 119),
  (115, o_ic 1 1),
  (116, o_goto 120),
  (119, o_ic 0 1),
  (120, o_zret)]
noncomputable def f_X9_holds (K : Sh_) : Fn_ := fn_ (P_X9_holds K) 6
set_option maxRecDepth 100000 in
theorem a_X9_holds {l : Launch} {E : En_} (hE : EOK_ E)   : All_ (Snd_ l E yX9_holds.cls cX9_holds 6 (some .boolean) (.code yX9_holds cX9_holds 6 (some .boolean) :: G_) (rm_ 4)) (P_X9_holds E.2.2.2.1 ) :=
  all_c (s_iconst (n := 0) (by decide +kernel) (by decide))
  <| all_c (s_ist_n (q := 3) (by decide +kernel) rfl)
  <| all_c (s_iconst (n := 0) (by decide +kernel) (by decide))
  <| all_c (s_aft (s_ist (by decide +kernel)))
  <| all_c (s_ild (by decide +kernel))
  <| all_c (s_ald_n (q := 0) (by decide +kernel) rfl)
  <| all_c (g_9_4 (by decide +kernel) fl_RX9_24)
  <| all_c (s_cmpge (off := 98) (by decide +kernel) (by decide))
  <| all_c (s_ild_n (q := 3) (by decide +kernel) rfl)
  <| all_c (s_iconst (n := 1) (by decide +kernel) (by decide))
  <| all_c (s_iand (by decide +kernel))
  <| all_c (s_ist (by decide +kernel))
  <| all_c (s_ald_n (q := 0) (by decide +kernel) rfl)
  <| all_c (g_9_0 (by decide +kernel) fl_RX9_11)
  <| all_c (s_ild (by decide +kernel))
  <| all_c (s_iald (by decide +kernel))
  <| all_c (s_tsw (df := 56) (offs := #[46, 33, 26]) (n := 26) (by decide +kernel) (by decide) (by decide))
  <| all_c (s_ild_n (q := 3) (by decide +kernel) rfl)
  <| all_c (s_iconst (n := 1) (by decide +kernel) (by decide))
  <| all_c (s_ixor (by decide +kernel))
  <| all_c (s_ist_n (q := 3) (by decide +kernel) rfl)
  <| all_c (s_goto (off := 47) (by decide +kernel) (by decide))
  <| all_c (s_ild_n (q := 3) (by decide +kernel) rfl)
  <| all_c (s_iconst (n := 1) (by decide +kernel) (by decide))
  <| all_c (s_ishr (by decide +kernel))
  <| all_c (s_ild (by decide +kernel))
  <| all_c (s_bipush (n := (-2)) (by decide +kernel) (by decide))
  <| all_c (s_ior (by decide +kernel))
  <| all_c (s_iand (by decide +kernel))
  <| all_c (s_ist_n (q := 3) (by decide +kernel) rfl)
  <| all_c (s_goto (off := 34) (by decide +kernel) (by decide))
  <| all_c (s_ild_n (q := 3) (by decide +kernel) rfl)
  <| all_c (s_iconst (n := 1) (by decide +kernel) (by decide))
  <| all_c (s_ishr (by decide +kernel))
  <| all_c (s_ild (by decide +kernel))
  <| all_c (s_ior (by decide +kernel))
  <| all_c (s_ist_n (q := 3) (by decide +kernel) rfl)
  <| all_c (s_goto (off := 24) (by decide +kernel) (by decide))
  <| all_c (s_ild_n (q := 3) (by decide +kernel) rfl)
  <| all_c (s_iconst (n := 1) (by decide +kernel) (by decide))
  <| all_c (s_ishl (by decide +kernel))
  <| all_c (s_ald_n (q := 0) (by decide +kernel) rfl)
  <| all_c (s_ald_n (q := 1) (by decide +kernel) rfl)
  <| all_c (s_ild_n (q := 2) (by decide +kernel) rfl)
  <| all_c (s_ild (by decide +kernel))
  <| all_c (s_callV (by decide +kernel) (t_X9_isSo hE) cl_X9_isSo ml_RX9_83 im_X9_isSo se_X9_isSo (by decide) rfl (rm_lt (by decide)))
  <| all_c (s_ifeq (off := 7) (by decide +kernel) (by decide))
  <| all_c (s_iconst (n := 1) (by decide +kernel) (by decide))
  <| all_c (s_goto (off := 4) (by decide +kernel) (by decide))
  <| all_c (s_iconst (n := 0) (by decide +kernel) (by decide))
  <| all_c (s_ior (by decide +kernel))
  <| all_c (s_ist_n (q := 3) (by decide +kernel) rfl)
  <| all_c (s_inc (n := 1) (by decide +kernel) (by decide))
  <| all_c (s_aft (s_goto (off := (-101)) (by decide +kernel) (by decide)))
  <| all_c (s_ild_n (q := 3) (by decide +kernel) rfl)
  <| all_c (s_iconst (n := 1) (by decide +kernel) (by decide))
  <| all_c (s_iand (by decide +kernel))
  <| all_c (s_ifeq (off := 7) (by decide +kernel) (by decide))
  <| all_c (s_iconst (n := 1) (by decide +kernel) (by decide))
  <| all_c (s_goto (off := 4) (by decide +kernel) (by decide))
  <| all_c (s_iconst (n := 0) (by decide +kernel) (by decide))
  <| all_c (s_zret (by decide +kernel) rfl)
  <| all_n
theorem t_X9_holds {l : Launch} {E : En_} (hE : EOK_ E) : Good_ l E yX9_holds (.code yX9_holds cX9_holds 6 (some .boolean) :: G_) (rm_ 4) (f_X9_holds E.2.2.2.1) := good_all hE (by decide +kernel) (a_X9_holds hE)
noncomputable def P_X10_mostOfRest (K : Sh_)  : List (Nat × Op_) := [(0, o_ic 0 1),
  (1, o_ist 2 1),
  (2, o_ild 1 1),
  (3, o_ist 3 1),
  (4, o_ild 3 1),
  (5, o_ald 0 1),
  (6, o_gI K 10 7),
  (9, o_cmpge 30),
  (12, o_ild 2 1),
  (13, o_ald 0 1),
  (14, o_gR K 10 6),
  (17, o_gF K 0 2),
  (20, o_ild 3 1),
  (21, o_iald K),
  (22, o_iadd),
  (23, o_ist 2 1),
  (24, o_inc 3 1),
  (27, o_goto 4),
  (30, o_ild 2 1),
  (31, o_ald 0 1),
  (32, o_gI K 10 8),
  (35, o_imul),
  (36, o_iret)]
noncomputable def f_X10_mostOfRest (K : Sh_) : Fn_ := fn_ (P_X10_mostOfRest K) 4
set_option maxRecDepth 100000 in
theorem a_X10_mostOfRest {l : Launch} {E : En_} (hE : EOK_ E)   : All_ (Snd_ l E yX10_mostOfRest.cls cX10_mostOfRest 4 (some .int) (.code yX10_mostOfRest cX10_mostOfRest 4 (some .int) :: G_) (rm_ 1)) (P_X10_mostOfRest E.2.2.2.1 ) :=
  all_c (s_iconst (n := 0) (by decide +kernel) (by decide))
  <| all_c (s_ist_n (q := 2) (by decide +kernel) rfl)
  <| all_c (s_ild_n (q := 1) (by decide +kernel) rfl)
  <| all_c (s_ist_n (q := 3) (by decide +kernel) rfl)
  <| all_c (s_ild_n (q := 3) (by decide +kernel) rfl)
  <| all_c (s_ald_n (q := 0) (by decide +kernel) rfl)
  <| all_c (g_10_7 (by decide +kernel) fl_RX10_31)
  <| all_c (s_cmpge (off := 21) (by decide +kernel) (by decide))
  <| all_c (s_ild_n (q := 2) (by decide +kernel) rfl)
  <| all_c (s_ald_n (q := 0) (by decide +kernel) rfl)
  <| all_c (g_10_6 (by decide +kernel) fl_RX10_27)
  <| all_c (g_0_2 (by decide +kernel) fl_RX10_68)
  <| all_c (s_ild_n (q := 3) (by decide +kernel) rfl)
  <| all_c (s_iald (by decide +kernel))
  <| all_c (s_iadd (by decide +kernel))
  <| all_c (s_ist_n (q := 2) (by decide +kernel) rfl)
  <| all_c (s_inc (n := 1) (by decide +kernel) (by decide))
  <| all_c (s_goto (off := (-23)) (by decide +kernel) (by decide))
  <| all_c (s_ild_n (q := 2) (by decide +kernel) rfl)
  <| all_c (s_ald_n (q := 0) (by decide +kernel) rfl)
  <| all_c (g_10_8 (by decide +kernel) fl_RX10_35)
  <| all_c (s_imul (by decide +kernel))
  <| all_c (s_iret (by decide +kernel) rfl)
  <| all_n
theorem t_X10_mostOfRest {l : Launch} {E : En_} (hE : EOK_ E) : Good_ l E yX10_mostOfRest (.code yX10_mostOfRest cX10_mostOfRest 4 (some .int) :: G_) (rm_ 1) (f_X10_mostOfRest E.2.2.2.1) := good_all hE (by decide +kernel) (a_X10_mostOfRest hE)
noncomputable def P_X10_worthIfReadBy (K : Sh_)  : List (Nat × Op_) := [(0, o_ald 0 1),
  (1, o_gR K 10 6),
  (4, o_ild 1 1),
  (5, o_ald 0 1),
  (6, o_gR K 10 6),
  (9, o_ild 2 1),
  (10, o_ald 0 1),
  (11, o_gF K 10 4),
  (14, o_ild 1 1),
  (15, o_ic 16 2),
  (17, o_imul),
  (18, o_callV K 0 (f_X0_lackAt K) 3),
  (21, o_callV K 0 (f_X0_partsRead K) 2),
  (24, o_ist 3 1),
  (25, o_ic 0 1),
  (26, o_ist 4 2),
  (28, o_ic 0 1),
  (29, o_aft [6, 7] (o_ist 5 2)),
  (31, o_ild 5 2),
  (33, o_ald 0 1),
  (34, o_gI K 10 8),
  (37, o_cmpge 163),
  (40, o_ild 5 2),
  (42, o_ic 16 2),
  (44, o_imul),
  (45, o_ist 6 2),
  (47, o_ild 5 2),
  (49, o_ild 1 1),
  (50, o_cmpne 76),
  (53, o_ald 0 1),
  (54, o_gF K 10 4),
  (57, o_ild 6 2),
  (59, o_ild 2 1),
  (60, o_iadd),
  (61, o_ild 3 1),
  (62, o_iast K),
  (63, o_ald 0 1),
  (64, o_gF K 10 5),
  (67, o_ild 6 2),
  (69, o_ild 2 1),
  (70, o_iadd),
  (71, o_ild 3 1),
  (72, o_iast K),
  (73, o_aft [7] (o_goto 131)),
  (76, o_ald 0 1),
  (77, o_gR K 10 6),
  (80, o_ild 2 1),
  (81, o_ald 0 1),
  (82, o_gF K 10 5),
  (85, o_ild 6 2),
  (87, o_callV K 0 (f_X0_lackAt K) 3),
  (90, o_ist 7 2),
  (92, o_ald 0 1),
  (93, o_gF K 10 4),
  (96, o_ild 6 2),
  (98, o_ild 2 1),
  (99, o_iadd),
  (100, o_ic 0 1),
  (101, o_iast K),
  (102, o_ald 0 1),
  (103, o_gF K 10 5),
  (106, o_ild 6 2),
  (108, o_ild 2 1),
  (109, o_iadd),
  (110, o_ald 0 1),
  (111, o_gR K 10 6),
  (114, o_ild 3 1),
  (115, o_ild 1 1),
  (116, o_ic 4 1),
  (117, o_ild 5 2),
  (119, o_callV K 0 (f_X0_partsTold K) 4),
  (122, o_ic 1000000 2),
  (124, o_ild 7 2),
  (126, o_isub),
  (127, o_callS (f_X0_ofMillion K) 2),
  (130, o_aft [7] (o_iast K)),
  (131, o_ild 4 2),
  (133, o_ald 0 1),
  (134, o_gR K 10 6),
  (137, o_gF K 0 2),
  (140, o_ild 2 1),
  (141, o_iald K),
  (142, o_ald 0 1),
  (143, o_gF K 10 5),
  (146, o_ild 6 2),
  (148, o_ild 2 1),
  (149, o_iadd),
  (150, o_iald K),
  (151, o_callS (f_X0_ofMillion K) 2),
  (154, o_iadd),
  (155, o_ist 4 2),
  (157, o_inc 5 1),
  (160, o_aft [6, 7] (o_goto 31)),
  (163, o_ild 4 2),
  (165, o_iret)]
noncomputable def f_X10_worthIfReadBy (K : Sh_) : Fn_ := fn_ (P_X10_worthIfReadBy K) 8
set_option maxRecDepth 100000 in
theorem a_X10_worthIfReadBy {l : Launch} {E : En_} (hE : EOK_ E)   : All_ (Snd_ l E yX10_worthIfReadBy.cls cX10_worthIfReadBy 8 (some .int) (.code yX10_worthIfReadBy cX10_worthIfReadBy 8 (some .int) :: G_) (rm_ 2)) (P_X10_worthIfReadBy E.2.2.2.1 ) :=
  all_c (s_ald_n (q := 0) (by decide +kernel) rfl)
  <| all_c (g_10_6 (by decide +kernel) fl_RX10_27)
  <| all_c (s_ild_n (q := 1) (by decide +kernel) rfl)
  <| all_c (s_ald_n (q := 0) (by decide +kernel) rfl)
  <| all_c (g_10_6 (by decide +kernel) fl_RX10_27)
  <| all_c (s_ild_n (q := 2) (by decide +kernel) rfl)
  <| all_c (s_ald_n (q := 0) (by decide +kernel) rfl)
  <| all_c (g_10_4 (by decide +kernel) fl_RX10_21)
  <| all_c (s_ild_n (q := 1) (by decide +kernel) rfl)
  <| all_c (s_bipush (n := 16) (by decide +kernel) (by decide))
  <| all_c (s_imul (by decide +kernel))
  <| all_c (s_callV (by decide +kernel) (t_X0_lackAt hE) cl_X0_lackAt ml_RX10_71 im_X0_lackAt se_X0_lackAt (by decide) rfl (rm_lt (by decide)))
  <| all_c (s_callV (by decide +kernel) (t_X0_partsRead hE) cl_X0_partsRead ml_RX10_75 im_X0_partsRead se_X0_partsRead (by decide) rfl (rm_lt (by decide)))
  <| all_c (s_ist_n (q := 3) (by decide +kernel) rfl)
  <| all_c (s_iconst (n := 0) (by decide +kernel) (by decide))
  <| all_c (s_ist (by decide +kernel))
  <| all_c (s_iconst (n := 0) (by decide +kernel) (by decide))
  <| all_c (s_aft (s_ist (by decide +kernel)))
  <| all_c (s_ild (by decide +kernel))
  <| all_c (s_ald_n (q := 0) (by decide +kernel) rfl)
  <| all_c (g_10_8 (by decide +kernel) fl_RX10_35)
  <| all_c (s_cmpge (off := 126) (by decide +kernel) (by decide))
  <| all_c (s_ild (by decide +kernel))
  <| all_c (s_bipush (n := 16) (by decide +kernel) (by decide))
  <| all_c (s_imul (by decide +kernel))
  <| all_c (s_ist (by decide +kernel))
  <| all_c (s_ild (by decide +kernel))
  <| all_c (s_ild_n (q := 1) (by decide +kernel) rfl)
  <| all_c (s_cmpne (off := 26) (by decide +kernel) (by decide))
  <| all_c (s_ald_n (q := 0) (by decide +kernel) rfl)
  <| all_c (g_10_4 (by decide +kernel) fl_RX10_21)
  <| all_c (s_ild (by decide +kernel))
  <| all_c (s_ild_n (q := 2) (by decide +kernel) rfl)
  <| all_c (s_iadd (by decide +kernel))
  <| all_c (s_ild_n (q := 3) (by decide +kernel) rfl)
  <| all_c (s_iast (by decide +kernel))
  <| all_c (s_ald_n (q := 0) (by decide +kernel) rfl)
  <| all_c (g_10_5 (by decide +kernel) fl_RX10_24)
  <| all_c (s_ild (by decide +kernel))
  <| all_c (s_ild_n (q := 2) (by decide +kernel) rfl)
  <| all_c (s_iadd (by decide +kernel))
  <| all_c (s_ild_n (q := 3) (by decide +kernel) rfl)
  <| all_c (s_iast (by decide +kernel))
  <| all_c (s_aft (s_goto (off := 58) (by decide +kernel) (by decide)))
  <| all_c (s_ald_n (q := 0) (by decide +kernel) rfl)
  <| all_c (g_10_6 (by decide +kernel) fl_RX10_27)
  <| all_c (s_ild_n (q := 2) (by decide +kernel) rfl)
  <| all_c (s_ald_n (q := 0) (by decide +kernel) rfl)
  <| all_c (g_10_5 (by decide +kernel) fl_RX10_24)
  <| all_c (s_ild (by decide +kernel))
  <| all_c (s_callV (by decide +kernel) (t_X0_lackAt hE) cl_X0_lackAt ml_RX10_71 im_X0_lackAt se_X0_lackAt (by decide) rfl (rm_lt (by decide)))
  <| all_c (s_ist (by decide +kernel))
  <| all_c (s_ald_n (q := 0) (by decide +kernel) rfl)
  <| all_c (g_10_4 (by decide +kernel) fl_RX10_21)
  <| all_c (s_ild (by decide +kernel))
  <| all_c (s_ild_n (q := 2) (by decide +kernel) rfl)
  <| all_c (s_iadd (by decide +kernel))
  <| all_c (s_iconst (n := 0) (by decide +kernel) (by decide))
  <| all_c (s_iast (by decide +kernel))
  <| all_c (s_ald_n (q := 0) (by decide +kernel) rfl)
  <| all_c (g_10_5 (by decide +kernel) fl_RX10_24)
  <| all_c (s_ild (by decide +kernel))
  <| all_c (s_ild_n (q := 2) (by decide +kernel) rfl)
  <| all_c (s_iadd (by decide +kernel))
  <| all_c (s_ald_n (q := 0) (by decide +kernel) rfl)
  <| all_c (g_10_6 (by decide +kernel) fl_RX10_27)
  <| all_c (s_ild_n (q := 3) (by decide +kernel) rfl)
  <| all_c (s_ild_n (q := 1) (by decide +kernel) rfl)
  <| all_c (s_iconst (n := 4) (by decide +kernel) (by decide))
  <| all_c (s_ild (by decide +kernel))
  <| all_c (s_callV (by decide +kernel) (t_X0_partsTold hE) cl_X0_partsTold ml_RX10_78 im_X0_partsTold se_X0_partsTold (by decide) rfl (rm_lt (by decide)))
  <| all_c (s_ldc (by decide +kernel) (G_w kk_RX10_82))
  <| all_c (s_ild (by decide +kernel))
  <| all_c (s_isub (by decide +kernel))
  <| all_c (s_callS (by decide +kernel) (t_X0_ofMillion hE) cl_X0_ofMillion ml_RX10_83 sm_X0_ofMillion (rm_lt (by decide)))
  <| all_c (s_aft (s_iast (by decide +kernel)))
  <| all_c (s_ild (by decide +kernel))
  <| all_c (s_ald_n (q := 0) (by decide +kernel) rfl)
  <| all_c (g_10_6 (by decide +kernel) fl_RX10_27)
  <| all_c (g_0_2 (by decide +kernel) fl_RX10_68)
  <| all_c (s_ild_n (q := 2) (by decide +kernel) rfl)
  <| all_c (s_iald (by decide +kernel))
  <| all_c (s_ald_n (q := 0) (by decide +kernel) rfl)
  <| all_c (g_10_5 (by decide +kernel) fl_RX10_24)
  <| all_c (s_ild (by decide +kernel))
  <| all_c (s_ild_n (q := 2) (by decide +kernel) rfl)
  <| all_c (s_iadd (by decide +kernel))
  <| all_c (s_iald (by decide +kernel))
  <| all_c (s_callS (by decide +kernel) (t_X0_ofMillion hE) cl_X0_ofMillion ml_RX10_83 sm_X0_ofMillion (rm_lt (by decide)))
  <| all_c (s_iadd (by decide +kernel))
  <| all_c (s_ist (by decide +kernel))
  <| all_c (s_inc (n := 1) (by decide +kernel) (by decide))
  <| all_c (s_aft (s_goto (off := (-129)) (by decide +kernel) (by decide)))
  <| all_c (s_ild (by decide +kernel))
  <| all_c (s_iret (by decide +kernel) rfl)
  <| all_n
theorem t_X10_worthIfReadBy {l : Launch} {E : En_} (hE : EOK_ E) : Good_ l E yX10_worthIfReadBy (.code yX10_worthIfReadBy cX10_worthIfReadBy 8 (some .int) :: G_) (rm_ 2) (f_X10_worthIfReadBy E.2.2.2.1) := good_all hE (by decide +kernel) (a_X10_worthIfReadBy hE)
noncomputable def P_X10_tryFrom (K : Sh_) (r_X10_tryFrom : Fn_) : List (Nat × Op_) := [(0, o_ild 1 1),
  (1, o_ald 0 1),
  (2, o_gI K 10 7),
  (5, o_cmplt 37),
  (8, o_ild 2 1),
  (9, o_ald 0 1),
  (10, o_gI K 10 9),
  (13, o_cmple 36),
  (16, o_ald 0 1),
  (17, o_ild 2 1),
  (18, o_pI K 10 9),
  (21, o_ald 0 1),
  (22, o_gF K 10 2),
  (25, o_ald 0 1),
  (26, o_gF K 10 0),
  (29, o_ald 0 1),
  (30, o_gI K 10 7),
  (33, o_callS (f_X0_copyRow K) 3),
  (36, o_vret),
  (37, o_ild 2 1),
  (38, o_ald 0 1),
  (39, o_ild 1 1),
  (40, o_callV K 10 (f_X10_mostOfRest K) 1),
  (43, o_iadd),
  (44, o_ald 0 1),
  (45, o_gI K 10 9),
  (48, o_cmpgt 52),
  (51, o_vret),
  (52, o_ic 0 1),
  (53, o_aft [4] (o_ist 3 1)),
  (54, o_ild 3 1),
  (55, o_ald 0 1),
  (56, o_gI K 10 8),
  (59, o_cmpge 134),
  (62, o_ald 0 1),
  (63, o_gR K 10 6),
  (66, o_ild 3 1),
  (67, o_ild 1 1),
  (68, o_callV K 0 (f_X0_readTime K) 2),
  (71, o_ist 4 2),
  (73, o_ald 0 1),
  (74, o_gF K 10 3),
  (77, o_ild 3 1),
  (78, o_iald K),
  (79, o_ild 4 2),
  (81, o_cmplt 128),
  (84, o_ald 0 1),
  (85, o_gF K 10 3),
  (88, o_ild 3 1),
  (89, o_dup2),
  (90, o_iald K),
  (91, o_ild 4 2),
  (93, o_isub),
  (94, o_iast K),
  (95, o_ald 0 1),
  (96, o_gF K 10 2),
  (99, o_ild 1 1),
  (100, o_ild 3 1),
  (101, o_iast K),
  (102, o_ald 0 1),
  (103, o_ild 1 1),
  (104, o_ic 1 1),
  (105, o_iadd),
  (106, o_ild 2 1),
  (107, o_ald 0 1),
  (108, o_ild 3 1),
  (109, o_ild 1 1),
  (110, o_callV K 10 (f_X10_worthIfReadBy K) 2),
  (113, o_iadd),
  (114, o_callV K 10 (r_X10_tryFrom) 2),
  (117, o_ald 0 1),
  (118, o_gF K 10 3),
  (121, o_ild 3 1),
  (122, o_dup2),
  (123, o_iald K),
  (124, o_ild 4 2),
  (126, o_iadd),
  (127, o_iast K),
  (128, o_inc 3 1),
  (131, o_aft [4] (o_goto 54)),
  (134, o_ald 0 1),
  (135, o_gF K 10 2),
  (138, o_ild 1 1),
  (139, o_ic (-1) 1),
  (140, o_iast K),
  (141, o_ic 0 1),
  (142, o_aft [4] (o_ist 3 1)),
  (143, o_ild 3 1),
  (144, o_ald 0 1),
  (145, o_gI K 10 8),
  (148, o_cmpge 181),
  (151, o_ald 0 1),
  (152, o_gF K 10 4),
  (155, o_ild 3 1),
  (156, o_ic 16 2),
  (158, o_imul),
  (159, o_ild 1 1),
  (160, o_iadd),
  (161, o_ic 0 1),
  (162, o_iast K),
  (163, o_ald 0 1),
  (164, o_gF K 10 5),
  (167, o_ild 3 1),
  (168, o_ic 16 2),
  (170, o_imul),
  (171, o_ild 1 1),
  (172, o_iadd),
  (173, o_ic 0 1),
  (174, o_iast K),
  (175, o_inc 3 1),
  (178, o_aft [4] (o_goto 143)),
  (181, o_ald 0 1),
  (182, o_ild 1 1),
  (183, o_ic 1 1),
  (184, o_iadd),
  (185, o_ild 2 1),
  (186, o_callV K 10 (r_X10_tryFrom) 2),
  (189, o_vret)]
noncomputable def F_X10_tryFrom (K : Sh_) : Nat → Fn_
  | 0 => (fun _ _ => none)
  | d + 1 => (fn_ (P_X10_tryFrom K (F_X10_tryFrom K d)) 5)
noncomputable def f_X10_tryFrom (K : Sh_) (d : Nat) : Fn_ := (F_X10_tryFrom K d)
set_option maxRecDepth 100000 in
theorem a_X10_tryFrom {l : Launch} {E : En_} (hE : EOK_ E) {d : Nat} {r_X10_tryFrom : Fn_} (h_X10_tryFrom : Good_ l E yX10_tryFrom (.code yX10_tryFrom cX10_tryFrom 5 (none) :: G_) (rm_ (3 + d)) r_X10_tryFrom) : All_ (Snd_ l E yX10_tryFrom.cls cX10_tryFrom 5 (none) (.code yX10_tryFrom cX10_tryFrom 5 (none) :: G_) (rm_ (3 + (d + 1)))) (P_X10_tryFrom E.2.2.2.1 r_X10_tryFrom) :=
  all_c (s_ild_n (q := 1) (by decide +kernel) rfl)
  <| all_c (s_ald_n (q := 0) (by decide +kernel) rfl)
  <| all_c (g_10_7 (by decide +kernel) fl_RX10_31)
  <| all_c (s_cmplt (off := 32) (by decide +kernel) (by decide))
  <| all_c (s_ild_n (q := 2) (by decide +kernel) rfl)
  <| all_c (s_ald_n (q := 0) (by decide +kernel) rfl)
  <| all_c (g_10_9 (by decide +kernel) fl_RX10_41)
  <| all_c (s_cmple (off := 23) (by decide +kernel) (by decide))
  <| all_c (s_ald_n (q := 0) (by decide +kernel) rfl)
  <| all_c (s_ild_n (q := 2) (by decide +kernel) rfl)
  <| all_c (p_10_9 (by decide +kernel) fl_RX10_41)
  <| all_c (s_ald_n (q := 0) (by decide +kernel) rfl)
  <| all_c (g_10_2 (by decide +kernel) fl_RX10_15)
  <| all_c (s_ald_n (q := 0) (by decide +kernel) rfl)
  <| all_c (g_10_0 (by decide +kernel) fl_RX10_11)
  <| all_c (s_ald_n (q := 0) (by decide +kernel) rfl)
  <| all_c (g_10_7 (by decide +kernel) fl_RX10_31)
  <| all_c (s_callS (by decide +kernel) (t_X0_copyRow hE) cl_X0_copyRow ml_RX10_53 sm_X0_copyRow (rm_lt (by omega)))
  <| all_c (s_vret (by decide +kernel) rfl)
  <| all_c (s_ild_n (q := 2) (by decide +kernel) rfl)
  <| all_c (s_ald_n (q := 0) (by decide +kernel) rfl)
  <| all_c (s_ild_n (q := 1) (by decide +kernel) rfl)
  <| all_c (s_callV (by decide +kernel) (t_X10_mostOfRest hE) cl_X10_mostOfRest ml_RX10_57 im_X10_mostOfRest se_X10_mostOfRest (by decide) rfl (rm_lt (by omega)))
  <| all_c (s_iadd (by decide +kernel))
  <| all_c (s_ald_n (q := 0) (by decide +kernel) rfl)
  <| all_c (g_10_9 (by decide +kernel) fl_RX10_41)
  <| all_c (s_cmpgt (off := 4) (by decide +kernel) (by decide))
  <| all_c (s_vret (by decide +kernel) rfl)
  <| all_c (s_iconst (n := 0) (by decide +kernel) (by decide))
  <| all_c (s_aft (s_ist_n (q := 3) (by decide +kernel) rfl))
  <| all_c (s_ild_n (q := 3) (by decide +kernel) rfl)
  <| all_c (s_ald_n (q := 0) (by decide +kernel) rfl)
  <| all_c (g_10_8 (by decide +kernel) fl_RX10_35)
  <| all_c (s_cmpge (off := 75) (by decide +kernel) (by decide))
  <| all_c (s_ald_n (q := 0) (by decide +kernel) rfl)
  <| all_c (g_10_6 (by decide +kernel) fl_RX10_27)
  <| all_c (s_ild_n (q := 3) (by decide +kernel) rfl)
  <| all_c (s_ild_n (q := 1) (by decide +kernel) rfl)
  <| all_c (s_callV (by decide +kernel) (t_X0_readTime hE) cl_X0_readTime ml_RX10_61 im_X0_readTime se_X0_readTime (by decide) rfl (rm_lt (by omega)))
  <| all_c (s_ist (by decide +kernel))
  <| all_c (s_ald_n (q := 0) (by decide +kernel) rfl)
  <| all_c (g_10_3 (by decide +kernel) fl_RX10_18)
  <| all_c (s_ild_n (q := 3) (by decide +kernel) rfl)
  <| all_c (s_iald (by decide +kernel))
  <| all_c (s_ild (by decide +kernel))
  <| all_c (s_cmplt (off := 47) (by decide +kernel) (by decide))
  <| all_c (s_ald_n (q := 0) (by decide +kernel) rfl)
  <| all_c (g_10_3 (by decide +kernel) fl_RX10_18)
  <| all_c (s_ild_n (q := 3) (by decide +kernel) rfl)
  <| all_c (s_dup2 (by decide +kernel))
  <| all_c (s_iald (by decide +kernel))
  <| all_c (s_ild (by decide +kernel))
  <| all_c (s_isub (by decide +kernel))
  <| all_c (s_iast (by decide +kernel))
  <| all_c (s_ald_n (q := 0) (by decide +kernel) rfl)
  <| all_c (g_10_2 (by decide +kernel) fl_RX10_15)
  <| all_c (s_ild_n (q := 1) (by decide +kernel) rfl)
  <| all_c (s_ild_n (q := 3) (by decide +kernel) rfl)
  <| all_c (s_iast (by decide +kernel))
  <| all_c (s_ald_n (q := 0) (by decide +kernel) rfl)
  <| all_c (s_ild_n (q := 1) (by decide +kernel) rfl)
  <| all_c (s_iconst (n := 1) (by decide +kernel) (by decide))
  <| all_c (s_iadd (by decide +kernel))
  <| all_c (s_ild_n (q := 2) (by decide +kernel) rfl)
  <| all_c (s_ald_n (q := 0) (by decide +kernel) rfl)
  <| all_c (s_ild_n (q := 3) (by decide +kernel) rfl)
  <| all_c (s_ild_n (q := 1) (by decide +kernel) rfl)
  <| all_c (s_callV (by decide +kernel) (t_X10_worthIfReadBy hE) cl_X10_worthIfReadBy ml_RX10_65 im_X10_worthIfReadBy se_X10_worthIfReadBy (by decide) rfl (rm_lt (by omega)))
  <| all_c (s_iadd (by decide +kernel))
  <| all_c (s_callV (by decide +kernel) (h_X10_tryFrom) cl_X10_tryFrom ml_RX10_49 im_X10_tryFrom se_X10_tryFrom (by decide) rfl (rm_lt (by omega)))
  <| all_c (s_ald_n (q := 0) (by decide +kernel) rfl)
  <| all_c (g_10_3 (by decide +kernel) fl_RX10_18)
  <| all_c (s_ild_n (q := 3) (by decide +kernel) rfl)
  <| all_c (s_dup2 (by decide +kernel))
  <| all_c (s_iald (by decide +kernel))
  <| all_c (s_ild (by decide +kernel))
  <| all_c (s_iadd (by decide +kernel))
  <| all_c (s_iast (by decide +kernel))
  <| all_c (s_inc (n := 1) (by decide +kernel) (by decide))
  <| all_c (s_aft (s_goto (off := (-77)) (by decide +kernel) (by decide)))
  <| all_c (s_ald_n (q := 0) (by decide +kernel) rfl)
  <| all_c (g_10_2 (by decide +kernel) fl_RX10_15)
  <| all_c (s_ild_n (q := 1) (by decide +kernel) rfl)
  <| all_c (s_iconst (n := (-1)) (by decide +kernel) (by decide))
  <| all_c (s_iast (by decide +kernel))
  <| all_c (s_iconst (n := 0) (by decide +kernel) (by decide))
  <| all_c (s_aft (s_ist_n (q := 3) (by decide +kernel) rfl))
  <| all_c (s_ild_n (q := 3) (by decide +kernel) rfl)
  <| all_c (s_ald_n (q := 0) (by decide +kernel) rfl)
  <| all_c (g_10_8 (by decide +kernel) fl_RX10_35)
  <| all_c (s_cmpge (off := 33) (by decide +kernel) (by decide))
  <| all_c (s_ald_n (q := 0) (by decide +kernel) rfl)
  <| all_c (g_10_4 (by decide +kernel) fl_RX10_21)
  <| all_c (s_ild_n (q := 3) (by decide +kernel) rfl)
  <| all_c (s_bipush (n := 16) (by decide +kernel) (by decide))
  <| all_c (s_imul (by decide +kernel))
  <| all_c (s_ild_n (q := 1) (by decide +kernel) rfl)
  <| all_c (s_iadd (by decide +kernel))
  <| all_c (s_iconst (n := 0) (by decide +kernel) (by decide))
  <| all_c (s_iast (by decide +kernel))
  <| all_c (s_ald_n (q := 0) (by decide +kernel) rfl)
  <| all_c (g_10_5 (by decide +kernel) fl_RX10_24)
  <| all_c (s_ild_n (q := 3) (by decide +kernel) rfl)
  <| all_c (s_bipush (n := 16) (by decide +kernel) (by decide))
  <| all_c (s_imul (by decide +kernel))
  <| all_c (s_ild_n (q := 1) (by decide +kernel) rfl)
  <| all_c (s_iadd (by decide +kernel))
  <| all_c (s_iconst (n := 0) (by decide +kernel) (by decide))
  <| all_c (s_iast (by decide +kernel))
  <| all_c (s_inc (n := 1) (by decide +kernel) (by decide))
  <| all_c (s_aft (s_goto (off := (-35)) (by decide +kernel) (by decide)))
  <| all_c (s_ald_n (q := 0) (by decide +kernel) rfl)
  <| all_c (s_ild_n (q := 1) (by decide +kernel) rfl)
  <| all_c (s_iconst (n := 1) (by decide +kernel) (by decide))
  <| all_c (s_iadd (by decide +kernel))
  <| all_c (s_ild_n (q := 2) (by decide +kernel) rfl)
  <| all_c (s_callV (by decide +kernel) (h_X10_tryFrom) cl_X10_tryFrom ml_RX10_49 im_X10_tryFrom se_X10_tryFrom (by decide) rfl (rm_lt (by omega)))
  <| all_c (s_vret (by decide +kernel) rfl)
  <| all_n
theorem T_X10_tryFrom {l : Launch} {E : En_} (hE : EOK_ E) : ∀ d, Good_ l E yX10_tryFrom (.code yX10_tryFrom cX10_tryFrom 5 (none) :: G_) (rm_ (3 + d)) (f_X10_tryFrom E.2.2.2.1 d)
  | 0 => good_0
  | d + 1 => by
    have h_X10_tryFrom := T_X10_tryFrom (l := l) hE d
    exact good_all hE (by decide +kernel) (a_X10_tryFrom hE h_X10_tryFrom)
theorem t_X10_tryFrom {l : Launch} {E : En_} (hE : EOK_ E) (d : Nat) : Good_ l E yX10_tryFrom (.code yX10_tryFrom cX10_tryFrom 5 (none) :: G_) (rm_ (3 + d)) (f_X10_tryFrom E.2.2.2.1 d) := (T_X10_tryFrom hE d)
noncomputable def P_X10_search (K : Sh_)  : List (Nat × Op_) := [(0, o_ald 0 1),
  (1, o_ald 1 1),
  (2, o_pR K 10 6),
  (5, o_ald 0 1),
  (6, o_ild 2 1),
  (7, o_pI K 10 7),
  (10, o_ald 0 1),
  (11, o_ild 3 1),
  (12, o_pI K 10 8),
  (15, o_ald 0 1),
  (16, o_ald 0 1),
  (17, o_gI K 10 7),
  (20, o_pI K 10 1),
  (23, o_ald 0 1),
  (24, o_ic (-1) 1),
  (25, o_pI K 10 9),
  (28, o_ic 0 1),
  (29, o_ist 4 2),
  (31, o_ild 4 2),
  (33, o_ald 0 1),
  (34, o_gI K 10 8),
  (37, o_cmpge 63),
  (40, o_ald 0 1),
  (41, o_gF K 10 3),
  (44, o_ild 4 2),
  (46, o_ald 0 1),
  (47, o_gR K 10 6),
  (50, o_gF K 0 9),
  (53, o_ild 4 2),
  (55, o_iald K),
  (56, o_iast K),
  (57, o_inc 4 1),
  (60, o_goto 31),
  (63, o_ald 0 1),
  (64, o_ic 0 1),
  (65, o_ic 0 1),
  (66, o_callV K 10 (f_X10_tryFrom K 80) 2),
  (69, o_ald 0 1),
  (70, o_gI K 10 9),
  (73, o_iret)]
noncomputable def f_X10_search (K : Sh_) : Fn_ := fn_ (P_X10_search K) 5
set_option maxRecDepth 100000 in
theorem a_X10_search {l : Launch} {E : En_} (hE : EOK_ E)   : All_ (Snd_ l E yX10_search.cls cX10_search 5 (some .int) (.code yX10_search cX10_search 5 (some .int) :: G_) (rm_ 84)) (P_X10_search E.2.2.2.1 ) :=
  all_c (s_ald_n (q := 0) (by decide +kernel) rfl)
  <| all_c (s_ald_n (q := 1) (by decide +kernel) rfl)
  <| all_c (p_10_6 (by decide +kernel) fl_RX10_27)
  <| all_c (s_ald_n (q := 0) (by decide +kernel) rfl)
  <| all_c (s_ild_n (q := 2) (by decide +kernel) rfl)
  <| all_c (p_10_7 (by decide +kernel) fl_RX10_31)
  <| all_c (s_ald_n (q := 0) (by decide +kernel) rfl)
  <| all_c (s_ild_n (q := 3) (by decide +kernel) rfl)
  <| all_c (p_10_8 (by decide +kernel) fl_RX10_35)
  <| all_c (s_ald_n (q := 0) (by decide +kernel) rfl)
  <| all_c (s_ald_n (q := 0) (by decide +kernel) rfl)
  <| all_c (g_10_7 (by decide +kernel) fl_RX10_31)
  <| all_c (p_10_1 (by decide +kernel) fl_RX10_38)
  <| all_c (s_ald_n (q := 0) (by decide +kernel) rfl)
  <| all_c (s_iconst (n := (-1)) (by decide +kernel) (by decide))
  <| all_c (p_10_9 (by decide +kernel) fl_RX10_41)
  <| all_c (s_iconst (n := 0) (by decide +kernel) (by decide))
  <| all_c (s_ist (by decide +kernel))
  <| all_c (s_ild (by decide +kernel))
  <| all_c (s_ald_n (q := 0) (by decide +kernel) rfl)
  <| all_c (g_10_8 (by decide +kernel) fl_RX10_35)
  <| all_c (s_cmpge (off := 26) (by decide +kernel) (by decide))
  <| all_c (s_ald_n (q := 0) (by decide +kernel) rfl)
  <| all_c (g_10_3 (by decide +kernel) fl_RX10_18)
  <| all_c (s_ild (by decide +kernel))
  <| all_c (s_ald_n (q := 0) (by decide +kernel) rfl)
  <| all_c (g_10_6 (by decide +kernel) fl_RX10_27)
  <| all_c (g_0_9 (by decide +kernel) fl_RX10_44)
  <| all_c (s_ild (by decide +kernel))
  <| all_c (s_iald (by decide +kernel))
  <| all_c (s_iast (by decide +kernel))
  <| all_c (s_inc (n := 1) (by decide +kernel) (by decide))
  <| all_c (s_goto (off := (-29)) (by decide +kernel) (by decide))
  <| all_c (s_ald_n (q := 0) (by decide +kernel) rfl)
  <| all_c (s_iconst (n := 0) (by decide +kernel) (by decide))
  <| all_c (s_iconst (n := 0) (by decide +kernel) (by decide))
  <| all_c (s_callV (by decide +kernel) (t_X10_tryFrom hE 80) cl_X10_tryFrom ml_RX10_49 im_X10_tryFrom se_X10_tryFrom (by decide) rfl (rm_lt (by decide)))
  <| all_c (s_ald_n (q := 0) (by decide +kernel) rfl)
  <| all_c (g_10_9 (by decide +kernel) fl_RX10_41)
  <| all_c (s_iret (by decide +kernel) rfl)
  <| all_n
theorem t_X10_search {l : Launch} {E : En_} (hE : EOK_ E) : Good_ l E yX10_search (.code yX10_search cX10_search 5 (some .int) :: G_) (rm_ 84) (f_X10_search E.2.2.2.1) := good_all hE (by decide +kernel) (a_X10_search hE)
noncomputable def P_X11_feed (K : Sh_)  : List (Nat × Op_) := [(0, o_ald 0 1),
  (1, o_gF K 11 0),
  (4, o_ic 20 2),
  (6, o_callV K 8 (f_X8_hasRoom K) 1),
  (9, o_ifne 14),
  (12, o_ic (-1) 1),
  (13, o_iret),
  (14, o_ald 0 1),
  (15, o_gF K 11 0),
  (18, o_ild 1 1),
  (19, o_callV K 8 (f_X8_append K) 1),
  (22, o_ald 0 1),
  (23, o_gF K 11 0),
  (26, o_ild 2 1),
  (27, o_callV K 8 (f_X8_append K) 1),
  (30, o_ald 0 1),
  (31, o_gF K 11 0),
  (34, o_ild 3 1),
  (35, o_callV K 8 (f_X8_append K) 1),
  (38, o_ald 0 1),
  (39, o_gF K 11 0),
  (42, o_ild 4 2),
  (44, o_callV K 8 (f_X8_append K) 1),
  (47, o_ald 0 1),
  (48, o_gF K 11 0),
  (51, o_ild 5 2),
  (53, o_callV K 8 (f_X8_append K) 1),
  (56, o_ald 0 1),
  (57, o_gF K 11 0),
  (60, o_gI K 8 2),
  (63, o_iret)]
noncomputable def f_X11_feed (K : Sh_) : Fn_ := fn_ (P_X11_feed K) 6
set_option maxRecDepth 100000 in
theorem a_X11_feed {l : Launch} {E : En_} (hE : EOK_ E)   : All_ (Snd_ l E yX11_feed.cls cX11_feed 6 (some .int) (.code yX11_feed cX11_feed 6 (some .int) :: G_) (rm_ 2)) (P_X11_feed E.2.2.2.1 ) :=
  all_c (s_ald_n (q := 0) (by decide +kernel) rfl)
  <| all_c (g_11_0 (by decide +kernel) fl_RX11_10)
  <| all_c (s_bipush (n := 20) (by decide +kernel) (by decide))
  <| all_c (s_callV (by decide +kernel) (t_X8_hasRoom hE) cl_X8_hasRoom ml_RX11_123 im_X8_hasRoom se_X8_hasRoom (by decide) rfl (rm_lt (by decide)))
  <| all_c (s_ifne (off := 5) (by decide +kernel) (by decide))
  <| all_c (s_iconst (n := (-1)) (by decide +kernel) (by decide))
  <| all_c (s_iret (by decide +kernel) rfl)
  <| all_c (s_ald_n (q := 0) (by decide +kernel) rfl)
  <| all_c (g_11_0 (by decide +kernel) fl_RX11_10)
  <| all_c (s_ild_n (q := 1) (by decide +kernel) rfl)
  <| all_c (s_callV (by decide +kernel) (t_X8_append hE) cl_X8_append ml_RX11_127 im_X8_append se_X8_append (by decide) rfl (rm_lt (by decide)))
  <| all_c (s_ald_n (q := 0) (by decide +kernel) rfl)
  <| all_c (g_11_0 (by decide +kernel) fl_RX11_10)
  <| all_c (s_ild_n (q := 2) (by decide +kernel) rfl)
  <| all_c (s_callV (by decide +kernel) (t_X8_append hE) cl_X8_append ml_RX11_127 im_X8_append se_X8_append (by decide) rfl (rm_lt (by decide)))
  <| all_c (s_ald_n (q := 0) (by decide +kernel) rfl)
  <| all_c (g_11_0 (by decide +kernel) fl_RX11_10)
  <| all_c (s_ild_n (q := 3) (by decide +kernel) rfl)
  <| all_c (s_callV (by decide +kernel) (t_X8_append hE) cl_X8_append ml_RX11_127 im_X8_append se_X8_append (by decide) rfl (rm_lt (by decide)))
  <| all_c (s_ald_n (q := 0) (by decide +kernel) rfl)
  <| all_c (g_11_0 (by decide +kernel) fl_RX11_10)
  <| all_c (s_ild (by decide +kernel))
  <| all_c (s_callV (by decide +kernel) (t_X8_append hE) cl_X8_append ml_RX11_127 im_X8_append se_X8_append (by decide) rfl (rm_lt (by decide)))
  <| all_c (s_ald_n (q := 0) (by decide +kernel) rfl)
  <| all_c (g_11_0 (by decide +kernel) fl_RX11_10)
  <| all_c (s_ild (by decide +kernel))
  <| all_c (s_callV (by decide +kernel) (t_X8_append hE) cl_X8_append ml_RX11_127 im_X8_append se_X8_append (by decide) rfl (rm_lt (by decide)))
  <| all_c (s_ald_n (q := 0) (by decide +kernel) rfl)
  <| all_c (g_11_0 (by decide +kernel) fl_RX11_10)
  <| all_c (g_8_2 (by decide +kernel) fl_RX11_131)
  <| all_c (s_iret (by decide +kernel) rfl)
  <| all_n
theorem t_X11_feed {l : Launch} {E : En_} (hE : EOK_ E) : Good_ l E yX11_feed (.code yX11_feed cX11_feed 6 (some .int) :: G_) (rm_ 2) (f_X11_feed E.2.2.2.1) := good_all hE (by decide +kernel) (a_X11_feed hE)
noncomputable def P_X11_end (K : Sh_)  : List (Nat × Op_) := [(0, o_ild 1 1),
  (1, o_iflt 15),
  (4, o_ild 1 1),
  (5, o_ald 0 1),
  (6, o_gF K 11 0),
  (9, o_gI K 8 2),
  (12, o_cmple 17),
  (15, o_ic 0 1),
  (16, o_zret),
  (17, o_ald 0 1),
  (18, o_gF K 11 0),
  (21, o_ild 1 1),
  (22, o_pI K 8 2),
  (25, o_ic 1 1),
  (26, o_zret)]
noncomputable def f_X11_end (K : Sh_) : Fn_ := fn_ (P_X11_end K) 2
set_option maxRecDepth 100000 in
theorem a_X11_end {l : Launch} {E : En_} (hE : EOK_ E)   : All_ (Snd_ l E yX11_end.cls cX11_end 2 (some .boolean) (.code yX11_end cX11_end 2 (some .boolean) :: G_) (rm_ 1)) (P_X11_end E.2.2.2.1 ) :=
  all_c (s_ild_n (q := 1) (by decide +kernel) rfl)
  <| all_c (s_iflt (off := 14) (by decide +kernel) (by decide))
  <| all_c (s_ild_n (q := 1) (by decide +kernel) rfl)
  <| all_c (s_ald_n (q := 0) (by decide +kernel) rfl)
  <| all_c (g_11_0 (by decide +kernel) fl_RX11_10)
  <| all_c (g_8_2 (by decide +kernel) fl_RX11_131)
  <| all_c (s_cmple (off := 5) (by decide +kernel) (by decide))
  <| all_c (s_iconst (n := 0) (by decide +kernel) (by decide))
  <| all_c (s_zret (by decide +kernel) rfl)
  <| all_c (s_ald_n (q := 0) (by decide +kernel) rfl)
  <| all_c (g_11_0 (by decide +kernel) fl_RX11_10)
  <| all_c (s_ild_n (q := 1) (by decide +kernel) rfl)
  <| all_c (p_8_2 (by decide +kernel) fl_RX11_131)
  <| all_c (s_iconst (n := 1) (by decide +kernel) (by decide))
  <| all_c (s_zret (by decide +kernel) rfl)
  <| all_n
theorem t_X11_end {l : Launch} {E : En_} (hE : EOK_ E) : Good_ l E yX11_end (.code yX11_end cX11_end 2 (some .boolean) :: G_) (rm_ 1) (f_X11_end E.2.2.2.1) := good_all hE (by decide +kernel) (a_X11_end hE)
noncomputable def P_X11_book (K : Sh_)  : List (Nat × Op_) := [(0, o_ald 0 1),
  (1, o_gF K 11 0),
  (4, o_ic 1000 3),
  (7, o_callV K 8 (f_X8_start K) 1),
  (10, o_ald 0 1),
  (11, o_gR K 11 13),
  (14, o_ald 0 1),
  (15, o_gF K 11 0),
  (18, o_callV K 0 (f_X0_readFrom K) 1),
  (21, o_ist 1 1),
  (22, o_ald 0 1),
  (23, o_gF K 11 0),
  (26, o_ic 0 1),
  (27, o_pI K 8 2),
  (30, o_ild 1 1),
  (31, o_ifne 42),
  (34, o_ald 0 1),
  (35, o_gF K 11 0),
  (38, o_callV K 8 (f_X8_faultAnswer K) 0),
  (41, o_iret),
  (42, o_ald 0 1),
  (43, o_gR K 11 12),
  (46, o_ast 2 1),
  (47, o_ald 0 1),
  (48, o_ald 0 1),
  (49, o_gR K 11 13),
  (52, o_pR K 11 12),
  (55, o_ald 0 1),
  (56, o_ald 2 1),
  (57, o_pR K 11 13),
  (60, o_ald 0 1),
  (61, o_gR K 11 14),
  (64, o_callV K 6 (f_X6_clear K) 0),
  (67, o_ald 0 1),
  (68, o_gR K 11 16),
  (71, o_callV K 9 (f_X9_clear K) 0),
  (74, o_ald 0 1),
  (75, o_ic 0 1),
  (76, o_pZ K 11 18),
  (79, o_ald 0 1),
  (80, o_gR K 11 12),
  (83, o_gI K 0 13),
  (86, o_iret)]
noncomputable def f_X11_book (K : Sh_) : Fn_ := fn_ (P_X11_book K) 3
set_option maxRecDepth 100000 in
theorem a_X11_book {l : Launch} {E : En_} (hE : EOK_ E)   : All_ (Snd_ l E yX11_book.cls cX11_book 3 (some .int) (.code yX11_book cX11_book 3 (some .int) :: G_) (rm_ 7)) (P_X11_book E.2.2.2.1 ) :=
  all_c (s_ald_n (q := 0) (by decide +kernel) rfl)
  <| all_c (g_11_0 (by decide +kernel) fl_RX11_10)
  <| all_c (s_sipush (n := 1000) (by decide +kernel) (by decide))
  <| all_c (s_callV (by decide +kernel) (t_X8_start hE) cl_X8_start ml_RX11_134 im_X8_start se_X8_start (by decide) rfl (rm_lt (by decide)))
  <| all_c (s_ald_n (q := 0) (by decide +kernel) rfl)
  <| all_c (g_11_13 (by decide +kernel) fl_RX11_23)
  <| all_c (s_ald_n (q := 0) (by decide +kernel) rfl)
  <| all_c (g_11_0 (by decide +kernel) fl_RX11_10)
  <| all_c (s_callV (by decide +kernel) (t_X0_readFrom hE) cl_X0_readFrom ml_RX11_137 im_X0_readFrom se_X0_readFrom (by decide) rfl (rm_lt (by decide)))
  <| all_c (s_ist_n (q := 1) (by decide +kernel) rfl)
  <| all_c (s_ald_n (q := 0) (by decide +kernel) rfl)
  <| all_c (g_11_0 (by decide +kernel) fl_RX11_10)
  <| all_c (s_iconst (n := 0) (by decide +kernel) (by decide))
  <| all_c (p_8_2 (by decide +kernel) fl_RX11_131)
  <| all_c (s_ild_n (q := 1) (by decide +kernel) rfl)
  <| all_c (s_ifne (off := 11) (by decide +kernel) (by decide))
  <| all_c (s_ald_n (q := 0) (by decide +kernel) rfl)
  <| all_c (g_11_0 (by decide +kernel) fl_RX11_10)
  <| all_c (s_callV (by decide +kernel) (t_X8_faultAnswer hE) cl_X8_faultAnswer ml_RX11_141 im_X8_faultAnswer se_X8_faultAnswer (by decide) rfl (rm_lt (by decide)))
  <| all_c (s_iret (by decide +kernel) rfl)
  <| all_c (s_ald_n (q := 0) (by decide +kernel) rfl)
  <| all_c (g_11_12 (by decide +kernel) fl_RX11_19)
  <| all_c (s_ast_n (q := 2) (by decide +kernel) rfl)
  <| all_c (s_ald_n (q := 0) (by decide +kernel) rfl)
  <| all_c (s_ald_n (q := 0) (by decide +kernel) rfl)
  <| all_c (g_11_13 (by decide +kernel) fl_RX11_23)
  <| all_c (p_11_12 (by decide +kernel) fl_RX11_19)
  <| all_c (s_ald_n (q := 0) (by decide +kernel) rfl)
  <| all_c (s_ald_n (q := 2) (by decide +kernel) rfl)
  <| all_c (p_11_13 (by decide +kernel) fl_RX11_23)
  <| all_c (s_ald_n (q := 0) (by decide +kernel) rfl)
  <| all_c (g_11_14 (by decide +kernel) fl_RX11_29)
  <| all_c (s_callV (by decide +kernel) (t_X6_clear hE) cl_X6_clear ml_RX11_145 im_X6_clear se_X6_clear (by decide) rfl (rm_lt (by decide)))
  <| all_c (s_ald_n (q := 0) (by decide +kernel) rfl)
  <| all_c (g_11_16 (by decide +kernel) fl_RX11_39)
  <| all_c (s_callV (by decide +kernel) (t_X9_clear hE) cl_X9_clear ml_RX11_148 im_X9_clear se_X9_clear (by decide) rfl (rm_lt (by decide)))
  <| all_c (s_ald_n (q := 0) (by decide +kernel) rfl)
  <| all_c (s_iconst (n := 0) (by decide +kernel) (by decide))
  <| all_c (p_11_18 (by decide +kernel) fl_RX11_115)
  <| all_c (s_ald_n (q := 0) (by decide +kernel) rfl)
  <| all_c (g_11_12 (by decide +kernel) fl_RX11_19)
  <| all_c (g_0_13 (by decide +kernel) fl_RX11_149)
  <| all_c (s_iret (by decide +kernel) rfl)
  <| all_n
theorem t_X11_book {l : Launch} {E : En_} (hE : EOK_ E) : Good_ l E yX11_book (.code yX11_book cX11_book 3 (some .int) :: G_) (rm_ 7) (f_X11_book E.2.2.2.1) := good_all hE (by decide +kernel) (a_X11_book hE)
noncomputable def P_X11_fault (K : Sh_)  : List (Nat × Op_) := [(0, o_ald 0 1),
  (1, o_gF K 11 0),
  (4, o_gI K 8 9),
  (7, o_iret)]
noncomputable def f_X11_fault (K : Sh_) : Fn_ := fn_ (P_X11_fault K) 1
set_option maxRecDepth 100000 in
theorem a_X11_fault {l : Launch} {E : En_} (hE : EOK_ E)   : All_ (Snd_ l E yX11_fault.cls cX11_fault 1 (some .int) (.code yX11_fault cX11_fault 1 (some .int) :: G_) (rm_ 1)) (P_X11_fault E.2.2.2.1 ) :=
  all_c (s_ald_n (q := 0) (by decide +kernel) rfl)
  <| all_c (g_11_0 (by decide +kernel) fl_RX11_10)
  <| all_c (g_8_9 (by decide +kernel) fl_RX11_152)
  <| all_c (s_iret (by decide +kernel) rfl)
  <| all_n
theorem t_X11_fault {l : Launch} {E : En_} (hE : EOK_ E) : Good_ l E yX11_fault (.code yX11_fault cX11_fault 1 (some .int) :: G_) (rm_ 1) (f_X11_fault E.2.2.2.1) := good_all hE (by decide +kernel) (a_X11_fault hE)
noncomputable def P_X11_chap (K : Sh_)  : List (Nat × Op_) := [(0, o_ald 0 1),
  (1, o_gR K 11 12),
  (4, o_ild 1 1),
  (5, o_callV K 0 (f_X0_hasChap K) 1),
  (8, o_ifeq 20),
  (11, o_ild 2 1),
  (12, o_iflt 20),
  (15, o_ild 2 1),
  (16, o_ic 3 1),
  (17, o_cmple 28),
  (20, o_x),
  (23, o_dup),
  (24, o_x),
  (27, o_x),
  (28, o_ild 2 1),
  (29, o_tsw 0 2 86 [56, 66, 76]),
  (56, o_ald 0 1),
  (57, o_gR K 11 12),
  (60, o_gF K 0 1),
  (63, o_ild 1 1),
  (64, o_iald K),
  (65, o_iret),
  (66, o_ald 0 1),
  (67, o_gR K 11 12),
  (70, o_gF K 0 2),
  (73, o_ild 1 1),
  (74, o_iald K),
  (75, o_iret),
  (76, o_ald 0 1),
  (77, o_gR K 11 12),
  (80, o_gF K 0 3),
  (83, o_ild 1 1),
  (84, o_iald K),
  (85, o_iret),
  (86, o_ald 0 1),
  (87, o_gR K 11 12),
  (90, o_ild 1 1),
  (91, o_callV K 0 (f_X0_leansOnHowMany K) 1),
  (94, o_iret)]
noncomputable def f_X11_chap (K : Sh_) : Fn_ := fn_ (P_X11_chap K) 3
set_option maxRecDepth 100000 in
theorem a_X11_chap {l : Launch} {E : En_} (hE : EOK_ E)   : All_ (Snd_ l E yX11_chap.cls cX11_chap 3 (some .int) (.code yX11_chap cX11_chap 3 (some .int) :: G_) (rm_ 2)) (P_X11_chap E.2.2.2.1 ) :=
  all_c (s_ald_n (q := 0) (by decide +kernel) rfl)
  <| all_c (g_11_12 (by decide +kernel) fl_RX11_19)
  <| all_c (s_ild_n (q := 1) (by decide +kernel) rfl)
  <| all_c (s_callV (by decide +kernel) (t_X0_hasChap hE) cl_X0_hasChap ml_RX11_155 im_X0_hasChap se_X0_hasChap (by decide) rfl (rm_lt (by decide)))
  <| all_c (s_ifeq (off := 12) (by decide +kernel) (by decide))
  <| all_c (s_ild_n (q := 2) (by decide +kernel) rfl)
  <| all_c (s_iflt (off := 8) (by decide +kernel) (by decide))
  <| all_c (s_ild_n (q := 2) (by decide +kernel) rfl)
  <| all_c (s_iconst (n := 3) (by decide +kernel) (by decide))
  <| all_c (s_cmple (off := 11) (by decide +kernel) (by decide))
  <| all_c (s_x)
  <| all_c (s_dup (by decide +kernel))
  <| all_c (s_x)
  <| all_c (s_x)
  <| all_c (s_ild_n (q := 2) (by decide +kernel) rfl)
  <| all_c (s_tsw (df := 57) (offs := #[27, 37, 47]) (n := 27) (by decide +kernel) (by decide) (by decide))
  <| all_c (s_ald_n (q := 0) (by decide +kernel) rfl)
  <| all_c (g_11_12 (by decide +kernel) fl_RX11_19)
  <| all_c (g_0_1 (by decide +kernel) fl_RX11_161)
  <| all_c (s_ild_n (q := 1) (by decide +kernel) rfl)
  <| all_c (s_iald (by decide +kernel))
  <| all_c (s_iret (by decide +kernel) rfl)
  <| all_c (s_ald_n (q := 0) (by decide +kernel) rfl)
  <| all_c (g_11_12 (by decide +kernel) fl_RX11_19)
  <| all_c (g_0_2 (by decide +kernel) fl_RX11_165)
  <| all_c (s_ild_n (q := 1) (by decide +kernel) rfl)
  <| all_c (s_iald (by decide +kernel))
  <| all_c (s_iret (by decide +kernel) rfl)
  <| all_c (s_ald_n (q := 0) (by decide +kernel) rfl)
  <| all_c (g_11_12 (by decide +kernel) fl_RX11_19)
  <| all_c (g_0_3 (by decide +kernel) fl_RX11_168)
  <| all_c (s_ild_n (q := 1) (by decide +kernel) rfl)
  <| all_c (s_iald (by decide +kernel))
  <| all_c (s_iret (by decide +kernel) rfl)
  <| all_c (s_ald_n (q := 0) (by decide +kernel) rfl)
  <| all_c (g_11_12 (by decide +kernel) fl_RX11_19)
  <| all_c (s_ild_n (q := 1) (by decide +kernel) rfl)
  <| all_c (s_callV (by decide +kernel) (t_X0_leansOnHowMany hE) cl_X0_leansOnHowMany ml_RX11_171 im_X0_leansOnHowMany se_X0_leansOnHowMany (by decide) rfl (rm_lt (by decide)))
  <| all_c (s_iret (by decide +kernel) rfl)
  <| all_n
theorem t_X11_chap {l : Launch} {E : En_} (hE : EOK_ E) : Good_ l E yX11_chap (.code yX11_chap cX11_chap 3 (some .int) :: G_) (rm_ 2) (f_X11_chap E.2.2.2.1) := good_all hE (by decide +kernel) (a_X11_chap hE)
noncomputable def P_X11_leans (K : Sh_)  : List (Nat × Op_) := [(0, o_ald 0 1),
  (1, o_gR K 11 12),
  (4, o_ild 1 1),
  (5, o_callV K 0 (f_X0_hasChap K) 1),
  (8, o_ifeq 22),
  (11, o_ald 0 1),
  (12, o_gR K 11 12),
  (15, o_ild 2 1),
  (16, o_callV K 0 (f_X0_hasChap K) 1),
  (19, o_ifne 24),
  (22, o_ic (-1) 1),
  (23, o_iret),
  (24, o_ald 0 1),
  (25, o_gR K 11 12),
  (28, o_gF K 0 4),
  (31, o_ild 1 1),
  (32, o_aald K),
  (33, o_ild 2 1),
  (34, o_iald K),
  (35, o_iret)]
noncomputable def f_X11_leans (K : Sh_) : Fn_ := fn_ (P_X11_leans K) 3
set_option maxRecDepth 100000 in
theorem a_X11_leans {l : Launch} {E : En_} (hE : EOK_ E)   : All_ (Snd_ l E yX11_leans.cls cX11_leans 3 (some .int) (.code yX11_leans cX11_leans 3 (some .int) :: G_) (rm_ 2)) (P_X11_leans E.2.2.2.1 ) :=
  all_c (s_ald_n (q := 0) (by decide +kernel) rfl)
  <| all_c (g_11_12 (by decide +kernel) fl_RX11_19)
  <| all_c (s_ild_n (q := 1) (by decide +kernel) rfl)
  <| all_c (s_callV (by decide +kernel) (t_X0_hasChap hE) cl_X0_hasChap ml_RX11_155 im_X0_hasChap se_X0_hasChap (by decide) rfl (rm_lt (by decide)))
  <| all_c (s_ifeq (off := 14) (by decide +kernel) (by decide))
  <| all_c (s_ald_n (q := 0) (by decide +kernel) rfl)
  <| all_c (g_11_12 (by decide +kernel) fl_RX11_19)
  <| all_c (s_ild_n (q := 2) (by decide +kernel) rfl)
  <| all_c (s_callV (by decide +kernel) (t_X0_hasChap hE) cl_X0_hasChap ml_RX11_155 im_X0_hasChap se_X0_hasChap (by decide) rfl (rm_lt (by decide)))
  <| all_c (s_ifne (off := 5) (by decide +kernel) (by decide))
  <| all_c (s_iconst (n := (-1)) (by decide +kernel) (by decide))
  <| all_c (s_iret (by decide +kernel) rfl)
  <| all_c (s_ald_n (q := 0) (by decide +kernel) rfl)
  <| all_c (g_11_12 (by decide +kernel) fl_RX11_19)
  <| all_c (g_0_4 (by decide +kernel) fl_RX11_175)
  <| all_c (s_ild_n (q := 1) (by decide +kernel) rfl)
  <| all_c (s_aald (by decide +kernel))
  <| all_c (s_ild_n (q := 2) (by decide +kernel) rfl)
  <| all_c (s_iald (by decide +kernel))
  <| all_c (s_iret (by decide +kernel) rfl)
  <| all_n
theorem t_X11_leans {l : Launch} {E : En_} (hE : EOK_ E) : Good_ l E yX11_leans (.code yX11_leans cX11_leans 3 (some .int) :: G_) (rm_ 2) (f_X11_leans E.2.2.2.1) := good_all hE (by decide +kernel) (a_X11_leans hE)
noncomputable def P_X11_reader (K : Sh_)  : List (Nat × Op_) := [(0, o_ald 0 1),
  (1, o_gR K 11 12),
  (4, o_ild 1 1),
  (5, o_callV K 0 (f_X0_hasReader K) 1),
  (8, o_ifeq 20),
  (11, o_ild 2 1),
  (12, o_iflt 20),
  (15, o_ild 2 1),
  (16, o_ic 4 1),
  (17, o_cmple 28),
  (20, o_x),
  (23, o_dup),
  (24, o_x),
  (27, o_x),
  (28, o_ild 2 1),
  (29, o_tsw 0 3 100 [60, 70, 80, 90]),
  (60, o_ald 0 1),
  (61, o_gR K 11 12),
  (64, o_gF K 0 6),
  (67, o_ild 1 1),
  (68, o_iald K),
  (69, o_iret),
  (70, o_ald 0 1),
  (71, o_gR K 11 12),
  (74, o_gF K 0 7),
  (77, o_ild 1 1),
  (78, o_iald K),
  (79, o_iret),
  (80, o_ald 0 1),
  (81, o_gR K 11 12),
  (84, o_gF K 0 8),
  (87, o_ild 1 1),
  (88, o_iald K),
  (89, o_iret),
  (90, o_ald 0 1),
  (91, o_gR K 11 12),
  (94, o_gF K 0 9),
  (97, o_ild 1 1),
  (98, o_iald K),
  (99, o_iret),
  (100, o_ald 0 1),
  (101, o_gR K 11 12),
  (104, o_gF K 0 10),
  (107, o_ild 1 1),
  (108, o_iald K),
  (109, o_iret)]
noncomputable def f_X11_reader (K : Sh_) : Fn_ := fn_ (P_X11_reader K) 3
set_option maxRecDepth 100000 in
theorem a_X11_reader {l : Launch} {E : En_} (hE : EOK_ E)   : All_ (Snd_ l E yX11_reader.cls cX11_reader 3 (some .int) (.code yX11_reader cX11_reader 3 (some .int) :: G_) (rm_ 2)) (P_X11_reader E.2.2.2.1 ) :=
  all_c (s_ald_n (q := 0) (by decide +kernel) rfl)
  <| all_c (g_11_12 (by decide +kernel) fl_RX11_19)
  <| all_c (s_ild_n (q := 1) (by decide +kernel) rfl)
  <| all_c (s_callV (by decide +kernel) (t_X0_hasReader hE) cl_X0_hasReader ml_RX11_179 im_X0_hasReader se_X0_hasReader (by decide) rfl (rm_lt (by decide)))
  <| all_c (s_ifeq (off := 12) (by decide +kernel) (by decide))
  <| all_c (s_ild_n (q := 2) (by decide +kernel) rfl)
  <| all_c (s_iflt (off := 8) (by decide +kernel) (by decide))
  <| all_c (s_ild_n (q := 2) (by decide +kernel) rfl)
  <| all_c (s_iconst (n := 4) (by decide +kernel) (by decide))
  <| all_c (s_cmple (off := 11) (by decide +kernel) (by decide))
  <| all_c (s_x)
  <| all_c (s_dup (by decide +kernel))
  <| all_c (s_x)
  <| all_c (s_x)
  <| all_c (s_ild_n (q := 2) (by decide +kernel) rfl)
  <| all_c (s_tsw (df := 71) (offs := #[31, 41, 51, 61]) (n := 31) (by decide +kernel) (by decide) (by decide))
  <| all_c (s_ald_n (q := 0) (by decide +kernel) rfl)
  <| all_c (g_11_12 (by decide +kernel) fl_RX11_19)
  <| all_c (g_0_6 (by decide +kernel) fl_RX11_182)
  <| all_c (s_ild_n (q := 1) (by decide +kernel) rfl)
  <| all_c (s_iald (by decide +kernel))
  <| all_c (s_iret (by decide +kernel) rfl)
  <| all_c (s_ald_n (q := 0) (by decide +kernel) rfl)
  <| all_c (g_11_12 (by decide +kernel) fl_RX11_19)
  <| all_c (g_0_7 (by decide +kernel) fl_RX11_185)
  <| all_c (s_ild_n (q := 1) (by decide +kernel) rfl)
  <| all_c (s_iald (by decide +kernel))
  <| all_c (s_iret (by decide +kernel) rfl)
  <| all_c (s_ald_n (q := 0) (by decide +kernel) rfl)
  <| all_c (g_11_12 (by decide +kernel) fl_RX11_19)
  <| all_c (g_0_8 (by decide +kernel) fl_RX11_188)
  <| all_c (s_ild_n (q := 1) (by decide +kernel) rfl)
  <| all_c (s_iald (by decide +kernel))
  <| all_c (s_iret (by decide +kernel) rfl)
  <| all_c (s_ald_n (q := 0) (by decide +kernel) rfl)
  <| all_c (g_11_12 (by decide +kernel) fl_RX11_19)
  <| all_c (g_0_9 (by decide +kernel) fl_RX11_191)
  <| all_c (s_ild_n (q := 1) (by decide +kernel) rfl)
  <| all_c (s_iald (by decide +kernel))
  <| all_c (s_iret (by decide +kernel) rfl)
  <| all_c (s_ald_n (q := 0) (by decide +kernel) rfl)
  <| all_c (g_11_12 (by decide +kernel) fl_RX11_19)
  <| all_c (g_0_10 (by decide +kernel) fl_RX11_194)
  <| all_c (s_ild_n (q := 1) (by decide +kernel) rfl)
  <| all_c (s_iald (by decide +kernel))
  <| all_c (s_iret (by decide +kernel) rfl)
  <| all_n
theorem t_X11_reader {l : Launch} {E : En_} (hE : EOK_ E) : Good_ l E yX11_reader (.code yX11_reader cX11_reader 3 (some .int) :: G_) (rm_ 2) (f_X11_reader E.2.2.2.1) := good_all hE (by decide +kernel) (a_X11_reader hE)
noncomputable def P_X11_plan (K : Sh_)  : List (Nat × Op_) := [(0, o_ald 0 1),
  (1, o_gF K 11 0),
  (4, o_ic 700 3),
  (7, o_callV K 8 (f_X8_start K) 1),
  (10, o_ald 0 1),
  (11, o_gR K 11 15),
  (14, o_ald 0 1),
  (15, o_gF K 11 0),
  (18, o_ald 0 1),
  (19, o_gR K 11 12),
  (22, o_callV K 6 (f_X6_readFrom K) 2),
  (25, o_ist 1 1),
  (26, o_ald 0 1),
  (27, o_gF K 11 0),
  (30, o_ic 0 1),
  (31, o_pI K 8 2),
  (34, o_ild 1 1),
  (35, o_ifne 46),
  (38, o_ald 0 1),
  (39, o_gF K 11 0),
  (42, o_callV K 8 (f_X8_faultAnswer K) 0),
  (45, o_iret),
  (46, o_ald 0 1),
  (47, o_gR K 11 14),
  (50, o_ast 2 1),
  (51, o_ald 0 1),
  (52, o_ald 0 1),
  (53, o_gR K 11 15),
  (56, o_pR K 11 14),
  (59, o_ald 0 1),
  (60, o_ald 2 1),
  (61, o_pR K 11 15),
  (64, o_ald 0 1),
  (65, o_ic 0 1),
  (66, o_pZ K 11 18),
  (69, o_ald 0 1),
  (70, o_gR K 11 14),
  (73, o_gI K 6 4),
  (76, o_iret)]
noncomputable def f_X11_plan (K : Sh_) : Fn_ := fn_ (P_X11_plan K) 3
set_option maxRecDepth 100000 in
theorem a_X11_plan {l : Launch} {E : En_} (hE : EOK_ E)   : All_ (Snd_ l E yX11_plan.cls cX11_plan 3 (some .int) (.code yX11_plan cX11_plan 3 (some .int) :: G_) (rm_ 7)) (P_X11_plan E.2.2.2.1 ) :=
  all_c (s_ald_n (q := 0) (by decide +kernel) rfl)
  <| all_c (g_11_0 (by decide +kernel) fl_RX11_10)
  <| all_c (s_sipush (n := 700) (by decide +kernel) (by decide))
  <| all_c (s_callV (by decide +kernel) (t_X8_start hE) cl_X8_start ml_RX11_134 im_X8_start se_X8_start (by decide) rfl (rm_lt (by decide)))
  <| all_c (s_ald_n (q := 0) (by decide +kernel) rfl)
  <| all_c (g_11_15 (by decide +kernel) fl_RX11_33)
  <| all_c (s_ald_n (q := 0) (by decide +kernel) rfl)
  <| all_c (g_11_0 (by decide +kernel) fl_RX11_10)
  <| all_c (s_ald_n (q := 0) (by decide +kernel) rfl)
  <| all_c (g_11_12 (by decide +kernel) fl_RX11_19)
  <| all_c (s_callV (by decide +kernel) (t_X6_readFrom hE) cl_X6_readFrom ml_RX11_197 im_X6_readFrom se_X6_readFrom (by decide) rfl (rm_lt (by decide)))
  <| all_c (s_ist_n (q := 1) (by decide +kernel) rfl)
  <| all_c (s_ald_n (q := 0) (by decide +kernel) rfl)
  <| all_c (g_11_0 (by decide +kernel) fl_RX11_10)
  <| all_c (s_iconst (n := 0) (by decide +kernel) (by decide))
  <| all_c (p_8_2 (by decide +kernel) fl_RX11_131)
  <| all_c (s_ild_n (q := 1) (by decide +kernel) rfl)
  <| all_c (s_ifne (off := 11) (by decide +kernel) (by decide))
  <| all_c (s_ald_n (q := 0) (by decide +kernel) rfl)
  <| all_c (g_11_0 (by decide +kernel) fl_RX11_10)
  <| all_c (s_callV (by decide +kernel) (t_X8_faultAnswer hE) cl_X8_faultAnswer ml_RX11_141 im_X8_faultAnswer se_X8_faultAnswer (by decide) rfl (rm_lt (by decide)))
  <| all_c (s_iret (by decide +kernel) rfl)
  <| all_c (s_ald_n (q := 0) (by decide +kernel) rfl)
  <| all_c (g_11_14 (by decide +kernel) fl_RX11_29)
  <| all_c (s_ast_n (q := 2) (by decide +kernel) rfl)
  <| all_c (s_ald_n (q := 0) (by decide +kernel) rfl)
  <| all_c (s_ald_n (q := 0) (by decide +kernel) rfl)
  <| all_c (g_11_15 (by decide +kernel) fl_RX11_33)
  <| all_c (p_11_14 (by decide +kernel) fl_RX11_29)
  <| all_c (s_ald_n (q := 0) (by decide +kernel) rfl)
  <| all_c (s_ald_n (q := 2) (by decide +kernel) rfl)
  <| all_c (p_11_15 (by decide +kernel) fl_RX11_33)
  <| all_c (s_ald_n (q := 0) (by decide +kernel) rfl)
  <| all_c (s_iconst (n := 0) (by decide +kernel) (by decide))
  <| all_c (p_11_18 (by decide +kernel) fl_RX11_115)
  <| all_c (s_ald_n (q := 0) (by decide +kernel) rfl)
  <| all_c (g_11_14 (by decide +kernel) fl_RX11_29)
  <| all_c (g_6_4 (by decide +kernel) fl_RX11_200)
  <| all_c (s_iret (by decide +kernel) rfl)
  <| all_n
theorem t_X11_plan {l : Launch} {E : En_} (hE : EOK_ E) : Good_ l E yX11_plan (.code yX11_plan cX11_plan 3 (some .int) :: G_) (rm_ 7) (f_X11_plan E.2.2.2.1) := good_all hE (by decide +kernel) (a_X11_plan hE)
noncomputable def P_X11_make (K : Sh_)  : List (Nat × Op_) := [(0, o_ild 1 1),
  (1, o_ild 2 1),
  (2, o_callS (f_X4_isKind K) 2),
  (5, o_ifne 10),
  (8, o_ic (-1) 1),
  (9, o_iret),
  (10, o_ald 0 1),
  (11, o_gF K 11 2),
  (14, o_ald 0 1),
  (15, o_gR K 11 12),
  (18, o_ald 0 1),
  (19, o_gR K 11 14),
  (22, o_callV K 4 (f_X4_begin K) 2),
  (25, o_ald 0 1),
  (26, o_gF K 11 2),
  (29, o_ild 1 1),
  (30, o_ild 2 1),
  (31, o_callV K 4 (f_X4_fill K) 2),
  (34, o_ald 0 1),
  (35, o_ic 0 1),
  (36, o_pZ K 11 18),
  (39, o_ald 0 1),
  (40, o_gR K 11 14),
  (43, o_gI K 6 4),
  (46, o_iret)]
noncomputable def f_X11_make (K : Sh_) : Fn_ := fn_ (P_X11_make K) 3
set_option maxRecDepth 100000 in
theorem a_X11_make {l : Launch} {E : En_} (hE : EOK_ E)   : All_ (Snd_ l E yX11_make.cls cX11_make 3 (some .int) (.code yX11_make cX11_make 3 (some .int) :: G_) (rm_ 8)) (P_X11_make E.2.2.2.1 ) :=
  all_c (s_ild_n (q := 1) (by decide +kernel) rfl)
  <| all_c (s_ild_n (q := 2) (by decide +kernel) rfl)
  <| all_c (s_callS (by decide +kernel) (t_X4_isKind hE) cl_X4_isKind ml_RX11_203 sm_X4_isKind (rm_lt (by decide)))
  <| all_c (s_ifne (off := 5) (by decide +kernel) (by decide))
  <| all_c (s_iconst (n := (-1)) (by decide +kernel) (by decide))
  <| all_c (s_iret (by decide +kernel) rfl)
  <| all_c (s_ald_n (q := 0) (by decide +kernel) rfl)
  <| all_c (g_11_2 (by decide +kernel) fl_RX11_60)
  <| all_c (s_ald_n (q := 0) (by decide +kernel) rfl)
  <| all_c (g_11_12 (by decide +kernel) fl_RX11_19)
  <| all_c (s_ald_n (q := 0) (by decide +kernel) rfl)
  <| all_c (g_11_14 (by decide +kernel) fl_RX11_29)
  <| all_c (s_callV (by decide +kernel) (t_X4_begin hE) cl_X4_begin ml_RX11_207 im_X4_begin se_X4_begin (by decide) rfl (rm_lt (by decide)))
  <| all_c (s_ald_n (q := 0) (by decide +kernel) rfl)
  <| all_c (g_11_2 (by decide +kernel) fl_RX11_60)
  <| all_c (s_ild_n (q := 1) (by decide +kernel) rfl)
  <| all_c (s_ild_n (q := 2) (by decide +kernel) rfl)
  <| all_c (s_callV (by decide +kernel) (t_X4_fill hE) cl_X4_fill ml_RX11_210 im_X4_fill se_X4_fill (by decide) rfl (rm_lt (by decide)))
  <| all_c (s_ald_n (q := 0) (by decide +kernel) rfl)
  <| all_c (s_iconst (n := 0) (by decide +kernel) (by decide))
  <| all_c (p_11_18 (by decide +kernel) fl_RX11_115)
  <| all_c (s_ald_n (q := 0) (by decide +kernel) rfl)
  <| all_c (g_11_14 (by decide +kernel) fl_RX11_29)
  <| all_c (g_6_4 (by decide +kernel) fl_RX11_200)
  <| all_c (s_iret (by decide +kernel) rfl)
  <| all_n
theorem t_X11_make {l : Launch} {E : En_} (hE : EOK_ E) : Good_ l E yX11_make (.code yX11_make cX11_make 3 (some .int) :: G_) (rm_ 8) (f_X11_make E.2.2.2.1) := good_all hE (by decide +kernel) (a_X11_make hE)
noncomputable def P_X11_drawn (K : Sh_)  : List (Nat × Op_) := [(0, o_ild 1 1),
  (1, o_ic 1 1),
  (2, o_cmplt 33),
  (5, o_ild 1 1),
  (6, o_ic 60 2),
  (8, o_cmpgt 33),
  (11, o_ald 0 1),
  (12, o_gR K 11 12),
  (15, o_gI K 0 12),
  (18, o_ic 2 1),
  (19, o_cmplt 33),
  (22, o_ald 0 1),
  (23, o_gR K 11 12),
  (26, o_gI K 0 11),
  (29, o_ic 1 1),
  (30, o_cmpge 35),
  (33, o_ic (-1) 1),
  (34, o_iret),
  (35, o_ald 0 1),
  (36, o_gF K 11 2),
  (39, o_ald 0 1),
  (40, o_gR K 11 12),
  (43, o_ald 0 1),
  (44, o_gR K 11 14),
  (47, o_callV K 4 (f_X4_begin K) 2),
  (50, o_ald 0 1),
  (51, o_gF K 11 2),
  (54, o_ild 1 1),
  (55, o_ild 2 1),
  (56, o_callV K 4 (f_X4_drawActs K) 2),
  (59, o_ald 0 1),
  (60, o_ic 0 1),
  (61, o_pZ K 11 18),
  (64, o_ald 0 1),
  (65, o_gR K 11 14),
  (68, o_gI K 6 4),
  (71, o_iret)]
noncomputable def f_X11_drawn (K : Sh_) : Fn_ := fn_ (P_X11_drawn K) 3
set_option maxRecDepth 100000 in
theorem a_X11_drawn {l : Launch} {E : En_} (hE : EOK_ E)   : All_ (Snd_ l E yX11_drawn.cls cX11_drawn 3 (some .int) (.code yX11_drawn cX11_drawn 3 (some .int) :: G_) (rm_ 4)) (P_X11_drawn E.2.2.2.1 ) :=
  all_c (s_ild_n (q := 1) (by decide +kernel) rfl)
  <| all_c (s_iconst (n := 1) (by decide +kernel) (by decide))
  <| all_c (s_cmplt (off := 31) (by decide +kernel) (by decide))
  <| all_c (s_ild_n (q := 1) (by decide +kernel) rfl)
  <| all_c (s_bipush (n := 60) (by decide +kernel) (by decide))
  <| all_c (s_cmpgt (off := 25) (by decide +kernel) (by decide))
  <| all_c (s_ald_n (q := 0) (by decide +kernel) rfl)
  <| all_c (g_11_12 (by decide +kernel) fl_RX11_19)
  <| all_c (g_0_12 (by decide +kernel) fl_RX11_214)
  <| all_c (s_iconst (n := 2) (by decide +kernel) (by decide))
  <| all_c (s_cmplt (off := 14) (by decide +kernel) (by decide))
  <| all_c (s_ald_n (q := 0) (by decide +kernel) rfl)
  <| all_c (g_11_12 (by decide +kernel) fl_RX11_19)
  <| all_c (g_0_11 (by decide +kernel) fl_RX11_217)
  <| all_c (s_iconst (n := 1) (by decide +kernel) (by decide))
  <| all_c (s_cmpge (off := 5) (by decide +kernel) (by decide))
  <| all_c (s_iconst (n := (-1)) (by decide +kernel) (by decide))
  <| all_c (s_iret (by decide +kernel) rfl)
  <| all_c (s_ald_n (q := 0) (by decide +kernel) rfl)
  <| all_c (g_11_2 (by decide +kernel) fl_RX11_60)
  <| all_c (s_ald_n (q := 0) (by decide +kernel) rfl)
  <| all_c (g_11_12 (by decide +kernel) fl_RX11_19)
  <| all_c (s_ald_n (q := 0) (by decide +kernel) rfl)
  <| all_c (g_11_14 (by decide +kernel) fl_RX11_29)
  <| all_c (s_callV (by decide +kernel) (t_X4_begin hE) cl_X4_begin ml_RX11_207 im_X4_begin se_X4_begin (by decide) rfl (rm_lt (by decide)))
  <| all_c (s_ald_n (q := 0) (by decide +kernel) rfl)
  <| all_c (g_11_2 (by decide +kernel) fl_RX11_60)
  <| all_c (s_ild_n (q := 1) (by decide +kernel) rfl)
  <| all_c (s_ild_n (q := 2) (by decide +kernel) rfl)
  <| all_c (s_callV (by decide +kernel) (t_X4_drawActs hE) cl_X4_drawActs ml_RX11_220 im_X4_drawActs se_X4_drawActs (by decide) rfl (rm_lt (by decide)))
  <| all_c (s_ald_n (q := 0) (by decide +kernel) rfl)
  <| all_c (s_iconst (n := 0) (by decide +kernel) (by decide))
  <| all_c (p_11_18 (by decide +kernel) fl_RX11_115)
  <| all_c (s_ald_n (q := 0) (by decide +kernel) rfl)
  <| all_c (g_11_14 (by decide +kernel) fl_RX11_29)
  <| all_c (g_6_4 (by decide +kernel) fl_RX11_200)
  <| all_c (s_iret (by decide +kernel) rfl)
  <| all_n
theorem t_X11_drawn {l : Launch} {E : En_} (hE : EOK_ E) : Good_ l E yX11_drawn (.code yX11_drawn cX11_drawn 3 (some .int) :: G_) (rm_ 4) (f_X11_drawn E.2.2.2.1) := good_all hE (by decide +kernel) (a_X11_drawn hE)
noncomputable def P_X11_act (K : Sh_)  : List (Nat × Op_) := [(0, o_ild 1 1),
  (1, o_iflt 24),
  (4, o_ild 1 1),
  (5, o_ald 0 1),
  (6, o_gR K 11 14),
  (9, o_gI K 6 4),
  (12, o_cmpge 24),
  (15, o_ild 2 1),
  (16, o_iflt 24),
  (19, o_ild 2 1),
  (20, o_ic 3 1),
  (21, o_cmple 32),
  (24, o_x),
  (27, o_dup),
  (28, o_x),
  (31, o_x),
  (32, o_ild 2 1),
  (33, o_tsw 0 2 90 [60, 70, 80]),
  (60, o_ald 0 1),
  (61, o_gR K 11 14),
  (64, o_gF K 6 0),
  (67, o_ild 1 1),
  (68, o_iald K),
  (69, o_iret),
  (70, o_ald 0 1),
  (71, o_gR K 11 14),
  (74, o_gF K 6 1),
  (77, o_ild 1 1),
  (78, o_iald K),
  (79, o_iret),
  (80, o_ald 0 1),
  (81, o_gR K 11 14),
  (84, o_gF K 6 2),
  (87, o_ild 1 1),
  (88, o_iald K),
  (89, o_iret),
  (90, o_ald 0 1),
  (91, o_gR K 11 14),
  (94, o_gF K 6 3),
  (97, o_ild 1 1),
  (98, o_iald K),
  (99, o_iret)]
noncomputable def f_X11_act (K : Sh_) : Fn_ := fn_ (P_X11_act K) 3
set_option maxRecDepth 100000 in
theorem a_X11_act {l : Launch} {E : En_} (hE : EOK_ E)   : All_ (Snd_ l E yX11_act.cls cX11_act 3 (some .int) (.code yX11_act cX11_act 3 (some .int) :: G_) (rm_ 1)) (P_X11_act E.2.2.2.1 ) :=
  all_c (s_ild_n (q := 1) (by decide +kernel) rfl)
  <| all_c (s_iflt (off := 23) (by decide +kernel) (by decide))
  <| all_c (s_ild_n (q := 1) (by decide +kernel) rfl)
  <| all_c (s_ald_n (q := 0) (by decide +kernel) rfl)
  <| all_c (g_11_14 (by decide +kernel) fl_RX11_29)
  <| all_c (g_6_4 (by decide +kernel) fl_RX11_200)
  <| all_c (s_cmpge (off := 12) (by decide +kernel) (by decide))
  <| all_c (s_ild_n (q := 2) (by decide +kernel) rfl)
  <| all_c (s_iflt (off := 8) (by decide +kernel) (by decide))
  <| all_c (s_ild_n (q := 2) (by decide +kernel) rfl)
  <| all_c (s_iconst (n := 3) (by decide +kernel) (by decide))
  <| all_c (s_cmple (off := 11) (by decide +kernel) (by decide))
  <| all_c (s_x)
  <| all_c (s_dup (by decide +kernel))
  <| all_c (s_x)
  <| all_c (s_x)
  <| all_c (s_ild_n (q := 2) (by decide +kernel) rfl)
  <| all_c (s_tsw (df := 57) (offs := #[27, 37, 47]) (n := 27) (by decide +kernel) (by decide) (by decide))
  <| all_c (s_ald_n (q := 0) (by decide +kernel) rfl)
  <| all_c (g_11_14 (by decide +kernel) fl_RX11_29)
  <| all_c (g_6_0 (by decide +kernel) fl_RX11_223)
  <| all_c (s_ild_n (q := 1) (by decide +kernel) rfl)
  <| all_c (s_iald (by decide +kernel))
  <| all_c (s_iret (by decide +kernel) rfl)
  <| all_c (s_ald_n (q := 0) (by decide +kernel) rfl)
  <| all_c (g_11_14 (by decide +kernel) fl_RX11_29)
  <| all_c (g_6_1 (by decide +kernel) fl_RX11_226)
  <| all_c (s_ild_n (q := 1) (by decide +kernel) rfl)
  <| all_c (s_iald (by decide +kernel))
  <| all_c (s_iret (by decide +kernel) rfl)
  <| all_c (s_ald_n (q := 0) (by decide +kernel) rfl)
  <| all_c (g_11_14 (by decide +kernel) fl_RX11_29)
  <| all_c (g_6_2 (by decide +kernel) fl_RX11_229)
  <| all_c (s_ild_n (q := 1) (by decide +kernel) rfl)
  <| all_c (s_iald (by decide +kernel))
  <| all_c (s_iret (by decide +kernel) rfl)
  <| all_c (s_ald_n (q := 0) (by decide +kernel) rfl)
  <| all_c (g_11_14 (by decide +kernel) fl_RX11_29)
  <| all_c (g_6_3 (by decide +kernel) fl_RX11_232)
  <| all_c (s_ild_n (q := 1) (by decide +kernel) rfl)
  <| all_c (s_iald (by decide +kernel))
  <| all_c (s_iret (by decide +kernel) rfl)
  <| all_n
theorem t_X11_act {l : Launch} {E : En_} (hE : EOK_ E) : Good_ l E yX11_act (.code yX11_act cX11_act 3 (some .int) :: G_) (rm_ 1) (f_X11_act E.2.2.2.1) := good_all hE (by decide +kernel) (a_X11_act hE)
noncomputable def P_X11_runOnce (K : Sh_)  : List (Nat × Op_) := [(0, o_ald 0 1),
  (1, o_gI K 11 18),
  (4, o_ifne 34),
  (7, o_ald 0 1),
  (8, o_gF K 11 1),
  (11, o_ald 0 1),
  (12, o_gR K 11 12),
  (15, o_callV K 5 (f_X5_begin K) 1),
  (18, o_ald 0 1),
  (19, o_gF K 11 1),
  (22, o_ald 0 1),
  (23, o_gR K 11 14),
  (26, o_callV K 5 (f_X5_follow K) 1),
  (29, o_ald 0 1),
  (30, o_ic 1 1),
  (31, o_pZ K 11 18),
  (34, o_vret)]
noncomputable def f_X11_runOnce (K : Sh_) : Fn_ := fn_ (P_X11_runOnce K) 1
set_option maxRecDepth 100000 in
theorem a_X11_runOnce {l : Launch} {E : En_} (hE : EOK_ E)   : All_ (Snd_ l E yX11_runOnce.cls cX11_runOnce 1 (none) (.code yX11_runOnce cX11_runOnce 1 (none) :: G_) (rm_ 5)) (P_X11_runOnce E.2.2.2.1 ) :=
  all_c (s_ald_n (q := 0) (by decide +kernel) rfl)
  <| all_c (g_11_18 (by decide +kernel) fl_RX11_115)
  <| all_c (s_ifne (off := 30) (by decide +kernel) (by decide))
  <| all_c (s_ald_n (q := 0) (by decide +kernel) rfl)
  <| all_c (g_11_1 (by decide +kernel) fl_RX11_51)
  <| all_c (s_ald_n (q := 0) (by decide +kernel) rfl)
  <| all_c (g_11_12 (by decide +kernel) fl_RX11_19)
  <| all_c (s_callV (by decide +kernel) (t_X5_begin hE) cl_X5_begin ml_RX11_380 im_X5_begin se_X5_begin (by decide) rfl (rm_lt (by decide)))
  <| all_c (s_ald_n (q := 0) (by decide +kernel) rfl)
  <| all_c (g_11_1 (by decide +kernel) fl_RX11_51)
  <| all_c (s_ald_n (q := 0) (by decide +kernel) rfl)
  <| all_c (g_11_14 (by decide +kernel) fl_RX11_29)
  <| all_c (s_callV (by decide +kernel) (t_X5_follow hE) cl_X5_follow ml_RX11_382 im_X5_follow se_X5_follow (by decide) rfl (rm_lt (by decide)))
  <| all_c (s_ald_n (q := 0) (by decide +kernel) rfl)
  <| all_c (s_iconst (n := 1) (by decide +kernel) (by decide))
  <| all_c (p_11_18 (by decide +kernel) fl_RX11_115)
  <| all_c (s_vret (by decide +kernel) rfl)
  <| all_n
theorem t_X11_runOnce {l : Launch} {E : En_} (hE : EOK_ E) : Good_ l E yX11_runOnce (.code yX11_runOnce cX11_runOnce 1 (none) :: G_) (rm_ 5) (f_X11_runOnce E.2.2.2.1) := good_all hE (by decide +kernel) (a_X11_runOnce hE)
noncomputable def P_X11_run (K : Sh_)  : List (Nat × Op_) := [(0, o_ald 0 1),
  (1, o_callV K 11 (f_X11_runOnce K) 0),
  (4, o_ald 0 1),
  (5, o_ald 0 1),
  (6, o_gF K 11 1),
  (9, o_gI K 5 5),
  (12, o_pI K 11 19),
  (15, o_ald 0 1),
  (16, o_gF K 11 1),
  (19, o_gI K 5 4),
  (22, o_iret)]
noncomputable def f_X11_run (K : Sh_) : Fn_ := fn_ (P_X11_run K) 1
set_option maxRecDepth 100000 in
theorem a_X11_run {l : Launch} {E : En_} (hE : EOK_ E)   : All_ (Snd_ l E yX11_run.cls cX11_run 1 (some .int) (.code yX11_run cX11_run 1 (some .int) :: G_) (rm_ 6)) (P_X11_run E.2.2.2.1 ) :=
  all_c (s_ald_n (q := 0) (by decide +kernel) rfl)
  <| all_c (s_callV (by decide +kernel) (t_X11_runOnce hE) cl_X11_runOnce ml_RX11_235 im_X11_runOnce se_X11_runOnce (by decide) rfl (rm_lt (by decide)))
  <| all_c (s_ald_n (q := 0) (by decide +kernel) rfl)
  <| all_c (s_ald_n (q := 0) (by decide +kernel) rfl)
  <| all_c (g_11_1 (by decide +kernel) fl_RX11_51)
  <| all_c (g_5_5 (by decide +kernel) fl_RX11_238)
  <| all_c (p_11_19 (by decide +kernel) fl_RX11_119)
  <| all_c (s_ald_n (q := 0) (by decide +kernel) rfl)
  <| all_c (g_11_1 (by decide +kernel) fl_RX11_51)
  <| all_c (g_5_4 (by decide +kernel) fl_RX11_241)
  <| all_c (s_iret (by decide +kernel) rfl)
  <| all_n
theorem t_X11_run {l : Launch} {E : En_} (hE : EOK_ E) : Good_ l E yX11_run (.code yX11_run cX11_run 1 (some .int) :: G_) (rm_ 6) (f_X11_run E.2.2.2.1) := good_all hE (by decide +kernel) (a_X11_run hE)
noncomputable def P_X11_why (K : Sh_)  : List (Nat × Op_) := [(0, o_ald 0 1),
  (1, o_gI K 11 19),
  (4, o_iret)]
noncomputable def f_X11_why (K : Sh_) : Fn_ := fn_ (P_X11_why K) 1
set_option maxRecDepth 100000 in
theorem a_X11_why {l : Launch} {E : En_} (hE : EOK_ E)   : All_ (Snd_ l E yX11_why.cls cX11_why 1 (some .int) (.code yX11_why cX11_why 1 (some .int) :: G_) (rm_ 1)) (P_X11_why E.2.2.2.1 ) :=
  all_c (s_ald_n (q := 0) (by decide +kernel) rfl)
  <| all_c (g_11_19 (by decide +kernel) fl_RX11_119)
  <| all_c (s_iret (by decide +kernel) rfl)
  <| all_n
theorem t_X11_why {l : Launch} {E : En_} (hE : EOK_ E) : Good_ l E yX11_why (.code yX11_why cX11_why 1 (some .int) :: G_) (rm_ 1) (f_X11_why E.2.2.2.1) := good_all hE (by decide +kernel) (a_X11_why hE)
noncomputable def P_X11_known (K : Sh_)  : List (Nat × Op_) := [(0, o_ald 0 1),
  (1, o_gR K 11 12),
  (4, o_ild 1 1),
  (5, o_callV K 0 (f_X0_hasReader K) 1),
  (8, o_ifeq 22),
  (11, o_ald 0 1),
  (12, o_gR K 11 12),
  (15, o_ild 2 1),
  (16, o_callV K 0 (f_X0_hasChap K) 1),
  (19, o_ifne 24),
  (22, o_ic (-1) 1),
  (23, o_iret),
  (24, o_ald 0 1),
  (25, o_callV K 11 (f_X11_runOnce K) 0),
  (28, o_ald 0 1),
  (29, o_gF K 11 1),
  (32, o_gF K 5 3),
  (35, o_ild 1 1),
  (36, o_ic 16 2),
  (38, o_imul),
  (39, o_ild 2 1),
  (40, o_iadd),
  (41, o_iald K),
  (42, o_iret)]
noncomputable def f_X11_known (K : Sh_) : Fn_ := fn_ (P_X11_known K) 3
set_option maxRecDepth 100000 in
theorem a_X11_known {l : Launch} {E : En_} (hE : EOK_ E)   : All_ (Snd_ l E yX11_known.cls cX11_known 3 (some .int) (.code yX11_known cX11_known 3 (some .int) :: G_) (rm_ 6)) (P_X11_known E.2.2.2.1 ) :=
  all_c (s_ald_n (q := 0) (by decide +kernel) rfl)
  <| all_c (g_11_12 (by decide +kernel) fl_RX11_19)
  <| all_c (s_ild_n (q := 1) (by decide +kernel) rfl)
  <| all_c (s_callV (by decide +kernel) (t_X0_hasReader hE) cl_X0_hasReader ml_RX11_179 im_X0_hasReader se_X0_hasReader (by decide) rfl (rm_lt (by decide)))
  <| all_c (s_ifeq (off := 14) (by decide +kernel) (by decide))
  <| all_c (s_ald_n (q := 0) (by decide +kernel) rfl)
  <| all_c (g_11_12 (by decide +kernel) fl_RX11_19)
  <| all_c (s_ild_n (q := 2) (by decide +kernel) rfl)
  <| all_c (s_callV (by decide +kernel) (t_X0_hasChap hE) cl_X0_hasChap ml_RX11_155 im_X0_hasChap se_X0_hasChap (by decide) rfl (rm_lt (by decide)))
  <| all_c (s_ifne (off := 5) (by decide +kernel) (by decide))
  <| all_c (s_iconst (n := (-1)) (by decide +kernel) (by decide))
  <| all_c (s_iret (by decide +kernel) rfl)
  <| all_c (s_ald_n (q := 0) (by decide +kernel) rfl)
  <| all_c (s_callV (by decide +kernel) (t_X11_runOnce hE) cl_X11_runOnce ml_RX11_235 im_X11_runOnce se_X11_runOnce (by decide) rfl (rm_lt (by decide)))
  <| all_c (s_ald_n (q := 0) (by decide +kernel) rfl)
  <| all_c (g_11_1 (by decide +kernel) fl_RX11_51)
  <| all_c (g_5_3 (by decide +kernel) fl_RX11_244)
  <| all_c (s_ild_n (q := 1) (by decide +kernel) rfl)
  <| all_c (s_bipush (n := 16) (by decide +kernel) (by decide))
  <| all_c (s_imul (by decide +kernel))
  <| all_c (s_ild_n (q := 2) (by decide +kernel) rfl)
  <| all_c (s_iadd (by decide +kernel))
  <| all_c (s_iald (by decide +kernel))
  <| all_c (s_iret (by decide +kernel) rfl)
  <| all_n
theorem t_X11_known {l : Launch} {E : En_} (hE : EOK_ E) : Good_ l E yX11_known (.code yX11_known cX11_known 3 (some .int) :: G_) (rm_ 6) (f_X11_known E.2.2.2.1) := good_all hE (by decide +kernel) (a_X11_known hE)
noncomputable def P_X11_after (K : Sh_)  : List (Nat × Op_) := [(0, o_ald 0 1),
  (1, o_gR K 11 12),
  (4, o_ild 1 1),
  (5, o_callV K 0 (f_X0_hasReader K) 1),
  (8, o_ifne 13),
  (11, o_ic (-1) 1),
  (12, o_iret),
  (13, o_ald 0 1),
  (14, o_callV K 11 (f_X11_runOnce K) 0),
  (17, o_ild 2 1),
  (18, o_tsw 0 3 87 [48, 58, 67, 77]),
  (48, o_ald 0 1),
  (49, o_gF K 11 1),
  (52, o_gF K 5 0),
  (55, o_ild 1 1),
  (56, o_iald K),
  (57, o_iret),
  (58, o_ald 0 1),
  (59, o_gF K 11 1),
  (62, o_ild 1 1),
  (63, o_callV K 5 (f_X5_inAll K) 1),
  (66, o_iret),
  (67, o_ald 0 1),
  (68, o_gF K 11 1),
  (71, o_gF K 5 1),
  (74, o_ild 1 1),
  (75, o_iald K),
  (76, o_iret),
  (77, o_ald 0 1),
  (78, o_gF K 11 1),
  (81, o_gF K 5 2),
  (84, o_ild 1 1),
  (85, o_iald K),
  (86, o_iret),
  (87, o_ic (-1) 1),
  (88, o_iret)]
noncomputable def f_X11_after (K : Sh_) : Fn_ := fn_ (P_X11_after K) 3
set_option maxRecDepth 100000 in
theorem a_X11_after {l : Launch} {E : En_} (hE : EOK_ E)   : All_ (Snd_ l E yX11_after.cls cX11_after 3 (some .int) (.code yX11_after cX11_after 3 (some .int) :: G_) (rm_ 6)) (P_X11_after E.2.2.2.1 ) :=
  all_c (s_ald_n (q := 0) (by decide +kernel) rfl)
  <| all_c (g_11_12 (by decide +kernel) fl_RX11_19)
  <| all_c (s_ild_n (q := 1) (by decide +kernel) rfl)
  <| all_c (s_callV (by decide +kernel) (t_X0_hasReader hE) cl_X0_hasReader ml_RX11_179 im_X0_hasReader se_X0_hasReader (by decide) rfl (rm_lt (by decide)))
  <| all_c (s_ifne (off := 5) (by decide +kernel) (by decide))
  <| all_c (s_iconst (n := (-1)) (by decide +kernel) (by decide))
  <| all_c (s_iret (by decide +kernel) rfl)
  <| all_c (s_ald_n (q := 0) (by decide +kernel) rfl)
  <| all_c (s_callV (by decide +kernel) (t_X11_runOnce hE) cl_X11_runOnce ml_RX11_235 im_X11_runOnce se_X11_runOnce (by decide) rfl (rm_lt (by decide)))
  <| all_c (s_ild_n (q := 2) (by decide +kernel) rfl)
  <| all_c (s_tsw (df := 69) (offs := #[30, 40, 49, 59]) (n := 30) (by decide +kernel) (by decide) (by decide))
  <| all_c (s_ald_n (q := 0) (by decide +kernel) rfl)
  <| all_c (g_11_1 (by decide +kernel) fl_RX11_51)
  <| all_c (g_5_0 (by decide +kernel) fl_RX11_247)
  <| all_c (s_ild_n (q := 1) (by decide +kernel) rfl)
  <| all_c (s_iald (by decide +kernel))
  <| all_c (s_iret (by decide +kernel) rfl)
  <| all_c (s_ald_n (q := 0) (by decide +kernel) rfl)
  <| all_c (g_11_1 (by decide +kernel) fl_RX11_51)
  <| all_c (s_ild_n (q := 1) (by decide +kernel) rfl)
  <| all_c (s_callV (by decide +kernel) (t_X5_inAll hE) cl_X5_inAll ml_RX11_250 im_X5_inAll se_X5_inAll (by decide) rfl (rm_lt (by decide)))
  <| all_c (s_iret (by decide +kernel) rfl)
  <| all_c (s_ald_n (q := 0) (by decide +kernel) rfl)
  <| all_c (g_11_1 (by decide +kernel) fl_RX11_51)
  <| all_c (g_5_1 (by decide +kernel) fl_RX11_253)
  <| all_c (s_ild_n (q := 1) (by decide +kernel) rfl)
  <| all_c (s_iald (by decide +kernel))
  <| all_c (s_iret (by decide +kernel) rfl)
  <| all_c (s_ald_n (q := 0) (by decide +kernel) rfl)
  <| all_c (g_11_1 (by decide +kernel) fl_RX11_51)
  <| all_c (g_5_2 (by decide +kernel) fl_RX11_256)
  <| all_c (s_ild_n (q := 1) (by decide +kernel) rfl)
  <| all_c (s_iald (by decide +kernel))
  <| all_c (s_iret (by decide +kernel) rfl)
  <| all_c (s_iconst (n := (-1)) (by decide +kernel) (by decide))
  <| all_c (s_iret (by decide +kernel) rfl)
  <| all_n
theorem t_X11_after {l : Launch} {E : En_} (hE : EOK_ E) : Good_ l E yX11_after (.code yX11_after cX11_after 3 (some .int) :: G_) (rm_ 6) (f_X11_after E.2.2.2.1) := good_all hE (by decide +kernel) (a_X11_after hE)
noncomputable def P_X11_all (K : Sh_)  : List (Nat × Op_) := [(0, o_ald 0 1),
  (1, o_callV K 11 (f_X11_runOnce K) 0),
  (4, o_ild 1 1),
  (5, o_tsw 0 3 68 [36, 44, 52, 60]),
  (36, o_ald 0 1),
  (37, o_gF K 11 1),
  (40, o_callV K 5 (f_X5_sum K) 0),
  (43, o_iret),
  (44, o_ald 0 1),
  (45, o_gF K 11 1),
  (48, o_callV K 5 (f_X5_sent K) 0),
  (51, o_iret),
  (52, o_ald 0 1),
  (53, o_gF K 11 1),
  (56, o_callV K 5 (f_X5_unreadMusts K) 0),
  (59, o_iret),
  (60, o_ald 0 1),
  (61, o_gF K 11 1),
  (64, o_callV K 5 (f_X5_lacking K) 0),
  (67, o_iret),
  (68, o_ic (-1) 1),
  (69, o_iret)]
noncomputable def f_X11_all (K : Sh_) : Fn_ := fn_ (P_X11_all K) 2
set_option maxRecDepth 100000 in
theorem a_X11_all {l : Launch} {E : En_} (hE : EOK_ E)   : All_ (Snd_ l E yX11_all.cls cX11_all 2 (some .int) (.code yX11_all cX11_all 2 (some .int) :: G_) (rm_ 6)) (P_X11_all E.2.2.2.1 ) :=
  all_c (s_ald_n (q := 0) (by decide +kernel) rfl)
  <| all_c (s_callV (by decide +kernel) (t_X11_runOnce hE) cl_X11_runOnce ml_RX11_235 im_X11_runOnce se_X11_runOnce (by decide) rfl (rm_lt (by decide)))
  <| all_c (s_ild_n (q := 1) (by decide +kernel) rfl)
  <| all_c (s_tsw (df := 63) (offs := #[31, 39, 47, 55]) (n := 31) (by decide +kernel) (by decide) (by decide))
  <| all_c (s_ald_n (q := 0) (by decide +kernel) rfl)
  <| all_c (g_11_1 (by decide +kernel) fl_RX11_51)
  <| all_c (s_callV (by decide +kernel) (t_X5_sum hE) cl_X5_sum ml_RX11_259 im_X5_sum se_X5_sum (by decide) rfl (rm_lt (by decide)))
  <| all_c (s_iret (by decide +kernel) rfl)
  <| all_c (s_ald_n (q := 0) (by decide +kernel) rfl)
  <| all_c (g_11_1 (by decide +kernel) fl_RX11_51)
  <| all_c (s_callV (by decide +kernel) (t_X5_sent hE) cl_X5_sent ml_RX11_262 im_X5_sent se_X5_sent (by decide) rfl (rm_lt (by decide)))
  <| all_c (s_iret (by decide +kernel) rfl)
  <| all_c (s_ald_n (q := 0) (by decide +kernel) rfl)
  <| all_c (g_11_1 (by decide +kernel) fl_RX11_51)
  <| all_c (s_callV (by decide +kernel) (t_X5_unreadMusts hE) cl_X5_unreadMusts ml_RX11_265 im_X5_unreadMusts se_X5_unreadMusts (by decide) rfl (rm_lt (by decide)))
  <| all_c (s_iret (by decide +kernel) rfl)
  <| all_c (s_ald_n (q := 0) (by decide +kernel) rfl)
  <| all_c (g_11_1 (by decide +kernel) fl_RX11_51)
  <| all_c (s_callV (by decide +kernel) (t_X5_lacking hE) cl_X5_lacking ml_RX11_268 im_X5_lacking se_X5_lacking (by decide) rfl (rm_lt (by decide)))
  <| all_c (s_iret (by decide +kernel) rfl)
  <| all_c (s_iconst (n := (-1)) (by decide +kernel) (by decide))
  <| all_c (s_iret (by decide +kernel) rfl)
  <| all_n
theorem t_X11_all {l : Launch} {E : En_} (hE : EOK_ E) : Good_ l E yX11_all (.code yX11_all cX11_all 2 (some .int) :: G_) (rm_ 6) (f_X11_all E.2.2.2.1) := good_all hE (by decide +kernel) (a_X11_all hE)
noncomputable def P_X11_best (K : Sh_)  : List (Nat × Op_) := [(0, o_ild 1 1),
  (1, o_ic 1 1),
  (2, o_cmplt 22),
  (5, o_ild 1 1),
  (6, o_ic 6 2),
  (8, o_cmpgt 22),
  (11, o_ild 1 1),
  (12, o_ald 0 1),
  (13, o_gR K 11 12),
  (16, o_gI K 0 11),
  (19, o_cmple 24),
  (22, o_ic (-1) 1),
  (23, o_iret),
  (24, o_ild 2 1),
  (25, o_ic 1 1),
  (26, o_cmplt 45),
  (29, o_ild 2 1),
  (30, o_ic 4 1),
  (31, o_cmpgt 45),
  (34, o_ild 2 1),
  (35, o_ald 0 1),
  (36, o_gR K 11 12),
  (39, o_gI K 0 12),
  (42, o_cmple 47),
  (45, o_ic (-1) 1),
  (46, o_iret),
  (47, o_ald 0 1),
  (48, o_gF K 11 4),
  (51, o_ald 0 1),
  (52, o_gR K 11 12),
  (55, o_ild 1 1),
  (56, o_ild 2 1),
  (57, o_callV K 10 (f_X10_search K) 3),
  (60, o_iret)]
noncomputable def f_X11_best (K : Sh_) : Fn_ := fn_ (P_X11_best K) 3
set_option maxRecDepth 100000 in
theorem a_X11_best {l : Launch} {E : En_} (hE : EOK_ E)   : All_ (Snd_ l E yX11_best.cls cX11_best 3 (some .int) (.code yX11_best cX11_best 3 (some .int) :: G_) (rm_ 85)) (P_X11_best E.2.2.2.1 ) :=
  all_c (s_ild_n (q := 1) (by decide +kernel) rfl)
  <| all_c (s_iconst (n := 1) (by decide +kernel) (by decide))
  <| all_c (s_cmplt (off := 20) (by decide +kernel) (by decide))
  <| all_c (s_ild_n (q := 1) (by decide +kernel) rfl)
  <| all_c (s_bipush (n := 6) (by decide +kernel) (by decide))
  <| all_c (s_cmpgt (off := 14) (by decide +kernel) (by decide))
  <| all_c (s_ild_n (q := 1) (by decide +kernel) rfl)
  <| all_c (s_ald_n (q := 0) (by decide +kernel) rfl)
  <| all_c (g_11_12 (by decide +kernel) fl_RX11_19)
  <| all_c (g_0_11 (by decide +kernel) fl_RX11_217)
  <| all_c (s_cmple (off := 5) (by decide +kernel) (by decide))
  <| all_c (s_iconst (n := (-1)) (by decide +kernel) (by decide))
  <| all_c (s_iret (by decide +kernel) rfl)
  <| all_c (s_ild_n (q := 2) (by decide +kernel) rfl)
  <| all_c (s_iconst (n := 1) (by decide +kernel) (by decide))
  <| all_c (s_cmplt (off := 19) (by decide +kernel) (by decide))
  <| all_c (s_ild_n (q := 2) (by decide +kernel) rfl)
  <| all_c (s_iconst (n := 4) (by decide +kernel) (by decide))
  <| all_c (s_cmpgt (off := 14) (by decide +kernel) (by decide))
  <| all_c (s_ild_n (q := 2) (by decide +kernel) rfl)
  <| all_c (s_ald_n (q := 0) (by decide +kernel) rfl)
  <| all_c (g_11_12 (by decide +kernel) fl_RX11_19)
  <| all_c (g_0_12 (by decide +kernel) fl_RX11_214)
  <| all_c (s_cmple (off := 5) (by decide +kernel) (by decide))
  <| all_c (s_iconst (n := (-1)) (by decide +kernel) (by decide))
  <| all_c (s_iret (by decide +kernel) rfl)
  <| all_c (s_ald_n (q := 0) (by decide +kernel) rfl)
  <| all_c (g_11_4 (by decide +kernel) fl_RX11_74)
  <| all_c (s_ald_n (q := 0) (by decide +kernel) rfl)
  <| all_c (g_11_12 (by decide +kernel) fl_RX11_19)
  <| all_c (s_ild_n (q := 1) (by decide +kernel) rfl)
  <| all_c (s_ild_n (q := 2) (by decide +kernel) rfl)
  <| all_c (s_callV (by decide +kernel) (t_X10_search hE) cl_X10_search ml_RX11_271 im_X10_search se_X10_search (by decide) rfl (rm_lt (by decide)))
  <| all_c (s_iret (by decide +kernel) rfl)
  <| all_n
theorem t_X11_best {l : Launch} {E : En_} (hE : EOK_ E) : Good_ l E yX11_best (.code yX11_best cX11_best 3 (some .int) :: G_) (rm_ 85) (f_X11_best E.2.2.2.1) := good_all hE (by decide +kernel) (a_X11_best hE)
noncomputable def P_X11_bestOf (K : Sh_)  : List (Nat × Op_) := [(0, o_ild 1 1),
  (1, o_iflt 15),
  (4, o_ild 1 1),
  (5, o_ald 0 1),
  (6, o_gF K 11 4),
  (9, o_gI K 10 1),
  (12, o_cmplt 19),
  (15, o_ic (-1) 1),
  (16, o_goto 28),
  (19, o_ald 0 1),
  (20, o_gF K 11 4),
  (23, o_gF K 10 0),
  (26, o_ild 1 1),
  (27, o_iald K),
  (28, o_iret)]
noncomputable def f_X11_bestOf (K : Sh_) : Fn_ := fn_ (P_X11_bestOf K) 2
set_option maxRecDepth 100000 in
theorem a_X11_bestOf {l : Launch} {E : En_} (hE : EOK_ E)   : All_ (Snd_ l E yX11_bestOf.cls cX11_bestOf 2 (some .int) (.code yX11_bestOf cX11_bestOf 2 (some .int) :: G_) (rm_ 1)) (P_X11_bestOf E.2.2.2.1 ) :=
  all_c (s_ild_n (q := 1) (by decide +kernel) rfl)
  <| all_c (s_iflt (off := 14) (by decide +kernel) (by decide))
  <| all_c (s_ild_n (q := 1) (by decide +kernel) rfl)
  <| all_c (s_ald_n (q := 0) (by decide +kernel) rfl)
  <| all_c (g_11_4 (by decide +kernel) fl_RX11_74)
  <| all_c (g_10_1 (by decide +kernel) fl_RX11_275)
  <| all_c (s_cmplt (off := 7) (by decide +kernel) (by decide))
  <| all_c (s_iconst (n := (-1)) (by decide +kernel) (by decide))
  <| all_c (s_goto (off := 12) (by decide +kernel) (by decide))
  <| all_c (s_ald_n (q := 0) (by decide +kernel) rfl)
  <| all_c (g_11_4 (by decide +kernel) fl_RX11_74)
  <| all_c (g_10_0 (by decide +kernel) fl_RX11_278)
  <| all_c (s_ild_n (q := 1) (by decide +kernel) rfl)
  <| all_c (s_iald (by decide +kernel))
  <| all_c (s_iret (by decide +kernel) rfl)
  <| all_n
theorem t_X11_bestOf {l : Launch} {E : En_} (hE : EOK_ E) : Good_ l E yX11_bestOf (.code yX11_bestOf cX11_bestOf 2 (some .int) :: G_) (rm_ 1) (f_X11_bestOf E.2.2.2.1) := good_all hE (by decide +kernel) (a_X11_bestOf hE)
noncomputable def P_X11_cut (K : Sh_)  : List (Nat × Op_) := [(0, o_ild 1 1),
  (1, o_ic 1 1),
  (2, o_cmplt 23),
  (5, o_ild 1 1),
  (6, o_ic 9 2),
  (8, o_cmpgt 23),
  (11, o_ild 2 1),
  (12, o_ic 1 1),
  (13, o_cmplt 23),
  (16, o_ild 2 1),
  (17, o_ic 999 3),
  (20, o_cmple 26),
  (23, o_ic (-2) 2),
  (25, o_iret),
  (26, o_ald 0 1),
  (27, o_gF K 11 5),
  (30, o_ald 0 1),
  (31, o_gR K 11 12),
  (34, o_ild 1 1),
  (35, o_ild 2 1),
  (36, o_callV K 2 (f_X2_stretch K) 3),
  (39, o_iret)]
noncomputable def f_X11_cut (K : Sh_) : Fn_ := fn_ (P_X11_cut K) 3
set_option maxRecDepth 100000 in
theorem a_X11_cut {l : Launch} {E : En_} (hE : EOK_ E)   : All_ (Snd_ l E yX11_cut.cls cX11_cut 3 (some .int) (.code yX11_cut cX11_cut 3 (some .int) :: G_) (rm_ 3)) (P_X11_cut E.2.2.2.1 ) :=
  all_c (s_ild_n (q := 1) (by decide +kernel) rfl)
  <| all_c (s_iconst (n := 1) (by decide +kernel) (by decide))
  <| all_c (s_cmplt (off := 21) (by decide +kernel) (by decide))
  <| all_c (s_ild_n (q := 1) (by decide +kernel) rfl)
  <| all_c (s_bipush (n := 9) (by decide +kernel) (by decide))
  <| all_c (s_cmpgt (off := 15) (by decide +kernel) (by decide))
  <| all_c (s_ild_n (q := 2) (by decide +kernel) rfl)
  <| all_c (s_iconst (n := 1) (by decide +kernel) (by decide))
  <| all_c (s_cmplt (off := 10) (by decide +kernel) (by decide))
  <| all_c (s_ild_n (q := 2) (by decide +kernel) rfl)
  <| all_c (s_sipush (n := 999) (by decide +kernel) (by decide))
  <| all_c (s_cmple (off := 6) (by decide +kernel) (by decide))
  <| all_c (s_bipush (n := (-2)) (by decide +kernel) (by decide))
  <| all_c (s_iret (by decide +kernel) rfl)
  <| all_c (s_ald_n (q := 0) (by decide +kernel) rfl)
  <| all_c (g_11_5 (by decide +kernel) fl_RX11_81)
  <| all_c (s_ald_n (q := 0) (by decide +kernel) rfl)
  <| all_c (g_11_12 (by decide +kernel) fl_RX11_19)
  <| all_c (s_ild_n (q := 1) (by decide +kernel) rfl)
  <| all_c (s_ild_n (q := 2) (by decide +kernel) rfl)
  <| all_c (s_callV (by decide +kernel) (t_X2_stretch hE) cl_X2_stretch ml_RX11_281 im_X2_stretch se_X2_stretch (by decide) rfl (rm_lt (by decide)))
  <| all_c (s_iret (by decide +kernel) rfl)
  <| all_n
theorem t_X11_cut {l : Launch} {E : En_} (hE : EOK_ E) : Good_ l E yX11_cut (.code yX11_cut cX11_cut 3 (some .int) :: G_) (rm_ 3) (f_X11_cut E.2.2.2.1) := good_all hE (by decide +kernel) (a_X11_cut hE)
noncomputable def P_X11_cutAt (K : Sh_)  : List (Nat × Op_) := [(0, o_ild 1 1),
  (1, o_iflt 15),
  (4, o_ild 1 1),
  (5, o_ald 0 1),
  (6, o_gF K 11 5),
  (9, o_gI K 2 1),
  (12, o_cmplt 19),
  (15, o_ic (-1) 1),
  (16, o_goto 28),
  (19, o_ald 0 1),
  (20, o_gF K 11 5),
  (23, o_gF K 2 0),
  (26, o_ild 1 1),
  (27, o_iald K),
  (28, o_iret)]
noncomputable def f_X11_cutAt (K : Sh_) : Fn_ := fn_ (P_X11_cutAt K) 2
set_option maxRecDepth 100000 in
theorem a_X11_cutAt {l : Launch} {E : En_} (hE : EOK_ E)   : All_ (Snd_ l E yX11_cutAt.cls cX11_cutAt 2 (some .int) (.code yX11_cutAt cX11_cutAt 2 (some .int) :: G_) (rm_ 1)) (P_X11_cutAt E.2.2.2.1 ) :=
  all_c (s_ild_n (q := 1) (by decide +kernel) rfl)
  <| all_c (s_iflt (off := 14) (by decide +kernel) (by decide))
  <| all_c (s_ild_n (q := 1) (by decide +kernel) rfl)
  <| all_c (s_ald_n (q := 0) (by decide +kernel) rfl)
  <| all_c (g_11_5 (by decide +kernel) fl_RX11_81)
  <| all_c (g_2_1 (by decide +kernel) fl_RX11_284)
  <| all_c (s_cmplt (off := 7) (by decide +kernel) (by decide))
  <| all_c (s_iconst (n := (-1)) (by decide +kernel) (by decide))
  <| all_c (s_goto (off := 12) (by decide +kernel) (by decide))
  <| all_c (s_ald_n (q := 0) (by decide +kernel) rfl)
  <| all_c (g_11_5 (by decide +kernel) fl_RX11_81)
  <| all_c (g_2_0 (by decide +kernel) fl_RX11_287)
  <| all_c (s_ild_n (q := 1) (by decide +kernel) rfl)
  <| all_c (s_iald (by decide +kernel))
  <| all_c (s_iret (by decide +kernel) rfl)
  <| all_n
theorem t_X11_cutAt {l : Launch} {E : En_} (hE : EOK_ E) : Good_ l E yX11_cutAt (.code yX11_cutAt cX11_cutAt 2 (some .int) :: G_) (rm_ 1) (f_X11_cutAt E.2.2.2.1) := good_all hE (by decide +kernel) (a_X11_cutAt hE)
noncomputable def P_X11_net (K : Sh_)  : List (Nat × Op_) := [(0, o_ald 0 1),
  (1, o_gF K 11 0),
  (4, o_gI K 8 2),
  (7, o_ist 2 1),
  (8, o_ald 0 1),
  (9, o_gF K 11 0),
  (12, o_ic 0 1),
  (13, o_pI K 8 2),
  (16, o_ild 1 1),
  (17, o_ic 1 1),
  (18, o_cmplt 48),
  (21, o_ild 1 1),
  (22, o_ic 9999 3),
  (25, o_cmpgt 48),
  (28, o_ald 0 1),
  (29, o_gF K 11 0),
  (32, o_ild 2 1),
  (33, o_ic 10 2),
  (35, o_ald 0 1),
  (36, o_gR K 11 12),
  (39, o_gI K 0 11),
  (42, o_callV K 8 (f_X8_areUnlike K) 3),
  (45, o_ifne 51),
  (48, o_ic (-2) 2),
  (50, o_iret),
  (51, o_ald 0 1),
  (52, o_gF K 11 5),
  (55, o_ald 0 1),
  (56, o_gR K 11 12),
  (59, o_ald 0 1),
  (60, o_gF K 11 0),
  (63, o_ild 2 1),
  (64, o_ild 1 1),
  (65, o_callV K 2 (f_X2_divide K) 4),
  (68, o_iret)]
noncomputable def f_X11_net (K : Sh_) : Fn_ := fn_ (P_X11_net K) 3
set_option maxRecDepth 100000 in
theorem a_X11_net {l : Launch} {E : En_} (hE : EOK_ E)   : All_ (Snd_ l E yX11_net.cls cX11_net 3 (some .int) (.code yX11_net cX11_net 3 (some .int) :: G_) (rm_ 4)) (P_X11_net E.2.2.2.1 ) :=
  all_c (s_ald_n (q := 0) (by decide +kernel) rfl)
  <| all_c (g_11_0 (by decide +kernel) fl_RX11_10)
  <| all_c (g_8_2 (by decide +kernel) fl_RX11_131)
  <| all_c (s_ist_n (q := 2) (by decide +kernel) rfl)
  <| all_c (s_ald_n (q := 0) (by decide +kernel) rfl)
  <| all_c (g_11_0 (by decide +kernel) fl_RX11_10)
  <| all_c (s_iconst (n := 0) (by decide +kernel) (by decide))
  <| all_c (p_8_2 (by decide +kernel) fl_RX11_131)
  <| all_c (s_ild_n (q := 1) (by decide +kernel) rfl)
  <| all_c (s_iconst (n := 1) (by decide +kernel) (by decide))
  <| all_c (s_cmplt (off := 30) (by decide +kernel) (by decide))
  <| all_c (s_ild_n (q := 1) (by decide +kernel) rfl)
  <| all_c (s_sipush (n := 9999) (by decide +kernel) (by decide))
  <| all_c (s_cmpgt (off := 23) (by decide +kernel) (by decide))
  <| all_c (s_ald_n (q := 0) (by decide +kernel) rfl)
  <| all_c (g_11_0 (by decide +kernel) fl_RX11_10)
  <| all_c (s_ild_n (q := 2) (by decide +kernel) rfl)
  <| all_c (s_bipush (n := 10) (by decide +kernel) (by decide))
  <| all_c (s_ald_n (q := 0) (by decide +kernel) rfl)
  <| all_c (g_11_12 (by decide +kernel) fl_RX11_19)
  <| all_c (g_0_11 (by decide +kernel) fl_RX11_217)
  <| all_c (s_callV (by decide +kernel) (t_X8_areUnlike hE) cl_X8_areUnlike ml_RX11_290 im_X8_areUnlike se_X8_areUnlike (by decide) rfl (rm_lt (by decide)))
  <| all_c (s_ifne (off := 6) (by decide +kernel) (by decide))
  <| all_c (s_bipush (n := (-2)) (by decide +kernel) (by decide))
  <| all_c (s_iret (by decide +kernel) rfl)
  <| all_c (s_ald_n (q := 0) (by decide +kernel) rfl)
  <| all_c (g_11_5 (by decide +kernel) fl_RX11_81)
  <| all_c (s_ald_n (q := 0) (by decide +kernel) rfl)
  <| all_c (g_11_12 (by decide +kernel) fl_RX11_19)
  <| all_c (s_ald_n (q := 0) (by decide +kernel) rfl)
  <| all_c (g_11_0 (by decide +kernel) fl_RX11_10)
  <| all_c (s_ild_n (q := 2) (by decide +kernel) rfl)
  <| all_c (s_ild_n (q := 1) (by decide +kernel) rfl)
  <| all_c (s_callV (by decide +kernel) (t_X2_divide hE) cl_X2_divide ml_RX11_294 im_X2_divide se_X2_divide (by decide) rfl (rm_lt (by decide)))
  <| all_c (s_iret (by decide +kernel) rfl)
  <| all_n
theorem t_X11_net {l : Launch} {E : En_} (hE : EOK_ E) : Good_ l E yX11_net (.code yX11_net cX11_net 3 (some .int) :: G_) (rm_ 4) (f_X11_net E.2.2.2.1) := good_all hE (by decide +kernel) (a_X11_net hE)
noncomputable def P_X11_netSide (K : Sh_)  : List (Nat × Op_) := [(0, o_ald 0 1),
  (1, o_gF K 11 5),
  (4, o_gI K 2 2),
  (7, o_iret)]
noncomputable def f_X11_netSide (K : Sh_) : Fn_ := fn_ (P_X11_netSide K) 1
set_option maxRecDepth 100000 in
theorem a_X11_netSide {l : Launch} {E : En_} (hE : EOK_ E)   : All_ (Snd_ l E yX11_netSide.cls cX11_netSide 1 (some .int) (.code yX11_netSide cX11_netSide 1 (some .int) :: G_) (rm_ 1)) (P_X11_netSide E.2.2.2.1 ) :=
  all_c (s_ald_n (q := 0) (by decide +kernel) rfl)
  <| all_c (g_11_5 (by decide +kernel) fl_RX11_81)
  <| all_c (g_2_2 (by decide +kernel) fl_RX11_298)
  <| all_c (s_iret (by decide +kernel) rfl)
  <| all_n
theorem t_X11_netSide {l : Launch} {E : En_} (hE : EOK_ E) : Good_ l E yX11_netSide (.code yX11_netSide cX11_netSide 1 (some .int) :: G_) (rm_ 1) (f_X11_netSide E.2.2.2.1) := good_all hE (by decide +kernel) (a_X11_netSide hE)
noncomputable def P_X11_chain (K : Sh_)  : List (Nat × Op_) := [(0, o_ald 0 1),
  (1, o_gF K 11 0),
  (4, o_gI K 8 2),
  (7, o_ist 1 1),
  (8, o_ald 0 1),
  (9, o_gF K 11 0),
  (12, o_ic 0 1),
  (13, o_pI K 8 2),
  (16, o_ald 0 1),
  (17, o_gF K 11 0),
  (20, o_ild 1 1),
  (21, o_ic 7 2),
  (23, o_ald 0 1),
  (24, o_gR K 11 12),
  (27, o_gI K 0 12),
  (30, o_callV K 8 (f_X8_areUnlike K) 3),
  (33, o_ifne 38),
  (36, o_ic (-1) 1),
  (37, o_iret),
  (38, o_ald 0 1),
  (39, o_gF K 11 6),
  (42, o_ald 0 1),
  (43, o_gR K 11 12),
  (46, o_ald 0 1),
  (47, o_gF K 11 0),
  (50, o_ild 1 1),
  (51, o_callV K 7 (f_X7_search K) 3),
  (54, o_iret)]
noncomputable def f_X11_chain (K : Sh_) : Fn_ := fn_ (P_X11_chain K) 2
set_option maxRecDepth 100000 in
theorem a_X11_chain {l : Launch} {E : En_} (hE : EOK_ E)   : All_ (Snd_ l E yX11_chain.cls cX11_chain 2 (some .int) (.code yX11_chain cX11_chain 2 (some .int) :: G_) (rm_ 84)) (P_X11_chain E.2.2.2.1 ) :=
  all_c (s_ald_n (q := 0) (by decide +kernel) rfl)
  <| all_c (g_11_0 (by decide +kernel) fl_RX11_10)
  <| all_c (g_8_2 (by decide +kernel) fl_RX11_131)
  <| all_c (s_ist_n (q := 1) (by decide +kernel) rfl)
  <| all_c (s_ald_n (q := 0) (by decide +kernel) rfl)
  <| all_c (g_11_0 (by decide +kernel) fl_RX11_10)
  <| all_c (s_iconst (n := 0) (by decide +kernel) (by decide))
  <| all_c (p_8_2 (by decide +kernel) fl_RX11_131)
  <| all_c (s_ald_n (q := 0) (by decide +kernel) rfl)
  <| all_c (g_11_0 (by decide +kernel) fl_RX11_10)
  <| all_c (s_ild_n (q := 1) (by decide +kernel) rfl)
  <| all_c (s_bipush (n := 7) (by decide +kernel) (by decide))
  <| all_c (s_ald_n (q := 0) (by decide +kernel) rfl)
  <| all_c (g_11_12 (by decide +kernel) fl_RX11_19)
  <| all_c (g_0_12 (by decide +kernel) fl_RX11_214)
  <| all_c (s_callV (by decide +kernel) (t_X8_areUnlike hE) cl_X8_areUnlike ml_RX11_290 im_X8_areUnlike se_X8_areUnlike (by decide) rfl (rm_lt (by decide)))
  <| all_c (s_ifne (off := 5) (by decide +kernel) (by decide))
  <| all_c (s_iconst (n := (-1)) (by decide +kernel) (by decide))
  <| all_c (s_iret (by decide +kernel) rfl)
  <| all_c (s_ald_n (q := 0) (by decide +kernel) rfl)
  <| all_c (g_11_6 (by decide +kernel) fl_RX11_88)
  <| all_c (s_ald_n (q := 0) (by decide +kernel) rfl)
  <| all_c (g_11_12 (by decide +kernel) fl_RX11_19)
  <| all_c (s_ald_n (q := 0) (by decide +kernel) rfl)
  <| all_c (g_11_0 (by decide +kernel) fl_RX11_10)
  <| all_c (s_ild_n (q := 1) (by decide +kernel) rfl)
  <| all_c (s_callV (by decide +kernel) (t_X7_search hE) cl_X7_search ml_RX11_301 im_X7_search se_X7_search (by decide) rfl (rm_lt (by decide)))
  <| all_c (s_iret (by decide +kernel) rfl)
  <| all_n
theorem t_X11_chain {l : Launch} {E : En_} (hE : EOK_ E) : Good_ l E yX11_chain (.code yX11_chain cX11_chain 2 (some .int) :: G_) (rm_ 84) (f_X11_chain E.2.2.2.1) := good_all hE (by decide +kernel) (a_X11_chain hE)
noncomputable def P_X11_chainAt (K : Sh_)  : List (Nat × Op_) := [(0, o_ild 1 1),
  (1, o_iflt 15),
  (4, o_ild 1 1),
  (5, o_ald 0 1),
  (6, o_gF K 11 6),
  (9, o_gI K 7 1),
  (12, o_cmplt 19),
  (15, o_ic (-1) 1),
  (16, o_goto 28),
  (19, o_ald 0 1),
  (20, o_gF K 11 6),
  (23, o_gF K 7 0),
  (26, o_ild 1 1),
  (27, o_iald K),
  (28, o_iret)]
noncomputable def f_X11_chainAt (K : Sh_) : Fn_ := fn_ (P_X11_chainAt K) 2
set_option maxRecDepth 100000 in
theorem a_X11_chainAt {l : Launch} {E : En_} (hE : EOK_ E)   : All_ (Snd_ l E yX11_chainAt.cls cX11_chainAt 2 (some .int) (.code yX11_chainAt cX11_chainAt 2 (some .int) :: G_) (rm_ 1)) (P_X11_chainAt E.2.2.2.1 ) :=
  all_c (s_ild_n (q := 1) (by decide +kernel) rfl)
  <| all_c (s_iflt (off := 14) (by decide +kernel) (by decide))
  <| all_c (s_ild_n (q := 1) (by decide +kernel) rfl)
  <| all_c (s_ald_n (q := 0) (by decide +kernel) rfl)
  <| all_c (g_11_6 (by decide +kernel) fl_RX11_88)
  <| all_c (g_7_1 (by decide +kernel) fl_RX11_304)
  <| all_c (s_cmplt (off := 7) (by decide +kernel) (by decide))
  <| all_c (s_iconst (n := (-1)) (by decide +kernel) (by decide))
  <| all_c (s_goto (off := 12) (by decide +kernel) (by decide))
  <| all_c (s_ald_n (q := 0) (by decide +kernel) rfl)
  <| all_c (g_11_6 (by decide +kernel) fl_RX11_88)
  <| all_c (g_7_0 (by decide +kernel) fl_RX11_305)
  <| all_c (s_ild_n (q := 1) (by decide +kernel) rfl)
  <| all_c (s_iald (by decide +kernel))
  <| all_c (s_iret (by decide +kernel) rfl)
  <| all_n
theorem t_X11_chainAt {l : Launch} {E : En_} (hE : EOK_ E) : Good_ l E yX11_chainAt (.code yX11_chainAt cX11_chainAt 2 (some .int) :: G_) (rm_ 1) (f_X11_chainAt E.2.2.2.1) := good_all hE (by decide +kernel) (a_X11_chainAt hE)
noncomputable def P_X11_alone (K : Sh_)  : List (Nat × Op_) := [(0, o_ald 0 1),
  (1, o_gR K 11 12),
  (4, o_ild 1 1),
  (5, o_callV K 0 (f_X0_hasReader K) 1),
  (8, o_ifeq 20),
  (11, o_ild 2 1),
  (12, o_iflt 20),
  (15, o_ild 2 1),
  (16, o_ic 1 1),
  (17, o_cmple 22),
  (20, o_ic (-1) 1),
  (21, o_iret),
  (22, o_ald 0 1),
  (23, o_gF K 11 7),
  (26, o_ald 0 1),
  (27, o_gR K 11 12),
  (30, o_ild 1 1),
  (31, o_callV K 1 (f_X1_readAlone K) 2),
  (34, o_ild 2 1),
  (35, o_ifne 48),
  (38, o_ald 0 1),
  (39, o_gF K 11 7),
  (42, o_gI K 1 0),
  (45, o_goto 55),
  (48, o_ald 0 1),
  (49, o_gF K 11 7),
  (52, o_gI K 1 1),
  (55, o_iret)]
noncomputable def f_X11_alone (K : Sh_) : Fn_ := fn_ (P_X11_alone K) 3
set_option maxRecDepth 100000 in
theorem a_X11_alone {l : Launch} {E : En_} (hE : EOK_ E)   : All_ (Snd_ l E yX11_alone.cls cX11_alone 3 (some .int) (.code yX11_alone cX11_alone 3 (some .int) :: G_) (rm_ 4)) (P_X11_alone E.2.2.2.1 ) :=
  all_c (s_ald_n (q := 0) (by decide +kernel) rfl)
  <| all_c (g_11_12 (by decide +kernel) fl_RX11_19)
  <| all_c (s_ild_n (q := 1) (by decide +kernel) rfl)
  <| all_c (s_callV (by decide +kernel) (t_X0_hasReader hE) cl_X0_hasReader ml_RX11_179 im_X0_hasReader se_X0_hasReader (by decide) rfl (rm_lt (by decide)))
  <| all_c (s_ifeq (off := 12) (by decide +kernel) (by decide))
  <| all_c (s_ild_n (q := 2) (by decide +kernel) rfl)
  <| all_c (s_iflt (off := 8) (by decide +kernel) (by decide))
  <| all_c (s_ild_n (q := 2) (by decide +kernel) rfl)
  <| all_c (s_iconst (n := 1) (by decide +kernel) (by decide))
  <| all_c (s_cmple (off := 5) (by decide +kernel) (by decide))
  <| all_c (s_iconst (n := (-1)) (by decide +kernel) (by decide))
  <| all_c (s_iret (by decide +kernel) rfl)
  <| all_c (s_ald_n (q := 0) (by decide +kernel) rfl)
  <| all_c (g_11_7 (by decide +kernel) fl_RX11_95)
  <| all_c (s_ald_n (q := 0) (by decide +kernel) rfl)
  <| all_c (g_11_12 (by decide +kernel) fl_RX11_19)
  <| all_c (s_ild_n (q := 1) (by decide +kernel) rfl)
  <| all_c (s_callV (by decide +kernel) (t_X1_readAlone hE) cl_X1_readAlone ml_RX11_306 im_X1_readAlone se_X1_readAlone (by decide) rfl (rm_lt (by decide)))
  <| all_c (s_ild_n (q := 2) (by decide +kernel) rfl)
  <| all_c (s_ifne (off := 13) (by decide +kernel) (by decide))
  <| all_c (s_ald_n (q := 0) (by decide +kernel) rfl)
  <| all_c (g_11_7 (by decide +kernel) fl_RX11_95)
  <| all_c (g_1_0 (by decide +kernel) fl_RX11_310)
  <| all_c (s_goto (off := 10) (by decide +kernel) (by decide))
  <| all_c (s_ald_n (q := 0) (by decide +kernel) rfl)
  <| all_c (g_11_7 (by decide +kernel) fl_RX11_95)
  <| all_c (g_1_1 (by decide +kernel) fl_RX11_312)
  <| all_c (s_iret (by decide +kernel) rfl)
  <| all_n
theorem t_X11_alone {l : Launch} {E : En_} (hE : EOK_ E) : Good_ l E yX11_alone (.code yX11_alone cX11_alone 3 (some .int) :: G_) (rm_ 4) (f_X11_alone E.2.2.2.1) := good_all hE (by decide +kernel) (a_X11_alone hE)
noncomputable def P_X11_leave (K : Sh_)  : List (Nat × Op_) := [(0, o_ald 0 1),
  (1, o_gR K 11 12),
  (4, o_gI K 0 12),
  (7, o_ic 1 1),
  (8, o_cmplt 20),
  (11, o_ild 1 1),
  (12, o_iflt 20),
  (15, o_ild 1 1),
  (16, o_ic 1 1),
  (17, o_cmple 22),
  (20, o_ic (-1) 1),
  (21, o_iret),
  (22, o_ald 0 1),
  (23, o_gF K 11 7),
  (26, o_ald 0 1),
  (27, o_gR K 11 12),
  (30, o_callV K 1 (f_X1_leaveOut K) 1),
  (33, o_ild 1 1),
  (34, o_ifne 47),
  (37, o_ald 0 1),
  (38, o_gF K 11 7),
  (41, o_gI K 1 0),
  (44, o_goto 54),
  (47, o_ald 0 1),
  (48, o_gF K 11 7),
  (51, o_gI K 1 1),
  (54, o_iret)]
noncomputable def f_X11_leave (K : Sh_) : Fn_ := fn_ (P_X11_leave K) 2
set_option maxRecDepth 100000 in
theorem a_X11_leave {l : Launch} {E : En_} (hE : EOK_ E)   : All_ (Snd_ l E yX11_leave.cls cX11_leave 2 (some .int) (.code yX11_leave cX11_leave 2 (some .int) :: G_) (rm_ 83)) (P_X11_leave E.2.2.2.1 ) :=
  all_c (s_ald_n (q := 0) (by decide +kernel) rfl)
  <| all_c (g_11_12 (by decide +kernel) fl_RX11_19)
  <| all_c (g_0_12 (by decide +kernel) fl_RX11_214)
  <| all_c (s_iconst (n := 1) (by decide +kernel) (by decide))
  <| all_c (s_cmplt (off := 12) (by decide +kernel) (by decide))
  <| all_c (s_ild_n (q := 1) (by decide +kernel) rfl)
  <| all_c (s_iflt (off := 8) (by decide +kernel) (by decide))
  <| all_c (s_ild_n (q := 1) (by decide +kernel) rfl)
  <| all_c (s_iconst (n := 1) (by decide +kernel) (by decide))
  <| all_c (s_cmple (off := 5) (by decide +kernel) (by decide))
  <| all_c (s_iconst (n := (-1)) (by decide +kernel) (by decide))
  <| all_c (s_iret (by decide +kernel) rfl)
  <| all_c (s_ald_n (q := 0) (by decide +kernel) rfl)
  <| all_c (g_11_7 (by decide +kernel) fl_RX11_95)
  <| all_c (s_ald_n (q := 0) (by decide +kernel) rfl)
  <| all_c (g_11_12 (by decide +kernel) fl_RX11_19)
  <| all_c (s_callV (by decide +kernel) (t_X1_leaveOut hE) cl_X1_leaveOut ml_RX11_315 im_X1_leaveOut se_X1_leaveOut (by decide) rfl (rm_lt (by decide)))
  <| all_c (s_ild_n (q := 1) (by decide +kernel) rfl)
  <| all_c (s_ifne (off := 13) (by decide +kernel) (by decide))
  <| all_c (s_ald_n (q := 0) (by decide +kernel) rfl)
  <| all_c (g_11_7 (by decide +kernel) fl_RX11_95)
  <| all_c (g_1_0 (by decide +kernel) fl_RX11_310)
  <| all_c (s_goto (off := 10) (by decide +kernel) (by decide))
  <| all_c (s_ald_n (q := 0) (by decide +kernel) rfl)
  <| all_c (g_11_7 (by decide +kernel) fl_RX11_95)
  <| all_c (g_1_1 (by decide +kernel) fl_RX11_312)
  <| all_c (s_iret (by decide +kernel) rfl)
  <| all_n
theorem t_X11_leave {l : Launch} {E : En_} (hE : EOK_ E) : Good_ l E yX11_leave (.code yX11_leave cX11_leave 2 (some .int) :: G_) (rm_ 83) (f_X11_leave E.2.2.2.1) := good_all hE (by decide +kernel) (a_X11_leave hE)
noncomputable def P_X11_extra (K : Sh_)  : List (Nat × Op_) := [(0, o_ild 1 1),
  (1, o_iflt 9),
  (4, o_ild 1 1),
  (5, o_ic 2 1),
  (6, o_cmple 11),
  (9, o_ic (-1) 1),
  (10, o_iret),
  (11, o_ald 0 1),
  (12, o_callV K 11 (f_X11_runOnce K) 0),
  (15, o_ald 0 1),
  (16, o_gF K 11 1),
  (19, o_callV K 5 (f_X5_findExtra K) 0),
  (22, o_ild 1 1),
  (23, o_lsw 41 [(0, 25), (1, 33)]),
  (48, o_ald 0 1),
  (49, o_gF K 11 1),
  (52, o_gI K 5 6),
  (55, o_iret),
  (56, o_ald 0 1),
  (57, o_gF K 11 1),
  (60, o_gI K 5 7),
  (63, o_iret),
  (64, o_ald 0 1),
  (65, o_gF K 11 1),
  (68, o_gI K 5 8),
  (71, o_iret)]
noncomputable def f_X11_extra (K : Sh_) : Fn_ := fn_ (P_X11_extra K) 2
set_option maxRecDepth 100000 in
theorem a_X11_extra {l : Launch} {E : En_} (hE : EOK_ E)   : All_ (Snd_ l E yX11_extra.cls cX11_extra 2 (some .int) (.code yX11_extra cX11_extra 2 (some .int) :: G_) (rm_ 6)) (P_X11_extra E.2.2.2.1 ) :=
  all_c (s_ild_n (q := 1) (by decide +kernel) rfl)
  <| all_c (s_iflt (off := 8) (by decide +kernel) (by decide))
  <| all_c (s_ild_n (q := 1) (by decide +kernel) rfl)
  <| all_c (s_iconst (n := 2) (by decide +kernel) (by decide))
  <| all_c (s_cmple (off := 5) (by decide +kernel) (by decide))
  <| all_c (s_iconst (n := (-1)) (by decide +kernel) (by decide))
  <| all_c (s_iret (by decide +kernel) rfl)
  <| all_c (s_ald_n (q := 0) (by decide +kernel) rfl)
  <| all_c (s_callV (by decide +kernel) (t_X11_runOnce hE) cl_X11_runOnce ml_RX11_235 im_X11_runOnce se_X11_runOnce (by decide) rfl (rm_lt (by decide)))
  <| all_c (s_ald_n (q := 0) (by decide +kernel) rfl)
  <| all_c (g_11_1 (by decide +kernel) fl_RX11_51)
  <| all_c (s_callV (by decide +kernel) (t_X5_findExtra hE) cl_X5_findExtra ml_RX11_318 im_X5_findExtra se_X5_findExtra (by decide) rfl (rm_lt (by decide)))
  <| all_c (s_ild_n (q := 1) (by decide +kernel) rfl)
  <| all_c (s_lsw (qs := #[(0, 25), (1, 33)]) (n := 25) (by decide +kernel) rfl (by decide))
  <| all_c (s_ald_n (q := 0) (by decide +kernel) rfl)
  <| all_c (g_11_1 (by decide +kernel) fl_RX11_51)
  <| all_c (g_5_6 (by decide +kernel) fl_RX11_321)
  <| all_c (s_iret (by decide +kernel) rfl)
  <| all_c (s_ald_n (q := 0) (by decide +kernel) rfl)
  <| all_c (g_11_1 (by decide +kernel) fl_RX11_51)
  <| all_c (g_5_7 (by decide +kernel) fl_RX11_324)
  <| all_c (s_iret (by decide +kernel) rfl)
  <| all_c (s_ald_n (q := 0) (by decide +kernel) rfl)
  <| all_c (g_11_1 (by decide +kernel) fl_RX11_51)
  <| all_c (g_5_8 (by decide +kernel) fl_RX11_327)
  <| all_c (s_iret (by decide +kernel) rfl)
  <| all_n
theorem t_X11_extra {l : Launch} {E : En_} (hE : EOK_ E) : Good_ l E yX11_extra (.code yX11_extra cX11_extra 2 (some .int) :: G_) (rm_ 6) (f_X11_extra E.2.2.2.1) := good_all hE (by decide +kernel) (a_X11_extra hE)
noncomputable def P_X11_ask (K : Sh_)  : List (Nat × Op_) := [(0, o_ald 0 1),
  (1, o_gF K 11 0),
  (4, o_gI K 8 2),
  (7, o_ist 1 1),
  (8, o_ald 0 1),
  (9, o_gF K 11 0),
  (12, o_ic 0 1),
  (13, o_pI K 8 2),
  (16, o_ild 1 1),
  (17, o_ic 2 1),
  (18, o_cmplt 33),
  (21, o_ild 1 1),
  (22, o_ic 20 2),
  (24, o_cmpgt 33),
  (27, o_ild 1 1),
  (28, o_ic 2 1),
  (29, o_irem),
  (30, o_ifeq 36),
  (33, o_ic (-2) 2),
  (35, o_iret),
  (36, o_ald 0 1),
  (37, o_callV K 11 (f_X11_runOnce K) 0),
  (40, o_ald 0 1),
  (41, o_gF K 11 7),
  (44, o_ald 0 1),
  (45, o_gF K 11 0),
  (48, o_ild 1 1),
  (49, o_ic 2 1),
  (50, o_idiv),
  (51, o_ald 0 1),
  (52, o_gR K 11 12),
  (55, o_gI K 0 11),
  (58, o_ald 0 1),
  (59, o_gF K 11 1),
  (62, o_callV K 5 (f_X5_lacking K) 0),
  (65, o_callV K 1 (f_X1_askFewest K) 4),
  (68, o_iret)]
noncomputable def f_X11_ask (K : Sh_) : Fn_ := fn_ (P_X11_ask K) 2
set_option maxRecDepth 100000 in
theorem a_X11_ask {l : Launch} {E : En_} (hE : EOK_ E)   : All_ (Snd_ l E yX11_ask.cls cX11_ask 2 (some .int) (.code yX11_ask cX11_ask 2 (some .int) :: G_) (rm_ 6)) (P_X11_ask E.2.2.2.1 ) :=
  all_c (s_ald_n (q := 0) (by decide +kernel) rfl)
  <| all_c (g_11_0 (by decide +kernel) fl_RX11_10)
  <| all_c (g_8_2 (by decide +kernel) fl_RX11_131)
  <| all_c (s_ist_n (q := 1) (by decide +kernel) rfl)
  <| all_c (s_ald_n (q := 0) (by decide +kernel) rfl)
  <| all_c (g_11_0 (by decide +kernel) fl_RX11_10)
  <| all_c (s_iconst (n := 0) (by decide +kernel) (by decide))
  <| all_c (p_8_2 (by decide +kernel) fl_RX11_131)
  <| all_c (s_ild_n (q := 1) (by decide +kernel) rfl)
  <| all_c (s_iconst (n := 2) (by decide +kernel) (by decide))
  <| all_c (s_cmplt (off := 15) (by decide +kernel) (by decide))
  <| all_c (s_ild_n (q := 1) (by decide +kernel) rfl)
  <| all_c (s_bipush (n := 20) (by decide +kernel) (by decide))
  <| all_c (s_cmpgt (off := 9) (by decide +kernel) (by decide))
  <| all_c (s_ild_n (q := 1) (by decide +kernel) rfl)
  <| all_c (s_iconst (n := 2) (by decide +kernel) (by decide))
  <| all_c (s_irem (by decide +kernel))
  <| all_c (s_ifeq (off := 6) (by decide +kernel) (by decide))
  <| all_c (s_bipush (n := (-2)) (by decide +kernel) (by decide))
  <| all_c (s_iret (by decide +kernel) rfl)
  <| all_c (s_ald_n (q := 0) (by decide +kernel) rfl)
  <| all_c (s_callV (by decide +kernel) (t_X11_runOnce hE) cl_X11_runOnce ml_RX11_235 im_X11_runOnce se_X11_runOnce (by decide) rfl (rm_lt (by decide)))
  <| all_c (s_ald_n (q := 0) (by decide +kernel) rfl)
  <| all_c (g_11_7 (by decide +kernel) fl_RX11_95)
  <| all_c (s_ald_n (q := 0) (by decide +kernel) rfl)
  <| all_c (g_11_0 (by decide +kernel) fl_RX11_10)
  <| all_c (s_ild_n (q := 1) (by decide +kernel) rfl)
  <| all_c (s_iconst (n := 2) (by decide +kernel) (by decide))
  <| all_c (s_idiv (by decide +kernel))
  <| all_c (s_ald_n (q := 0) (by decide +kernel) rfl)
  <| all_c (g_11_12 (by decide +kernel) fl_RX11_19)
  <| all_c (g_0_11 (by decide +kernel) fl_RX11_217)
  <| all_c (s_ald_n (q := 0) (by decide +kernel) rfl)
  <| all_c (g_11_1 (by decide +kernel) fl_RX11_51)
  <| all_c (s_callV (by decide +kernel) (t_X5_lacking hE) cl_X5_lacking ml_RX11_268 im_X5_lacking se_X5_lacking (by decide) rfl (rm_lt (by decide)))
  <| all_c (s_callV (by decide +kernel) (t_X1_askFewest hE) cl_X1_askFewest ml_RX11_330 im_X1_askFewest se_X1_askFewest (by decide) rfl (rm_lt (by decide)))
  <| all_c (s_iret (by decide +kernel) rfl)
  <| all_n
theorem t_X11_ask {l : Launch} {E : En_} (hE : EOK_ E) : Good_ l E yX11_ask (.code yX11_ask cX11_ask 2 (some .int) :: G_) (rm_ 6) (f_X11_ask E.2.2.2.1) := good_all hE (by decide +kernel) (a_X11_ask hE)
noncomputable def P_X11_asked (K : Sh_)  : List (Nat × Op_) := [(0, o_ald 0 1),
  (1, o_gF K 11 7),
  (4, o_gI K 1 2),
  (7, o_iret)]
noncomputable def f_X11_asked (K : Sh_) : Fn_ := fn_ (P_X11_asked K) 1
set_option maxRecDepth 100000 in
theorem a_X11_asked {l : Launch} {E : En_} (hE : EOK_ E)   : All_ (Snd_ l E yX11_asked.cls cX11_asked 1 (some .int) (.code yX11_asked cX11_asked 1 (some .int) :: G_) (rm_ 1)) (P_X11_asked E.2.2.2.1 ) :=
  all_c (s_ald_n (q := 0) (by decide +kernel) rfl)
  <| all_c (g_11_7 (by decide +kernel) fl_RX11_95)
  <| all_c (g_1_2 (by decide +kernel) fl_RX11_334)
  <| all_c (s_iret (by decide +kernel) rfl)
  <| all_n
theorem t_X11_asked {l : Launch} {E : En_} (hE : EOK_ E) : Good_ l E yX11_asked (.code yX11_asked cX11_asked 1 (some .int) :: G_) (rm_ 1) (f_X11_asked E.2.2.2.1) := good_all hE (by decide +kernel) (a_X11_asked hE)
noncomputable def P_X11_seen (K : Sh_)  : List (Nat × Op_) := [(0, o_ald 0 1),
  (1, o_gR K 11 12),
  (4, o_ild 1 1),
  (5, o_callV K 0 (f_X0_hasReader K) 1),
  (8, o_ifeq 23),
  (11, o_ild 2 1),
  (12, o_ic 1 1),
  (13, o_cmplt 23),
  (16, o_ild 2 1),
  (17, o_ic 1000000 3),
  (20, o_cmple 26),
  (23, o_ic (-2) 2),
  (25, o_iret),
  (26, o_lc 1000000000000000 3),
  (29, o_lst 3 1),
  (30, o_lld 3 1),
  (31, o_ild 2 1),
  (32, o_i2l),
  (33, o_ldiv),
  (34, o_lst 5 2),
  (36, o_ic 10 2),
  (38, o_ald 0 1),
  (39, o_gR K 11 12),
  (42, o_gF K 0 10),
  (45, o_ild 1 1),
  (46, o_iald K),
  (47, o_isub),
  (48, o_ist 7 2),
  (50, o_ic 0 1),
  (51, o_aft [4, 6] (o_ist 8 2)),
  (53, o_ild 8 2),
  (55, o_ic 300 3),
  (58, o_cmpgt 87),
  (61, o_lld 3 1),
  (62, o_lld 5 2),
  (64, o_lcmp),
  (65, o_ifgt 71),
  (68, o_ild 8 2),
  (70, o_iret),
  (71, o_lld 3 1),
  (72, o_ild 7 2),
  (74, o_i2l),
  (75, o_lmul),
  (76, o_lc 10 3),
  (79, o_ldiv),
  (80, o_lst 3 1),
  (81, o_inc 8 1),
  (84, o_aft [4, 6] (o_goto 53)),
  (87, o_ic (-1) 1),
  (88, o_iret)]
noncomputable def f_X11_seen (K : Sh_) : Fn_ := fn_ (P_X11_seen K) 9
set_option maxRecDepth 100000 in
theorem a_X11_seen {l : Launch} {E : En_} (hE : EOK_ E)   : All_ (Snd_ l E yX11_seen.cls cX11_seen 9 (some .int) (.code yX11_seen cX11_seen 9 (some .int) :: G_) (rm_ 2)) (P_X11_seen E.2.2.2.1 ) :=
  all_c (s_ald_n (q := 0) (by decide +kernel) rfl)
  <| all_c (g_11_12 (by decide +kernel) fl_RX11_19)
  <| all_c (s_ild_n (q := 1) (by decide +kernel) rfl)
  <| all_c (s_callV (by decide +kernel) (t_X0_hasReader hE) cl_X0_hasReader ml_RX11_179 im_X0_hasReader se_X0_hasReader (by decide) rfl (rm_lt (by decide)))
  <| all_c (s_ifeq (off := 15) (by decide +kernel) (by decide))
  <| all_c (s_ild_n (q := 2) (by decide +kernel) rfl)
  <| all_c (s_iconst (n := 1) (by decide +kernel) (by decide))
  <| all_c (s_cmplt (off := 10) (by decide +kernel) (by decide))
  <| all_c (s_ild_n (q := 2) (by decide +kernel) rfl)
  <| all_c (s_ldcw (by decide +kernel) (G_w kk_RX11_337))
  <| all_c (s_cmple (off := 6) (by decide +kernel) (by decide))
  <| all_c (s_bipush (n := (-2)) (by decide +kernel) (by decide))
  <| all_c (s_iret (by decide +kernel) rfl)
  <| all_c (s_ldc2 (by decide +kernel) (G_w kk_RX11_338))
  <| all_c (s_lst_n (q := 3) (by decide +kernel) rfl)
  <| all_c (s_lld_n (q := 3) (by decide +kernel) rfl)
  <| all_c (s_ild_n (q := 2) (by decide +kernel) rfl)
  <| all_c (s_i2l (by decide +kernel))
  <| all_c (s_ldiv (by decide +kernel))
  <| all_c (s_lst (by decide +kernel))
  <| all_c (s_bipush (n := 10) (by decide +kernel) (by decide))
  <| all_c (s_ald_n (q := 0) (by decide +kernel) rfl)
  <| all_c (g_11_12 (by decide +kernel) fl_RX11_19)
  <| all_c (g_0_10 (by decide +kernel) fl_RX11_194)
  <| all_c (s_ild_n (q := 1) (by decide +kernel) rfl)
  <| all_c (s_iald (by decide +kernel))
  <| all_c (s_isub (by decide +kernel))
  <| all_c (s_ist (by decide +kernel))
  <| all_c (s_iconst (n := 0) (by decide +kernel) (by decide))
  <| all_c (s_aft (s_ist (by decide +kernel)))
  <| all_c (s_ild (by decide +kernel))
  <| all_c (s_sipush (n := 300) (by decide +kernel) (by decide))
  <| all_c (s_cmpgt (off := 29) (by decide +kernel) (by decide))
  <| all_c (s_lld_n (q := 3) (by decide +kernel) rfl)
  <| all_c (s_lld (by decide +kernel))
  <| all_c (s_lcmp (by decide +kernel))
  <| all_c (s_ifgt (off := 6) (by decide +kernel) (by decide))
  <| all_c (s_ild (by decide +kernel))
  <| all_c (s_iret (by decide +kernel) rfl)
  <| all_c (s_lld_n (q := 3) (by decide +kernel) rfl)
  <| all_c (s_ild (by decide +kernel))
  <| all_c (s_i2l (by decide +kernel))
  <| all_c (s_lmul (by decide +kernel))
  <| all_c (s_ldc2 (by decide +kernel) (G_w kk_RX11_340))
  <| all_c (s_ldiv (by decide +kernel))
  <| all_c (s_lst_n (q := 3) (by decide +kernel) rfl)
  <| all_c (s_inc (n := 1) (by decide +kernel) (by decide))
  <| all_c (s_aft (s_goto (off := (-31)) (by decide +kernel) (by decide)))
  <| all_c (s_iconst (n := (-1)) (by decide +kernel) (by decide))
  <| all_c (s_iret (by decide +kernel) rfl)
  <| all_n
theorem t_X11_seen {l : Launch} {E : En_} (hE : EOK_ E) : Good_ l E yX11_seen (.code yX11_seen cX11_seen 9 (some .int) :: G_) (rm_ 2) (f_X11_seen E.2.2.2.1) := good_all hE (by decide +kernel) (a_X11_seen hE)
noncomputable def P_X11_ill (K : Sh_)  : List (Nat × Op_) := [(0, o_ald 0 1),
  (1, o_gR K 11 12),
  (4, o_ild 1 1),
  (5, o_callV K 0 (f_X0_hasReader K) 1),
  (8, o_ifeq 35),
  (11, o_ild 2 1),
  (12, o_iflt 35),
  (15, o_ild 2 1),
  (16, o_ald 0 1),
  (17, o_gR K 11 14),
  (20, o_gI K 6 4),
  (23, o_cmpgt 35),
  (26, o_ild 3 1),
  (27, o_iflt 35),
  (30, o_ild 3 1),
  (31, o_ic 3 1),
  (32, o_cmple 37),
  (35, o_ic (-1) 1),
  (36, o_iret),
  (37, o_ald 0 1),
  (38, o_gF K 11 3),
  (41, o_ald 0 1),
  (42, o_gR K 11 12),
  (45, o_ald 0 1),
  (46, o_gR K 11 14),
  (49, o_ild 1 1),
  (50, o_ild 2 1),
  (51, o_callV K 3 (f_X3_fall K) 4),
  (54, o_ild 3 1),
  (55, o_tsw 0 2 104 [80, 88, 96]),
  (80, o_ald 0 1),
  (81, o_gF K 11 3),
  (84, o_gI K 3 3),
  (87, o_iret),
  (88, o_ald 0 1),
  (89, o_gF K 11 3),
  (92, o_gI K 3 4),
  (95, o_iret),
  (96, o_ald 0 1),
  (97, o_gF K 11 3),
  (100, o_gI K 3 5),
  (103, o_iret),
  (104, o_ald 0 1),
  (105, o_gF K 11 3),
  (108, o_gI K 3 6),
  (111, o_iret)]
noncomputable def f_X11_ill (K : Sh_) : Fn_ := fn_ (P_X11_ill K) 4
set_option maxRecDepth 100000 in
theorem a_X11_ill {l : Launch} {E : En_} (hE : EOK_ E)   : All_ (Snd_ l E yX11_ill.cls cX11_ill 4 (some .int) (.code yX11_ill cX11_ill 4 (some .int) :: G_) (rm_ 7)) (P_X11_ill E.2.2.2.1 ) :=
  all_c (s_ald_n (q := 0) (by decide +kernel) rfl)
  <| all_c (g_11_12 (by decide +kernel) fl_RX11_19)
  <| all_c (s_ild_n (q := 1) (by decide +kernel) rfl)
  <| all_c (s_callV (by decide +kernel) (t_X0_hasReader hE) cl_X0_hasReader ml_RX11_179 im_X0_hasReader se_X0_hasReader (by decide) rfl (rm_lt (by decide)))
  <| all_c (s_ifeq (off := 27) (by decide +kernel) (by decide))
  <| all_c (s_ild_n (q := 2) (by decide +kernel) rfl)
  <| all_c (s_iflt (off := 23) (by decide +kernel) (by decide))
  <| all_c (s_ild_n (q := 2) (by decide +kernel) rfl)
  <| all_c (s_ald_n (q := 0) (by decide +kernel) rfl)
  <| all_c (g_11_14 (by decide +kernel) fl_RX11_29)
  <| all_c (g_6_4 (by decide +kernel) fl_RX11_200)
  <| all_c (s_cmpgt (off := 12) (by decide +kernel) (by decide))
  <| all_c (s_ild_n (q := 3) (by decide +kernel) rfl)
  <| all_c (s_iflt (off := 8) (by decide +kernel) (by decide))
  <| all_c (s_ild_n (q := 3) (by decide +kernel) rfl)
  <| all_c (s_iconst (n := 3) (by decide +kernel) (by decide))
  <| all_c (s_cmple (off := 5) (by decide +kernel) (by decide))
  <| all_c (s_iconst (n := (-1)) (by decide +kernel) (by decide))
  <| all_c (s_iret (by decide +kernel) rfl)
  <| all_c (s_ald_n (q := 0) (by decide +kernel) rfl)
  <| all_c (g_11_3 (by decide +kernel) fl_RX11_67)
  <| all_c (s_ald_n (q := 0) (by decide +kernel) rfl)
  <| all_c (g_11_12 (by decide +kernel) fl_RX11_19)
  <| all_c (s_ald_n (q := 0) (by decide +kernel) rfl)
  <| all_c (g_11_14 (by decide +kernel) fl_RX11_29)
  <| all_c (s_ild_n (q := 1) (by decide +kernel) rfl)
  <| all_c (s_ild_n (q := 2) (by decide +kernel) rfl)
  <| all_c (s_callV (by decide +kernel) (t_X3_fall hE) cl_X3_fall ml_RX11_342 im_X3_fall se_X3_fall (by decide) rfl (rm_lt (by decide)))
  <| all_c (s_ild_n (q := 3) (by decide +kernel) rfl)
  <| all_c (s_tsw (df := 49) (offs := #[25, 33, 41]) (n := 25) (by decide +kernel) (by decide) (by decide))
  <| all_c (s_ald_n (q := 0) (by decide +kernel) rfl)
  <| all_c (g_11_3 (by decide +kernel) fl_RX11_67)
  <| all_c (g_3_3 (by decide +kernel) fl_RX11_346)
  <| all_c (s_iret (by decide +kernel) rfl)
  <| all_c (s_ald_n (q := 0) (by decide +kernel) rfl)
  <| all_c (g_11_3 (by decide +kernel) fl_RX11_67)
  <| all_c (g_3_4 (by decide +kernel) fl_RX11_348)
  <| all_c (s_iret (by decide +kernel) rfl)
  <| all_c (s_ald_n (q := 0) (by decide +kernel) rfl)
  <| all_c (g_11_3 (by decide +kernel) fl_RX11_67)
  <| all_c (g_3_5 (by decide +kernel) fl_RX11_351)
  <| all_c (s_iret (by decide +kernel) rfl)
  <| all_c (s_ald_n (q := 0) (by decide +kernel) rfl)
  <| all_c (g_11_3 (by decide +kernel) fl_RX11_67)
  <| all_c (g_3_6 (by decide +kernel) fl_RX11_354)
  <| all_c (s_iret (by decide +kernel) rfl)
  <| all_n
theorem t_X11_ill {l : Launch} {E : En_} (hE : EOK_ E) : Good_ l E yX11_ill (.code yX11_ill cX11_ill 4 (some .int) :: G_) (rm_ 7) (f_X11_ill E.2.2.2.1) := good_all hE (by decide +kernel) (a_X11_ill hE)
