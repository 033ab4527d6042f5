noncomputable def P_X11_sentence (K : Sh_)  : List (Nat × Op_) := [(0, o_ald 0 1),
  (1, o_gF K 11 0),
  (4, o_ic 200 3),
  (7, o_callV K 8 (f_X8_start K) 1),
  (10, o_ald 0 1),
  (11, o_gR K 11 17),
  (14, o_ald 0 1),
  (15, o_gF K 11 0),
  (18, o_ald 0 1),
  (19, o_gR K 11 12),
  (22, o_callV K 9 (f_X9_readFrom K) 2),
  (25, o_ist 1 1),
  (26, o_ald 0 1),
  (27, o_gF K 11 0),
  (30, o_ic 0 1),
  (31, o_pI K 8 2),
  (34, o_ild 1 1),
  (35, o_ifne 46),
  (38, o_ald 0 1),
  (39, o_gF K 11 0),
  (42, o_callV K 8 (f_X8_faultAnswer K) 0),
  (45, o_iret),
  (46, o_ald 0 1),
  (47, o_gR K 11 16),
  (50, o_ast 2 1),
  (51, o_ald 0 1),
  (52, o_ald 0 1),
  (53, o_gR K 11 17),
  (56, o_pR K 11 16),
  (59, o_ald 0 1),
  (60, o_ald 2 1),
  (61, o_pR K 11 17),
  (64, o_ald 0 1),
  (65, o_gR K 11 16),
  (68, o_gI K 9 5),
  (71, o_iret)]
noncomputable def f_X11_sentence (K : Sh_) : Fn_ := fn_ (P_X11_sentence K) 3
set_option maxRecDepth 100000 in
theorem a_X11_sentence {l : Launch} {E : En_} (hE : EOK_ E)   : All_ (Snd_ l E yX11_sentence.cls cX11_sentence 3 (some .int) (.code yX11_sentence cX11_sentence 3 (some .int) :: G_) (rm_ 87)) (P_X11_sentence E.2.2.2.1 ) :=
  all_c (s_ald_n (q := 0) (by decide +kernel) rfl)
  <| all_c (g_11_0 (by decide +kernel) fl_RX11_10)
  <| all_c (s_sipush (n := 200) (by decide +kernel) (by decide))
  <| all_c (s_callV (by decide +kernel) (t_X8_start hE) cl_X8_start ml_RX11_134 im_X8_start se_X8_start (by decide) rfl (rm_lt (by decide)))
  <| all_c (s_ald_n (q := 0) (by decide +kernel) rfl)
  <| all_c (g_11_17 (by decide +kernel) fl_RX11_43)
  <| all_c (s_ald_n (q := 0) (by decide +kernel) rfl)
  <| all_c (g_11_0 (by decide +kernel) fl_RX11_10)
  <| all_c (s_ald_n (q := 0) (by decide +kernel) rfl)
  <| all_c (g_11_12 (by decide +kernel) fl_RX11_19)
  <| all_c (s_callV (by decide +kernel) (t_X9_readFrom hE) cl_X9_readFrom ml_RX11_357 im_X9_readFrom se_X9_readFrom (by decide) rfl (rm_lt (by decide)))
  <| all_c (s_ist_n (q := 1) (by decide +kernel) rfl)
  <| all_c (s_ald_n (q := 0) (by decide +kernel) rfl)
  <| all_c (g_11_0 (by decide +kernel) fl_RX11_10)
  <| all_c (s_iconst (n := 0) (by decide +kernel) (by decide))
  <| all_c (p_8_2 (by decide +kernel) fl_RX11_131)
  <| all_c (s_ild_n (q := 1) (by decide +kernel) rfl)
  <| all_c (s_ifne (off := 11) (by decide +kernel) (by decide))
  <| all_c (s_ald_n (q := 0) (by decide +kernel) rfl)
  <| all_c (g_11_0 (by decide +kernel) fl_RX11_10)
  <| all_c (s_callV (by decide +kernel) (t_X8_faultAnswer hE) cl_X8_faultAnswer ml_RX11_141 im_X8_faultAnswer se_X8_faultAnswer (by decide) rfl (rm_lt (by decide)))
  <| all_c (s_iret (by decide +kernel) rfl)
  <| all_c (s_ald_n (q := 0) (by decide +kernel) rfl)
  <| all_c (g_11_16 (by decide +kernel) fl_RX11_39)
  <| all_c (s_ast_n (q := 2) (by decide +kernel) rfl)
  <| all_c (s_ald_n (q := 0) (by decide +kernel) rfl)
  <| all_c (s_ald_n (q := 0) (by decide +kernel) rfl)
  <| all_c (g_11_17 (by decide +kernel) fl_RX11_43)
  <| all_c (p_11_16 (by decide +kernel) fl_RX11_39)
  <| all_c (s_ald_n (q := 0) (by decide +kernel) rfl)
  <| all_c (s_ald_n (q := 2) (by decide +kernel) rfl)
  <| all_c (p_11_17 (by decide +kernel) fl_RX11_43)
  <| all_c (s_ald_n (q := 0) (by decide +kernel) rfl)
  <| all_c (g_11_16 (by decide +kernel) fl_RX11_39)
  <| all_c (g_9_5 (by decide +kernel) fl_RX11_358)
  <| all_c (s_iret (by decide +kernel) rfl)
  <| all_n
theorem t_X11_sentence {l : Launch} {E : En_} (hE : EOK_ E) : Good_ l E yX11_sentence (.code yX11_sentence cX11_sentence 3 (some .int) :: G_) (rm_ 87) (f_X11_sentence E.2.2.2.1) := good_all hE (by decide +kernel) (a_X11_sentence hE)
noncomputable def P_X11_said (K : Sh_)  : List (Nat × Op_) := [(0, o_ald 0 1),
  (1, o_gR K 11 16),
  (4, o_gI K 9 5),
  (7, o_ifne 12),
  (10, o_ic (-1) 1),
  (11, o_iret),
  (12, o_ald 0 1),
  (13, o_callV K 11 (f_X11_runOnce K) 0),
  (16, o_ic 0 1),
  (17, o_ist 1 1),
  (18, o_ic 0 1),
  (19, o_ist 2 1),
  (20, o_ild 2 1),
  (21, o_ald 0 1),
  (22, o_gR K 11 12),
  (25, o_gI K 0 12),
  (28, o_cmpge 58),
  (31, o_ald 0 1),
  (32, o_gR K 11 16),
  (35, o_ald 0 1),
  (36, o_gF K 11 1),
  (39, o_ild 2 1),
  (40, o_callV K 9 (f_X9_holds K) 2),
  (43, o_ifeq 52),
  (46, o_ild 1 1),
  (47, o_ic 1 1),
  (48, o_ild 2 1),
  (49, o_ishl),
  (50, o_ior),
  (51, o_ist 1 1),
  (52, o_inc 2 1),
  (55, o_goto 20),
  (58, o_ild 1 1),
  (59, o_iret)]
noncomputable def f_X11_said (K : Sh_) : Fn_ := fn_ (P_X11_said K) 3
set_option maxRecDepth 100000 in
theorem a_X11_said {l : Launch} {E : En_} (hE : EOK_ E)   : All_ (Snd_ l E yX11_said.cls cX11_said 3 (some .int) (.code yX11_said cX11_said 3 (some .int) :: G_) (rm_ 6)) (P_X11_said E.2.2.2.1 ) :=
  all_c (s_ald_n (q := 0) (by decide +kernel) rfl)
  <| all_c (g_11_16 (by decide +kernel) fl_RX11_39)
  <| all_c (g_9_5 (by decide +kernel) fl_RX11_358)
  <| all_c (s_ifne (off := 5) (by decide +kernel) (by decide))
  <| all_c (s_iconst (n := (-1)) (by decide +kernel) (by decide))
  <| all_c (s_iret (by decide +kernel) rfl)
  <| all_c (s_ald_n (q := 0) (by decide +kernel) rfl)
  <| all_c (s_callV (by decide +kernel) (t_X11_runOnce hE) cl_X11_runOnce ml_RX11_235 im_X11_runOnce se_X11_runOnce (by decide) rfl (rm_lt (by decide)))
  <| all_c (s_iconst (n := 0) (by decide +kernel) (by decide))
  <| all_c (s_ist_n (q := 1) (by decide +kernel) rfl)
  <| all_c (s_iconst (n := 0) (by decide +kernel) (by decide))
  <| all_c (s_ist_n (q := 2) (by decide +kernel) rfl)
  <| all_c (s_ild_n (q := 2) (by decide +kernel) rfl)
  <| all_c (s_ald_n (q := 0) (by decide +kernel) rfl)
  <| all_c (g_11_12 (by decide +kernel) fl_RX11_19)
  <| all_c (g_0_12 (by decide +kernel) fl_RX11_214)
  <| all_c (s_cmpge (off := 30) (by decide +kernel) (by decide))
  <| all_c (s_ald_n (q := 0) (by decide +kernel) rfl)
  <| all_c (g_11_16 (by decide +kernel) fl_RX11_39)
  <| all_c (s_ald_n (q := 0) (by decide +kernel) rfl)
  <| all_c (g_11_1 (by decide +kernel) fl_RX11_51)
  <| all_c (s_ild_n (q := 2) (by decide +kernel) rfl)
  <| all_c (s_callV (by decide +kernel) (t_X9_holds hE) cl_X9_holds ml_RX11_361 im_X9_holds se_X9_holds (by decide) rfl (rm_lt (by decide)))
  <| all_c (s_ifeq (off := 9) (by decide +kernel) (by decide))
  <| all_c (s_ild_n (q := 1) (by decide +kernel) rfl)
  <| all_c (s_iconst (n := 1) (by decide +kernel) (by decide))
  <| all_c (s_ild_n (q := 2) (by decide +kernel) rfl)
  <| all_c (s_ishl (by decide +kernel))
  <| all_c (s_ior (by decide +kernel))
  <| all_c (s_ist_n (q := 1) (by decide +kernel) rfl)
  <| all_c (s_inc (n := 1) (by decide +kernel) (by decide))
  <| all_c (s_goto (off := (-35)) (by decide +kernel) (by decide))
  <| all_c (s_ild_n (q := 1) (by decide +kernel) rfl)
  <| all_c (s_iret (by decide +kernel) rfl)
  <| all_n
theorem t_X11_said {l : Launch} {E : En_} (hE : EOK_ E) : Good_ l E yX11_said (.code yX11_said cX11_said 3 (some .int) :: G_) (rm_ 6) (f_X11_said E.2.2.2.1) := good_all hE (by decide +kernel) (a_X11_said hE)
noncomputable def P_X11_image (K : Sh_)  : List (Nat × Op_) := [(0, o_ild 1 1),
  (1, o_iflt 9),
  (4, o_ild 1 1),
  (5, o_ic 2 1),
  (6, o_cmplt 11),
  (9, o_ic 0 1),
  (10, o_zret),
  (11, o_ald 0 1),
  (12, o_gF K 11 8),
  (15, o_ild 1 1),
  (16, o_aald K),
  (17, o_ald 0 1),
  (18, o_gR K 11 12),
  (21, o_callV K 0 (f_X0_copyFrom K) 1),
  (24, o_ald 0 1),
  (25, o_gF K 11 9),
  (28, o_ild 1 1),
  (29, o_aald K),
  (30, o_ald 0 1),
  (31, o_gR K 11 14),
  (34, o_callV K 6 (f_X6_copyFrom K) 1),
  (37, o_ald 0 1),
  (38, o_gF K 11 10),
  (41, o_ild 1 1),
  (42, o_aald K),
  (43, o_ald 0 1),
  (44, o_gR K 11 16),
  (47, o_callV K 9 (f_X9_copyFrom K) 1),
  (50, o_ald 0 1),
  (51, o_gF K 11 11),
  (54, o_ild 1 1),
  (55, o_ic 1 1),
  (56, o_zast K),
  (57, o_ic 1 1),
  (58, o_zret)]
noncomputable def f_X11_image (K : Sh_) : Fn_ := fn_ (P_X11_image K) 2
set_option maxRecDepth 100000 in
theorem a_X11_image {l : Launch} {E : En_} (hE : EOK_ E)   : All_ (Snd_ l E yX11_image.cls cX11_image 2 (some .boolean) (.code yX11_image cX11_image 2 (some .boolean) :: G_) (rm_ 3)) (P_X11_image E.2.2.2.1 ) :=
  all_c (s_ild_n (q := 1) (by decide +kernel) rfl)
  <| all_c (s_iflt (off := 8) (by decide +kernel) (by decide))
  <| all_c (s_ild_n (q := 1) (by decide +kernel) rfl)
  <| all_c (s_iconst (n := 2) (by decide +kernel) (by decide))
  <| all_c (s_cmplt (off := 5) (by decide +kernel) (by decide))
  <| all_c (s_iconst (n := 0) (by decide +kernel) (by decide))
  <| all_c (s_zret (by decide +kernel) rfl)
  <| all_c (s_ald_n (q := 0) (by decide +kernel) rfl)
  <| all_c (g_11_8 (by decide +kernel) fl_RX11_99)
  <| all_c (s_ild_n (q := 1) (by decide +kernel) rfl)
  <| all_c (s_aald (by decide +kernel))
  <| all_c (s_ald_n (q := 0) (by decide +kernel) rfl)
  <| all_c (g_11_12 (by decide +kernel) fl_RX11_19)
  <| all_c (s_callV (by decide +kernel) (t_X0_copyFrom hE) cl_X0_copyFrom ml_RX11_365 im_X0_copyFrom se_X0_copyFrom (by decide) rfl (rm_lt (by decide)))
  <| all_c (s_ald_n (q := 0) (by decide +kernel) rfl)
  <| all_c (g_11_9 (by decide +kernel) fl_RX11_103)
  <| all_c (s_ild_n (q := 1) (by decide +kernel) rfl)
  <| all_c (s_aald (by decide +kernel))
  <| all_c (s_ald_n (q := 0) (by decide +kernel) rfl)
  <| all_c (g_11_14 (by decide +kernel) fl_RX11_29)
  <| all_c (s_callV (by decide +kernel) (t_X6_copyFrom hE) cl_X6_copyFrom ml_RX11_368 im_X6_copyFrom se_X6_copyFrom (by decide) rfl (rm_lt (by decide)))
  <| all_c (s_ald_n (q := 0) (by decide +kernel) rfl)
  <| all_c (g_11_10 (by decide +kernel) fl_RX11_107)
  <| all_c (s_ild_n (q := 1) (by decide +kernel) rfl)
  <| all_c (s_aald (by decide +kernel))
  <| all_c (s_ald_n (q := 0) (by decide +kernel) rfl)
  <| all_c (g_11_16 (by decide +kernel) fl_RX11_39)
  <| all_c (s_callV (by decide +kernel) (t_X9_copyFrom hE) cl_X9_copyFrom ml_RX11_371 im_X9_copyFrom se_X9_copyFrom (by decide) rfl (rm_lt (by decide)))
  <| all_c (s_ald_n (q := 0) (by decide +kernel) rfl)
  <| all_c (g_11_11 (by decide +kernel) fl_RX11_111)
  <| all_c (s_ild_n (q := 1) (by decide +kernel) rfl)
  <| all_c (s_iconst (n := 1) (by decide +kernel) (by decide))
  <| all_c (s_zast (by decide +kernel))
  <| all_c (s_iconst (n := 1) (by decide +kernel) (by decide))
  <| all_c (s_zret (by decide +kernel) rfl)
  <| all_n
theorem t_X11_image {l : Launch} {E : En_} (hE : EOK_ E) : Good_ l E yX11_image (.code yX11_image cX11_image 2 (some .boolean) :: G_) (rm_ 3) (f_X11_image E.2.2.2.1) := good_all hE (by decide +kernel) (a_X11_image hE)
noncomputable def P_X11_restore (K : Sh_)  : List (Nat × Op_) := [(0, o_ild 1 1),
  (1, o_iflt 18),
  (4, o_ild 1 1),
  (5, o_ic 2 1),
  (6, o_cmpge 18),
  (9, o_ald 0 1),
  (10, o_gF K 11 11),
  (13, o_ild 1 1),
  (14, o_zald K),
  (15, o_ifne 20),
  (18, o_ic 0 1),
  (19, o_zret),
  (20, o_ald 0 1),
  (21, o_gR K 11 12),
  (24, o_ald 0 1),
  (25, o_gF K 11 8),
  (28, o_ild 1 1),
  (29, o_aald K),
  (30, o_callV K 0 (f_X0_copyFrom K) 1),
  (33, o_ald 0 1),
  (34, o_gR K 11 14),
  (37, o_ald 0 1),
  (38, o_gF K 11 9),
  (41, o_ild 1 1),
  (42, o_aald K),
  (43, o_callV K 6 (f_X6_copyFrom K) 1),
  (46, o_ald 0 1),
  (47, o_gR K 11 16),
  (50, o_ald 0 1),
  (51, o_gF K 11 10),
  (54, o_ild 1 1),
  (55, o_aald K),
  (56, o_callV K 9 (f_X9_copyFrom K) 1),
  (59, o_ald 0 1),
  (60, o_ic 0 1),
  (61, o_pZ K 11 18),
  (64, o_ic 1 1),
  (65, o_zret)]
noncomputable def f_X11_restore (K : Sh_) : Fn_ := fn_ (P_X11_restore K) 2
set_option maxRecDepth 100000 in
theorem a_X11_restore {l : Launch} {E : En_} (hE : EOK_ E)   : All_ (Snd_ l E yX11_restore.cls cX11_restore 2 (some .boolean) (.code yX11_restore cX11_restore 2 (some .boolean) :: G_) (rm_ 3)) (P_X11_restore E.2.2.2.1 ) :=
  all_c (s_ild_n (q := 1) (by decide +kernel) rfl)
  <| all_c (s_iflt (off := 17) (by decide +kernel) (by decide))
  <| all_c (s_ild_n (q := 1) (by decide +kernel) rfl)
  <| all_c (s_iconst (n := 2) (by decide +kernel) (by decide))
  <| all_c (s_cmpge (off := 12) (by decide +kernel) (by decide))
  <| all_c (s_ald_n (q := 0) (by decide +kernel) rfl)
  <| all_c (g_11_11 (by decide +kernel) fl_RX11_111)
  <| all_c (s_ild_n (q := 1) (by decide +kernel) rfl)
  <| all_c (s_zald (by decide +kernel))
  <| all_c (s_ifne (off := 5) (by decide +kernel) (by decide))
  <| all_c (s_iconst (n := 0) (by decide +kernel) (by decide))
  <| all_c (s_zret (by decide +kernel) rfl)
  <| all_c (s_ald_n (q := 0) (by decide +kernel) rfl)
  <| all_c (g_11_12 (by decide +kernel) fl_RX11_19)
  <| all_c (s_ald_n (q := 0) (by decide +kernel) rfl)
  <| all_c (g_11_8 (by decide +kernel) fl_RX11_99)
  <| all_c (s_ild_n (q := 1) (by decide +kernel) rfl)
  <| all_c (s_aald (by decide +kernel))
  <| all_c (s_callV (by decide +kernel) (t_X0_copyFrom hE) cl_X0_copyFrom ml_RX11_365 im_X0_copyFrom se_X0_copyFrom (by decide) rfl (rm_lt (by decide)))
  <| all_c (s_ald_n (q := 0) (by decide +kernel) rfl)
  <| all_c (g_11_14 (by decide +kernel) fl_RX11_29)
  <| all_c (s_ald_n (q := 0) (by decide +kernel) rfl)
  <| all_c (g_11_9 (by decide +kernel) fl_RX11_103)
  <| all_c (s_ild_n (q := 1) (by decide +kernel) rfl)
  <| all_c (s_aald (by decide +kernel))
  <| all_c (s_callV (by decide +kernel) (t_X6_copyFrom hE) cl_X6_copyFrom ml_RX11_368 im_X6_copyFrom se_X6_copyFrom (by decide) rfl (rm_lt (by decide)))
  <| all_c (s_ald_n (q := 0) (by decide +kernel) rfl)
  <| all_c (g_11_16 (by decide +kernel) fl_RX11_39)
  <| all_c (s_ald_n (q := 0) (by decide +kernel) rfl)
  <| all_c (g_11_10 (by decide +kernel) fl_RX11_107)
  <| all_c (s_ild_n (q := 1) (by decide +kernel) rfl)
  <| all_c (s_aald (by decide +kernel))
  <| all_c (s_callV (by decide +kernel) (t_X9_copyFrom hE) cl_X9_copyFrom ml_RX11_371 im_X9_copyFrom se_X9_copyFrom (by decide) rfl (rm_lt (by decide)))
  <| all_c (s_ald_n (q := 0) (by decide +kernel) rfl)
  <| all_c (s_iconst (n := 0) (by decide +kernel) (by decide))
  <| all_c (p_11_18 (by decide +kernel) fl_RX11_115)
  <| all_c (s_iconst (n := 1) (by decide +kernel) (by decide))
  <| all_c (s_zret (by decide +kernel) rfl)
  <| all_n
theorem t_X11_restore {l : Launch} {E : En_} (hE : EOK_ E) : Good_ l E yX11_restore (.code yX11_restore cX11_restore 2 (some .boolean) :: G_) (rm_ 3) (f_X11_restore E.2.2.2.1) := good_all hE (by decide +kernel) (a_X11_restore hE)
noncomputable def P_X11_count (K : Sh_)  : List (Nat × Op_) := [(0, o_ild 1 1),
  (1, o_tsw 0 5 88 [40, 48, 56, 64, 72, 80]),
  (40, o_ald 0 1),
  (41, o_gR K 11 12),
  (44, o_gI K 0 11),
  (47, o_iret),
  (48, o_ald 0 1),
  (49, o_gR K 11 12),
  (52, o_gI K 0 12),
  (55, o_iret),
  (56, o_ald 0 1),
  (57, o_gR K 11 14),
  (60, o_gI K 6 4),
  (63, o_iret),
  (64, o_ald 0 1),
  (65, o_gR K 11 12),
  (68, o_gI K 0 14),
  (71, o_iret),
  (72, o_ald 0 1),
  (73, o_gR K 11 12),
  (76, o_gI K 0 15),
  (79, o_iret),
  (80, o_ald 0 1),
  (81, o_gF K 11 0),
  (84, o_gI K 8 2),
  (87, o_iret),
  (88, o_ic (-1) 1),
  (89, o_iret)]
noncomputable def f_X11_count (K : Sh_) : Fn_ := fn_ (P_X11_count K) 2
set_option maxRecDepth 100000 in
theorem a_X11_count {l : Launch} {E : En_} (hE : EOK_ E)   : All_ (Snd_ l E yX11_count.cls cX11_count 2 (some .int) (.code yX11_count cX11_count 2 (some .int) :: G_) (rm_ 1)) (P_X11_count E.2.2.2.1 ) :=
  all_c (s_ild_n (q := 1) (by decide +kernel) rfl)
  <| all_c (s_tsw (df := 87) (offs := #[39, 47, 55, 63, 71, 79]) (n := 39) (by decide +kernel) (by decide) (by decide))
  <| all_c (s_ald_n (q := 0) (by decide +kernel) rfl)
  <| all_c (g_11_12 (by decide +kernel) fl_RX11_19)
  <| all_c (g_0_11 (by decide +kernel) fl_RX11_217)
  <| all_c (s_iret (by decide +kernel) rfl)
  <| all_c (s_ald_n (q := 0) (by decide +kernel) rfl)
  <| all_c (g_11_12 (by decide +kernel) fl_RX11_19)
  <| all_c (g_0_12 (by decide +kernel) fl_RX11_214)
  <| all_c (s_iret (by decide +kernel) rfl)
  <| all_c (s_ald_n (q := 0) (by decide +kernel) rfl)
  <| all_c (g_11_14 (by decide +kernel) fl_RX11_29)
  <| all_c (g_6_4 (by decide +kernel) fl_RX11_200)
  <| all_c (s_iret (by decide +kernel) rfl)
  <| all_c (s_ald_n (q := 0) (by decide +kernel) rfl)
  <| all_c (g_11_12 (by decide +kernel) fl_RX11_19)
  <| all_c (g_0_14 (by decide +kernel) fl_RX11_374)
  <| all_c (s_iret (by decide +kernel) rfl)
  <| all_c (s_ald_n (q := 0) (by decide +kernel) rfl)
  <| all_c (g_11_12 (by decide +kernel) fl_RX11_19)
  <| all_c (g_0_15 (by decide +kernel) fl_RX11_377)
  <| all_c (s_iret (by decide +kernel) rfl)
  <| all_c (s_ald_n (q := 0) (by decide +kernel) rfl)
  <| all_c (g_11_0 (by decide +kernel) fl_RX11_10)
  <| all_c (g_8_2 (by decide +kernel) fl_RX11_131)
  <| all_c (s_iret (by decide +kernel) rfl)
  <| all_c (s_iconst (n := (-1)) (by decide +kernel) (by decide))
  <| all_c (s_iret (by decide +kernel) rfl)
  <| all_n
theorem t_X11_count {l : Launch} {E : En_} (hE : EOK_ E) : Good_ l E yX11_count (.code yX11_count cX11_count 2 (some .int) :: G_) (rm_ 1) (f_X11_count E.2.2.2.1) := good_all hE (by decide +kernel) (a_X11_count hE)
noncomputable def P_X12_thrown (K : Sh_)  : List (Nat × Op_) := [(0, o_ald 0 1),
  (1, o_gI K 12 0),
  (4, o_iret)]
noncomputable def f_X12_thrown (K : Sh_) : Fn_ := fn_ (P_X12_thrown K) 1
set_option maxRecDepth 100000 in
theorem a_X12_thrown {l : Launch} {E : En_} (hE : EOK_ E)   : All_ (Snd_ l E yX12_thrown.cls cX12_thrown 1 (some .int) (.code yX12_thrown cX12_thrown 1 (some .int) :: G_) (rm_ 1)) (P_X12_thrown E.2.2.2.1 ) :=
  all_c (s_ald_n (q := 0) (by decide +kernel) rfl)
  <| all_c (g_12_0 (by decide +kernel) fl_RX12_97)
  <| all_c (s_iret (by decide +kernel) rfl)
  <| all_n
theorem t_X12_thrown {l : Launch} {E : En_} (hE : EOK_ E) : Good_ l E yX12_thrown (.code yX12_thrown cX12_thrown 1 (some .int) :: G_) (rm_ 1) (f_X12_thrown E.2.2.2.1) := good_all hE (by decide +kernel) (a_X12_thrown hE)
noncomputable def P_X12_refuse (K : Sh_)  : List (Nat × Op_) := [(0, o_ald 0 1),
  (1, o_ic 1 1),
  (2, o_pI K 12 0),
  (5, o_ic 0 1),
  (6, o_iret)]
noncomputable def f_X12_refuse (K : Sh_) : Fn_ := fn_ (P_X12_refuse K) 1
set_option maxRecDepth 100000 in
theorem a_X12_refuse {l : Launch} {E : En_} (hE : EOK_ E)   : All_ (Snd_ l E yX12_refuse.cls cX12_refuse 1 (some .int) (.code yX12_refuse cX12_refuse 1 (some .int) :: G_) (rm_ 1)) (P_X12_refuse E.2.2.2.1 ) :=
  all_c (s_ald_n (q := 0) (by decide +kernel) rfl)
  <| all_c (s_iconst (n := 1) (by decide +kernel) (by decide))
  <| all_c (p_12_0 (by decide +kernel) fl_RX12_97)
  <| all_c (s_iconst (n := 0) (by decide +kernel) (by decide))
  <| all_c (s_iret (by decide +kernel) rfl)
  <| all_n
theorem t_X12_refuse {l : Launch} {E : En_} (hE : EOK_ E) : Good_ l E yX12_refuse (.code yX12_refuse cX12_refuse 1 (some .int) :: G_) (rm_ 1) (f_X12_refuse E.2.2.2.1) := good_all hE (by decide +kernel) (a_X12_refuse hE)
noncomputable def P_X12_come (K : Sh_)  : List (Nat × Op_) := [(0, o_ic 24 2),
  (2, o_ist 2 1),
  (3, o_ild 2 1),
  (4, o_iflt 39),
  (7, o_ald 0 1),
  (8, o_gF K 12 1),
  (11, o_ald 0 1),
  (12, o_gI K 12 2),
  (15, o_ild 1 1),
  (16, o_ild 2 1),
  (17, o_iushr),
  (18, o_ic 255 3),
  (21, o_iand),
  (22, o_iast K),
  (23, o_ald 0 1),
  (24, o_dup),
  (25, o_gI K 12 2),
  (28, o_ic 1 1),
  (29, o_iadd),
  (30, o_pI K 12 2),
  (33, o_inc 2 (-8)),
  (36, o_goto 3),
  (39, o_vret)]
noncomputable def f_X12_come (K : Sh_) : Fn_ := fn_ (P_X12_come K) 3
set_option maxRecDepth 100000 in
theorem a_X12_come {l : Launch} {E : En_} (hE : EOK_ E)   : All_ (Snd_ l E yX12_come.cls cX12_come 3 (none) (.code yX12_come cX12_come 3 (none) :: G_) (rm_ 1)) (P_X12_come E.2.2.2.1 ) :=
  all_c (s_bipush (n := 24) (by decide +kernel) (by decide))
  <| all_c (s_ist_n (q := 2) (by decide +kernel) rfl)
  <| all_c (s_ild_n (q := 2) (by decide +kernel) rfl)
  <| all_c (s_iflt (off := 35) (by decide +kernel) (by decide))
  <| all_c (s_ald_n (q := 0) (by decide +kernel) rfl)
  <| all_c (g_12_1 (by decide +kernel) fl_RX12_7)
  <| all_c (s_ald_n (q := 0) (by decide +kernel) rfl)
  <| all_c (g_12_2 (by decide +kernel) fl_RX12_100)
  <| all_c (s_ild_n (q := 1) (by decide +kernel) rfl)
  <| all_c (s_ild_n (q := 2) (by decide +kernel) rfl)
  <| all_c (s_iushr (by decide +kernel))
  <| all_c (s_sipush (n := 255) (by decide +kernel) (by decide))
  <| all_c (s_iand (by decide +kernel))
  <| all_c (s_iast (by decide +kernel))
  <| all_c (s_ald_n (q := 0) (by decide +kernel) rfl)
  <| all_c (s_dup (by decide +kernel))
  <| all_c (g_12_2 (by decide +kernel) fl_RX12_100)
  <| all_c (s_iconst (n := 1) (by decide +kernel) (by decide))
  <| all_c (s_iadd (by decide +kernel))
  <| all_c (p_12_2 (by decide +kernel) fl_RX12_100)
  <| all_c (s_inc (n := (-8)) (by decide +kernel) (by decide))
  <| all_c (s_goto (off := (-33)) (by decide +kernel) (by decide))
  <| all_c (s_vret (by decide +kernel) rfl)
  <| all_n
theorem t_X12_come {l : Launch} {E : En_} (hE : EOK_ E) : Good_ l E yX12_come (.code yX12_come cX12_come 3 (none) :: G_) (rm_ 1) (f_X12_come E.2.2.2.1) := good_all hE (by decide +kernel) (a_X12_come hE)
noncomputable def P_X12_feed (K : Sh_)  : List (Nat × Op_) := [(0, o_ald 0 1),
  (1, o_ic 0 1),
  (2, o_pI K 12 0),
  (5, o_ald 0 1),
  (6, o_gI K 12 2),
  (9, o_ic 20 2),
  (11, o_iadd),
  (12, o_ic 1040 3),
  (15, o_cmple 20),
  (18, o_ic (-1) 1),
  (19, o_iret),
  (20, o_ald 0 1),
  (21, o_ild 1 1),
  (22, o_callV K 12 (f_X12_come K) 1),
  (25, o_ald 0 1),
  (26, o_ild 2 1),
  (27, o_callV K 12 (f_X12_come K) 1),
  (30, o_ald 0 1),
  (31, o_ild 3 1),
  (32, o_callV K 12 (f_X12_come K) 1),
  (35, o_ald 0 1),
  (36, o_ild 4 2),
  (38, o_callV K 12 (f_X12_come K) 1),
  (41, o_ald 0 1),
  (42, o_ild 5 2),
  (44, o_callV K 12 (f_X12_come K) 1),
  (47, o_ald 0 1),
  (48, o_gI K 12 2),
  (51, o_iret)]
noncomputable def f_X12_feed (K : Sh_) : Fn_ := fn_ (P_X12_feed K) 6
set_option maxRecDepth 100000 in
theorem a_X12_feed {l : Launch} {E : En_} (hE : EOK_ E)   : All_ (Snd_ l E yX12_feed.cls cX12_feed 6 (some .int) (.code yX12_feed cX12_feed 6 (some .int) :: G_) (rm_ 2)) (P_X12_feed E.2.2.2.1 ) :=
  all_c (s_ald_n (q := 0) (by decide +kernel) rfl)
  <| all_c (s_iconst (n := 0) (by decide +kernel) (by decide))
  <| all_c (p_12_0 (by decide +kernel) fl_RX12_97)
  <| all_c (s_ald_n (q := 0) (by decide +kernel) rfl)
  <| all_c (g_12_2 (by decide +kernel) fl_RX12_100)
  <| all_c (s_bipush (n := 20) (by decide +kernel) (by decide))
  <| all_c (s_iadd (by decide +kernel))
  <| all_c (s_sipush (n := 1040) (by decide +kernel) (by decide))
  <| all_c (s_cmple (off := 5) (by decide +kernel) (by decide))
  <| all_c (s_iconst (n := (-1)) (by decide +kernel) (by decide))
  <| all_c (s_iret (by decide +kernel) rfl)
  <| all_c (s_ald_n (q := 0) (by decide +kernel) rfl)
  <| all_c (s_ild_n (q := 1) (by decide +kernel) rfl)
  <| all_c (s_callV (by decide +kernel) (t_X12_come hE) cl_X12_come ml_RX12_103 im_X12_come se_X12_come (by decide) rfl (rm_lt (by decide)))
  <| all_c (s_ald_n (q := 0) (by decide +kernel) rfl)
  <| all_c (s_ild_n (q := 2) (by decide +kernel) rfl)
  <| all_c (s_callV (by decide +kernel) (t_X12_come hE) cl_X12_come ml_RX12_103 im_X12_come se_X12_come (by decide) rfl (rm_lt (by decide)))
  <| all_c (s_ald_n (q := 0) (by decide +kernel) rfl)
  <| all_c (s_ild_n (q := 3) (by decide +kernel) rfl)
  <| all_c (s_callV (by decide +kernel) (t_X12_come hE) cl_X12_come ml_RX12_103 im_X12_come se_X12_come (by decide) rfl (rm_lt (by decide)))
  <| all_c (s_ald_n (q := 0) (by decide +kernel) rfl)
  <| all_c (s_ild (by decide +kernel))
  <| all_c (s_callV (by decide +kernel) (t_X12_come hE) cl_X12_come ml_RX12_103 im_X12_come se_X12_come (by decide) rfl (rm_lt (by decide)))
  <| all_c (s_ald_n (q := 0) (by decide +kernel) rfl)
  <| all_c (s_ild (by decide +kernel))
  <| all_c (s_callV (by decide +kernel) (t_X12_come hE) cl_X12_come ml_RX12_103 im_X12_come se_X12_come (by decide) rfl (rm_lt (by decide)))
  <| all_c (s_ald_n (q := 0) (by decide +kernel) rfl)
  <| all_c (g_12_2 (by decide +kernel) fl_RX12_100)
  <| all_c (s_iret (by decide +kernel) rfl)
  <| all_n
theorem t_X12_feed {l : Launch} {E : En_} (hE : EOK_ E) : Good_ l E yX12_feed (.code yX12_feed cX12_feed 6 (some .int) :: G_) (rm_ 2) (f_X12_feed E.2.2.2.1) := good_all hE (by decide +kernel) (a_X12_feed hE)
noncomputable def P_X12_end (K : Sh_)  : List (Nat × Op_) := [(0, o_ald 0 1),
  (1, o_ic 0 1),
  (2, o_pI K 12 0),
  (5, o_ild 1 1),
  (6, o_iflt 17),
  (9, o_ild 1 1),
  (10, o_ald 0 1),
  (11, o_gI K 12 2),
  (14, o_cmple 19),
  (17, o_ic 0 1),
  (18, o_zret),
  (19, o_ald 0 1),
  (20, o_ild 1 1),
  (21, o_pI K 12 2),
  (24, o_ic 1 1),
  (25, o_zret)]
noncomputable def f_X12_end (K : Sh_) : Fn_ := fn_ (P_X12_end K) 2
set_option maxRecDepth 100000 in
theorem a_X12_end {l : Launch} {E : En_} (hE : EOK_ E)   : All_ (Snd_ l E yX12_end.cls cX12_end 2 (some .boolean) (.code yX12_end cX12_end 2 (some .boolean) :: G_) (rm_ 1)) (P_X12_end E.2.2.2.1 ) :=
  all_c (s_ald_n (q := 0) (by decide +kernel) rfl)
  <| all_c (s_iconst (n := 0) (by decide +kernel) (by decide))
  <| all_c (p_12_0 (by decide +kernel) fl_RX12_97)
  <| all_c (s_ild_n (q := 1) (by decide +kernel) rfl)
  <| all_c (s_iflt (off := 11) (by decide +kernel) (by decide))
  <| all_c (s_ild_n (q := 1) (by decide +kernel) rfl)
  <| all_c (s_ald_n (q := 0) (by decide +kernel) rfl)
  <| all_c (g_12_2 (by decide +kernel) fl_RX12_100)
  <| all_c (s_cmple (off := 5) (by decide +kernel) (by decide))
  <| all_c (s_iconst (n := 0) (by decide +kernel) (by decide))
  <| all_c (s_zret (by decide +kernel) rfl)
  <| all_c (s_ald_n (q := 0) (by decide +kernel) rfl)
  <| all_c (s_ild_n (q := 1) (by decide +kernel) rfl)
  <| all_c (p_12_2 (by decide +kernel) fl_RX12_100)
  <| all_c (s_iconst (n := 1) (by decide +kernel) (by decide))
  <| all_c (s_zret (by decide +kernel) rfl)
  <| all_n
theorem t_X12_end {l : Launch} {E : En_} (hE : EOK_ E) : Good_ l E yX12_end (.code yX12_end cX12_end 2 (some .boolean) :: G_) (rm_ 1) (f_X12_end E.2.2.2.1) := good_all hE (by decide +kernel) (a_X12_end hE)
noncomputable def P_X12_take (K : Sh_)  : List (Nat × Op_) := [(0, o_ald 0 1),
  (1, o_gI K 12 2),
  (4, o_ist 1 1),
  (5, o_ald 0 1),
  (6, o_ic 0 1),
  (7, o_pI K 12 2),
  (10, o_ild 1 1),
  (11, o_iret)]
noncomputable def f_X12_take (K : Sh_) : Fn_ := fn_ (P_X12_take K) 2
set_option maxRecDepth 100000 in
theorem a_X12_take {l : Launch} {E : En_} (hE : EOK_ E)   : All_ (Snd_ l E yX12_take.cls cX12_take 2 (some .int) (.code yX12_take cX12_take 2 (some .int) :: G_) (rm_ 1)) (P_X12_take E.2.2.2.1 ) :=
  all_c (s_ald_n (q := 0) (by decide +kernel) rfl)
  <| all_c (g_12_2 (by decide +kernel) fl_RX12_100)
  <| all_c (s_ist_n (q := 1) (by decide +kernel) rfl)
  <| all_c (s_ald_n (q := 0) (by decide +kernel) rfl)
  <| all_c (s_iconst (n := 0) (by decide +kernel) (by decide))
  <| all_c (p_12_2 (by decide +kernel) fl_RX12_100)
  <| all_c (s_ild_n (q := 1) (by decide +kernel) rfl)
  <| all_c (s_iret (by decide +kernel) rfl)
  <| all_n
theorem t_X12_take {l : Launch} {E : En_} (hE : EOK_ E) : Good_ l E yX12_take (.code yX12_take cX12_take 2 (some .int) :: G_) (rm_ 1) (f_X12_take E.2.2.2.1) := good_all hE (by decide +kernel) (a_X12_take hE)
noncomputable def P_X12_isIn (K : Sh_)  : List (Nat × Op_) := [(0, o_ild 0 1),
  (1, o_ild 1 1),
  (2, o_cmplt 14),
  (5, o_ild 0 1),
  (6, o_ild 2 1),
  (7, o_cmpgt 14),
  (10, o_ic 1 1),
  (11, o_goto 15),
  (14, o_ic 0 1),
  (15, o_zret)]
noncomputable def f_X12_isIn (K : Sh_) : Fn_ := fn_ (P_X12_isIn K) 3
set_option maxRecDepth 100000 in
theorem a_X12_isIn {l : Launch} {E : En_} (hE : EOK_ E)   : All_ (Snd_ l E yX12_isIn.cls cX12_isIn 3 (some .boolean) (.code yX12_isIn cX12_isIn 3 (some .boolean) :: G_) (rm_ 1)) (P_X12_isIn E.2.2.2.1 ) :=
  all_c (s_ild_n (q := 0) (by decide +kernel) rfl)
  <| all_c (s_ild_n (q := 1) (by decide +kernel) rfl)
  <| all_c (s_cmplt (off := 12) (by decide +kernel) (by decide))
  <| all_c (s_ild_n (q := 0) (by decide +kernel) rfl)
  <| all_c (s_ild_n (q := 2) (by decide +kernel) rfl)
  <| all_c (s_cmpgt (off := 7) (by decide +kernel) (by decide))
  <| all_c (s_iconst (n := 1) (by decide +kernel) (by decide))
  <| all_c (s_goto (off := 4) (by decide +kernel) (by decide))
  <| all_c (s_iconst (n := 0) (by decide +kernel) (by decide))
  <| all_c (s_zret (by decide +kernel) rfl)
  <| all_n
theorem t_X12_isIn {l : Launch} {E : En_} (hE : EOK_ E) : Good_ l E yX12_isIn (.code yX12_isIn cX12_isIn 3 (some .boolean) :: G_) (rm_ 1) (f_X12_isIn E.2.2.2.1) := good_all hE (by decide +kernel) (a_X12_isIn hE)
noncomputable def P_X12_has (K : Sh_)  : List (Nat × Op_) := [(0, o_ild 0 1),
  (1, o_ild 1 1),
  (2, o_ishr),
  (3, o_ic 1 1),
  (4, o_iand),
  (5, o_ic 1 1),
  (6, o_cmpne 13),
  (9, o_ic 1 1),
  (10, o_goto 14),
  (13, o_ic 0 1),
  (14, o_zret)]
noncomputable def f_X12_has (K : Sh_) : Fn_ := fn_ (P_X12_has K) 2
set_option maxRecDepth 100000 in
theorem a_X12_has {l : Launch} {E : En_} (hE : EOK_ E)   : All_ (Snd_ l E yX12_has.cls cX12_has 2 (some .boolean) (.code yX12_has cX12_has 2 (some .boolean) :: G_) (rm_ 1)) (P_X12_has E.2.2.2.1 ) :=
  all_c (s_ild_n (q := 0) (by decide +kernel) rfl)
  <| all_c (s_ild_n (q := 1) (by decide +kernel) rfl)
  <| all_c (s_ishr (by decide +kernel))
  <| all_c (s_iconst (n := 1) (by decide +kernel) (by decide))
  <| all_c (s_iand (by decide +kernel))
  <| all_c (s_iconst (n := 1) (by decide +kernel) (by decide))
  <| all_c (s_cmpne (off := 7) (by decide +kernel) (by decide))
  <| all_c (s_iconst (n := 1) (by decide +kernel) (by decide))
  <| all_c (s_goto (off := 4) (by decide +kernel) (by decide))
  <| all_c (s_iconst (n := 0) (by decide +kernel) (by decide))
  <| all_c (s_zret (by decide +kernel) rfl)
  <| all_n
theorem t_X12_has {l : Launch} {E : En_} (hE : EOK_ E) : Good_ l E yX12_has (.code yX12_has cX12_has 2 (some .boolean) :: G_) (rm_ 1) (f_X12_has E.2.2.2.1) := good_all hE (by decide +kernel) (a_X12_has hE)
noncomputable def P_X12_bits (K : Sh_)  : List (Nat × Op_) := [(0, o_ic 0 1),
  (1, o_ist 1 1),
  (2, o_ild 0 1),
  (3, o_ist 2 1),
  (4, o_ild 2 1),
  (5, o_ifeq 20),
  (8, o_inc 1 1),
  (11, o_ild 2 1),
  (12, o_ild 2 1),
  (13, o_ic 1 1),
  (14, o_isub),
  (15, o_iand),
  (16, o_ist 2 1),
  (17, o_goto 4),
  (20, o_ild 1 1),
  (21, o_iret)]
noncomputable def f_X12_bits (K : Sh_) : Fn_ := fn_ (P_X12_bits K) 3
set_option maxRecDepth 100000 in
theorem a_X12_bits {l : Launch} {E : En_} (hE : EOK_ E)   : All_ (Snd_ l E yX12_bits.cls cX12_bits 3 (some .int) (.code yX12_bits cX12_bits 3 (some .int) :: G_) (rm_ 1)) (P_X12_bits E.2.2.2.1 ) :=
  all_c (s_iconst (n := 0) (by decide +kernel) (by decide))
  <| all_c (s_ist_n (q := 1) (by decide +kernel) rfl)
  <| all_c (s_ild_n (q := 0) (by decide +kernel) rfl)
  <| all_c (s_ist_n (q := 2) (by decide +kernel) rfl)
  <| all_c (s_ild_n (q := 2) (by decide +kernel) rfl)
  <| all_c (s_ifeq (off := 15) (by decide +kernel) (by decide))
  <| all_c (s_inc (n := 1) (by decide +kernel) (by decide))
  <| all_c (s_ild_n (q := 2) (by decide +kernel) rfl)
  <| all_c (s_ild_n (q := 2) (by decide +kernel) rfl)
  <| all_c (s_iconst (n := 1) (by decide +kernel) (by decide))
  <| all_c (s_isub (by decide +kernel))
  <| all_c (s_iand (by decide +kernel))
  <| all_c (s_ist_n (q := 2) (by decide +kernel) rfl)
  <| all_c (s_goto (off := (-13)) (by decide +kernel) (by decide))
  <| all_c (s_ild_n (q := 1) (by decide +kernel) rfl)
  <| all_c (s_iret (by decide +kernel) rfl)
  <| all_n
theorem t_X12_bits {l : Launch} {E : En_} (hE : EOK_ E) : Good_ l E yX12_bits (.code yX12_bits cX12_bits 3 (some .int) :: G_) (rm_ 1) (f_X12_bits E.2.2.2.1) := good_all hE (by decide +kernel) (a_X12_bits hE)
noncomputable def P_X12_byteAt (K : Sh_)  : List (Nat × Op_) := [(0, o_ild 1 1),
  (1, o_ald 0 1),
  (2, o_gI K 12 3),
  (5, o_cmpge 17),
  (8, o_ald 0 1),
  (9, o_gF K 12 1),
  (12, o_ild 1 1),
  (13, o_iald K),
  (14, o_goto 18),
  (17, o_ic 0 1),
  (18, o_iret)]
noncomputable def f_X12_byteAt (K : Sh_) : Fn_ := fn_ (P_X12_byteAt K) 2
set_option maxRecDepth 100000 in
theorem a_X12_byteAt {l : Launch} {E : En_} (hE : EOK_ E)   : All_ (Snd_ l E yX12_byteAt.cls cX12_byteAt 2 (some .int) (.code yX12_byteAt cX12_byteAt 2 (some .int) :: G_) (rm_ 1)) (P_X12_byteAt E.2.2.2.1 ) :=
  all_c (s_ild_n (q := 1) (by decide +kernel) rfl)
  <| all_c (s_ald_n (q := 0) (by decide +kernel) rfl)
  <| all_c (g_12_3 (by decide +kernel) fl_RX12_107)
  <| all_c (s_cmpge (off := 12) (by decide +kernel) (by decide))
  <| all_c (s_ald_n (q := 0) (by decide +kernel) rfl)
  <| all_c (g_12_1 (by decide +kernel) fl_RX12_7)
  <| all_c (s_ild_n (q := 1) (by decide +kernel) rfl)
  <| all_c (s_iald (by decide +kernel))
  <| all_c (s_goto (off := 4) (by decide +kernel) (by decide))
  <| all_c (s_iconst (n := 0) (by decide +kernel) (by decide))
  <| all_c (s_iret (by decide +kernel) rfl)
  <| all_n
theorem t_X12_byteAt {l : Launch} {E : En_} (hE : EOK_ E) : Good_ l E yX12_byteAt (.code yX12_byteAt cX12_byteAt 2 (some .int) :: G_) (rm_ 1) (f_X12_byteAt E.2.2.2.1) := good_all hE (by decide +kernel) (a_X12_byteAt hE)
noncomputable def P_X12_isDigit (K : Sh_)  : List (Nat × Op_) := [(0, o_ild 0 1),
  (1, o_ic 48 2),
  (3, o_cmplt 16),
  (6, o_ild 0 1),
  (7, o_ic 57 2),
  (9, o_cmpgt 16),
  (12, o_ic 1 1),
  (13, o_goto 17),
  (16, o_ic 0 1),
  (17, o_zret)]
noncomputable def f_X12_isDigit (K : Sh_) : Fn_ := fn_ (P_X12_isDigit K) 1
set_option maxRecDepth 100000 in
theorem a_X12_isDigit {l : Launch} {E : En_} (hE : EOK_ E)   : All_ (Snd_ l E yX12_isDigit.cls cX12_isDigit 1 (some .boolean) (.code yX12_isDigit cX12_isDigit 1 (some .boolean) :: G_) (rm_ 1)) (P_X12_isDigit E.2.2.2.1 ) :=
  all_c (s_ild_n (q := 0) (by decide +kernel) rfl)
  <| all_c (s_bipush (n := 48) (by decide +kernel) (by decide))
  <| all_c (s_cmplt (off := 13) (by decide +kernel) (by decide))
  <| all_c (s_ild_n (q := 0) (by decide +kernel) rfl)
  <| all_c (s_bipush (n := 57) (by decide +kernel) (by decide))
  <| all_c (s_cmpgt (off := 7) (by decide +kernel) (by decide))
  <| all_c (s_iconst (n := 1) (by decide +kernel) (by decide))
  <| all_c (s_goto (off := 4) (by decide +kernel) (by decide))
  <| all_c (s_iconst (n := 0) (by decide +kernel) (by decide))
  <| all_c (s_zret (by decide +kernel) rfl)
  <| all_n
theorem t_X12_isDigit {l : Launch} {E : En_} (hE : EOK_ E) : Good_ l E yX12_isDigit (.code yX12_isDigit cX12_isDigit 1 (some .boolean) :: G_) (rm_ 1) (f_X12_isDigit E.2.2.2.1) := good_all hE (by decide +kernel) (a_X12_isDigit hE)
noncomputable def P_X12_isLetter (K : Sh_)  : List (Nat × Op_) := [(0, o_ild 0 1),
  (1, o_ic 97 2),
  (3, o_cmplt 16),
  (6, o_ild 0 1),
  (7, o_ic 122 2),
  (9, o_cmpgt 16),
  (12, o_ic 1 1),
  (13, o_goto 17),
  (16, o_ic 0 1),
  (17, o_zret)]
noncomputable def f_X12_isLetter (K : Sh_) : Fn_ := fn_ (P_X12_isLetter K) 1
set_option maxRecDepth 100000 in
theorem a_X12_isLetter {l : Launch} {E : En_} (hE : EOK_ E)   : All_ (Snd_ l E yX12_isLetter.cls cX12_isLetter 1 (some .boolean) (.code yX12_isLetter cX12_isLetter 1 (some .boolean) :: G_) (rm_ 1)) (P_X12_isLetter E.2.2.2.1 ) :=
  all_c (s_ild_n (q := 0) (by decide +kernel) rfl)
  <| all_c (s_bipush (n := 97) (by decide +kernel) (by decide))
  <| all_c (s_cmplt (off := 13) (by decide +kernel) (by decide))
  <| all_c (s_ild_n (q := 0) (by decide +kernel) rfl)
  <| all_c (s_bipush (n := 122) (by decide +kernel) (by decide))
  <| all_c (s_cmpgt (off := 7) (by decide +kernel) (by decide))
  <| all_c (s_iconst (n := 1) (by decide +kernel) (by decide))
  <| all_c (s_goto (off := 4) (by decide +kernel) (by decide))
  <| all_c (s_iconst (n := 0) (by decide +kernel) (by decide))
  <| all_c (s_zret (by decide +kernel) rfl)
  <| all_n
theorem t_X12_isLetter {l : Launch} {E : En_} (hE : EOK_ E) : Good_ l E yX12_isLetter (.code yX12_isLetter cX12_isLetter 1 (some .boolean) :: G_) (rm_ 1) (f_X12_isLetter E.2.2.2.1) := good_all hE (by decide +kernel) (a_X12_isLetter hE)
noncomputable def P_X12_go (K : Sh_)  : List (Nat × Op_) := [(0, o_ald 0 1),
  (1, o_gI K 12 5),
  (4, o_ald 0 1),
  (5, o_gI K 12 3),
  (8, o_aft [1, 2, 3, 4] (o_cmpge 52)),
  (11, o_ald 0 1),
  (12, o_gF K 12 1),
  (15, o_ald 0 1),
  (16, o_gI K 12 5),
  (19, o_iald K),
  (20, o_ic 32 2),
  (22, o_cmpeq 39),
  (25, o_ald 0 1),
  (26, o_gF K 12 1),
  (29, o_ald 0 1),
  (30, o_gI K 12 5),
  (33, o_iald K),
  (34, o_ic 10 2),
  (36, o_aft [1, 2, 3, 4] (o_cmpne 52)),
  (39, o_ald 0 1),
  (40, o_dup),
  (41, o_gI K 12 5),
  (44, o_ic 1 1),
  (45, o_iadd),
  (46, o_pI K 12 5),
  (49, o_aft [1, 2, 3, 4] (o_goto 0)),
  (52, o_ald 0 1),
  (53, o_ald 0 1),
  (54, o_gI K 12 5),
  (57, o_pI K 12 6),
  (60, o_ald 0 1),
  (61, o_gI K 12 3),
  (64, o_ald 0 1),
  (65, o_gI K 12 4),
  (68, o_aft [1, 2, 3, 4] (o_cmple 96)),
  (71, o_ald 0 1),
  (72, o_gI K 12 6),
  (75, o_ald 0 1),
  (76, o_gI K 12 4),
  (79, o_aft [1, 2, 3, 4] (o_cmplt 96)),
  (82, o_ald 0 1),
  (83, o_ald 0 1),
  (84, o_gI K 12 4),
  (87, o_pI K 12 6),
  (90, o_ald 0 1),
  (91, o_ic 1 1),
  (92, o_pI K 12 7),
  (95, o_vret),
  (96, o_ald 0 1),
  (97, o_gI K 12 5),
  (100, o_ald 0 1),
  (101, o_gI K 12 3),
  (104, o_cmplt 113),
  (107, o_ald 0 1),
  (108, o_ic 0 1),
  (109, o_pI K 12 7),
  (112, o_vret),
  (113, o_ald 0 1),
  (114, o_gF K 12 1),
  (117, o_ald 0 1),
  (118, o_gI K 12 5),
  (121, o_iald K),
  (122, o_ist 1 1),
  (123, o_ild 1 1),
  (124, o_callS (f_X12_isLetter K) 1),
  (127, o_ifne 198),
  (130, o_ild 1 1),
  (131, o_callS (f_X12_isDigit K) 1),
  (134, o_ifne 198),
  (137, o_ald 0 1),
  (138, o_ild 1 1),
  (139, o_ic 59 2),
  (141, o_cmpeq 174),
  (144, o_ild 1 1),
  (145, o_ic 60 2),
  (147, o_cmpeq 174),
  (150, o_ild 1 1),
  (151, o_ic 61 2),
  (153, o_cmpeq 174),
  (156, o_ild 1 1),
  (157, o_ic 62 2),
  (159, o_cmpeq 174),
  (162, o_ild 1 1),
  (163, o_ic 40 2),
  (165, o_cmpeq 174),
  (168, o_ild 1 1),
  (169, o_ic 41 2),
  (171, o_cmpne 178),
  (174, o_ic 4 1),
  (175, o_goto 179),
  (178, o_ic 1 1),
  (179, o_pI K 12 7),
  (182, o_ald 0 1),
  (183, o_ild 1 1),
  (184, o_pI K 12 9),
  (187, o_ald 0 1),
  (188, o_dup),
  (189, o_gI K 12 5),
  (192, o_ic 1 1),
  (193, o_iadd),
  (194, o_pI K 12 5),
  (197, o_vret),
  (198, o_ild 1 1),
  (199, o_callS (f_X12_isLetter K) 1),
  (202, o_ist 2 1),
  (203, o_ic 1 1),
  (204, o_ist 3 1),
  (205, o_ald 0 1),
  (206, o_lc 0 1),
  (207, o_pJ K 12 12),
  (210, o_ald 0 1),
  (211, o_ic 0 1),
  (212, o_aft [1, 4] (o_pI K 12 8)),
  (215, o_ald 0 1),
  (216, o_ald 0 1),
  (217, o_gI K 12 5),
  (220, o_callV K 12 (f_X12_byteAt K) 1),
  (223, o_callS (f_X12_isLetter K) 1),
  (226, o_aft [1, 4] (o_ifne 243)),
  (229, o_ald 0 1),
  (230, o_ald 0 1),
  (231, o_gI K 12 5),
  (234, o_callV K 12 (f_X12_byteAt K) 1),
  (237, o_callS (f_X12_isDigit K) 1),
  (240, o_aft [1, 4] (o_ifeq 350)),
  (243, o_ald 0 1),
  (244, o_gF K 12 1),
  (247, o_ald 0 1),
  (248, o_gI K 12 5),
  (251, o_iald K),
  (252, o_ist 4 2),
  (254, o_ild 3 1),
  (255, o_ifeq 271),
  (258, o_ild 4 2),
  (260, o_callS (f_X12_isLetter K) 1),
  (263, o_ild 2 1),
  (264, o_cmpne 271),
  (267, o_ic 1 1),
  (268, o_aft [1, 3] (o_goto 272)),
  (271, o_aft [1, 3] (o_ic 0 1)),
  (272, o_ist 3 1),
  (273, o_ald 0 1),
  (274, o_gI K 12 5),
  (277, o_ald 0 1),
  (278, o_gI K 12 6),
  (281, o_isub),
  (282, o_ic 6 2),
  (284, o_aft [1] (o_cmpge 307)),
  (287, o_ald 0 1),
  (288, o_lc 27 3),
  (291, o_ald 0 1),
  (292, o_gJ K 12 12),
  (295, o_lmul),
  (296, o_ild 4 2),
  (298, o_i2l),
  (299, o_ladd),
  (300, o_lc 96 3),
  (303, o_lsub),
  (304, o_aft [1] (o_pJ K 12 12)),
  (307, o_ald 0 1),
  (308, o_gI K 12 5),
  (311, o_ald 0 1),
  (312, o_gI K 12 6),
  (315, o_isub),
  (316, o_ic 3 1),
  (317, o_cmpge 337),
  (320, o_ald 0 1),
  (321, o_ic 10 2),
  (323, o_ald 0 1),
  (324, o_gI K 12 8),
  (327, o_imul),
  (328, o_ild 4 2),
  (330, o_iadd),
  (331, o_ic 48 2),
  (333, o_isub),
  (334, o_pI K 12 8),
  (337, o_ald 0 1),
  (338, o_dup),
  (339, o_gI K 12 5),
  (342, o_ic 1 1),
  (343, o_iadd),
  (344, o_pI K 12 5),
  (347, o_aft [1, 4] (o_goto 215)),
  (350, o_ald 0 1),
  (351, o_ild 3 1),
  (352, o_ifeq 377),
  (355, o_ald 0 1),
  (356, o_gI K 12 5),
  (359, o_ald 0 1),
  (360, o_gI K 12 6),
  (363, o_isub),
  (364, o_ild 2 1),
  (365, o_ifeq 373),
  (368, o_ic 6 2),
  (370, o_goto 374),
  (373, o_ic 3 1),
  (374, o_cmple 381),
  (377, o_ic 1 1),
  (378, o_goto 390),
  (381, o_ild 2 1),
  (382, o_ifeq 389),
  (385, o_ic 2 1),
  (386, o_goto 390),
  (389, o_ic 3 1),
  (390, o_pI K 12 7),
  (393, o_vret)]
noncomputable def f_X12_go (K : Sh_) : Fn_ := fn_ (P_X12_go K) 5
set_option maxRecDepth 100000 in
theorem a_X12_go {l : Launch} {E : En_} (hE : EOK_ E)   : All_ (Snd_ l E yX12_go.cls cX12_go 5 (none) (.code yX12_go cX12_go 5 (none) :: G_) (rm_ 2)) (P_X12_go E.2.2.2.1 ) :=
  all_c (s_ald_n (q := 0) (by decide +kernel) rfl)
  <| all_c (g_12_5 (by decide +kernel) fl_RX12_110)
  <| all_c (s_ald_n (q := 0) (by decide +kernel) rfl)
  <| all_c (g_12_3 (by decide +kernel) fl_RX12_107)
  <| all_c (s_aft (s_cmpge (off := 44) (by decide +kernel) (by decide)))
  <| all_c (s_ald_n (q := 0) (by decide +kernel) rfl)
  <| all_c (g_12_1 (by decide +kernel) fl_RX12_7)
  <| all_c (s_ald_n (q := 0) (by decide +kernel) rfl)
  <| all_c (g_12_5 (by decide +kernel) fl_RX12_110)
  <| all_c (s_iald (by decide +kernel))
  <| all_c (s_bipush (n := 32) (by decide +kernel) (by decide))
  <| all_c (s_cmpeq (off := 17) (by decide +kernel) (by decide))
  <| all_c (s_ald_n (q := 0) (by decide +kernel) rfl)
  <| all_c (g_12_1 (by decide +kernel) fl_RX12_7)
  <| all_c (s_ald_n (q := 0) (by decide +kernel) rfl)
  <| all_c (g_12_5 (by decide +kernel) fl_RX12_110)
  <| all_c (s_iald (by decide +kernel))
  <| all_c (s_bipush (n := 10) (by decide +kernel) (by decide))
  <| all_c (s_aft (s_cmpne (off := 16) (by decide +kernel) (by decide)))
  <| all_c (s_ald_n (q := 0) (by decide +kernel) rfl)
  <| all_c (s_dup (by decide +kernel))
  <| all_c (g_12_5 (by decide +kernel) fl_RX12_110)
  <| all_c (s_iconst (n := 1) (by decide +kernel) (by decide))
  <| all_c (s_iadd (by decide +kernel))
  <| all_c (p_12_5 (by decide +kernel) fl_RX12_110)
  <| all_c (s_aft (s_goto (off := (-49)) (by decide +kernel) (by decide)))
  <| all_c (s_ald_n (q := 0) (by decide +kernel) rfl)
  <| all_c (s_ald_n (q := 0) (by decide +kernel) rfl)
  <| all_c (g_12_5 (by decide +kernel) fl_RX12_110)
  <| all_c (p_12_6 (by decide +kernel) fl_RX12_113)
  <| all_c (s_ald_n (q := 0) (by decide +kernel) rfl)
  <| all_c (g_12_3 (by decide +kernel) fl_RX12_107)
  <| all_c (s_ald_n (q := 0) (by decide +kernel) rfl)
  <| all_c (g_12_4 (by decide +kernel) fl_RX12_116)
  <| all_c (s_aft (s_cmple (off := 28) (by decide +kernel) (by decide)))
  <| all_c (s_ald_n (q := 0) (by decide +kernel) rfl)
  <| all_c (g_12_6 (by decide +kernel) fl_RX12_113)
  <| all_c (s_ald_n (q := 0) (by decide +kernel) rfl)
  <| all_c (g_12_4 (by decide +kernel) fl_RX12_116)
  <| all_c (s_aft (s_cmplt (off := 17) (by decide +kernel) (by decide)))
  <| all_c (s_ald_n (q := 0) (by decide +kernel) rfl)
  <| all_c (s_ald_n (q := 0) (by decide +kernel) rfl)
  <| all_c (g_12_4 (by decide +kernel) fl_RX12_116)
  <| all_c (p_12_6 (by decide +kernel) fl_RX12_113)
  <| all_c (s_ald_n (q := 0) (by decide +kernel) rfl)
  <| all_c (s_iconst (n := 1) (by decide +kernel) (by decide))
  <| all_c (p_12_7 (by decide +kernel) fl_RX12_119)
  <| all_c (s_vret (by decide +kernel) rfl)
  <| all_c (s_ald_n (q := 0) (by decide +kernel) rfl)
  <| all_c (g_12_5 (by decide +kernel) fl_RX12_110)
  <| all_c (s_ald_n (q := 0) (by decide +kernel) rfl)
  <| all_c (g_12_3 (by decide +kernel) fl_RX12_107)
  <| all_c (s_cmplt (off := 9) (by decide +kernel) (by decide))
  <| all_c (s_ald_n (q := 0) (by decide +kernel) rfl)
  <| all_c (s_iconst (n := 0) (by decide +kernel) (by decide))
  <| all_c (p_12_7 (by decide +kernel) fl_RX12_119)
  <| all_c (s_vret (by decide +kernel) rfl)
  <| all_c (s_ald_n (q := 0) (by decide +kernel) rfl)
  <| all_c (g_12_1 (by decide +kernel) fl_RX12_7)
  <| all_c (s_ald_n (q := 0) (by decide +kernel) rfl)
  <| all_c (g_12_5 (by decide +kernel) fl_RX12_110)
  <| all_c (s_iald (by decide +kernel))
  <| all_c (s_ist_n (q := 1) (by decide +kernel) rfl)
  <| all_c (s_ild_n (q := 1) (by decide +kernel) rfl)
  <| all_c (s_callS (by decide +kernel) (t_X12_isLetter hE) cl_X12_isLetter ml_RX12_122 sm_X12_isLetter (rm_lt (by decide)))
  <| all_c (s_ifne (off := 71) (by decide +kernel) (by decide))
  <| all_c (s_ild_n (q := 1) (by decide +kernel) rfl)
  <| all_c (s_callS (by decide +kernel) (t_X12_isDigit hE) cl_X12_isDigit ml_RX12_126 sm_X12_isDigit (rm_lt (by decide)))
  <| all_c (s_ifne (off := 64) (by decide +kernel) (by decide))
  <| all_c (s_ald_n (q := 0) (by decide +kernel) rfl)
  <| all_c (s_ild_n (q := 1) (by decide +kernel) rfl)
  <| all_c (s_bipush (n := 59) (by decide +kernel) (by decide))
  <| all_c (s_cmpeq (off := 33) (by decide +kernel) (by decide))
  <| all_c (s_ild_n (q := 1) (by decide +kernel) rfl)
  <| all_c (s_bipush (n := 60) (by decide +kernel) (by decide))
  <| all_c (s_cmpeq (off := 27) (by decide +kernel) (by decide))
  <| all_c (s_ild_n (q := 1) (by decide +kernel) rfl)
  <| all_c (s_bipush (n := 61) (by decide +kernel) (by decide))
  <| all_c (s_cmpeq (off := 21) (by decide +kernel) (by decide))
  <| all_c (s_ild_n (q := 1) (by decide +kernel) rfl)
  <| all_c (s_bipush (n := 62) (by decide +kernel) (by decide))
  <| all_c (s_cmpeq (off := 15) (by decide +kernel) (by decide))
  <| all_c (s_ild_n (q := 1) (by decide +kernel) rfl)
  <| all_c (s_bipush (n := 40) (by decide +kernel) (by decide))
  <| all_c (s_cmpeq (off := 9) (by decide +kernel) (by decide))
  <| all_c (s_ild_n (q := 1) (by decide +kernel) rfl)
  <| all_c (s_bipush (n := 41) (by decide +kernel) (by decide))
  <| all_c (s_cmpne (off := 7) (by decide +kernel) (by decide))
  <| all_c (s_iconst (n := 4) (by decide +kernel) (by decide))
  <| all_c (s_goto (off := 4) (by decide +kernel) (by decide))
  <| all_c (s_iconst (n := 1) (by decide +kernel) (by decide))
  <| all_c (p_12_7 (by decide +kernel) fl_RX12_119)
  <| all_c (s_ald_n (q := 0) (by decide +kernel) rfl)
  <| all_c (s_ild_n (q := 1) (by decide +kernel) rfl)
  <| all_c (p_12_9 (by decide +kernel) fl_RX12_129)
  <| all_c (s_ald_n (q := 0) (by decide +kernel) rfl)
  <| all_c (s_dup (by decide +kernel))
  <| all_c (g_12_5 (by decide +kernel) fl_RX12_110)
  <| all_c (s_iconst (n := 1) (by decide +kernel) (by decide))
  <| all_c (s_iadd (by decide +kernel))
  <| all_c (p_12_5 (by decide +kernel) fl_RX12_110)
  <| all_c (s_vret (by decide +kernel) rfl)
  <| all_c (s_ild_n (q := 1) (by decide +kernel) rfl)
  <| all_c (s_callS (by decide +kernel) (t_X12_isLetter hE) cl_X12_isLetter ml_RX12_122 sm_X12_isLetter (rm_lt (by decide)))
  <| all_c (s_ist_n (q := 2) (by decide +kernel) rfl)
  <| all_c (s_iconst (n := 1) (by decide +kernel) (by decide))
  <| all_c (s_ist_n (q := 3) (by decide +kernel) rfl)
  <| all_c (s_ald_n (q := 0) (by decide +kernel) rfl)
  <| all_c (s_lconst (n := 0) (by decide +kernel) (by decide))
  <| all_c (p_12_12 (by decide +kernel) fl_RX12_132)
  <| all_c (s_ald_n (q := 0) (by decide +kernel) rfl)
  <| all_c (s_iconst (n := 0) (by decide +kernel) (by decide))
  <| all_c (s_aft (p_12_8 (by decide +kernel) fl_RX12_136))
  <| all_c (s_ald_n (q := 0) (by decide +kernel) rfl)
  <| all_c (s_ald_n (q := 0) (by decide +kernel) rfl)
  <| all_c (g_12_5 (by decide +kernel) fl_RX12_110)
  <| all_c (s_callV (by decide +kernel) (t_X12_byteAt hE) cl_X12_byteAt ml_RX12_139 im_X12_byteAt se_X12_byteAt (by decide) rfl (rm_lt (by decide)))
  <| all_c (s_callS (by decide +kernel) (t_X12_isLetter hE) cl_X12_isLetter ml_RX12_122 sm_X12_isLetter (rm_lt (by decide)))
  <| all_c (s_aft (s_ifne (off := 17) (by decide +kernel) (by decide)))
  <| all_c (s_ald_n (q := 0) (by decide +kernel) rfl)
  <| all_c (s_ald_n (q := 0) (by decide +kernel) rfl)
  <| all_c (g_12_5 (by decide +kernel) fl_RX12_110)
  <| all_c (s_callV (by decide +kernel) (t_X12_byteAt hE) cl_X12_byteAt ml_RX12_139 im_X12_byteAt se_X12_byteAt (by decide) rfl (rm_lt (by decide)))
  <| all_c (s_callS (by decide +kernel) (t_X12_isDigit hE) cl_X12_isDigit ml_RX12_126 sm_X12_isDigit (rm_lt (by decide)))
  <| all_c (s_aft (s_ifeq (off := 110) (by decide +kernel) (by decide)))
  <| all_c (s_ald_n (q := 0) (by decide +kernel) rfl)
  <| all_c (g_12_1 (by decide +kernel) fl_RX12_7)
  <| all_c (s_ald_n (q := 0) (by decide +kernel) rfl)
  <| all_c (g_12_5 (by decide +kernel) fl_RX12_110)
  <| all_c (s_iald (by decide +kernel))
  <| all_c (s_ist (by decide +kernel))
  <| all_c (s_ild_n (q := 3) (by decide +kernel) rfl)
  <| all_c (s_ifeq (off := 16) (by decide +kernel) (by decide))
  <| all_c (s_ild (by decide +kernel))
  <| all_c (s_callS (by decide +kernel) (t_X12_isLetter hE) cl_X12_isLetter ml_RX12_122 sm_X12_isLetter (rm_lt (by decide)))
  <| all_c (s_ild_n (q := 2) (by decide +kernel) rfl)
  <| all_c (s_cmpne (off := 7) (by decide +kernel) (by decide))
  <| all_c (s_iconst (n := 1) (by decide +kernel) (by decide))
  <| all_c (s_aft (s_goto (off := 4) (by decide +kernel) (by decide)))
  <| all_c (s_aft (s_iconst (n := 0) (by decide +kernel) (by decide)))
  <| all_c (s_ist_n (q := 3) (by decide +kernel) rfl)
  <| all_c (s_ald_n (q := 0) (by decide +kernel) rfl)
  <| all_c (g_12_5 (by decide +kernel) fl_RX12_110)
  <| all_c (s_ald_n (q := 0) (by decide +kernel) rfl)
  <| all_c (g_12_6 (by decide +kernel) fl_RX12_113)
  <| all_c (s_isub (by decide +kernel))
  <| all_c (s_bipush (n := 6) (by decide +kernel) (by decide))
  <| all_c (s_aft (s_cmpge (off := 23) (by decide +kernel) (by decide)))
  <| all_c (s_ald_n (q := 0) (by decide +kernel) rfl)
  <| all_c (s_ldc2 (by decide +kernel) (G_w kk_RX12_143))
  <| all_c (s_ald_n (q := 0) (by decide +kernel) rfl)
  <| all_c (g_12_12 (by decide +kernel) fl_RX12_132)
  <| all_c (s_lmul (by decide +kernel))
  <| all_c (s_ild (by decide +kernel))
  <| all_c (s_i2l (by decide +kernel))
  <| all_c (s_ladd (by decide +kernel))
  <| all_c (s_ldc2 (by decide +kernel) (G_w kk_RX12_145))
  <| all_c (s_lsub (by decide +kernel))
  <| all_c (s_aft (p_12_12 (by decide +kernel) fl_RX12_132))
  <| all_c (s_ald_n (q := 0) (by decide +kernel) rfl)
  <| all_c (g_12_5 (by decide +kernel) fl_RX12_110)
  <| all_c (s_ald_n (q := 0) (by decide +kernel) rfl)
  <| all_c (g_12_6 (by decide +kernel) fl_RX12_113)
  <| all_c (s_isub (by decide +kernel))
  <| all_c (s_iconst (n := 3) (by decide +kernel) (by decide))
  <| all_c (s_cmpge (off := 20) (by decide +kernel) (by decide))
  <| all_c (s_ald_n (q := 0) (by decide +kernel) rfl)
  <| all_c (s_bipush (n := 10) (by decide +kernel) (by decide))
  <| all_c (s_ald_n (q := 0) (by decide +kernel) rfl)
  <| all_c (g_12_8 (by decide +kernel) fl_RX12_136)
  <| all_c (s_imul (by decide +kernel))
  <| all_c (s_ild (by decide +kernel))
  <| all_c (s_iadd (by decide +kernel))
  <| all_c (s_bipush (n := 48) (by decide +kernel) (by decide))
  <| all_c (s_isub (by decide +kernel))
  <| all_c (p_12_8 (by decide +kernel) fl_RX12_136)
  <| all_c (s_ald_n (q := 0) (by decide +kernel) rfl)
  <| all_c (s_dup (by decide +kernel))
  <| all_c (g_12_5 (by decide +kernel) fl_RX12_110)
  <| all_c (s_iconst (n := 1) (by decide +kernel) (by decide))
  <| all_c (s_iadd (by decide +kernel))
  <| all_c (p_12_5 (by decide +kernel) fl_RX12_110)
  <| all_c (s_aft (s_goto (off := (-132)) (by decide +kernel) (by decide)))
  <| all_c (s_ald_n (q := 0) (by decide +kernel) rfl)
  <| all_c (s_ild_n (q := 3) (by decide +kernel) rfl)
  <| all_c (s_ifeq (off := 25) (by decide +kernel) (by decide))
  <| all_c (s_ald_n (q := 0) (by decide +kernel) rfl)
  <| all_c (g_12_5 (by decide +kernel) fl_RX12_110)
  <| all_c (s_ald_n (q := 0) (by decide +kernel) rfl)
  <| all_c (g_12_6 (by decide +kernel) fl_RX12_113)
  <| all_c (s_isub (by decide +kernel))
  <| all_c (s_ild_n (q := 2) (by decide +kernel) rfl)
  <| all_c (s_ifeq (off := 8) (by decide +kernel) (by decide))
  <| all_c (s_bipush (n := 6) (by decide +kernel) (by decide))
  <| all_c (s_goto (off := 4) (by decide +kernel) (by decide))
  <| all_c (s_iconst (n := 3) (by decide +kernel) (by decide))
  <| all_c (s_cmple (off := 7) (by decide +kernel) (by decide))
  <| all_c (s_iconst (n := 1) (by decide +kernel) (by decide))
  <| all_c (s_goto (off := 12) (by decide +kernel) (by decide))
  <| all_c (s_ild_n (q := 2) (by decide +kernel) rfl)
  <| all_c (s_ifeq (off := 7) (by decide +kernel) (by decide))
  <| all_c (s_iconst (n := 2) (by decide +kernel) (by decide))
  <| all_c (s_goto (off := 4) (by decide +kernel) (by decide))
  <| all_c (s_iconst (n := 3) (by decide +kernel) (by decide))
  <| all_c (p_12_7 (by decide +kernel) fl_RX12_119)
  <| all_c (s_vret (by decide +kernel) rfl)
  <| all_n
theorem t_X12_go {l : Launch} {E : En_} (hE : EOK_ E) : Good_ l E yX12_go (.code yX12_go cX12_go 5 (none) :: G_) (rm_ 2) (f_X12_go E.2.2.2.1) := good_all hE (by decide +kernel) (a_X12_go hE)
noncomputable def P_X12_spelt (K : Sh_)  : List (Nat × Op_) := [(0, o_lc 27 3),
  (3, o_ild 0 1),
  (4, o_i2l),
  (5, o_lc 96 3),
  (8, o_lsub),
  (9, o_lmul),
  (10, o_ild 1 1),
  (11, o_i2l),
  (12, o_ladd),
  (13, o_lc 96 3),
  (16, o_lsub),
  (17, o_lst 5 2),
  (19, o_ild 2 1),
  (20, o_aft [6] (o_ifle 38)),
  (23, o_lc 27 3),
  (26, o_lld 5 2),
  (28, o_lmul),
  (29, o_ild 2 1),
  (30, o_i2l),
  (31, o_ladd),
  (32, o_lc 96 3),
  (35, o_lsub),
  (36, o_aft [6] (o_lst 5 2)),
  (38, o_ild 3 1),
  (39, o_ifle 57),
  (42, o_lc 27 3),
  (45, o_lld 5 2),
  (47, o_lmul),
  (48, o_ild 3 1),
  (49, o_i2l),
  (50, o_ladd),
  (51, o_lc 96 3),
  (54, o_lsub),
  (55, o_lst 5 2),
  (57, o_ild 4 2),
  (59, o_ifle 79),
  (62, o_lc 27 3),
  (65, o_lld 5 2),
  (67, o_lmul),
  (68, o_ild 4 2),
  (70, o_i2l),
  (71, o_ladd),
  (72, o_lc 96 3),
  (75, o_lsub),
  (76, o_goto 81),
  (79, o_lld 5 2),
  (81, o_lret)]
noncomputable def f_X12_spelt (K : Sh_) : Fn_ := fn_ (P_X12_spelt K) 7
set_option maxRecDepth 100000 in
theorem a_X12_spelt {l : Launch} {E : En_} (hE : EOK_ E)   : All_ (Snd_ l E yX12_spelt.cls cX12_spelt 7 (some .long) (.code yX12_spelt cX12_spelt 7 (some .long) :: G_) (rm_ 1)) (P_X12_spelt E.2.2.2.1 ) :=
  all_c (s_ldc2 (by decide +kernel) (G_w kk_RX12_143))
  <| all_c (s_ild_n (q := 0) (by decide +kernel) rfl)
  <| all_c (s_i2l (by decide +kernel))
  <| all_c (s_ldc2 (by decide +kernel) (G_w kk_RX12_145))
  <| all_c (s_lsub (by decide +kernel))
  <| all_c (s_lmul (by decide +kernel))
  <| all_c (s_ild_n (q := 1) (by decide +kernel) rfl)
  <| all_c (s_i2l (by decide +kernel))
  <| all_c (s_ladd (by decide +kernel))
  <| all_c (s_ldc2 (by decide +kernel) (G_w kk_RX12_145))
  <| all_c (s_lsub (by decide +kernel))
  <| all_c (s_lst (by decide +kernel))
  <| all_c (s_ild_n (q := 2) (by decide +kernel) rfl)
  <| all_c (s_aft (s_ifle (off := 18) (by decide +kernel) (by decide)))
  <| all_c (s_ldc2 (by decide +kernel) (G_w kk_RX12_143))
  <| all_c (s_lld (by decide +kernel))
  <| all_c (s_lmul (by decide +kernel))
  <| all_c (s_ild_n (q := 2) (by decide +kernel) rfl)
  <| all_c (s_i2l (by decide +kernel))
  <| all_c (s_ladd (by decide +kernel))
  <| all_c (s_ldc2 (by decide +kernel) (G_w kk_RX12_145))
  <| all_c (s_lsub (by decide +kernel))
  <| all_c (s_aft (s_lst (by decide +kernel)))
  <| all_c (s_ild_n (q := 3) (by decide +kernel) rfl)
  <| all_c (s_ifle (off := 18) (by decide +kernel) (by decide))
  <| all_c (s_ldc2 (by decide +kernel) (G_w kk_RX12_143))
  <| all_c (s_lld (by decide +kernel))
  <| all_c (s_lmul (by decide +kernel))
  <| all_c (s_ild_n (q := 3) (by decide +kernel) rfl)
  <| all_c (s_i2l (by decide +kernel))
  <| all_c (s_ladd (by decide +kernel))
  <| all_c (s_ldc2 (by decide +kernel) (G_w kk_RX12_145))
  <| all_c (s_lsub (by decide +kernel))
  <| all_c (s_lst (by decide +kernel))
  <| all_c (s_ild (by decide +kernel))
  <| all_c (s_ifle (off := 20) (by decide +kernel) (by decide))
  <| all_c (s_ldc2 (by decide +kernel) (G_w kk_RX12_143))
  <| all_c (s_lld (by decide +kernel))
  <| all_c (s_lmul (by decide +kernel))
  <| all_c (s_ild (by decide +kernel))
  <| all_c (s_i2l (by decide +kernel))
  <| all_c (s_ladd (by decide +kernel))
  <| all_c (s_ldc2 (by decide +kernel) (G_w kk_RX12_145))
  <| all_c (s_lsub (by decide +kernel))
  <| all_c (s_goto (off := 5) (by decide +kernel) (by decide))
  <| all_c (s_lld (by decide +kernel))
  <| all_c (s_lret (by decide +kernel) rfl)
  <| all_n
theorem t_X12_spelt {l : Launch} {E : En_} (hE : EOK_ E) : Good_ l E yX12_spelt (.code yX12_spelt cX12_spelt 7 (some .long) :: G_) (rm_ 1) (f_X12_spelt E.2.2.2.1) := good_all hE (by decide +kernel) (a_X12_spelt hE)
noncomputable def P_X12_wordOf (K : Sh_)  : List (Nat × Op_) := [(0, o_ild 0 1),
  (1, o_tsw 0 18 336 [92, 105, 117, 131, 145, 156, 169, 183, 197, 211, 222, 234, 245, 257, 269, 282, 295, 309, 323]),
  (92, o_ic 99 2),
  (94, o_ic 104 2),
  (96, o_ic 97 2),
  (98, o_ic 112 2),
  (100, o_ic 0 1),
  (101, o_callS (f_X12_spelt K) 5),
  (104, o_lret),
  (105, o_ic 119 2),
  (107, o_ic 104 2),
  (109, o_ic 111 2),
  (111, o_ic 0 1),
  (112, o_ic 0 1),
  (113, o_callS (f_X12_spelt K) 5),
  (116, o_lret),
  (117, o_ic 115 2),
  (119, o_ic 112 2),
  (121, o_ic 101 2),
  (123, o_ic 101 2),
  (125, o_ic 100 2),
  (127, o_callS (f_X12_spelt K) 5),
  (130, o_lret),
  (131, o_ic 97 2),
  (133, o_ic 103 2),
  (135, o_ic 97 2),
  (137, o_ic 105 2),
  (139, o_ic 110 2),
  (141, o_callS (f_X12_spelt K) 5),
  (144, o_lret),
  (145, o_ic 111 2),
  (147, o_ic 110 2),
  (149, o_ic 0 1),
  (150, o_ic 0 1),
  (151, o_ic 0 1),
  (152, o_callS (f_X12_spelt K) 5),
  (155, o_lret),
  (156, o_ic 109 2),
  (158, o_ic 117 2),
  (160, o_ic 115 2),
  (162, o_ic 116 2),
  (164, o_ic 0 1),
  (165, o_callS (f_X12_spelt K) 5),
  (168, o_lret),
  (169, o_ic 115 2),
  (171, o_ic 107 2),
  (173, o_ic 105 2),
  (175, o_ic 112 2),
  (177, o_ic 115 2),
  (179, o_callS (f_X12_spelt K) 5),
  (182, o_lret),
  (183, o_ic 114 2),
  (185, o_ic 101 2),
  (187, o_ic 97 2),
  (189, o_ic 100 2),
  (191, o_ic 115 2),
  (193, o_callS (f_X12_spelt K) 5),
  (196, o_lret),
  (197, o_ic 116 2),
  (199, o_ic 101 2),
  (201, o_ic 108 2),
  (203, o_ic 108 2),
  (205, o_ic 115 2),
  (207, o_callS (f_X12_spelt K) 5),
  (210, o_lret),
  (211, o_ic 116 2),
  (213, o_ic 111 2),
  (215, o_ic 0 1),
  (216, o_ic 0 1),
  (217, o_ic 0 1),
  (218, o_callS (f_X12_spelt K) 5),
  (221, o_lret),
  (222, o_ic 97 2),
  (224, o_ic 108 2),
  (226, o_ic 108 2),
  (228, o_ic 0 1),
  (229, o_ic 0 1),
  (230, o_callS (f_X12_spelt K) 5),
  (233, o_lret),
  (234, o_ic 111 2),
  (236, o_ic 114 2),
  (238, o_ic 0 1),
  (239, o_ic 0 1),
  (240, o_ic 0 1),
  (241, o_callS (f_X12_spelt K) 5),
  (244, o_lret),
  (245, o_ic 97 2),
  (247, o_ic 110 2),
  (249, o_ic 100 2),
  (251, o_ic 0 1),
  (252, o_ic 0 1),
  (253, o_callS (f_X12_spelt K) 5),
  (256, o_lret),
  (257, o_ic 110 2),
  (259, o_ic 111 2),
  (261, o_ic 116 2),
  (263, o_ic 0 1),
  (264, o_ic 0 1),
  (265, o_callS (f_X12_spelt K) 5),
  (268, o_lret),
  (269, o_ic 114 2),
  (271, o_ic 101 2),
  (273, o_ic 97 2),
  (275, o_ic 100 2),
  (277, o_ic 0 1),
  (278, o_callS (f_X12_spelt K) 5),
  (281, o_lret),
  (282, o_ic 116 2),
  (284, o_ic 111 2),
  (286, o_ic 108 2),
  (288, o_ic 100 2),
  (290, o_ic 0 1),
  (291, o_callS (f_X12_spelt K) 5),
  (294, o_lret),
  (295, o_ic 107 2),
  (297, o_ic 110 2),
  (299, o_ic 111 2),
  (301, o_ic 119 2),
  (303, o_ic 115 2),
  (305, o_callS (f_X12_spelt K) 5),
  (308, o_lret),
  (309, o_ic 116 2),
  (311, o_ic 111 2),
  (313, o_ic 116 2),
  (315, o_ic 97 2),
  (317, o_ic 108 2),
  (319, o_callS (f_X12_spelt K) 5),
  (322, o_lret),
  (323, o_ic 108 2),
  (325, o_ic 101 2),
  (327, o_ic 102 2),
  (329, o_ic 116 2),
  (331, o_ic 0 1),
  (332, o_callS (f_X12_spelt K) 5),
  (335, o_lret),
  (336, o_ic 99 2),
  (338, o_ic 111 2),
  (340, o_ic 117 2),
  (342, o_ic 110 2),
  (344, o_ic 116 2),
  (346, o_callS (f_X12_spelt K) 5),
  (349, o_lret)]
noncomputable def f_X12_wordOf (K : Sh_) : Fn_ := fn_ (P_X12_wordOf K) 1
set_option maxRecDepth 100000 in
theorem a_X12_wordOf {l : Launch} {E : En_} (hE : EOK_ E)   : All_ (Snd_ l E yX12_wordOf.cls cX12_wordOf 1 (some .long) (.code yX12_wordOf cX12_wordOf 1 (some .long) :: G_) (rm_ 2)) (P_X12_wordOf E.2.2.2.1 ) :=
  all_c (s_ild_n (q := 0) (by decide +kernel) rfl)
  <| all_c (s_tsw (df := 335) (offs := #[91, 104, 116, 130, 144, 155, 168, 182, 196, 210, 221, 233, 244, 256, 268, 281, 294, 308, 322]) (n := 91) (by decide +kernel) (by decide) (by decide))
  <| all_c (s_bipush (n := 99) (by decide +kernel) (by decide))
  <| all_c (s_bipush (n := 104) (by decide +kernel) (by decide))
  <| all_c (s_bipush (n := 97) (by decide +kernel) (by decide))
  <| all_c (s_bipush (n := 112) (by decide +kernel) (by decide))
  <| all_c (s_iconst (n := 0) (by decide +kernel) (by decide))
  <| all_c (s_callS (by decide +kernel) (t_X12_spelt hE) cl_X12_spelt ml_RX12_147 sm_X12_spelt (rm_lt (by decide)))
  <| all_c (s_lret (by decide +kernel) rfl)
  <| all_c (s_bipush (n := 119) (by decide +kernel) (by decide))
  <| all_c (s_bipush (n := 104) (by decide +kernel) (by decide))
  <| all_c (s_bipush (n := 111) (by decide +kernel) (by decide))
  <| all_c (s_iconst (n := 0) (by decide +kernel) (by decide))
  <| all_c (s_iconst (n := 0) (by decide +kernel) (by decide))
  <| all_c (s_callS (by decide +kernel) (t_X12_spelt hE) cl_X12_spelt ml_RX12_147 sm_X12_spelt (rm_lt (by decide)))
  <| all_c (s_lret (by decide +kernel) rfl)
  <| all_c (s_bipush (n := 115) (by decide +kernel) (by decide))
  <| all_c (s_bipush (n := 112) (by decide +kernel) (by decide))
  <| all_c (s_bipush (n := 101) (by decide +kernel) (by decide))
  <| all_c (s_bipush (n := 101) (by decide +kernel) (by decide))
  <| all_c (s_bipush (n := 100) (by decide +kernel) (by decide))
  <| all_c (s_callS (by decide +kernel) (t_X12_spelt hE) cl_X12_spelt ml_RX12_147 sm_X12_spelt (rm_lt (by decide)))
  <| all_c (s_lret (by decide +kernel) rfl)
  <| all_c (s_bipush (n := 97) (by decide +kernel) (by decide))
  <| all_c (s_bipush (n := 103) (by decide +kernel) (by decide))
  <| all_c (s_bipush (n := 97) (by decide +kernel) (by decide))
  <| all_c (s_bipush (n := 105) (by decide +kernel) (by decide))
  <| all_c (s_bipush (n := 110) (by decide +kernel) (by decide))
  <| all_c (s_callS (by decide +kernel) (t_X12_spelt hE) cl_X12_spelt ml_RX12_147 sm_X12_spelt (rm_lt (by decide)))
  <| all_c (s_lret (by decide +kernel) rfl)
  <| all_c (s_bipush (n := 111) (by decide +kernel) (by decide))
  <| all_c (s_bipush (n := 110) (by decide +kernel) (by decide))
  <| all_c (s_iconst (n := 0) (by decide +kernel) (by decide))
  <| all_c (s_iconst (n := 0) (by decide +kernel) (by decide))
  <| all_c (s_iconst (n := 0) (by decide +kernel) (by decide))
  <| all_c (s_callS (by decide +kernel) (t_X12_spelt hE) cl_X12_spelt ml_RX12_147 sm_X12_spelt (rm_lt (by decide)))
  <| all_c (s_lret (by decide +kernel) rfl)
  <| all_c (s_bipush (n := 109) (by decide +kernel) (by decide))
  <| all_c (s_bipush (n := 117) (by decide +kernel) (by decide))
  <| all_c (s_bipush (n := 115) (by decide +kernel) (by decide))
  <| all_c (s_bipush (n := 116) (by decide +kernel) (by decide))
  <| all_c (s_iconst (n := 0) (by decide +kernel) (by decide))
  <| all_c (s_callS (by decide +kernel) (t_X12_spelt hE) cl_X12_spelt ml_RX12_147 sm_X12_spelt (rm_lt (by decide)))
  <| all_c (s_lret (by decide +kernel) rfl)
  <| all_c (s_bipush (n := 115) (by decide +kernel) (by decide))
  <| all_c (s_bipush (n := 107) (by decide +kernel) (by decide))
  <| all_c (s_bipush (n := 105) (by decide +kernel) (by decide))
  <| all_c (s_bipush (n := 112) (by decide +kernel) (by decide))
  <| all_c (s_bipush (n := 115) (by decide +kernel) (by decide))
  <| all_c (s_callS (by decide +kernel) (t_X12_spelt hE) cl_X12_spelt ml_RX12_147 sm_X12_spelt (rm_lt (by decide)))
  <| all_c (s_lret (by decide +kernel) rfl)
  <| all_c (s_bipush (n := 114) (by decide +kernel) (by decide))
  <| all_c (s_bipush (n := 101) (by decide +kernel) (by decide))
  <| all_c (s_bipush (n := 97) (by decide +kernel) (by decide))
  <| all_c (s_bipush (n := 100) (by decide +kernel) (by decide))
  <| all_c (s_bipush (n := 115) (by decide +kernel) (by decide))
  <| all_c (s_callS (by decide +kernel) (t_X12_spelt hE) cl_X12_spelt ml_RX12_147 sm_X12_spelt (rm_lt (by decide)))
  <| all_c (s_lret (by decide +kernel) rfl)
  <| all_c (s_bipush (n := 116) (by decide +kernel) (by decide))
  <| all_c (s_bipush (n := 101) (by decide +kernel) (by decide))
  <| all_c (s_bipush (n := 108) (by decide +kernel) (by decide))
  <| all_c (s_bipush (n := 108) (by decide +kernel) (by decide))
  <| all_c (s_bipush (n := 115) (by decide +kernel) (by decide))
  <| all_c (s_callS (by decide +kernel) (t_X12_spelt hE) cl_X12_spelt ml_RX12_147 sm_X12_spelt (rm_lt (by decide)))
  <| all_c (s_lret (by decide +kernel) rfl)
  <| all_c (s_bipush (n := 116) (by decide +kernel) (by decide))
  <| all_c (s_bipush (n := 111) (by decide +kernel) (by decide))
  <| all_c (s_iconst (n := 0) (by decide +kernel) (by decide))
  <| all_c (s_iconst (n := 0) (by decide +kernel) (by decide))
  <| all_c (s_iconst (n := 0) (by decide +kernel) (by decide))
  <| all_c (s_callS (by decide +kernel) (t_X12_spelt hE) cl_X12_spelt ml_RX12_147 sm_X12_spelt (rm_lt (by decide)))
  <| all_c (s_lret (by decide +kernel) rfl)
  <| all_c (s_bipush (n := 97) (by decide +kernel) (by decide))
  <| all_c (s_bipush (n := 108) (by decide +kernel) (by decide))
  <| all_c (s_bipush (n := 108) (by decide +kernel) (by decide))
  <| all_c (s_iconst (n := 0) (by decide +kernel) (by decide))
  <| all_c (s_iconst (n := 0) (by decide +kernel) (by decide))
  <| all_c (s_callS (by decide +kernel) (t_X12_spelt hE) cl_X12_spelt ml_RX12_147 sm_X12_spelt (rm_lt (by decide)))
  <| all_c (s_lret (by decide +kernel) rfl)
  <| all_c (s_bipush (n := 111) (by decide +kernel) (by decide))
  <| all_c (s_bipush (n := 114) (by decide +kernel) (by decide))
  <| all_c (s_iconst (n := 0) (by decide +kernel) (by decide))
  <| all_c (s_iconst (n := 0) (by decide +kernel) (by decide))
  <| all_c (s_iconst (n := 0) (by decide +kernel) (by decide))
  <| all_c (s_callS (by decide +kernel) (t_X12_spelt hE) cl_X12_spelt ml_RX12_147 sm_X12_spelt (rm_lt (by decide)))
  <| all_c (s_lret (by decide +kernel) rfl)
  <| all_c (s_bipush (n := 97) (by decide +kernel) (by decide))
  <| all_c (s_bipush (n := 110) (by decide +kernel) (by decide))
  <| all_c (s_bipush (n := 100) (by decide +kernel) (by decide))
  <| all_c (s_iconst (n := 0) (by decide +kernel) (by decide))
  <| all_c (s_iconst (n := 0) (by decide +kernel) (by decide))
  <| all_c (s_callS (by decide +kernel) (t_X12_spelt hE) cl_X12_spelt ml_RX12_147 sm_X12_spelt (rm_lt (by decide)))
  <| all_c (s_lret (by decide +kernel) rfl)
  <| all_c (s_bipush (n := 110) (by decide +kernel) (by decide))
  <| all_c (s_bipush (n := 111) (by decide +kernel) (by decide))
  <| all_c (s_bipush (n := 116) (by decide +kernel) (by decide))
  <| all_c (s_iconst (n := 0) (by decide +kernel) (by decide))
  <| all_c (s_iconst (n := 0) (by decide +kernel) (by decide))
  <| all_c (s_callS (by decide +kernel) (t_X12_spelt hE) cl_X12_spelt ml_RX12_147 sm_X12_spelt (rm_lt (by decide)))
  <| all_c (s_lret (by decide +kernel) rfl)
  <| all_c (s_bipush (n := 114) (by decide +kernel) (by decide))
  <| all_c (s_bipush (n := 101) (by decide +kernel) (by decide))
  <| all_c (s_bipush (n := 97) (by decide +kernel) (by decide))
  <| all_c (s_bipush (n := 100) (by decide +kernel) (by decide))
  <| all_c (s_iconst (n := 0) (by decide +kernel) (by decide))
  <| all_c (s_callS (by decide +kernel) (t_X12_spelt hE) cl_X12_spelt ml_RX12_147 sm_X12_spelt (rm_lt (by decide)))
  <| all_c (s_lret (by decide +kernel) rfl)
  <| all_c (s_bipush (n := 116) (by decide +kernel) (by decide))
  <| all_c (s_bipush (n := 111) (by decide +kernel) (by decide))
  <| all_c (s_bipush (n := 108) (by decide +kernel) (by decide))
  <| all_c (s_bipush (n := 100) (by decide +kernel) (by decide))
  <| all_c (s_iconst (n := 0) (by decide +kernel) (by decide))
  <| all_c (s_callS (by decide +kernel) (t_X12_spelt hE) cl_X12_spelt ml_RX12_147 sm_X12_spelt (rm_lt (by decide)))
  <| all_c (s_lret (by decide +kernel) rfl)
  <| all_c (s_bipush (n := 107) (by decide +kernel) (by decide))
  <| all_c (s_bipush (n := 110) (by decide +kernel) (by decide))
  <| all_c (s_bipush (n := 111) (by decide +kernel) (by decide))
  <| all_c (s_bipush (n := 119) (by decide +kernel) (by decide))
  <| all_c (s_bipush (n := 115) (by decide +kernel) (by decide))
  <| all_c (s_callS (by decide +kernel) (t_X12_spelt hE) cl_X12_spelt ml_RX12_147 sm_X12_spelt (rm_lt (by decide)))
  <| all_c (s_lret (by decide +kernel) rfl)
  <| all_c (s_bipush (n := 116) (by decide +kernel) (by decide))
  <| all_c (s_bipush (n := 111) (by decide +kernel) (by decide))
  <| all_c (s_bipush (n := 116) (by decide +kernel) (by decide))
  <| all_c (s_bipush (n := 97) (by decide +kernel) (by decide))
  <| all_c (s_bipush (n := 108) (by decide +kernel) (by decide))
  <| all_c (s_callS (by decide +kernel) (t_X12_spelt hE) cl_X12_spelt ml_RX12_147 sm_X12_spelt (rm_lt (by decide)))
  <| all_c (s_lret (by decide +kernel) rfl)
  <| all_c (s_bipush (n := 108) (by decide +kernel) (by decide))
  <| all_c (s_bipush (n := 101) (by decide +kernel) (by decide))
  <| all_c (s_bipush (n := 102) (by decide +kernel) (by decide))
  <| all_c (s_bipush (n := 116) (by decide +kernel) (by decide))
  <| all_c (s_iconst (n := 0) (by decide +kernel) (by decide))
  <| all_c (s_callS (by decide +kernel) (t_X12_spelt hE) cl_X12_spelt ml_RX12_147 sm_X12_spelt (rm_lt (by decide)))
  <| all_c (s_lret (by decide +kernel) rfl)
  <| all_c (s_bipush (n := 99) (by decide +kernel) (by decide))
  <| all_c (s_bipush (n := 111) (by decide +kernel) (by decide))
  <| all_c (s_bipush (n := 117) (by decide +kernel) (by decide))
  <| all_c (s_bipush (n := 110) (by decide +kernel) (by decide))
  <| all_c (s_bipush (n := 116) (by decide +kernel) (by decide))
  <| all_c (s_callS (by decide +kernel) (t_X12_spelt hE) cl_X12_spelt ml_RX12_147 sm_X12_spelt (rm_lt (by decide)))
  <| all_c (s_lret (by decide +kernel) rfl)
  <| all_n
theorem t_X12_wordOf {l : Launch} {E : En_} (hE : EOK_ E) : Good_ l E yX12_wordOf (.code yX12_wordOf cX12_wordOf 1 (some .long) :: G_) (rm_ 2) (f_X12_wordOf E.2.2.2.1) := good_all hE (by decide +kernel) (a_X12_wordOf hE)
noncomputable def P_X12_isWord (K : Sh_)  : List (Nat × Op_) := [(0, o_ald 0 1),
  (1, o_gI K 12 7),
  (4, o_ic 2 1),
  (5, o_cmpne 24),
  (8, o_ald 0 1),
  (9, o_gJ K 12 12),
  (12, o_ild 1 1),
  (13, o_callS (f_X12_wordOf K) 1),
  (16, o_lcmp),
  (17, o_ifne 24),
  (20, o_ic 1 1),
  (21, o_goto 25),
  (24, o_ic 0 1),
  (25, o_zret)]
noncomputable def f_X12_isWord (K : Sh_) : Fn_ := fn_ (P_X12_isWord K) 2
set_option maxRecDepth 100000 in
theorem a_X12_isWord {l : Launch} {E : En_} (hE : EOK_ E)   : All_ (Snd_ l E yX12_isWord.cls cX12_isWord 2 (some .boolean) (.code yX12_isWord cX12_isWord 2 (some .boolean) :: G_) (rm_ 3)) (P_X12_isWord E.2.2.2.1 ) :=
  all_c (s_ald_n (q := 0) (by decide +kernel) rfl)
  <| all_c (g_12_7 (by decide +kernel) fl_RX12_119)
  <| all_c (s_iconst (n := 2) (by decide +kernel) (by decide))
  <| all_c (s_cmpne (off := 19) (by decide +kernel) (by decide))
  <| all_c (s_ald_n (q := 0) (by decide +kernel) rfl)
  <| all_c (g_12_12 (by decide +kernel) fl_RX12_132)
  <| all_c (s_ild_n (q := 1) (by decide +kernel) rfl)
  <| all_c (s_callS (by decide +kernel) (t_X12_wordOf hE) cl_X12_wordOf ml_RX12_151 sm_X12_wordOf (rm_lt (by decide)))
  <| all_c (s_lcmp (by decide +kernel))
  <| all_c (s_ifne (off := 7) (by decide +kernel) (by decide))
  <| all_c (s_iconst (n := 1) (by decide +kernel) (by decide))
  <| all_c (s_goto (off := 4) (by decide +kernel) (by decide))
  <| all_c (s_iconst (n := 0) (by decide +kernel) (by decide))
  <| all_c (s_zret (by decide +kernel) rfl)
  <| all_n
theorem t_X12_isWord {l : Launch} {E : En_} (hE : EOK_ E) : Good_ l E yX12_isWord (.code yX12_isWord cX12_isWord 2 (some .boolean) :: G_) (rm_ 3) (f_X12_isWord E.2.2.2.1) := good_all hE (by decide +kernel) (a_X12_isWord hE)
noncomputable def P_X12_isSign (K : Sh_)  : List (Nat × Op_) := [(0, o_ald 0 1),
  (1, o_gI K 12 7),
  (4, o_ic 4 1),
  (5, o_cmpne 20),
  (8, o_ald 0 1),
  (9, o_gI K 12 9),
  (12, o_ild 1 1),
  (13, o_cmpne 20),
  (16, o_ic 1 1),
  (17, o_goto 21),
  (20, o_ic 0 1),
  (21, o_zret)]
noncomputable def f_X12_isSign (K : Sh_) : Fn_ := fn_ (P_X12_isSign K) 2
set_option maxRecDepth 100000 in
theorem a_X12_isSign {l : Launch} {E : En_} (hE : EOK_ E)   : All_ (Snd_ l E yX12_isSign.cls cX12_isSign 2 (some .boolean) (.code yX12_isSign cX12_isSign 2 (some .boolean) :: G_) (rm_ 1)) (P_X12_isSign E.2.2.2.1 ) :=
  all_c (s_ald_n (q := 0) (by decide +kernel) rfl)
  <| all_c (g_12_7 (by decide +kernel) fl_RX12_119)
  <| all_c (s_iconst (n := 4) (by decide +kernel) (by decide))
  <| all_c (s_cmpne (off := 15) (by decide +kernel) (by decide))
  <| all_c (s_ald_n (q := 0) (by decide +kernel) rfl)
  <| all_c (g_12_9 (by decide +kernel) fl_RX12_129)
  <| all_c (s_ild_n (q := 1) (by decide +kernel) rfl)
  <| all_c (s_cmpne (off := 7) (by decide +kernel) (by decide))
  <| all_c (s_iconst (n := 1) (by decide +kernel) (by decide))
  <| all_c (s_goto (off := 4) (by decide +kernel) (by decide))
  <| all_c (s_iconst (n := 0) (by decide +kernel) (by decide))
  <| all_c (s_zret (by decide +kernel) rfl)
  <| all_n
theorem t_X12_isSign {l : Launch} {E : En_} (hE : EOK_ E) : Good_ l E yX12_isSign (.code yX12_isSign cX12_isSign 2 (some .boolean) :: G_) (rm_ 1) (f_X12_isSign E.2.2.2.1) := good_all hE (by decide +kernel) (a_X12_isSign hE)
noncomputable def P_X12_isName (K : Sh_)  : List (Nat × Op_) := [(0, o_ald 0 1),
  (1, o_gI K 12 7),
  (4, o_ic 2 1),
  (5, o_cmpeq 10),
  (8, o_ic 0 1),
  (9, o_zret),
  (10, o_ic 0 1),
  (11, o_ist 1 1),
  (12, o_ild 1 1),
  (13, o_ic 19 2),
  (15, o_cmpgt 38),
  (18, o_ald 0 1),
  (19, o_gJ K 12 12),
  (22, o_ild 1 1),
  (23, o_callS (f_X12_wordOf K) 1),
  (26, o_lcmp),
  (27, o_ifne 32),
  (30, o_ic 0 1),
  (31, o_zret),
  (32, o_inc 1 1),
  (35, o_goto 12),
  (38, o_ic 1 1),
  (39, o_zret)]
noncomputable def f_X12_isName (K : Sh_) : Fn_ := fn_ (P_X12_isName K) 2
set_option maxRecDepth 100000 in
theorem a_X12_isName {l : Launch} {E : En_} (hE : EOK_ E)   : All_ (Snd_ l E yX12_isName.cls cX12_isName 2 (some .boolean) (.code yX12_isName cX12_isName 2 (some .boolean) :: G_) (rm_ 3)) (P_X12_isName E.2.2.2.1 ) :=
  all_c (s_ald_n (q := 0) (by decide +kernel) rfl)
  <| all_c (g_12_7 (by decide +kernel) fl_RX12_119)
  <| all_c (s_iconst (n := 2) (by decide +kernel) (by decide))
  <| all_c (s_cmpeq (off := 5) (by decide +kernel) (by decide))
  <| all_c (s_iconst (n := 0) (by decide +kernel) (by decide))
  <| all_c (s_zret (by decide +kernel) rfl)
  <| all_c (s_iconst (n := 0) (by decide +kernel) (by decide))
  <| all_c (s_ist_n (q := 1) (by decide +kernel) rfl)
  <| all_c (s_ild_n (q := 1) (by decide +kernel) rfl)
  <| all_c (s_bipush (n := 19) (by decide +kernel) (by decide))
  <| all_c (s_cmpgt (off := 23) (by decide +kernel) (by decide))
  <| all_c (s_ald_n (q := 0) (by decide +kernel) rfl)
  <| all_c (g_12_12 (by decide +kernel) fl_RX12_132)
  <| all_c (s_ild_n (q := 1) (by decide +kernel) rfl)
  <| all_c (s_callS (by decide +kernel) (t_X12_wordOf hE) cl_X12_wordOf ml_RX12_151 sm_X12_wordOf (rm_lt (by decide)))
  <| all_c (s_lcmp (by decide +kernel))
  <| all_c (s_ifne (off := 5) (by decide +kernel) (by decide))
  <| all_c (s_iconst (n := 0) (by decide +kernel) (by decide))
  <| all_c (s_zret (by decide +kernel) rfl)
  <| all_c (s_inc (n := 1) (by decide +kernel) (by decide))
  <| all_c (s_goto (off := (-23)) (by decide +kernel) (by decide))
  <| all_c (s_iconst (n := 1) (by decide +kernel) (by decide))
  <| all_c (s_zret (by decide +kernel) rfl)
  <| all_n
theorem t_X12_isName {l : Launch} {E : En_} (hE : EOK_ E) : Good_ l E yX12_isName (.code yX12_isName cX12_isName 2 (some .boolean) :: G_) (rm_ 3) (f_X12_isName E.2.2.2.1) := good_all hE (by decide +kernel) (a_X12_isName hE)
noncomputable def P_X12_bad (K : Sh_)  : List (Nat × Op_) := [(0, o_ald 0 1),
  (1, o_ald 0 1),
  (2, o_gI K 12 7),
  (5, o_ic 1 1),
  (6, o_cmpne 13),
  (9, o_ic 1 1),
  (10, o_goto 14),
  (13, o_ild 1 1),
  (14, o_pI K 12 10),
  (17, o_ald 0 1),
  (18, o_ald 0 1),
  (19, o_gI K 12 6),
  (22, o_pI K 12 11),
  (25, o_ic 0 1),
  (26, o_zret)]
noncomputable def f_X12_bad (K : Sh_) : Fn_ := fn_ (P_X12_bad K) 2
set_option maxRecDepth 100000 in
theorem a_X12_bad {l : Launch} {E : En_} (hE : EOK_ E)   : All_ (Snd_ l E yX12_bad.cls cX12_bad 2 (some .boolean) (.code yX12_bad cX12_bad 2 (some .boolean) :: G_) (rm_ 1)) (P_X12_bad E.2.2.2.1 ) :=
  all_c (s_ald_n (q := 0) (by decide +kernel) rfl)
  <| all_c (s_ald_n (q := 0) (by decide +kernel) rfl)
  <| all_c (g_12_7 (by decide +kernel) fl_RX12_119)
  <| all_c (s_iconst (n := 1) (by decide +kernel) (by decide))
  <| all_c (s_cmpne (off := 7) (by decide +kernel) (by decide))
  <| all_c (s_iconst (n := 1) (by decide +kernel) (by decide))
  <| all_c (s_goto (off := 4) (by decide +kernel) (by decide))
  <| all_c (s_ild_n (q := 1) (by decide +kernel) rfl)
  <| all_c (p_12_10 (by decide +kernel) fl_RX12_155)
  <| all_c (s_ald_n (q := 0) (by decide +kernel) rfl)
  <| all_c (s_ald_n (q := 0) (by decide +kernel) rfl)
  <| all_c (g_12_6 (by decide +kernel) fl_RX12_113)
  <| all_c (p_12_11 (by decide +kernel) fl_RX12_158)
  <| all_c (s_iconst (n := 0) (by decide +kernel) (by decide))
  <| all_c (s_zret (by decide +kernel) rfl)
  <| all_n
theorem t_X12_bad {l : Launch} {E : En_} (hE : EOK_ E) : Good_ l E yX12_bad (.code yX12_bad cX12_bad 2 (some .boolean) :: G_) (rm_ 1) (f_X12_bad E.2.2.2.1) := good_all hE (by decide +kernel) (a_X12_bad hE)
noncomputable def P_X12_readNumber (K : Sh_)  : List (Nat × Op_) := [(0, o_ald 0 1),
  (1, o_gI K 12 7),
  (4, o_ic 3 1),
  (5, o_cmpeq 14),
  (8, o_ald 0 1),
  (9, o_ic 1 1),
  (10, o_callV K 12 (f_X12_bad K) 1),
  (13, o_zret),
  (14, o_ald 0 1),
  (15, o_gI K 12 8),
  (18, o_ild 1 1),
  (19, o_ild 2 1),
  (20, o_callS (f_X12_isIn K) 3),
  (23, o_ifne 32),
  (26, o_ald 0 1),
  (27, o_ic 2 1),
  (28, o_callV K 12 (f_X12_bad K) 1),
  (31, o_zret),
  (32, o_ald 0 1),
  (33, o_ald 0 1),
  (34, o_gI K 12 8),
  (37, o_pI K 12 13),
  (40, o_ald 0 1),
  (41, o_callV K 12 (f_X12_go K) 0),
  (44, o_ic 1 1),
  (45, o_zret)]
noncomputable def f_X12_readNumber (K : Sh_) : Fn_ := fn_ (P_X12_readNumber K) 3
set_option maxRecDepth 100000 in
theorem a_X12_readNumber {l : Launch} {E : En_} (hE : EOK_ E)   : All_ (Snd_ l E yX12_readNumber.cls cX12_readNumber 3 (some .boolean) (.code yX12_readNumber cX12_readNumber 3 (some .boolean) :: G_) (rm_ 3)) (P_X12_readNumber E.2.2.2.1 ) :=
  all_c (s_ald_n (q := 0) (by decide +kernel) rfl)
  <| all_c (g_12_7 (by decide +kernel) fl_RX12_119)
  <| all_c (s_iconst (n := 3) (by decide +kernel) (by decide))
  <| all_c (s_cmpeq (off := 9) (by decide +kernel) (by decide))
  <| all_c (s_ald_n (q := 0) (by decide +kernel) rfl)
  <| all_c (s_iconst (n := 1) (by decide +kernel) (by decide))
  <| all_c (s_callV (by decide +kernel) (t_X12_bad hE) cl_X12_bad ml_RX12_161 im_X12_bad se_X12_bad (by decide) rfl (rm_lt (by decide)))
  <| all_c (s_zret (by decide +kernel) rfl)
  <| all_c (s_ald_n (q := 0) (by decide +kernel) rfl)
  <| all_c (g_12_8 (by decide +kernel) fl_RX12_136)
  <| all_c (s_ild_n (q := 1) (by decide +kernel) rfl)
  <| all_c (s_ild_n (q := 2) (by decide +kernel) rfl)
  <| all_c (s_callS (by decide +kernel) (t_X12_isIn hE) cl_X12_isIn ml_RX12_164 sm_X12_isIn (rm_lt (by decide)))
  <| all_c (s_ifne (off := 9) (by decide +kernel) (by decide))
  <| all_c (s_ald_n (q := 0) (by decide +kernel) rfl)
  <| all_c (s_iconst (n := 2) (by decide +kernel) (by decide))
  <| all_c (s_callV (by decide +kernel) (t_X12_bad hE) cl_X12_bad ml_RX12_161 im_X12_bad se_X12_bad (by decide) rfl (rm_lt (by decide)))
  <| all_c (s_zret (by decide +kernel) rfl)
  <| all_c (s_ald_n (q := 0) (by decide +kernel) rfl)
  <| all_c (s_ald_n (q := 0) (by decide +kernel) rfl)
  <| all_c (g_12_8 (by decide +kernel) fl_RX12_136)
  <| all_c (p_12_13 (by decide +kernel) fl_RX12_168)
  <| all_c (s_ald_n (q := 0) (by decide +kernel) rfl)
  <| all_c (s_callV (by decide +kernel) (t_X12_go hE) cl_X12_go ml_RX12_171 im_X12_go se_X12_go (by decide) rfl (rm_lt (by decide)))
  <| all_c (s_iconst (n := 1) (by decide +kernel) (by decide))
  <| all_c (s_zret (by decide +kernel) rfl)
  <| all_n
theorem t_X12_readNumber {l : Launch} {E : En_} (hE : EOK_ E) : Good_ l E yX12_readNumber (.code yX12_readNumber cX12_readNumber 3 (some .boolean) :: G_) (rm_ 3) (f_X12_readNumber E.2.2.2.1) := good_all hE (by decide +kernel) (a_X12_readNumber hE)
noncomputable def P_X12_readEnd (K : Sh_)  : List (Nat × Op_) := [(0, o_ald 0 1),
  (1, o_ic 59 2),
  (3, o_callV K 12 (f_X12_isSign K) 1),
  (6, o_ifne 15),
  (9, o_ald 0 1),
  (10, o_ic 1 1),
  (11, o_callV K 12 (f_X12_bad K) 1),
  (14, o_zret),
  (15, o_ald 0 1),
  (16, o_callV K 12 (f_X12_go K) 0),
  (19, o_ic 1 1),
  (20, o_zret)]
noncomputable def f_X12_readEnd (K : Sh_) : Fn_ := fn_ (P_X12_readEnd K) 1
set_option maxRecDepth 100000 in
theorem a_X12_readEnd {l : Launch} {E : En_} (hE : EOK_ E)   : All_ (Snd_ l E yX12_readEnd.cls cX12_readEnd 1 (some .boolean) (.code yX12_readEnd cX12_readEnd 1 (some .boolean) :: G_) (rm_ 3)) (P_X12_readEnd E.2.2.2.1 ) :=
  all_c (s_ald_n (q := 0) (by decide +kernel) rfl)
  <| all_c (s_bipush (n := 59) (by decide +kernel) (by decide))
  <| all_c (s_callV (by decide +kernel) (t_X12_isSign hE) cl_X12_isSign ml_RX12_174 im_X12_isSign se_X12_isSign (by decide) rfl (rm_lt (by decide)))
  <| all_c (s_ifne (off := 9) (by decide +kernel) (by decide))
  <| all_c (s_ald_n (q := 0) (by decide +kernel) rfl)
  <| all_c (s_iconst (n := 1) (by decide +kernel) (by decide))
  <| all_c (s_callV (by decide +kernel) (t_X12_bad hE) cl_X12_bad ml_RX12_161 im_X12_bad se_X12_bad (by decide) rfl (rm_lt (by decide)))
  <| all_c (s_zret (by decide +kernel) rfl)
  <| all_c (s_ald_n (q := 0) (by decide +kernel) rfl)
  <| all_c (s_callV (by decide +kernel) (t_X12_go hE) cl_X12_go ml_RX12_171 im_X12_go se_X12_go (by decide) rfl (rm_lt (by decide)))
  <| all_c (s_iconst (n := 1) (by decide +kernel) (by decide))
  <| all_c (s_zret (by decide +kernel) rfl)
  <| all_n
theorem t_X12_readEnd {l : Launch} {E : En_} (hE : EOK_ E) : Good_ l E yX12_readEnd (.code yX12_readEnd cX12_readEnd 1 (some .boolean) :: G_) (rm_ 3) (f_X12_readEnd E.2.2.2.1) := good_all hE (by decide +kernel) (a_X12_readEnd hE)
noncomputable def P_X12_lay (K : Sh_)  : List (Nat × Op_) := [(0, o_ald 0 1),
  (1, o_gI K 12 21),
  (4, o_ifeq 8),
  (7, o_vret),
  (8, o_ald 0 1),
  (9, o_ic 1 1),
  (10, o_pZ K 12 21),
  (13, o_ald 0 1),
  (14, o_gF K 12 14),
  (17, o_ic 2 1),
  (18, o_ic 20 2),
  (20, o_iast K),
  (21, o_ald 0 1),
  (22, o_gF K 12 14),
  (25, o_ic 3 1),
  (26, o_ic 8 2),
  (28, o_iast K),
  (29, o_vret)]
noncomputable def f_X12_lay (K : Sh_) : Fn_ := fn_ (P_X12_lay K) 1
set_option maxRecDepth 100000 in
theorem a_X12_lay {l : Launch} {E : En_} (hE : EOK_ E)   : All_ (Snd_ l E yX12_lay.cls cX12_lay 1 (none) (.code yX12_lay cX12_lay 1 (none) :: G_) (rm_ 1)) (P_X12_lay E.2.2.2.1 ) :=
  all_c (s_ald_n (q := 0) (by decide +kernel) rfl)
  <| all_c (g_12_21 (by decide +kernel) fl_RX12_184)
  <| all_c (s_ifeq (off := 4) (by decide +kernel) (by decide))
  <| all_c (s_vret (by decide +kernel) rfl)
  <| all_c (s_ald_n (q := 0) (by decide +kernel) rfl)
  <| all_c (s_iconst (n := 1) (by decide +kernel) (by decide))
  <| all_c (p_12_21 (by decide +kernel) fl_RX12_184)
  <| all_c (s_ald_n (q := 0) (by decide +kernel) rfl)
  <| all_c (g_12_14 (by decide +kernel) fl_RX12_13)
  <| all_c (s_iconst (n := 2) (by decide +kernel) (by decide))
  <| all_c (s_bipush (n := 20) (by decide +kernel) (by decide))
  <| all_c (s_iast (by decide +kernel))
  <| all_c (s_ald_n (q := 0) (by decide +kernel) rfl)
  <| all_c (g_12_14 (by decide +kernel) fl_RX12_13)
  <| all_c (s_iconst (n := 3) (by decide +kernel) (by decide))
  <| all_c (s_bipush (n := 8) (by decide +kernel) (by decide))
  <| all_c (s_iast (by decide +kernel))
  <| all_c (s_vret (by decide +kernel) rfl)
  <| all_n
theorem t_X12_lay {l : Launch} {E : En_} (hE : EOK_ E) : Good_ l E yX12_lay (.code yX12_lay cX12_lay 1 (none) :: G_) (rm_ 1) (f_X12_lay E.2.2.2.1) := good_all hE (by decide +kernel) (a_X12_lay hE)
noncomputable def P_X12_begin (K : Sh_)  : List (Nat × Op_) := [(0, o_ald 0 1),
  (1, o_ic 0 1),
  (2, o_pI K 12 0),
  (5, o_ald 0 1),
  (6, o_callV K 12 (f_X12_lay K) 0),
  (9, o_ald 0 1),
  (10, o_ald 0 1),
  (11, o_callV K 12 (f_X12_take K) 0),
  (14, o_pI K 12 3),
  (17, o_ald 0 1),
  (18, o_ild 1 1),
  (19, o_pI K 12 4),
  (22, o_ald 0 1),
  (23, o_ic 0 1),
  (24, o_pI K 12 10),
  (27, o_ald 0 1),
  (28, o_ic 0 1),
  (29, o_pI K 12 5),
  (32, o_ald 0 1),
  (33, o_callV K 12 (f_X12_go K) 0),
  (36, o_vret)]
noncomputable def f_X12_begin (K : Sh_) : Fn_ := fn_ (P_X12_begin K) 2
set_option maxRecDepth 100000 in
theorem a_X12_begin {l : Launch} {E : En_} (hE : EOK_ E)   : All_ (Snd_ l E yX12_begin.cls cX12_begin 2 (none) (.code yX12_begin cX12_begin 2 (none) :: G_) (rm_ 3)) (P_X12_begin E.2.2.2.1 ) :=
  all_c (s_ald_n (q := 0) (by decide +kernel) rfl)
  <| all_c (s_iconst (n := 0) (by decide +kernel) (by decide))
  <| all_c (p_12_0 (by decide +kernel) fl_RX12_97)
  <| all_c (s_ald_n (q := 0) (by decide +kernel) rfl)
  <| all_c (s_callV (by decide +kernel) (t_X12_lay hE) cl_X12_lay ml_RX12_177 im_X12_lay se_X12_lay (by decide) rfl (rm_lt (by decide)))
  <| all_c (s_ald_n (q := 0) (by decide +kernel) rfl)
  <| all_c (s_ald_n (q := 0) (by decide +kernel) rfl)
  <| all_c (s_callV (by decide +kernel) (t_X12_take hE) cl_X12_take ml_RX12_180 im_X12_take se_X12_take (by decide) rfl (rm_lt (by decide)))
  <| all_c (p_12_3 (by decide +kernel) fl_RX12_107)
  <| all_c (s_ald_n (q := 0) (by decide +kernel) rfl)
  <| all_c (s_ild_n (q := 1) (by decide +kernel) rfl)
  <| all_c (p_12_4 (by decide +kernel) fl_RX12_116)
  <| all_c (s_ald_n (q := 0) (by decide +kernel) rfl)
  <| all_c (s_iconst (n := 0) (by decide +kernel) (by decide))
  <| all_c (p_12_10 (by decide +kernel) fl_RX12_155)
  <| all_c (s_ald_n (q := 0) (by decide +kernel) rfl)
  <| all_c (s_iconst (n := 0) (by decide +kernel) (by decide))
  <| all_c (p_12_5 (by decide +kernel) fl_RX12_110)
  <| all_c (s_ald_n (q := 0) (by decide +kernel) rfl)
  <| all_c (s_callV (by decide +kernel) (t_X12_go hE) cl_X12_go ml_RX12_171 im_X12_go se_X12_go (by decide) rfl (rm_lt (by decide)))
  <| all_c (s_vret (by decide +kernel) rfl)
  <| all_n
theorem t_X12_begin {l : Launch} {E : En_} (hE : EOK_ E) : Good_ l E yX12_begin (.code yX12_begin cX12_begin 2 (none) :: G_) (rm_ 3) (f_X12_begin E.2.2.2.1) := good_all hE (by decide +kernel) (a_X12_begin hE)
noncomputable def P_X12_chaps (K : Sh_)  : List (Nat × Op_) := [(0, o_ald 0 1),
  (1, o_gF K 12 14),
  (4, o_ic 0 1),
  (5, o_iald K),
  (6, o_iret)]
noncomputable def f_X12_chaps (K : Sh_) : Fn_ := fn_ (P_X12_chaps K) 1
set_option maxRecDepth 100000 in
theorem a_X12_chaps {l : Launch} {E : En_} (hE : EOK_ E)   : All_ (Snd_ l E yX12_chaps.cls cX12_chaps 1 (some .int) (.code yX12_chaps cX12_chaps 1 (some .int) :: G_) (rm_ 1)) (P_X12_chaps E.2.2.2.1 ) :=
  all_c (s_ald_n (q := 0) (by decide +kernel) rfl)
  <| all_c (g_12_14 (by decide +kernel) fl_RX12_13)
  <| all_c (s_iconst (n := 0) (by decide +kernel) (by decide))
  <| all_c (s_iald (by decide +kernel))
  <| all_c (s_iret (by decide +kernel) rfl)
  <| all_n
theorem t_X12_chaps {l : Launch} {E : En_} (hE : EOK_ E) : Good_ l E yX12_chaps (.code yX12_chaps cX12_chaps 1 (some .int) :: G_) (rm_ 1) (f_X12_chaps E.2.2.2.1) := good_all hE (by decide +kernel) (a_X12_chaps hE)
noncomputable def P_X12_readers (K : Sh_)  : List (Nat × Op_) := [(0, o_ald 0 1),
  (1, o_gF K 12 14),
  (4, o_ic 1 1),
  (5, o_iald K),
  (6, o_iret)]
noncomputable def f_X12_readers (K : Sh_) : Fn_ := fn_ (P_X12_readers K) 1
set_option maxRecDepth 100000 in
theorem a_X12_readers {l : Launch} {E : En_} (hE : EOK_ E)   : All_ (Snd_ l E yX12_readers.cls cX12_readers 1 (some .int) (.code yX12_readers cX12_readers 1 (some .int) :: G_) (rm_ 1)) (P_X12_readers E.2.2.2.1 ) :=
  all_c (s_ald_n (q := 0) (by decide +kernel) rfl)
  <| all_c (g_12_14 (by decide +kernel) fl_RX12_13)
  <| all_c (s_iconst (n := 1) (by decide +kernel) (by decide))
  <| all_c (s_iald (by decide +kernel))
  <| all_c (s_iret (by decide +kernel) rfl)
  <| all_n
theorem t_X12_readers {l : Launch} {E : En_} (hE : EOK_ E) : Good_ l E yX12_readers (.code yX12_readers cX12_readers 1 (some .int) :: G_) (rm_ 1) (f_X12_readers E.2.2.2.1) := good_all hE (by decide +kernel) (a_X12_readers hE)
noncomputable def P_X12_isChap (K : Sh_)  : List (Nat × Op_) := [(0, o_ild 1 1),
  (1, o_iflt 16),
  (4, o_ild 1 1),
  (5, o_ald 0 1),
  (6, o_callV K 12 (f_X12_chaps K) 0),
  (9, o_cmpge 16),
  (12, o_ic 1 1),
  (13, o_goto 17),
  (16, o_ic 0 1),
  (17, o_zret)]
noncomputable def f_X12_isChap (K : Sh_) : Fn_ := fn_ (P_X12_isChap K) 2
set_option maxRecDepth 100000 in
theorem a_X12_isChap {l : Launch} {E : En_} (hE : EOK_ E)   : All_ (Snd_ l E yX12_isChap.cls cX12_isChap 2 (some .boolean) (.code yX12_isChap cX12_isChap 2 (some .boolean) :: G_) (rm_ 2)) (P_X12_isChap E.2.2.2.1 ) :=
  all_c (s_ild_n (q := 1) (by decide +kernel) rfl)
  <| all_c (s_iflt (off := 15) (by decide +kernel) (by decide))
  <| all_c (s_ild_n (q := 1) (by decide +kernel) rfl)
  <| all_c (s_ald_n (q := 0) (by decide +kernel) rfl)
  <| all_c (s_callV (by decide +kernel) (t_X12_chaps hE) cl_X12_chaps ml_RX12_188 im_X12_chaps se_X12_chaps (by decide) rfl (rm_lt (by decide)))
  <| all_c (s_cmpge (off := 7) (by decide +kernel) (by decide))
  <| all_c (s_iconst (n := 1) (by decide +kernel) (by decide))
  <| all_c (s_goto (off := 4) (by decide +kernel) (by decide))
  <| all_c (s_iconst (n := 0) (by decide +kernel) (by decide))
  <| all_c (s_zret (by decide +kernel) rfl)
  <| all_n
theorem t_X12_isChap {l : Launch} {E : En_} (hE : EOK_ E) : Good_ l E yX12_isChap (.code yX12_isChap cX12_isChap 2 (some .boolean) :: G_) (rm_ 2) (f_X12_isChap E.2.2.2.1) := good_all hE (by decide +kernel) (a_X12_isChap hE)
noncomputable def P_X12_isReader (K : Sh_)  : List (Nat × Op_) := [(0, o_ild 1 1),
  (1, o_iflt 16),
  (4, o_ild 1 1),
  (5, o_ald 0 1),
  (6, o_callV K 12 (f_X12_readers K) 0),
  (9, o_cmpge 16),
  (12, o_ic 1 1),
  (13, o_goto 17),
  (16, o_ic 0 1),
  (17, o_zret)]
noncomputable def f_X12_isReader (K : Sh_) : Fn_ := fn_ (P_X12_isReader K) 2
set_option maxRecDepth 100000 in
theorem a_X12_isReader {l : Launch} {E : En_} (hE : EOK_ E)   : All_ (Snd_ l E yX12_isReader.cls cX12_isReader 2 (some .boolean) (.code yX12_isReader cX12_isReader 2 (some .boolean) :: G_) (rm_ 2)) (P_X12_isReader E.2.2.2.1 ) :=
  all_c (s_ild_n (q := 1) (by decide +kernel) rfl)
  <| all_c (s_iflt (off := 15) (by decide +kernel) (by decide))
  <| all_c (s_ild_n (q := 1) (by decide +kernel) rfl)
  <| all_c (s_ald_n (q := 0) (by decide +kernel) rfl)
  <| all_c (s_callV (by decide +kernel) (t_X12_readers hE) cl_X12_readers ml_RX12_191 im_X12_readers se_X12_readers (by decide) rfl (rm_lt (by decide)))
  <| all_c (s_cmpge (off := 7) (by decide +kernel) (by decide))
  <| all_c (s_iconst (n := 1) (by decide +kernel) (by decide))
  <| all_c (s_goto (off := 4) (by decide +kernel) (by decide))
  <| all_c (s_iconst (n := 0) (by decide +kernel) (by decide))
  <| all_c (s_zret (by decide +kernel) rfl)
  <| all_n
theorem t_X12_isReader {l : Launch} {E : En_} (hE : EOK_ E) : Good_ l E yX12_isReader (.code yX12_isReader cX12_isReader 2 (some .boolean) :: G_) (rm_ 2) (f_X12_isReader E.2.2.2.1) := good_all hE (by decide +kernel) (a_X12_isReader hE)
noncomputable def P_X12_chapOf (K : Sh_)  : List (Nat × Op_) := [(0, o_ald 0 1),
  (1, o_gF K 12 14),
  (4, o_ic 10 2),
  (6, o_ic 4 1),
  (7, o_ild 1 1),
  (8, o_imul),
  (9, o_iadd),
  (10, o_ild 2 1),
  (11, o_iadd),
  (12, o_iald K),
  (13, o_iret)]
noncomputable def f_X12_chapOf (K : Sh_) : Fn_ := fn_ (P_X12_chapOf K) 3
set_option maxRecDepth 100000 in
theorem a_X12_chapOf {l : Launch} {E : En_} (hE : EOK_ E)   : All_ (Snd_ l E yX12_chapOf.cls cX12_chapOf 3 (some .int) (.code yX12_chapOf cX12_chapOf 3 (some .int) :: G_) (rm_ 1)) (P_X12_chapOf E.2.2.2.1 ) :=
  all_c (s_ald_n (q := 0) (by decide +kernel) rfl)
  <| all_c (g_12_14 (by decide +kernel) fl_RX12_13)
  <| all_c (s_bipush (n := 10) (by decide +kernel) (by decide))
  <| all_c (s_iconst (n := 4) (by decide +kernel) (by decide))
  <| all_c (s_ild_n (q := 1) (by decide +kernel) rfl)
  <| all_c (s_imul (by decide +kernel))
  <| all_c (s_iadd (by decide +kernel))
  <| all_c (s_ild_n (q := 2) (by decide +kernel) rfl)
  <| all_c (s_iadd (by decide +kernel))
  <| all_c (s_iald (by decide +kernel))
  <| all_c (s_iret (by decide +kernel) rfl)
  <| all_n
theorem t_X12_chapOf {l : Launch} {E : En_} (hE : EOK_ E) : Good_ l E yX12_chapOf (.code yX12_chapOf cX12_chapOf 3 (some .int) :: G_) (rm_ 1) (f_X12_chapOf E.2.2.2.1) := good_all hE (by decide +kernel) (a_X12_chapOf hE)
noncomputable def P_X12_readerOf (K : Sh_)  : List (Nat × Op_) := [(0, o_ald 0 1),
  (1, o_gF K 12 14),
  (4, o_ic 80 2),
  (6, o_ic 5 1),
  (7, o_ild 1 1),
  (8, o_imul),
  (9, o_iadd),
  (10, o_ild 2 1),
  (11, o_iadd),
  (12, o_iald K),
  (13, o_iret)]
noncomputable def f_X12_readerOf (K : Sh_) : Fn_ := fn_ (P_X12_readerOf K) 3
set_option maxRecDepth 100000 in
theorem a_X12_readerOf {l : Launch} {E : En_} (hE : EOK_ E)   : All_ (Snd_ l E yX12_readerOf.cls cX12_readerOf 3 (some .int) (.code yX12_readerOf cX12_readerOf 3 (some .int) :: G_) (rm_ 1)) (P_X12_readerOf E.2.2.2.1 ) :=
  all_c (s_ald_n (q := 0) (by decide +kernel) rfl)
  <| all_c (g_12_14 (by decide +kernel) fl_RX12_13)
  <| all_c (s_bipush (n := 80) (by decide +kernel) (by decide))
  <| all_c (s_iconst (n := 5) (by decide +kernel) (by decide))
  <| all_c (s_ild_n (q := 1) (by decide +kernel) rfl)
  <| all_c (s_imul (by decide +kernel))
  <| all_c (s_iadd (by decide +kernel))
  <| all_c (s_ild_n (q := 2) (by decide +kernel) rfl)
  <| all_c (s_iadd (by decide +kernel))
  <| all_c (s_iald (by decide +kernel))
  <| all_c (s_iret (by decide +kernel) rfl)
  <| all_n
theorem t_X12_readerOf {l : Launch} {E : En_} (hE : EOK_ E) : Good_ l E yX12_readerOf (.code yX12_readerOf cX12_readerOf 3 (some .int) :: G_) (rm_ 1) (f_X12_readerOf E.2.2.2.1) := good_all hE (by decide +kernel) (a_X12_readerOf hE)
noncomputable def P_X12_leanOf (K : Sh_)  : List (Nat × Op_) := [(0, o_ald 0 1),
  (1, o_gF K 12 14),
  (4, o_ic 130 3),
  (7, o_ic 16 2),
  (9, o_ild 1 1),
  (10, o_imul),
  (11, o_iadd),
  (12, o_ild 2 1),
  (13, o_iadd),
  (14, o_iald K),
  (15, o_iret)]
noncomputable def f_X12_leanOf (K : Sh_) : Fn_ := fn_ (P_X12_leanOf K) 3
set_option maxRecDepth 100000 in
theorem a_X12_leanOf {l : Launch} {E : En_} (hE : EOK_ E)   : All_ (Snd_ l E yX12_leanOf.cls cX12_leanOf 3 (some .int) (.code yX12_leanOf cX12_leanOf 3 (some .int) :: G_) (rm_ 1)) (P_X12_leanOf E.2.2.2.1 ) :=
  all_c (s_ald_n (q := 0) (by decide +kernel) rfl)
  <| all_c (g_12_14 (by decide +kernel) fl_RX12_13)
  <| all_c (s_sipush (n := 130) (by decide +kernel) (by decide))
  <| all_c (s_bipush (n := 16) (by decide +kernel) (by decide))
  <| all_c (s_ild_n (q := 1) (by decide +kernel) rfl)
  <| all_c (s_imul (by decide +kernel))
  <| all_c (s_iadd (by decide +kernel))
  <| all_c (s_ild_n (q := 2) (by decide +kernel) rfl)
  <| all_c (s_iadd (by decide +kernel))
  <| all_c (s_iald (by decide +kernel))
  <| all_c (s_iret (by decide +kernel) rfl)
  <| all_n
theorem t_X12_leanOf {l : Launch} {E : En_} (hE : EOK_ E) : Good_ l E yX12_leanOf (.code yX12_leanOf cX12_leanOf 3 (some .int) :: G_) (rm_ 1) (f_X12_leanOf E.2.2.2.1) := good_all hE (by decide +kernel) (a_X12_leanOf hE)
noncomputable def P_X12_findRead (K : Sh_)  : List (Nat × Op_) := [(0, o_ic 0 1),
  (1, o_ist 1 1),
  (2, o_ild 1 1),
  (3, o_ald 0 1),
  (4, o_gF K 12 15),
  (7, o_ic 0 1),
  (8, o_iald K),
  (9, o_cmpge 34),
  (12, o_ald 0 1),
  (13, o_gF K 12 18),
  (16, o_ild 1 1),
  (17, o_lald K),
  (18, o_ald 0 1),
  (19, o_gJ K 12 12),
  (22, o_lcmp),
  (23, o_ifne 28),
  (26, o_ild 1 1),
  (27, o_iret),
  (28, o_inc 1 1),
  (31, o_goto 2),
  (34, o_ic 0 1),
  (35, o_ist 1 1),
  (36, o_ild 1 1),
  (37, o_ald 0 1),
  (38, o_gF K 12 15),
  (41, o_ic 1 1),
  (42, o_iald K),
  (43, o_cmpge 74),
  (46, o_ald 0 1),
  (47, o_gF K 12 18),
  (50, o_ic 16 2),
  (52, o_ild 1 1),
  (53, o_iadd),
  (54, o_lald K),
  (55, o_ald 0 1),
  (56, o_gJ K 12 12),
  (59, o_lcmp),
  (60, o_ifne 68),
  (63, o_ic 16 2),
  (65, o_ild 1 1),
  (66, o_iadd),
  (67, o_iret),
  (68, o_inc 1 1),
  (71, o_goto 36),
  (74, o_ic (-1) 1),
  (75, o_iret)]
noncomputable def f_X12_findRead (K : Sh_) : Fn_ := fn_ (P_X12_findRead K) 2
set_option maxRecDepth 100000 in
theorem a_X12_findRead {l : Launch} {E : En_} (hE : EOK_ E)   : All_ (Snd_ l E yX12_findRead.cls cX12_findRead 2 (some .int) (.code yX12_findRead cX12_findRead 2 (some .int) :: G_) (rm_ 1)) (P_X12_findRead E.2.2.2.1 ) :=
  all_c (s_iconst (n := 0) (by decide +kernel) (by decide))
  <| all_c (s_ist_n (q := 1) (by decide +kernel) rfl)
  <| all_c (s_ild_n (q := 1) (by decide +kernel) rfl)
  <| all_c (s_ald_n (q := 0) (by decide +kernel) rfl)
  <| all_c (g_12_15 (by decide +kernel) fl_RX12_16)
  <| all_c (s_iconst (n := 0) (by decide +kernel) (by decide))
  <| all_c (s_iald (by decide +kernel))
  <| all_c (s_cmpge (off := 25) (by decide +kernel) (by decide))
  <| all_c (s_ald_n (q := 0) (by decide +kernel) rfl)
  <| all_c (g_12_18 (by decide +kernel) fl_RX12_26)
  <| all_c (s_ild_n (q := 1) (by decide +kernel) rfl)
  <| all_c (s_lald (by decide +kernel))
  <| all_c (s_ald_n (q := 0) (by decide +kernel) rfl)
  <| all_c (g_12_12 (by decide +kernel) fl_RX12_132)
  <| all_c (s_lcmp (by decide +kernel))
  <| all_c (s_ifne (off := 5) (by decide +kernel) (by decide))
  <| all_c (s_ild_n (q := 1) (by decide +kernel) rfl)
  <| all_c (s_iret (by decide +kernel) rfl)
  <| all_c (s_inc (n := 1) (by decide +kernel) (by decide))
  <| all_c (s_goto (off := (-29)) (by decide +kernel) (by decide))
  <| all_c (s_iconst (n := 0) (by decide +kernel) (by decide))
  <| all_c (s_ist_n (q := 1) (by decide +kernel) rfl)
  <| all_c (s_ild_n (q := 1) (by decide +kernel) rfl)
  <| all_c (s_ald_n (q := 0) (by decide +kernel) rfl)
  <| all_c (g_12_15 (by decide +kernel) fl_RX12_16)
  <| all_c (s_iconst (n := 1) (by decide +kernel) (by decide))
  <| all_c (s_iald (by decide +kernel))
  <| all_c (s_cmpge (off := 31) (by decide +kernel) (by decide))
  <| all_c (s_ald_n (q := 0) (by decide +kernel) rfl)
  <| all_c (g_12_18 (by decide +kernel) fl_RX12_26)
  <| all_c (s_bipush (n := 16) (by decide +kernel) (by decide))
  <| all_c (s_ild_n (q := 1) (by decide +kernel) rfl)
  <| all_c (s_iadd (by decide +kernel))
  <| all_c (s_lald (by decide +kernel))
  <| all_c (s_ald_n (q := 0) (by decide +kernel) rfl)
  <| all_c (g_12_12 (by decide +kernel) fl_RX12_132)
  <| all_c (s_lcmp (by decide +kernel))
  <| all_c (s_ifne (off := 8) (by decide +kernel) (by decide))
  <| all_c (s_bipush (n := 16) (by decide +kernel) (by decide))
  <| all_c (s_ild_n (q := 1) (by decide +kernel) rfl)
  <| all_c (s_iadd (by decide +kernel))
  <| all_c (s_iret (by decide +kernel) rfl)
  <| all_c (s_inc (n := 1) (by decide +kernel) (by decide))
  <| all_c (s_goto (off := (-35)) (by decide +kernel) (by decide))
  <| all_c (s_iconst (n := (-1)) (by decide +kernel) (by decide))
  <| all_c (s_iret (by decide +kernel) rfl)
  <| all_n
theorem t_X12_findRead {l : Launch} {E : En_} (hE : EOK_ E) : Good_ l E yX12_findRead (.code yX12_findRead cX12_findRead 2 (some .int) :: G_) (rm_ 1) (f_X12_findRead E.2.2.2.1) := good_all hE (by decide +kernel) (a_X12_findRead hE)
noncomputable def P_X12_readNew (K : Sh_)  : List (Nat × Op_) := [(0, o_ald 0 1),
  (1, o_callV K 12 (f_X12_isName K) 0),
  (4, o_ifne 13),
  (7, o_ald 0 1),
  (8, o_ic 1 1),
  (9, o_callV K 12 (f_X12_bad K) 1),
  (12, o_zret),
  (13, o_ald 0 1),
  (14, o_callV K 12 (f_X12_findRead K) 0),
  (17, o_ic (-1) 1),
  (18, o_cmpeq 27),
  (21, o_ald 0 1),
  (22, o_ic 3 1),
  (23, o_callV K 12 (f_X12_bad K) 1),
  (26, o_zret),
  (27, o_ald 0 1),
  (28, o_gF K 12 18),
  (31, o_ild 1 1),
  (32, o_ald 0 1),
  (33, o_gJ K 12 12),
  (36, o_last K),
  (37, o_ald 0 1),
  (38, o_callV K 12 (f_X12_go K) 0),
  (41, o_ic 1 1),
  (42, o_zret)]
noncomputable def f_X12_readNew (K : Sh_) : Fn_ := fn_ (P_X12_readNew K) 2
set_option maxRecDepth 100000 in
theorem a_X12_readNew {l : Launch} {E : En_} (hE : EOK_ E)   : All_ (Snd_ l E yX12_readNew.cls cX12_readNew 2 (some .boolean) (.code yX12_readNew cX12_readNew 2 (some .boolean) :: G_) (rm_ 4)) (P_X12_readNew E.2.2.2.1 ) :=
  all_c (s_ald_n (q := 0) (by decide +kernel) rfl)
  <| all_c (s_callV (by decide +kernel) (t_X12_isName hE) cl_X12_isName ml_RX12_194 im_X12_isName se_X12_isName (by decide) rfl (rm_lt (by decide)))
  <| all_c (s_ifne (off := 9) (by decide +kernel) (by decide))
  <| all_c (s_ald_n (q := 0) (by decide +kernel) rfl)
  <| all_c (s_iconst (n := 1) (by decide +kernel) (by decide))
  <| all_c (s_callV (by decide +kernel) (t_X12_bad hE) cl_X12_bad ml_RX12_161 im_X12_bad se_X12_bad (by decide) rfl (rm_lt (by decide)))
  <| all_c (s_zret (by decide +kernel) rfl)
  <| all_c (s_ald_n (q := 0) (by decide +kernel) rfl)
  <| all_c (s_callV (by decide +kernel) (t_X12_findRead hE) cl_X12_findRead ml_RX12_198 im_X12_findRead se_X12_findRead (by decide) rfl (rm_lt (by decide)))
  <| all_c (s_iconst (n := (-1)) (by decide +kernel) (by decide))
  <| all_c (s_cmpeq (off := 9) (by decide +kernel) (by decide))
  <| all_c (s_ald_n (q := 0) (by decide +kernel) rfl)
  <| all_c (s_iconst (n := 3) (by decide +kernel) (by decide))
  <| all_c (s_callV (by decide +kernel) (t_X12_bad hE) cl_X12_bad ml_RX12_161 im_X12_bad se_X12_bad (by decide) rfl (rm_lt (by decide)))
  <| all_c (s_zret (by decide +kernel) rfl)
  <| all_c (s_ald_n (q := 0) (by decide +kernel) rfl)
  <| all_c (g_12_18 (by decide +kernel) fl_RX12_26)
  <| all_c (s_ild_n (q := 1) (by decide +kernel) rfl)
  <| all_c (s_ald_n (q := 0) (by decide +kernel) rfl)
  <| all_c (g_12_12 (by decide +kernel) fl_RX12_132)
  <| all_c (s_last (by decide +kernel))
  <| all_c (s_ald_n (q := 0) (by decide +kernel) rfl)
  <| all_c (s_callV (by decide +kernel) (t_X12_go hE) cl_X12_go ml_RX12_171 im_X12_go se_X12_go (by decide) rfl (rm_lt (by decide)))
  <| all_c (s_iconst (n := 1) (by decide +kernel) (by decide))
  <| all_c (s_zret (by decide +kernel) rfl)
  <| all_n
theorem t_X12_readNew {l : Launch} {E : En_} (hE : EOK_ E) : Good_ l E yX12_readNew (.code yX12_readNew cX12_readNew 2 (some .boolean) :: G_) (rm_ 4) (f_X12_readNew E.2.2.2.1) := good_all hE (by decide +kernel) (a_X12_readNew hE)
noncomputable def P_X12_readChap (K : Sh_)  : List (Nat × Op_) := [(0, o_ald 0 1),
  (1, o_gF K 12 15),
  (4, o_ic 0 1),
  (5, o_iald K),
  (6, o_ist 1 1),
  (7, o_ild 1 1),
  (8, o_ic 16 2),
  (10, o_cmpne 19),
  (13, o_ald 0 1),
  (14, o_ic 4 1),
  (15, o_callV K 12 (f_X12_bad K) 1),
  (18, o_zret),
  (19, o_ald 0 1),
  (20, o_callV K 12 (f_X12_go K) 0),
  (23, o_ald 0 1),
  (24, o_ild 1 1),
  (25, o_callV K 12 (f_X12_readNew K) 1),
  (28, o_ifeq 42),
  (31, o_ald 0 1),
  (32, o_ic 1 1),
  (33, o_ic 999 3),
  (36, o_callV K 12 (f_X12_readNumber K) 2),
  (39, o_ifne 44),
  (42, o_ic 0 1),
  (43, o_zret),
  (44, o_ald 0 1),
  (45, o_gF K 12 15),
  (48, o_ic 10 2),
  (50, o_ic 4 1),
  (51, o_ild 1 1),
  (52, o_imul),
  (53, o_iadd),
  (54, o_ic 0 1),
  (55, o_iadd),
  (56, o_ald 0 1),
  (57, o_gI K 12 13),
  (60, o_iast K),
  (61, o_ald 0 1),
  (62, o_ic 0 1),
  (63, o_ic 999 3),
  (66, o_callV K 12 (f_X12_readNumber K) 2),
  (69, o_ifne 74),
  (72, o_ic 0 1),
  (73, o_zret),
  (74, o_ald 0 1),
  (75, o_gF K 12 15),
  (78, o_ic 10 2),
  (80, o_ic 4 1),
  (81, o_ild 1 1),
  (82, o_imul),
  (83, o_iadd),
  (84, o_ic 1 1),
  (85, o_iadd),
  (86, o_ald 0 1),
  (87, o_gI K 12 13),
  (90, o_iast K),
  (91, o_ald 0 1),
  (92, o_gF K 12 15),
  (95, o_ic 10 2),
  (97, o_ic 4 1),
  (98, o_ild 1 1),
  (99, o_imul),
  (100, o_iadd),
  (101, o_ic 2 1),
  (102, o_iadd),
  (103, o_ic 0 1),
  (104, o_iast K),
  (105, o_ic 0 1),
  (106, o_aft [3] (o_ist 2 1)),
  (107, o_ild 2 1),
  (108, o_ic 16 2),
  (110, o_cmpge 135),
  (113, o_ald 0 1),
  (114, o_gF K 12 15),
  (117, o_ic 130 3),
  (120, o_ic 16 2),
  (122, o_ild 1 1),
  (123, o_imul),
  (124, o_iadd),
  (125, o_ild 2 1),
  (126, o_iadd),
  (127, o_ic 0 1),
  (128, o_iast K),
  (129, o_inc 2 1),
  (132, o_aft [3] (o_goto 107)),
  (135, o_ic 10 2),
  (137, o_aft [3] (o_ist 2 1)),
  (138, o_ald 0 1),
  (139, o_ic 4 1),
  (140, o_callV K 12 (f_X12_isWord K) 1),
  (143, o_ifeq 247),
  (146, o_ald 0 1),
  (147, o_callV K 12 (f_X12_go K) 0),
  (150, o_ald 0 1),
  (151, o_callV K 12 (f_X12_isName K) 0),
  (154, o_ifne 163),
  (157, o_ald 0 1),
  (158, o_ic 1 1),
  (159, o_callV K 12 (f_X12_bad K) 1),
  (162, o_zret),
  (163, o_ald 0 1),
  (164, o_callV K 12 (f_X12_findRead K) 0),
  (167, o_ist 3 1),
  (168, o_ild 3 1),
  (169, o_ic (-1) 1),
  (170, o_cmpeq 197),
  (173, o_ild 3 1),
  (174, o_ic 16 2),
  (176, o_cmpge 197),
  (179, o_ald 0 1),
  (180, o_gF K 12 15),
  (183, o_ic 130 3),
  (186, o_ic 16 2),
  (188, o_ild 1 1),
  (189, o_imul),
  (190, o_iadd),
  (191, o_ild 3 1),
  (192, o_iadd),
  (193, o_iald K),
  (194, o_ifle 203),
  (197, o_ald 0 1),
  (198, o_ic 3 1),
  (199, o_callV K 12 (f_X12_bad K) 1),
  (202, o_zret),
  (203, o_ald 0 1),
  (204, o_callV K 12 (f_X12_go K) 0),
  (207, o_ald 0 1),
  (208, o_ic 1 1),
  (209, o_ild 2 1),
  (210, o_callV K 12 (f_X12_readNumber K) 2),
  (213, o_ifne 218),
  (216, o_ic 0 1),
  (217, o_zret),
  (218, o_ald 0 1),
  (219, o_gF K 12 15),
  (222, o_ic 130 3),
  (225, o_ic 16 2),
  (227, o_ild 1 1),
  (228, o_imul),
  (229, o_iadd),
  (230, o_ild 3 1),
  (231, o_iadd),
  (232, o_ald 0 1),
  (233, o_gI K 12 13),
  (236, o_iast K),
  (237, o_ild 2 1),
  (238, o_ald 0 1),
  (239, o_gI K 12 13),
  (242, o_isub),
  (243, o_ist 2 1),
  (244, o_aft [3] (o_goto 138)),
  (247, o_ald 0 1),
  (248, o_ic 5 1),
  (249, o_callV K 12 (f_X12_isWord K) 1),
  (252, o_ifeq 273),
  (255, o_ald 0 1),
  (256, o_gF K 12 15),
  (259, o_ic 10 2),
  (261, o_ic 4 1),
  (262, o_ild 1 1),
  (263, o_imul),
  (264, o_iadd),
  (265, o_ic 2 1),
  (266, o_iadd),
  (267, o_ic 1 1),
  (268, o_iast K),
  (269, o_ald 0 1),
  (270, o_callV K 12 (f_X12_go K) 0),
  (273, o_ald 0 1),
  (274, o_gF K 12 15),
  (277, o_ic 0 1),
  (278, o_dup2),
  (279, o_iald K),
  (280, o_ic 1 1),
  (281, o_iadd),
  (282, o_iast K),
  (283, o_ic 1 1),
  (284, o_zret)]
noncomputable def f_X12_readChap (K : Sh_) : Fn_ := fn_ (P_X12_readChap K) 4
set_option maxRecDepth 100000 in
theorem a_X12_readChap {l : Launch} {E : En_} (hE : EOK_ E)   : All_ (Snd_ l E yX12_readChap.cls cX12_readChap 4 (some .boolean) (.code yX12_readChap cX12_readChap 4 (some .boolean) :: G_) (rm_ 5)) (P_X12_readChap E.2.2.2.1 ) :=
  all_c (s_ald_n (q := 0) (by decide +kernel) rfl)
  <| all_c (g_12_15 (by decide +kernel) fl_RX12_16)
  <| all_c (s_iconst (n := 0) (by decide +kernel) (by decide))
  <| all_c (s_iald (by decide +kernel))
  <| all_c (s_ist_n (q := 1) (by decide +kernel) rfl)
  <| all_c (s_ild_n (q := 1) (by decide +kernel) rfl)
  <| all_c (s_bipush (n := 16) (by decide +kernel) (by decide))
  <| all_c (s_cmpne (off := 9) (by decide +kernel) (by decide))
  <| all_c (s_ald_n (q := 0) (by decide +kernel) rfl)
  <| all_c (s_iconst (n := 4) (by decide +kernel) (by decide))
  <| all_c (s_callV (by decide +kernel) (t_X12_bad hE) cl_X12_bad ml_RX12_161 im_X12_bad se_X12_bad (by decide) rfl (rm_lt (by decide)))
  <| all_c (s_zret (by decide +kernel) rfl)
  <| all_c (s_ald_n (q := 0) (by decide +kernel) rfl)
  <| all_c (s_callV (by decide +kernel) (t_X12_go hE) cl_X12_go ml_RX12_171 im_X12_go se_X12_go (by decide) rfl (rm_lt (by decide)))
  <| all_c (s_ald_n (q := 0) (by decide +kernel) rfl)
  <| all_c (s_ild_n (q := 1) (by decide +kernel) rfl)
  <| all_c (s_callV (by decide +kernel) (t_X12_readNew hE) cl_X12_readNew ml_RX12_201 im_X12_readNew se_X12_readNew (by decide) rfl (rm_lt (by decide)))
  <| all_c (s_ifeq (off := 14) (by decide +kernel) (by decide))
  <| all_c (s_ald_n (q := 0) (by decide +kernel) rfl)
  <| all_c (s_iconst (n := 1) (by decide +kernel) (by decide))
  <| all_c (s_sipush (n := 999) (by decide +kernel) (by decide))
  <| all_c (s_callV (by decide +kernel) (t_X12_readNumber hE) cl_X12_readNumber ml_RX12_204 im_X12_readNumber se_X12_readNumber (by decide) rfl (rm_lt (by decide)))
  <| all_c (s_ifne (off := 5) (by decide +kernel) (by decide))
  <| all_c (s_iconst (n := 0) (by decide +kernel) (by decide))
  <| all_c (s_zret (by decide +kernel) rfl)
  <| all_c (s_ald_n (q := 0) (by decide +kernel) rfl)
  <| all_c (g_12_15 (by decide +kernel) fl_RX12_16)
  <| all_c (s_bipush (n := 10) (by decide +kernel) (by decide))
  <| all_c (s_iconst (n := 4) (by decide +kernel) (by decide))
  <| all_c (s_ild_n (q := 1) (by decide +kernel) rfl)
  <| all_c (s_imul (by decide +kernel))
  <| all_c (s_iadd (by decide +kernel))
  <| all_c (s_iconst (n := 0) (by decide +kernel) (by decide))
  <| all_c (s_iadd (by decide +kernel))
  <| all_c (s_ald_n (q := 0) (by decide +kernel) rfl)
  <| all_c (g_12_13 (by decide +kernel) fl_RX12_168)
  <| all_c (s_iast (by decide +kernel))
  <| all_c (s_ald_n (q := 0) (by decide +kernel) rfl)
  <| all_c (s_iconst (n := 0) (by decide +kernel) (by decide))
  <| all_c (s_sipush (n := 999) (by decide +kernel) (by decide))
  <| all_c (s_callV (by decide +kernel) (t_X12_readNumber hE) cl_X12_readNumber ml_RX12_204 im_X12_readNumber se_X12_readNumber (by decide) rfl (rm_lt (by decide)))
  <| all_c (s_ifne (off := 5) (by decide +kernel) (by decide))
  <| all_c (s_iconst (n := 0) (by decide +kernel) (by decide))
  <| all_c (s_zret (by decide +kernel) rfl)
  <| all_c (s_ald_n (q := 0) (by decide +kernel) rfl)
  <| all_c (g_12_15 (by decide +kernel) fl_RX12_16)
  <| all_c (s_bipush (n := 10) (by decide +kernel) (by decide))
  <| all_c (s_iconst (n := 4) (by decide +kernel) (by decide))
  <| all_c (s_ild_n (q := 1) (by decide +kernel) rfl)
  <| all_c (s_imul (by decide +kernel))
  <| all_c (s_iadd (by decide +kernel))
  <| all_c (s_iconst (n := 1) (by decide +kernel) (by decide))
  <| all_c (s_iadd (by decide +kernel))
  <| all_c (s_ald_n (q := 0) (by decide +kernel) rfl)
  <| all_c (g_12_13 (by decide +kernel) fl_RX12_168)
  <| all_c (s_iast (by decide +kernel))
  <| all_c (s_ald_n (q := 0) (by decide +kernel) rfl)
  <| all_c (g_12_15 (by decide +kernel) fl_RX12_16)
  <| all_c (s_bipush (n := 10) (by decide +kernel) (by decide))
  <| all_c (s_iconst (n := 4) (by decide +kernel) (by decide))
  <| all_c (s_ild_n (q := 1) (by decide +kernel) rfl)
  <| all_c (s_imul (by decide +kernel))
  <| all_c (s_iadd (by decide +kernel))
  <| all_c (s_iconst (n := 2) (by decide +kernel) (by decide))
  <| all_c (s_iadd (by decide +kernel))
  <| all_c (s_iconst (n := 0) (by decide +kernel) (by decide))
  <| all_c (s_iast (by decide +kernel))
  <| all_c (s_iconst (n := 0) (by decide +kernel) (by decide))
  <| all_c (s_aft (s_ist_n (q := 2) (by decide +kernel) rfl))
  <| all_c (s_ild_n (q := 2) (by decide +kernel) rfl)
  <| all_c (s_bipush (n := 16) (by decide +kernel) (by decide))
  <| all_c (s_cmpge (off := 25) (by decide +kernel) (by decide))
  <| all_c (s_ald_n (q := 0) (by decide +kernel) rfl)
  <| all_c (g_12_15 (by decide +kernel) fl_RX12_16)
  <| all_c (s_sipush (n := 130) (by decide +kernel) (by decide))
  <| all_c (s_bipush (n := 16) (by decide +kernel) (by decide))
  <| all_c (s_ild_n (q := 1) (by decide +kernel) rfl)
  <| all_c (s_imul (by decide +kernel))
  <| all_c (s_iadd (by decide +kernel))
  <| all_c (s_ild_n (q := 2) (by decide +kernel) rfl)
  <| all_c (s_iadd (by decide +kernel))
  <| all_c (s_iconst (n := 0) (by decide +kernel) (by decide))
  <| all_c (s_iast (by decide +kernel))
  <| all_c (s_inc (n := 1) (by decide +kernel) (by decide))
  <| all_c (s_aft (s_goto (off := (-25)) (by decide +kernel) (by decide)))
  <| all_c (s_bipush (n := 10) (by decide +kernel) (by decide))
  <| all_c (s_aft (s_ist_n (q := 2) (by decide +kernel) rfl))
  <| all_c (s_ald_n (q := 0) (by decide +kernel) rfl)
  <| all_c (s_iconst (n := 4) (by decide +kernel) (by decide))
  <| all_c (s_callV (by decide +kernel) (t_X12_isWord hE) cl_X12_isWord ml_RX12_208 im_X12_isWord se_X12_isWord (by decide) rfl (rm_lt (by decide)))
  <| all_c (s_ifeq (off := 104) (by decide +kernel) (by decide))
  <| all_c (s_ald_n (q := 0) (by decide +kernel) rfl)
  <| all_c (s_callV (by decide +kernel) (t_X12_go hE) cl_X12_go ml_RX12_171 im_X12_go se_X12_go (by decide) rfl (rm_lt (by decide)))
  <| all_c (s_ald_n (q := 0) (by decide +kernel) rfl)
  <| all_c (s_callV (by decide +kernel) (t_X12_isName hE) cl_X12_isName ml_RX12_194 im_X12_isName se_X12_isName (by decide) rfl (rm_lt (by decide)))
  <| all_c (s_ifne (off := 9) (by decide +kernel) (by decide))
  <| all_c (s_ald_n (q := 0) (by decide +kernel) rfl)
  <| all_c (s_iconst (n := 1) (by decide +kernel) (by decide))
  <| all_c (s_callV (by decide +kernel) (t_X12_bad hE) cl_X12_bad ml_RX12_161 im_X12_bad se_X12_bad (by decide) rfl (rm_lt (by decide)))
  <| all_c (s_zret (by decide +kernel) rfl)
  <| all_c (s_ald_n (q := 0) (by decide +kernel) rfl)
  <| all_c (s_callV (by decide +kernel) (t_X12_findRead hE) cl_X12_findRead ml_RX12_198 im_X12_findRead se_X12_findRead (by decide) rfl (rm_lt (by decide)))
  <| all_c (s_ist_n (q := 3) (by decide +kernel) rfl)
  <| all_c (s_ild_n (q := 3) (by decide +kernel) rfl)
  <| all_c (s_iconst (n := (-1)) (by decide +kernel) (by decide))
  <| all_c (s_cmpeq (off := 27) (by decide +kernel) (by decide))
  <| all_c (s_ild_n (q := 3) (by decide +kernel) rfl)
  <| all_c (s_bipush (n := 16) (by decide +kernel) (by decide))
  <| all_c (s_cmpge (off := 21) (by decide +kernel) (by decide))
  <| all_c (s_ald_n (q := 0) (by decide +kernel) rfl)
  <| all_c (g_12_15 (by decide +kernel) fl_RX12_16)
  <| all_c (s_sipush (n := 130) (by decide +kernel) (by decide))
  <| all_c (s_bipush (n := 16) (by decide +kernel) (by decide))
  <| all_c (s_ild_n (q := 1) (by decide +kernel) rfl)
  <| all_c (s_imul (by decide +kernel))
  <| all_c (s_iadd (by decide +kernel))
  <| all_c (s_ild_n (q := 3) (by decide +kernel) rfl)
  <| all_c (s_iadd (by decide +kernel))
  <| all_c (s_iald (by decide +kernel))
  <| all_c (s_ifle (off := 9) (by decide +kernel) (by decide))
  <| all_c (s_ald_n (q := 0) (by decide +kernel) rfl)
  <| all_c (s_iconst (n := 3) (by decide +kernel) (by decide))
  <| all_c (s_callV (by decide +kernel) (t_X12_bad hE) cl_X12_bad ml_RX12_161 im_X12_bad se_X12_bad (by decide) rfl (rm_lt (by decide)))
  <| all_c (s_zret (by decide +kernel) rfl)
  <| all_c (s_ald_n (q := 0) (by decide +kernel) rfl)
  <| all_c (s_callV (by decide +kernel) (t_X12_go hE) cl_X12_go ml_RX12_171 im_X12_go se_X12_go (by decide) rfl (rm_lt (by decide)))
  <| all_c (s_ald_n (q := 0) (by decide +kernel) rfl)
  <| all_c (s_iconst (n := 1) (by decide +kernel) (by decide))
  <| all_c (s_ild_n (q := 2) (by decide +kernel) rfl)
  <| all_c (s_callV (by decide +kernel) (t_X12_readNumber hE) cl_X12_readNumber ml_RX12_204 im_X12_readNumber se_X12_readNumber (by decide) rfl (rm_lt (by decide)))
  <| all_c (s_ifne (off := 5) (by decide +kernel) (by decide))
  <| all_c (s_iconst (n := 0) (by decide +kernel) (by decide))
  <| all_c (s_zret (by decide +kernel) rfl)
  <| all_c (s_ald_n (q := 0) (by decide +kernel) rfl)
  <| all_c (g_12_15 (by decide +kernel) fl_RX12_16)
  <| all_c (s_sipush (n := 130) (by decide +kernel) (by decide))
  <| all_c (s_bipush (n := 16) (by decide +kernel) (by decide))
  <| all_c (s_ild_n (q := 1) (by decide +kernel) rfl)
  <| all_c (s_imul (by decide +kernel))
  <| all_c (s_iadd (by decide +kernel))
  <| all_c (s_ild_n (q := 3) (by decide +kernel) rfl)
  <| all_c (s_iadd (by decide +kernel))
  <| all_c (s_ald_n (q := 0) (by decide +kernel) rfl)
  <| all_c (g_12_13 (by decide +kernel) fl_RX12_168)
  <| all_c (s_iast (by decide +kernel))
  <| all_c (s_ild_n (q := 2) (by decide +kernel) rfl)
  <| all_c (s_ald_n (q := 0) (by decide +kernel) rfl)
  <| all_c (g_12_13 (by decide +kernel) fl_RX12_168)
  <| all_c (s_isub (by decide +kernel))
  <| all_c (s_ist_n (q := 2) (by decide +kernel) rfl)
  <| all_c (s_aft (s_goto (off := (-106)) (by decide +kernel) (by decide)))
  <| all_c (s_ald_n (q := 0) (by decide +kernel) rfl)
  <| all_c (s_iconst (n := 5) (by decide +kernel) (by decide))
  <| all_c (s_callV (by decide +kernel) (t_X12_isWord hE) cl_X12_isWord ml_RX12_208 im_X12_isWord se_X12_isWord (by decide) rfl (rm_lt (by decide)))
  <| all_c (s_ifeq (off := 21) (by decide +kernel) (by decide))
  <| all_c (s_ald_n (q := 0) (by decide +kernel) rfl)
  <| all_c (g_12_15 (by decide +kernel) fl_RX12_16)
  <| all_c (s_bipush (n := 10) (by decide +kernel) (by decide))
  <| all_c (s_iconst (n := 4) (by decide +kernel) (by decide))
  <| all_c (s_ild_n (q := 1) (by decide +kernel) rfl)
  <| all_c (s_imul (by decide +kernel))
  <| all_c (s_iadd (by decide +kernel))
  <| all_c (s_iconst (n := 2) (by decide +kernel) (by decide))
  <| all_c (s_iadd (by decide +kernel))
  <| all_c (s_iconst (n := 1) (by decide +kernel) (by decide))
  <| all_c (s_iast (by decide +kernel))
  <| all_c (s_ald_n (q := 0) (by decide +kernel) rfl)
  <| all_c (s_callV (by decide +kernel) (t_X12_go hE) cl_X12_go ml_RX12_171 im_X12_go se_X12_go (by decide) rfl (rm_lt (by decide)))
  <| all_c (s_ald_n (q := 0) (by decide +kernel) rfl)
  <| all_c (g_12_15 (by decide +kernel) fl_RX12_16)
  <| all_c (s_iconst (n := 0) (by decide +kernel) (by decide))
  <| all_c (s_dup2 (by decide +kernel))
  <| all_c (s_iald (by decide +kernel))
  <| all_c (s_iconst (n := 1) (by decide +kernel) (by decide))
  <| all_c (s_iadd (by decide +kernel))
  <| all_c (s_iast (by decide +kernel))
  <| all_c (s_iconst (n := 1) (by decide +kernel) (by decide))
  <| all_c (s_zret (by decide +kernel) rfl)
  <| all_n
theorem t_X12_readChap {l : Launch} {E : En_} (hE : EOK_ E) : Good_ l E yX12_readChap (.code yX12_readChap cX12_readChap 4 (some .boolean) :: G_) (rm_ 5) (f_X12_readChap E.2.2.2.1) := good_all hE (by decide +kernel) (a_X12_readChap hE)
noncomputable def P_X12_readWho (K : Sh_)  : List (Nat × Op_) := [(0, o_ald 0 1),
  (1, o_gF K 12 15),
  (4, o_ic 1 1),
  (5, o_iald K),
  (6, o_ist 1 1),
  (7, o_ild 1 1),
  (8, o_ic 9 2),
  (10, o_cmpne 19),
  (13, o_ald 0 1),
  (14, o_ic 4 1),
  (15, o_callV K 12 (f_X12_bad K) 1),
  (18, o_zret),
  (19, o_ald 0 1),
  (20, o_callV K 12 (f_X12_go K) 0),
  (23, o_ic 80 2),
  (25, o_ic 5 1),
  (26, o_ild 1 1),
  (27, o_imul),
  (28, o_iadd),
  (29, o_ist 2 1),
  (30, o_ald 0 1),
  (31, o_ic 16 2),
  (33, o_ild 1 1),
  (34, o_iadd),
  (35, o_callV K 12 (f_X12_readNew K) 1),
  (38, o_ifeq 51),
  (41, o_ald 0 1),
  (42, o_ic 1 1),
  (43, o_ic 99 2),
  (45, o_callV K 12 (f_X12_readNumber K) 2),
  (48, o_ifne 53),
  (51, o_ic 0 1),
  (52, o_zret),
  (53, o_ald 0 1),
  (54, o_gF K 12 15),
  (57, o_ild 2 1),
  (58, o_ic 0 1),
  (59, o_iadd),
  (60, o_ald 0 1),
  (61, o_gI K 12 13),
  (64, o_iast K),
  (65, o_ald 0 1),
  (66, o_ic 0 1),
  (67, o_ic 10 2),
  (69, o_callV K 12 (f_X12_readNumber K) 2),
  (72, o_ifne 77),
  (75, o_ic 0 1),
  (76, o_zret),
  (77, o_ald 0 1),
  (78, o_gF K 12 15),
  (81, o_ild 2 1),
  (82, o_ic 1 1),
  (83, o_iadd),
  (84, o_ald 0 1),
  (85, o_gI K 12 13),
  (88, o_iast K),
  (89, o_ald 0 1),
  (90, o_ic 0 1),
  (91, o_ic 10 2),
  (93, o_callV K 12 (f_X12_readNumber K) 2),
  (96, o_ifne 101),
  (99, o_ic 0 1),
  (100, o_zret),
  (101, o_ald 0 1),
  (102, o_gF K 12 15),
  (105, o_ild 2 1),
  (106, o_ic 2 1),
  (107, o_iadd),
  (108, o_ald 0 1),
  (109, o_gI K 12 13),
  (112, o_iast K),
  (113, o_ald 0 1),
  (114, o_ic 0 1),
  (115, o_ic 240 3),
  (118, o_callV K 12 (f_X12_readNumber K) 2),
  (121, o_ifne 126),
  (124, o_ic 0 1),
  (125, o_zret),
  (126, o_ald 0 1),
  (127, o_gF K 12 15),
  (130, o_ild 2 1),
  (131, o_ic 3 1),
  (132, o_iadd),
  (133, o_ald 0 1),
  (134, o_gI K 12 13),
  (137, o_iast K),
  (138, o_ald 0 1),
  (139, o_gF K 12 15),
  (142, o_ild 2 1),
  (143, o_ic 4 1),
  (144, o_iadd),
  (145, o_ic 0 1),
  (146, o_iast K),
  (147, o_ald 0 1),
  (148, o_ic 6 2),
  (150, o_callV K 12 (f_X12_isWord K) 1),
  (153, o_ifeq 184),
  (156, o_ald 0 1),
  (157, o_callV K 12 (f_X12_go K) 0),
  (160, o_ald 0 1),
  (161, o_ic 0 1),
  (162, o_ic 10 2),
  (164, o_callV K 12 (f_X12_readNumber K) 2),
  (167, o_ifne 172),
  (170, o_ic 0 1),
  (171, o_zret),
  (172, o_ald 0 1),
  (173, o_gF K 12 15),
  (176, o_ild 2 1),
  (177, o_ic 4 1),
  (178, o_iadd),
  (179, o_ald 0 1),
  (180, o_gI K 12 13),
  (183, o_iast K),
  (184, o_ald 0 1),
  (185, o_gF K 12 15),
  (188, o_ic 1 1),
  (189, o_dup2),
  (190, o_iald K),
  (191, o_ic 1 1),
  (192, o_iadd),
  (193, o_iast K),
  (194, o_ic 1 1),
  (195, o_zret)]
noncomputable def f_X12_readWho (K : Sh_) : Fn_ := fn_ (P_X12_readWho K) 3
set_option maxRecDepth 100000 in
theorem a_X12_readWho {l : Launch} {E : En_} (hE : EOK_ E)   : All_ (Snd_ l E yX12_readWho.cls cX12_readWho 3 (some .boolean) (.code yX12_readWho cX12_readWho 3 (some .boolean) :: G_) (rm_ 5)) (P_X12_readWho E.2.2.2.1 ) :=
  all_c (s_ald_n (q := 0) (by decide +kernel) rfl)
  <| all_c (g_12_15 (by decide +kernel) fl_RX12_16)
  <| all_c (s_iconst (n := 1) (by decide +kernel) (by decide))
  <| all_c (s_iald (by decide +kernel))
  <| all_c (s_ist_n (q := 1) (by decide +kernel) rfl)
  <| all_c (s_ild_n (q := 1) (by decide +kernel) rfl)
  <| all_c (s_bipush (n := 9) (by decide +kernel) (by decide))
  <| all_c (s_cmpne (off := 9) (by decide +kernel) (by decide))
  <| all_c (s_ald_n (q := 0) (by decide +kernel) rfl)
  <| all_c (s_iconst (n := 4) (by decide +kernel) (by decide))
  <| all_c (s_callV (by decide +kernel) (t_X12_bad hE) cl_X12_bad ml_RX12_161 im_X12_bad se_X12_bad (by decide) rfl (rm_lt (by decide)))
  <| all_c (s_zret (by decide +kernel) rfl)
  <| all_c (s_ald_n (q := 0) (by decide +kernel) rfl)
  <| all_c (s_callV (by decide +kernel) (t_X12_go hE) cl_X12_go ml_RX12_171 im_X12_go se_X12_go (by decide) rfl (rm_lt (by decide)))
  <| all_c (s_bipush (n := 80) (by decide +kernel) (by decide))
  <| all_c (s_iconst (n := 5) (by decide +kernel) (by decide))
  <| all_c (s_ild_n (q := 1) (by decide +kernel) rfl)
  <| all_c (s_imul (by decide +kernel))
  <| all_c (s_iadd (by decide +kernel))
  <| all_c (s_ist_n (q := 2) (by decide +kernel) rfl)
  <| all_c (s_ald_n (q := 0) (by decide +kernel) rfl)
  <| all_c (s_bipush (n := 16) (by decide +kernel) (by decide))
  <| all_c (s_ild_n (q := 1) (by decide +kernel) rfl)
  <| all_c (s_iadd (by decide +kernel))
  <| all_c (s_callV (by decide +kernel) (t_X12_readNew hE) cl_X12_readNew ml_RX12_201 im_X12_readNew se_X12_readNew (by decide) rfl (rm_lt (by decide)))
  <| all_c (s_ifeq (off := 13) (by decide +kernel) (by decide))
  <| all_c (s_ald_n (q := 0) (by decide +kernel) rfl)
  <| all_c (s_iconst (n := 1) (by decide +kernel) (by decide))
  <| all_c (s_bipush (n := 99) (by decide +kernel) (by decide))
  <| all_c (s_callV (by decide +kernel) (t_X12_readNumber hE) cl_X12_readNumber ml_RX12_204 im_X12_readNumber se_X12_readNumber (by decide) rfl (rm_lt (by decide)))
  <| all_c (s_ifne (off := 5) (by decide +kernel) (by decide))
  <| all_c (s_iconst (n := 0) (by decide +kernel) (by decide))
  <| all_c (s_zret (by decide +kernel) rfl)
  <| all_c (s_ald_n (q := 0) (by decide +kernel) rfl)
  <| all_c (g_12_15 (by decide +kernel) fl_RX12_16)
  <| all_c (s_ild_n (q := 2) (by decide +kernel) rfl)
  <| all_c (s_iconst (n := 0) (by decide +kernel) (by decide))
  <| all_c (s_iadd (by decide +kernel))
  <| all_c (s_ald_n (q := 0) (by decide +kernel) rfl)
  <| all_c (g_12_13 (by decide +kernel) fl_RX12_168)
  <| all_c (s_iast (by decide +kernel))
  <| all_c (s_ald_n (q := 0) (by decide +kernel) rfl)
  <| all_c (s_iconst (n := 0) (by decide +kernel) (by decide))
  <| all_c (s_bipush (n := 10) (by decide +kernel) (by decide))
  <| all_c (s_callV (by decide +kernel) (t_X12_readNumber hE) cl_X12_readNumber ml_RX12_204 im_X12_readNumber se_X12_readNumber (by decide) rfl (rm_lt (by decide)))
  <| all_c (s_ifne (off := 5) (by decide +kernel) (by decide))
  <| all_c (s_iconst (n := 0) (by decide +kernel) (by decide))
  <| all_c (s_zret (by decide +kernel) rfl)
  <| all_c (s_ald_n (q := 0) (by decide +kernel) rfl)
  <| all_c (g_12_15 (by decide +kernel) fl_RX12_16)
  <| all_c (s_ild_n (q := 2) (by decide +kernel) rfl)
  <| all_c (s_iconst (n := 1) (by decide +kernel) (by decide))
  <| all_c (s_iadd (by decide +kernel))
  <| all_c (s_ald_n (q := 0) (by decide +kernel) rfl)
  <| all_c (g_12_13 (by decide +kernel) fl_RX12_168)
  <| all_c (s_iast (by decide +kernel))
  <| all_c (s_ald_n (q := 0) (by decide +kernel) rfl)
  <| all_c (s_iconst (n := 0) (by decide +kernel) (by decide))
  <| all_c (s_bipush (n := 10) (by decide +kernel) (by decide))
  <| all_c (s_callV (by decide +kernel) (t_X12_readNumber hE) cl_X12_readNumber ml_RX12_204 im_X12_readNumber se_X12_readNumber (by decide) rfl (rm_lt (by decide)))
  <| all_c (s_ifne (off := 5) (by decide +kernel) (by decide))
  <| all_c (s_iconst (n := 0) (by decide +kernel) (by decide))
  <| all_c (s_zret (by decide +kernel) rfl)
  <| all_c (s_ald_n (q := 0) (by decide +kernel) rfl)
  <| all_c (g_12_15 (by decide +kernel) fl_RX12_16)
  <| all_c (s_ild_n (q := 2) (by decide +kernel) rfl)
  <| all_c (s_iconst (n := 2) (by decide +kernel) (by decide))
  <| all_c (s_iadd (by decide +kernel))
  <| all_c (s_ald_n (q := 0) (by decide +kernel) rfl)
  <| all_c (g_12_13 (by decide +kernel) fl_RX12_168)
  <| all_c (s_iast (by decide +kernel))
  <| all_c (s_ald_n (q := 0) (by decide +kernel) rfl)
  <| all_c (s_iconst (n := 0) (by decide +kernel) (by decide))
  <| all_c (s_sipush (n := 240) (by decide +kernel) (by decide))
  <| all_c (s_callV (by decide +kernel) (t_X12_readNumber hE) cl_X12_readNumber ml_RX12_204 im_X12_readNumber se_X12_readNumber (by decide) rfl (rm_lt (by decide)))
  <| all_c (s_ifne (off := 5) (by decide +kernel) (by decide))
  <| all_c (s_iconst (n := 0) (by decide +kernel) (by decide))
  <| all_c (s_zret (by decide +kernel) rfl)
  <| all_c (s_ald_n (q := 0) (by decide +kernel) rfl)
  <| all_c (g_12_15 (by decide +kernel) fl_RX12_16)
  <| all_c (s_ild_n (q := 2) (by decide +kernel) rfl)
  <| all_c (s_iconst (n := 3) (by decide +kernel) (by decide))
  <| all_c (s_iadd (by decide +kernel))
  <| all_c (s_ald_n (q := 0) (by decide +kernel) rfl)
  <| all_c (g_12_13 (by decide +kernel) fl_RX12_168)
  <| all_c (s_iast (by decide +kernel))
  <| all_c (s_ald_n (q := 0) (by decide +kernel) rfl)
  <| all_c (g_12_15 (by decide +kernel) fl_RX12_16)
  <| all_c (s_ild_n (q := 2) (by decide +kernel) rfl)
  <| all_c (s_iconst (n := 4) (by decide +kernel) (by decide))
  <| all_c (s_iadd (by decide +kernel))
  <| all_c (s_iconst (n := 0) (by decide +kernel) (by decide))
  <| all_c (s_iast (by decide +kernel))
  <| all_c (s_ald_n (q := 0) (by decide +kernel) rfl)
  <| all_c (s_bipush (n := 6) (by decide +kernel) (by decide))
  <| all_c (s_callV (by decide +kernel) (t_X12_isWord hE) cl_X12_isWord ml_RX12_208 im_X12_isWord se_X12_isWord (by decide) rfl (rm_lt (by decide)))
  <| all_c (s_ifeq (off := 31) (by decide +kernel) (by decide))
  <| all_c (s_ald_n (q := 0) (by decide +kernel) rfl)
  <| all_c (s_callV (by decide +kernel) (t_X12_go hE) cl_X12_go ml_RX12_171 im_X12_go se_X12_go (by decide) rfl (rm_lt (by decide)))
  <| all_c (s_ald_n (q := 0) (by decide +kernel) rfl)
  <| all_c (s_iconst (n := 0) (by decide +kernel) (by decide))
  <| all_c (s_bipush (n := 10) (by decide +kernel) (by decide))
  <| all_c (s_callV (by decide +kernel) (t_X12_readNumber hE) cl_X12_readNumber ml_RX12_204 im_X12_readNumber se_X12_readNumber (by decide) rfl (rm_lt (by decide)))
  <| all_c (s_ifne (off := 5) (by decide +kernel) (by decide))
  <| all_c (s_iconst (n := 0) (by decide +kernel) (by decide))
  <| all_c (s_zret (by decide +kernel) rfl)
  <| all_c (s_ald_n (q := 0) (by decide +kernel) rfl)
  <| all_c (g_12_15 (by decide +kernel) fl_RX12_16)
  <| all_c (s_ild_n (q := 2) (by decide +kernel) rfl)
  <| all_c (s_iconst (n := 4) (by decide +kernel) (by decide))
  <| all_c (s_iadd (by decide +kernel))
  <| all_c (s_ald_n (q := 0) (by decide +kernel) rfl)
  <| all_c (g_12_13 (by decide +kernel) fl_RX12_168)
  <| all_c (s_iast (by decide +kernel))
  <| all_c (s_ald_n (q := 0) (by decide +kernel) rfl)
  <| all_c (g_12_15 (by decide +kernel) fl_RX12_16)
  <| all_c (s_iconst (n := 1) (by decide +kernel) (by decide))
  <| all_c (s_dup2 (by decide +kernel))
  <| all_c (s_iald (by decide +kernel))
  <| all_c (s_iconst (n := 1) (by decide +kernel) (by decide))
  <| all_c (s_iadd (by decide +kernel))
  <| all_c (s_iast (by decide +kernel))
  <| all_c (s_iconst (n := 1) (by decide +kernel) (by decide))
  <| all_c (s_zret (by decide +kernel) rfl)
  <| all_n
theorem t_X12_readWho {l : Launch} {E : En_} (hE : EOK_ E) : Good_ l E yX12_readWho (.code yX12_readWho cX12_readWho 3 (some .boolean) :: G_) (rm_ 5) (f_X12_readWho E.2.2.2.1) := good_all hE (by decide +kernel) (a_X12_readWho hE)
noncomputable def P_X12_readLine (K : Sh_)  : List (Nat × Op_) := [(0, o_ic 0 1),
  (1, o_ist 1 1),
  (2, o_ild 1 1),
  (3, o_ic 3 1),
  (4, o_cmpgt 21),
  (7, o_ald 0 1),
  (8, o_ild 1 1),
  (9, o_callV K 12 (f_X12_isWord K) 1),
  (12, o_ifne 21),
  (15, o_inc 1 1),
  (18, o_goto 2),
  (21, o_ild 1 1),
  (22, o_ic 3 1),
  (23, o_cmple 32),
  (26, o_ald 0 1),
  (27, o_ic 1 1),
  (28, o_callV K 12 (f_X12_bad K) 1),
  (31, o_zret),
  (32, o_ild 1 1),
  (33, o_ic 2 1),
  (34, o_cmpge 71),
  (37, o_ild 1 1),
  (38, o_ifne 51),
  (41, o_ald 0 1),
  (42, o_callV K 12 (f_X12_readChap K) 0),
  (45, o_ifeq 69),
  (48, o_goto 58),
  (51, o_ald 0 1),
  (52, o_callV K 12 (f_X12_readWho K) 0),
  (55, o_ifeq 69),
  (58, o_ald 0 1),
  (59, o_callV K 12 (f_X12_readEnd K) 0),
  (62, o_ifeq 69),
  (65, o_ic 1 1),
  (66, o_goto 70),
  (69, o_ic 0 1),
  (70, o_zret),
  (71, o_ald 0 1),
  (72, o_gI K 12 22),
  (75, o_ild 1 1),
  (76, o_callS (f_X12_has K) 2),
  (79, o_ifeq 88),
  (82, o_ald 0 1),
  (83, o_ic 3 1),
  (84, o_callV K 12 (f_X12_bad K) 1),
  (87, o_zret),
  (88, o_ald 0 1),
  (89, o_dup),
  (90, o_gI K 12 22),
  (93, o_ic 1 1),
  (94, o_ild 1 1),
  (95, o_ishl),
  (96, o_ior),
  (97, o_pI K 12 22),
  (100, o_ald 0 1),
  (101, o_callV K 12 (f_X12_go K) 0),
  (104, o_ald 0 1),
  (105, o_ild 1 1),
  (106, o_ic 2 1),
  (107, o_cmpne 114),
  (110, o_ic 1 1),
  (111, o_goto 115),
  (114, o_ic 0 1),
  (115, o_ild 1 1),
  (116, o_ic 2 1),
  (117, o_cmpne 125),
  (120, o_ic 99 2),
  (122, o_goto 127),
  (125, o_ic 10 2),
  (127, o_callV K 12 (f_X12_readNumber K) 2),
  (130, o_ifne 135),
  (133, o_ic 0 1),
  (134, o_zret),
  (135, o_ald 0 1),
  (136, o_gF K 12 15),
  (139, o_ild 1 1),
  (140, o_ic 2 1),
  (141, o_cmpne 148),
  (144, o_ic 2 1),
  (145, o_goto 149),
  (148, o_ic 3 1),
  (149, o_ald 0 1),
  (150, o_gI K 12 13),
  (153, o_iast K),
  (154, o_ald 0 1),
  (155, o_callV K 12 (f_X12_readEnd K) 0),
  (158, o_zret)]
noncomputable def f_X12_readLine (K : Sh_) : Fn_ := fn_ (P_X12_readLine K) 2
set_option maxRecDepth 100000 in
theorem a_X12_readLine {l : Launch} {E : En_} (hE : EOK_ E)   : All_ (Snd_ l E yX12_readLine.cls cX12_readLine 2 (some .boolean) (.code yX12_readLine cX12_readLine 2 (some .boolean) :: G_) (rm_ 6)) (P_X12_readLine E.2.2.2.1 ) :=
  all_c (s_iconst (n := 0) (by decide +kernel) (by decide))
  <| all_c (s_ist_n (q := 1) (by decide +kernel) rfl)
  <| all_c (s_ild_n (q := 1) (by decide +kernel) rfl)
  <| all_c (s_iconst (n := 3) (by decide +kernel) (by decide))
  <| all_c (s_cmpgt (off := 17) (by decide +kernel) (by decide))
  <| all_c (s_ald_n (q := 0) (by decide +kernel) rfl)
  <| all_c (s_ild_n (q := 1) (by decide +kernel) rfl)
  <| all_c (s_callV (by decide +kernel) (t_X12_isWord hE) cl_X12_isWord ml_RX12_208 im_X12_isWord se_X12_isWord (by decide) rfl (rm_lt (by decide)))
  <| all_c (s_ifne (off := 9) (by decide +kernel) (by decide))
  <| all_c (s_inc (n := 1) (by decide +kernel) (by decide))
  <| all_c (s_goto (off := (-16)) (by decide +kernel) (by decide))
  <| all_c (s_ild_n (q := 1) (by decide +kernel) rfl)
  <| all_c (s_iconst (n := 3) (by decide +kernel) (by decide))
  <| all_c (s_cmple (off := 9) (by decide +kernel) (by decide))
  <| all_c (s_ald_n (q := 0) (by decide +kernel) rfl)
  <| all_c (s_iconst (n := 1) (by decide +kernel) (by decide))
  <| all_c (s_callV (by decide +kernel) (t_X12_bad hE) cl_X12_bad ml_RX12_161 im_X12_bad se_X12_bad (by decide) rfl (rm_lt (by decide)))
  <| all_c (s_zret (by decide +kernel) rfl)
  <| all_c (s_ild_n (q := 1) (by decide +kernel) rfl)
  <| all_c (s_iconst (n := 2) (by decide +kernel) (by decide))
  <| all_c (s_cmpge (off := 37) (by decide +kernel) (by decide))
  <| all_c (s_ild_n (q := 1) (by decide +kernel) rfl)
  <| all_c (s_ifne (off := 13) (by decide +kernel) (by decide))
  <| all_c (s_ald_n (q := 0) (by decide +kernel) rfl)
  <| all_c (s_callV (by decide +kernel) (t_X12_readChap hE) cl_X12_readChap ml_RX12_211 im_X12_readChap se_X12_readChap (by decide) rfl (rm_lt (by decide)))
  <| all_c (s_ifeq (off := 24) (by decide +kernel) (by decide))
  <| all_c (s_goto (off := 10) (by decide +kernel) (by decide))
  <| all_c (s_ald_n (q := 0) (by decide +kernel) rfl)
  <| all_c (s_callV (by decide +kernel) (t_X12_readWho hE) cl_X12_readWho ml_RX12_214 im_X12_readWho se_X12_readWho (by decide) rfl (rm_lt (by decide)))
  <| all_c (s_ifeq (off := 14) (by decide +kernel) (by decide))
  <| all_c (s_ald_n (q := 0) (by decide +kernel) rfl)
  <| all_c (s_callV (by decide +kernel) (t_X12_readEnd hE) cl_X12_readEnd ml_RX12_217 im_X12_readEnd se_X12_readEnd (by decide) rfl (rm_lt (by decide)))
  <| all_c (s_ifeq (off := 7) (by decide +kernel) (by decide))
  <| all_c (s_iconst (n := 1) (by decide +kernel) (by decide))
  <| all_c (s_goto (off := 4) (by decide +kernel) (by decide))
  <| all_c (s_iconst (n := 0) (by decide +kernel) (by decide))
  <| all_c (s_zret (by decide +kernel) rfl)
  <| all_c (s_ald_n (q := 0) (by decide +kernel) rfl)
  <| all_c (g_12_22 (by decide +kernel) fl_RX12_220)
  <| all_c (s_ild_n (q := 1) (by decide +kernel) rfl)
  <| all_c (s_callS (by decide +kernel) (t_X12_has hE) cl_X12_has ml_RX12_223 sm_X12_has (rm_lt (by decide)))
  <| all_c (s_ifeq (off := 9) (by decide +kernel) (by decide))
  <| all_c (s_ald_n (q := 0) (by decide +kernel) rfl)
  <| all_c (s_iconst (n := 3) (by decide +kernel) (by decide))
  <| all_c (s_callV (by decide +kernel) (t_X12_bad hE) cl_X12_bad ml_RX12_161 im_X12_bad se_X12_bad (by decide) rfl (rm_lt (by decide)))
  <| all_c (s_zret (by decide +kernel) rfl)
  <| all_c (s_ald_n (q := 0) (by decide +kernel) rfl)
  <| all_c (s_dup (by decide +kernel))
  <| all_c (g_12_22 (by decide +kernel) fl_RX12_220)
  <| all_c (s_iconst (n := 1) (by decide +kernel) (by decide))
  <| all_c (s_ild_n (q := 1) (by decide +kernel) rfl)
  <| all_c (s_ishl (by decide +kernel))
  <| all_c (s_ior (by decide +kernel))
  <| all_c (p_12_22 (by decide +kernel) fl_RX12_220)
  <| all_c (s_ald_n (q := 0) (by decide +kernel) rfl)
  <| all_c (s_callV (by decide +kernel) (t_X12_go hE) cl_X12_go ml_RX12_171 im_X12_go se_X12_go (by decide) rfl (rm_lt (by decide)))
  <| all_c (s_ald_n (q := 0) (by decide +kernel) rfl)
  <| all_c (s_ild_n (q := 1) (by decide +kernel) rfl)
  <| all_c (s_iconst (n := 2) (by decide +kernel) (by decide))
  <| all_c (s_cmpne (off := 7) (by decide +kernel) (by decide))
  <| all_c (s_iconst (n := 1) (by decide +kernel) (by decide))
  <| all_c (s_goto (off := 4) (by decide +kernel) (by decide))
  <| all_c (s_iconst (n := 0) (by decide +kernel) (by decide))
  <| all_c (s_ild_n (q := 1) (by decide +kernel) rfl)
  <| all_c (s_iconst (n := 2) (by decide +kernel) (by decide))
  <| all_c (s_cmpne (off := 8) (by decide +kernel) (by decide))
  <| all_c (s_bipush (n := 99) (by decide +kernel) (by decide))
  <| all_c (s_goto (off := 5) (by decide +kernel) (by decide))
  <| all_c (s_bipush (n := 10) (by decide +kernel) (by decide))
  <| all_c (s_callV (by decide +kernel) (t_X12_readNumber hE) cl_X12_readNumber ml_RX12_204 im_X12_readNumber se_X12_readNumber (by decide) rfl (rm_lt (by decide)))
  <| all_c (s_ifne (off := 5) (by decide +kernel) (by decide))
  <| all_c (s_iconst (n := 0) (by decide +kernel) (by decide))
  <| all_c (s_zret (by decide +kernel) rfl)
  <| all_c (s_ald_n (q := 0) (by decide +kernel) rfl)
  <| all_c (g_12_15 (by decide +kernel) fl_RX12_16)
  <| all_c (s_ild_n (q := 1) (by decide +kernel) rfl)
  <| all_c (s_iconst (n := 2) (by decide +kernel) (by decide))
  <| all_c (s_cmpne (off := 7) (by decide +kernel) (by decide))
  <| all_c (s_iconst (n := 2) (by decide +kernel) (by decide))
  <| all_c (s_goto (off := 4) (by decide +kernel) (by decide))
  <| all_c (s_iconst (n := 3) (by decide +kernel) (by decide))
  <| all_c (s_ald_n (q := 0) (by decide +kernel) rfl)
  <| all_c (g_12_13 (by decide +kernel) fl_RX12_168)
  <| all_c (s_iast (by decide +kernel))
  <| all_c (s_ald_n (q := 0) (by decide +kernel) rfl)
  <| all_c (s_callV (by decide +kernel) (t_X12_readEnd hE) cl_X12_readEnd ml_RX12_217 im_X12_readEnd se_X12_readEnd (by decide) rfl (rm_lt (by decide)))
  <| all_c (s_zret (by decide +kernel) rfl)
  <| all_n
theorem t_X12_readLine {l : Launch} {E : En_} (hE : EOK_ E) : Good_ l E yX12_readLine (.code yX12_readLine cX12_readLine 2 (some .boolean) :: G_) (rm_ 6) (f_X12_readLine E.2.2.2.1) := good_all hE (by decide +kernel) (a_X12_readLine hE)
