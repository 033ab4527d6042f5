noncomputable def P_X12_said (K : Sh_)  : List (Nat × Op_) := [(0, o_ald 0 1),
  (1, o_ic 0 1),
  (2, o_pI K 12 0),
  (5, o_ald 0 1),
  (6, o_callV K 12 (f_X12_night K) 0),
  (9, o_ald 0 1),
  (10, o_gF K 12 14),
  (13, o_ic 800 3),
  (16, o_iald K),
  (17, o_ifne 22),
  (20, o_ic (-1) 1),
  (21, o_iret),
  (22, o_ic 0 1),
  (23, o_ist 1 1),
  (24, o_ic 0 1),
  (25, o_ist 2 1),
  (26, o_ild 2 1),
  (27, o_ald 0 1),
  (28, o_callV K 12 (f_X12_readers K) 0),
  (31, o_cmpge 62),
  (34, o_ald 0 1),
  (35, o_ald 0 1),
  (36, o_gF K 12 14),
  (39, o_ic 801 3),
  (42, o_iald K),
  (43, o_ild 2 1),
  (44, o_callV K 12 (f_X12_isSo K 80) 2),
  (47, o_ifeq 56),
  (50, o_ild 1 1),
  (51, o_ic 1 1),
  (52, o_ild 2 1),
  (53, o_ishl),
  (54, o_ior),
  (55, o_ist 1 1),
  (56, o_inc 2 1),
  (59, o_goto 26),
  (62, o_ild 1 1),
  (63, o_iret)]
noncomputable def f_X12_said (K : Sh_) : Fn_ := fn_ (P_X12_said K) 3
set_option maxRecDepth 100000 in
theorem a_X12_said {l : Launch} {E : En_} (hE : EOK_ E)   : All_ (Snd_ l E yX12_said.cls cX12_said 3 (some .int) (.code yX12_said cX12_said 3 (some .int) :: G_) (rm_ 84)) (P_X12_said E.2.2.2.1 ) :=
  all_c (s_ald_n (q := 0) (by decide +kernel) rfl)
  <| all_c (s_iconst (n := 0) (by decide +kernel) (by decide))
  <| all_c (p_12_0 (by decide +kernel) fl_RX12_97)
  <| all_c (s_ald_n (q := 0) (by decide +kernel) rfl)
  <| all_c (s_callV (by decide +kernel) (t_X12_night hE) cl_X12_night ml_RX12_319 im_X12_night se_X12_night (by decide) rfl (rm_lt (by decide)))
  <| all_c (s_ald_n (q := 0) (by decide +kernel) rfl)
  <| all_c (g_12_14 (by decide +kernel) fl_RX12_13)
  <| all_c (s_sipush (n := 800) (by decide +kernel) (by decide))
  <| all_c (s_iald (by decide +kernel))
  <| all_c (s_ifne (off := 5) (by decide +kernel) (by decide))
  <| all_c (s_iconst (n := (-1)) (by decide +kernel) (by decide))
  <| all_c (s_iret (by decide +kernel) rfl)
  <| all_c (s_iconst (n := 0) (by decide +kernel) (by decide))
  <| all_c (s_ist_n (q := 1) (by decide +kernel) rfl)
  <| all_c (s_iconst (n := 0) (by decide +kernel) (by decide))
  <| all_c (s_ist_n (q := 2) (by decide +kernel) rfl)
  <| all_c (s_ild_n (q := 2) (by decide +kernel) rfl)
  <| all_c (s_ald_n (q := 0) (by decide +kernel) rfl)
  <| all_c (s_callV (by decide +kernel) (t_X12_readers hE) cl_X12_readers ml_RX12_191 im_X12_readers se_X12_readers (by decide) rfl (rm_lt (by decide)))
  <| all_c (s_cmpge (off := 31) (by decide +kernel) (by decide))
  <| all_c (s_ald_n (q := 0) (by decide +kernel) rfl)
  <| all_c (s_ald_n (q := 0) (by decide +kernel) rfl)
  <| all_c (g_12_14 (by decide +kernel) fl_RX12_13)
  <| all_c (s_sipush (n := 801) (by decide +kernel) (by decide))
  <| all_c (s_iald (by decide +kernel))
  <| all_c (s_ild_n (q := 2) (by decide +kernel) rfl)
  <| all_c (s_callV (by decide +kernel) (t_X12_isSo hE 80) cl_X12_isSo ml_RX12_463 im_X12_isSo se_X12_isSo (by decide) rfl (rm_lt (by decide)))
  <| all_c (s_ifeq (off := 9) (by decide +kernel) (by decide))
  <| all_c (s_ild_n (q := 1) (by decide +kernel) rfl)
  <| all_c (s_iconst (n := 1) (by decide +kernel) (by decide))
  <| all_c (s_ild_n (q := 2) (by decide +kernel) rfl)
  <| all_c (s_ishl (by decide +kernel))
  <| all_c (s_ior (by decide +kernel))
  <| all_c (s_ist_n (q := 1) (by decide +kernel) rfl)
  <| all_c (s_inc (n := 1) (by decide +kernel) (by decide))
  <| all_c (s_goto (off := (-33)) (by decide +kernel) (by decide))
  <| all_c (s_ild_n (q := 1) (by decide +kernel) rfl)
  <| all_c (s_iret (by decide +kernel) rfl)
  <| all_n
theorem t_X12_said {l : Launch} {E : En_} (hE : EOK_ E) : Good_ l E yX12_said (.code yX12_said cX12_said 3 (some .int) :: G_) (rm_ 84) (f_X12_said E.2.2.2.1) := good_all hE (by decide +kernel) (a_X12_said hE)
noncomputable def P_X12_image (K : Sh_)  : List (Nat × Op_) := [(0, o_ald 0 1),
  (1, o_ic 0 1),
  (2, o_pI K 12 0),
  (5, o_ald 0 1),
  (6, o_callV K 12 (f_X12_lay K) 0),
  (9, o_ild 1 1),
  (10, o_ic 0 1),
  (11, o_ic 1 1),
  (12, o_callS (f_X12_isIn K) 3),
  (15, o_ifne 20),
  (18, o_ic 0 1),
  (19, o_zret),
  (20, o_ic 0 1),
  (21, o_ist 2 1),
  (22, o_ild 2 1),
  (23, o_ic 1050 3),
  (26, o_cmpge 53),
  (29, o_ald 0 1),
  (30, o_gF K 12 16),
  (33, o_ic 1050 3),
  (36, o_ild 1 1),
  (37, o_imul),
  (38, o_ild 2 1),
  (39, o_iadd),
  (40, o_ald 0 1),
  (41, o_gF K 12 14),
  (44, o_ild 2 1),
  (45, o_iald K),
  (46, o_iast K),
  (47, o_inc 2 1),
  (50, o_goto 22),
  (53, o_ic 0 1),
  (54, o_ist 2 1),
  (55, o_ild 2 1),
  (56, o_ic 25 2),
  (58, o_cmpge 84),
  (61, o_ald 0 1),
  (62, o_gF K 12 19),
  (65, o_ic 25 2),
  (67, o_ild 1 1),
  (68, o_imul),
  (69, o_ild 2 1),
  (70, o_iadd),
  (71, o_ald 0 1),
  (72, o_gF K 12 17),
  (75, o_ild 2 1),
  (76, o_lald K),
  (77, o_last K),
  (78, o_inc 2 1),
  (81, o_goto 55),
  (84, o_ald 0 1),
  (85, o_gF K 12 20),
  (88, o_ild 1 1),
  (89, o_ic 1 1),
  (90, o_zast K),
  (91, o_ic 1 1),
  (92, o_zret)]
noncomputable def f_X12_image (K : Sh_) : Fn_ := fn_ (P_X12_image K) 3
set_option maxRecDepth 100000 in
theorem a_X12_image {l : Launch} {E : En_} (hE : EOK_ E)   : All_ (Snd_ l E yX12_image.cls cX12_image 3 (some .boolean) (.code yX12_image cX12_image 3 (some .boolean) :: G_) (rm_ 2)) (P_X12_image E.2.2.2.1 ) :=
  all_c (s_ald_n (q := 0) (by decide +kernel) rfl)
  <| all_c (s_iconst (n := 0) (by decide +kernel) (by decide))
  <| all_c (p_12_0 (by decide +kernel) fl_RX12_97)
  <| all_c (s_ald_n (q := 0) (by decide +kernel) rfl)
  <| all_c (s_callV (by decide +kernel) (t_X12_lay hE) cl_X12_lay ml_RX12_177 im_X12_lay se_X12_lay (by decide) rfl (rm_lt (by decide)))
  <| all_c (s_ild_n (q := 1) (by decide +kernel) rfl)
  <| all_c (s_iconst (n := 0) (by decide +kernel) (by decide))
  <| all_c (s_iconst (n := 1) (by decide +kernel) (by decide))
  <| all_c (s_callS (by decide +kernel) (t_X12_isIn hE) cl_X12_isIn ml_RX12_164 sm_X12_isIn (rm_lt (by decide)))
  <| all_c (s_ifne (off := 5) (by decide +kernel) (by decide))
  <| all_c (s_iconst (n := 0) (by decide +kernel) (by decide))
  <| all_c (s_zret (by decide +kernel) rfl)
  <| all_c (s_iconst (n := 0) (by decide +kernel) (by decide))
  <| all_c (s_ist_n (q := 2) (by decide +kernel) rfl)
  <| all_c (s_ild_n (q := 2) (by decide +kernel) rfl)
  <| all_c (s_sipush (n := 1050) (by decide +kernel) (by decide))
  <| all_c (s_cmpge (off := 27) (by decide +kernel) (by decide))
  <| all_c (s_ald_n (q := 0) (by decide +kernel) rfl)
  <| all_c (g_12_16 (by decide +kernel) fl_RX12_19)
  <| all_c (s_sipush (n := 1050) (by decide +kernel) (by decide))
  <| all_c (s_ild_n (q := 1) (by decide +kernel) rfl)
  <| all_c (s_imul (by decide +kernel))
  <| all_c (s_ild_n (q := 2) (by decide +kernel) rfl)
  <| all_c (s_iadd (by decide +kernel))
  <| all_c (s_ald_n (q := 0) (by decide +kernel) rfl)
  <| all_c (g_12_14 (by decide +kernel) fl_RX12_13)
  <| all_c (s_ild_n (q := 2) (by decide +kernel) rfl)
  <| all_c (s_iald (by decide +kernel))
  <| all_c (s_iast (by decide +kernel))
  <| all_c (s_inc (n := 1) (by decide +kernel) (by decide))
  <| all_c (s_goto (off := (-28)) (by decide +kernel) (by decide))
  <| all_c (s_iconst (n := 0) (by decide +kernel) (by decide))
  <| all_c (s_ist_n (q := 2) (by decide +kernel) rfl)
  <| all_c (s_ild_n (q := 2) (by decide +kernel) rfl)
  <| all_c (s_bipush (n := 25) (by decide +kernel) (by decide))
  <| all_c (s_cmpge (off := 26) (by decide +kernel) (by decide))
  <| all_c (s_ald_n (q := 0) (by decide +kernel) rfl)
  <| all_c (g_12_19 (by decide +kernel) fl_RX12_29)
  <| all_c (s_bipush (n := 25) (by decide +kernel) (by decide))
  <| all_c (s_ild_n (q := 1) (by decide +kernel) rfl)
  <| all_c (s_imul (by decide +kernel))
  <| all_c (s_ild_n (q := 2) (by decide +kernel) rfl)
  <| all_c (s_iadd (by decide +kernel))
  <| all_c (s_ald_n (q := 0) (by decide +kernel) rfl)
  <| all_c (g_12_17 (by decide +kernel) fl_RX12_22)
  <| all_c (s_ild_n (q := 2) (by decide +kernel) rfl)
  <| all_c (s_lald (by decide +kernel))
  <| all_c (s_last (by decide +kernel))
  <| all_c (s_inc (n := 1) (by decide +kernel) (by decide))
  <| all_c (s_goto (off := (-26)) (by decide +kernel) (by decide))
  <| all_c (s_ald_n (q := 0) (by decide +kernel) rfl)
  <| all_c (g_12_20 (by decide +kernel) fl_RX12_32)
  <| all_c (s_ild_n (q := 1) (by decide +kernel) rfl)
  <| all_c (s_iconst (n := 1) (by decide +kernel) (by decide))
  <| all_c (s_zast (by decide +kernel))
  <| all_c (s_iconst (n := 1) (by decide +kernel) (by decide))
  <| all_c (s_zret (by decide +kernel) rfl)
  <| all_n
theorem t_X12_image {l : Launch} {E : En_} (hE : EOK_ E) : Good_ l E yX12_image (.code yX12_image cX12_image 3 (some .boolean) :: G_) (rm_ 2) (f_X12_image E.2.2.2.1) := good_all hE (by decide +kernel) (a_X12_image hE)
noncomputable def P_X12_restore (K : Sh_)  : List (Nat × Op_) := [(0, o_ald 0 1),
  (1, o_ic 0 1),
  (2, o_pI K 12 0),
  (5, o_ald 0 1),
  (6, o_callV K 12 (f_X12_lay K) 0),
  (9, o_ild 1 1),
  (10, o_ic 0 1),
  (11, o_ic 1 1),
  (12, o_callS (f_X12_isIn K) 3),
  (15, o_ifeq 27),
  (18, o_ald 0 1),
  (19, o_gF K 12 20),
  (22, o_ild 1 1),
  (23, o_zald K),
  (24, o_ifne 29),
  (27, o_ic 0 1),
  (28, o_zret),
  (29, o_ic 0 1),
  (30, o_ist 2 1),
  (31, o_ild 2 1),
  (32, o_ic 1050 3),
  (35, o_cmpge 62),
  (38, o_ald 0 1),
  (39, o_gF K 12 14),
  (42, o_ild 2 1),
  (43, o_ald 0 1),
  (44, o_gF K 12 16),
  (47, o_ic 1050 3),
  (50, o_ild 1 1),
  (51, o_imul),
  (52, o_ild 2 1),
  (53, o_iadd),
  (54, o_iald K),
  (55, o_iast K),
  (56, o_inc 2 1),
  (59, o_goto 31),
  (62, o_ic 0 1),
  (63, o_ist 2 1),
  (64, o_ild 2 1),
  (65, o_ic 25 2),
  (67, o_cmpge 93),
  (70, o_ald 0 1),
  (71, o_gF K 12 17),
  (74, o_ild 2 1),
  (75, o_ald 0 1),
  (76, o_gF K 12 19),
  (79, o_ic 25 2),
  (81, o_ild 1 1),
  (82, o_imul),
  (83, o_ild 2 1),
  (84, o_iadd),
  (85, o_lald K),
  (86, o_last K),
  (87, o_inc 2 1),
  (90, o_goto 64),
  (93, o_ic 1 1),
  (94, o_zret)]
noncomputable def f_X12_restore (K : Sh_) : Fn_ := fn_ (P_X12_restore K) 3
set_option maxRecDepth 100000 in
theorem a_X12_restore {l : Launch} {E : En_} (hE : EOK_ E)   : All_ (Snd_ l E yX12_restore.cls cX12_restore 3 (some .boolean) (.code yX12_restore cX12_restore 3 (some .boolean) :: G_) (rm_ 2)) (P_X12_restore E.2.2.2.1 ) :=
  all_c (s_ald_n (q := 0) (by decide +kernel) rfl)
  <| all_c (s_iconst (n := 0) (by decide +kernel) (by decide))
  <| all_c (p_12_0 (by decide +kernel) fl_RX12_97)
  <| all_c (s_ald_n (q := 0) (by decide +kernel) rfl)
  <| all_c (s_callV (by decide +kernel) (t_X12_lay hE) cl_X12_lay ml_RX12_177 im_X12_lay se_X12_lay (by decide) rfl (rm_lt (by decide)))
  <| all_c (s_ild_n (q := 1) (by decide +kernel) rfl)
  <| all_c (s_iconst (n := 0) (by decide +kernel) (by decide))
  <| all_c (s_iconst (n := 1) (by decide +kernel) (by decide))
  <| all_c (s_callS (by decide +kernel) (t_X12_isIn hE) cl_X12_isIn ml_RX12_164 sm_X12_isIn (rm_lt (by decide)))
  <| all_c (s_ifeq (off := 12) (by decide +kernel) (by decide))
  <| all_c (s_ald_n (q := 0) (by decide +kernel) rfl)
  <| all_c (g_12_20 (by decide +kernel) fl_RX12_32)
  <| all_c (s_ild_n (q := 1) (by decide +kernel) rfl)
  <| all_c (s_zald (by decide +kernel))
  <| all_c (s_ifne (off := 5) (by decide +kernel) (by decide))
  <| all_c (s_iconst (n := 0) (by decide +kernel) (by decide))
  <| all_c (s_zret (by decide +kernel) rfl)
  <| all_c (s_iconst (n := 0) (by decide +kernel) (by decide))
  <| all_c (s_ist_n (q := 2) (by decide +kernel) rfl)
  <| all_c (s_ild_n (q := 2) (by decide +kernel) rfl)
  <| all_c (s_sipush (n := 1050) (by decide +kernel) (by decide))
  <| all_c (s_cmpge (off := 27) (by decide +kernel) (by decide))
  <| all_c (s_ald_n (q := 0) (by decide +kernel) rfl)
  <| all_c (g_12_14 (by decide +kernel) fl_RX12_13)
  <| all_c (s_ild_n (q := 2) (by decide +kernel) rfl)
  <| all_c (s_ald_n (q := 0) (by decide +kernel) rfl)
  <| all_c (g_12_16 (by decide +kernel) fl_RX12_19)
  <| all_c (s_sipush (n := 1050) (by decide +kernel) (by decide))
  <| all_c (s_ild_n (q := 1) (by decide +kernel) rfl)
  <| all_c (s_imul (by decide +kernel))
  <| all_c (s_ild_n (q := 2) (by decide +kernel) rfl)
  <| all_c (s_iadd (by decide +kernel))
  <| all_c (s_iald (by decide +kernel))
  <| all_c (s_iast (by decide +kernel))
  <| all_c (s_inc (n := 1) (by decide +kernel) (by decide))
  <| all_c (s_goto (off := (-28)) (by decide +kernel) (by decide))
  <| all_c (s_iconst (n := 0) (by decide +kernel) (by decide))
  <| all_c (s_ist_n (q := 2) (by decide +kernel) rfl)
  <| all_c (s_ild_n (q := 2) (by decide +kernel) rfl)
  <| all_c (s_bipush (n := 25) (by decide +kernel) (by decide))
  <| all_c (s_cmpge (off := 26) (by decide +kernel) (by decide))
  <| all_c (s_ald_n (q := 0) (by decide +kernel) rfl)
  <| all_c (g_12_17 (by decide +kernel) fl_RX12_22)
  <| all_c (s_ild_n (q := 2) (by decide +kernel) rfl)
  <| all_c (s_ald_n (q := 0) (by decide +kernel) rfl)
  <| all_c (g_12_19 (by decide +kernel) fl_RX12_29)
  <| all_c (s_bipush (n := 25) (by decide +kernel) (by decide))
  <| all_c (s_ild_n (q := 1) (by decide +kernel) rfl)
  <| all_c (s_imul (by decide +kernel))
  <| all_c (s_ild_n (q := 2) (by decide +kernel) rfl)
  <| all_c (s_iadd (by decide +kernel))
  <| all_c (s_lald (by decide +kernel))
  <| all_c (s_last (by decide +kernel))
  <| all_c (s_inc (n := 1) (by decide +kernel) (by decide))
  <| all_c (s_goto (off := (-26)) (by decide +kernel) (by decide))
  <| all_c (s_iconst (n := 1) (by decide +kernel) (by decide))
  <| all_c (s_zret (by decide +kernel) rfl)
  <| all_n
theorem t_X12_restore {l : Launch} {E : En_} (hE : EOK_ E) : Good_ l E yX12_restore (.code yX12_restore cX12_restore 3 (some .boolean) :: G_) (rm_ 2) (f_X12_restore E.2.2.2.1) := good_all hE (by decide +kernel) (a_X12_restore hE)
noncomputable def P_X12_count (K : Sh_)  : List (Nat × Op_) := [(0, o_ald 0 1),
  (1, o_ic 0 1),
  (2, o_pI K 12 0),
  (5, o_ald 0 1),
  (6, o_callV K 12 (f_X12_lay K) 0),
  (9, o_ild 1 1),
  (10, o_tsw 0 5 86 [48, 53, 58, 67, 74, 81]),
  (48, o_ald 0 1),
  (49, o_callV K 12 (f_X12_chaps K) 0),
  (52, o_iret),
  (53, o_ald 0 1),
  (54, o_callV K 12 (f_X12_readers K) 0),
  (57, o_iret),
  (58, o_ald 0 1),
  (59, o_gF K 12 14),
  (62, o_ic 390 3),
  (65, o_iald K),
  (66, o_iret),
  (67, o_ald 0 1),
  (68, o_gF K 12 14),
  (71, o_ic 2 1),
  (72, o_iald K),
  (73, o_iret),
  (74, o_ald 0 1),
  (75, o_gF K 12 14),
  (78, o_ic 3 1),
  (79, o_iald K),
  (80, o_iret),
  (81, o_ald 0 1),
  (82, o_gI K 12 2),
  (85, o_iret),
  (86, o_ic (-1) 1),
  (87, o_iret)]
noncomputable def f_X12_count (K : Sh_) : Fn_ := fn_ (P_X12_count K) 2
set_option maxRecDepth 100000 in
theorem a_X12_count {l : Launch} {E : En_} (hE : EOK_ E)   : All_ (Snd_ l E yX12_count.cls cX12_count 2 (some .int) (.code yX12_count cX12_count 2 (some .int) :: G_) (rm_ 2)) (P_X12_count E.2.2.2.1 ) :=
  all_c (s_ald_n (q := 0) (by decide +kernel) rfl)
  <| all_c (s_iconst (n := 0) (by decide +kernel) (by decide))
  <| all_c (p_12_0 (by decide +kernel) fl_RX12_97)
  <| all_c (s_ald_n (q := 0) (by decide +kernel) rfl)
  <| all_c (s_callV (by decide +kernel) (t_X12_lay hE) cl_X12_lay ml_RX12_177 im_X12_lay se_X12_lay (by decide) rfl (rm_lt (by decide)))
  <| all_c (s_ild_n (q := 1) (by decide +kernel) rfl)
  <| all_c (s_tsw (df := 76) (offs := #[38, 43, 48, 57, 64, 71]) (n := 38) (by decide +kernel) (by decide) (by decide))
  <| all_c (s_ald_n (q := 0) (by decide +kernel) rfl)
  <| all_c (s_callV (by decide +kernel) (t_X12_chaps hE) cl_X12_chaps ml_RX12_188 im_X12_chaps se_X12_chaps (by decide) rfl (rm_lt (by decide)))
  <| all_c (s_iret (by decide +kernel) rfl)
  <| all_c (s_ald_n (q := 0) (by decide +kernel) rfl)
  <| all_c (s_callV (by decide +kernel) (t_X12_readers hE) cl_X12_readers ml_RX12_191 im_X12_readers se_X12_readers (by decide) rfl (rm_lt (by decide)))
  <| all_c (s_iret (by decide +kernel) rfl)
  <| all_c (s_ald_n (q := 0) (by decide +kernel) rfl)
  <| all_c (g_12_14 (by decide +kernel) fl_RX12_13)
  <| all_c (s_sipush (n := 390) (by decide +kernel) (by decide))
  <| all_c (s_iald (by decide +kernel))
  <| all_c (s_iret (by decide +kernel) rfl)
  <| all_c (s_ald_n (q := 0) (by decide +kernel) rfl)
  <| all_c (g_12_14 (by decide +kernel) fl_RX12_13)
  <| all_c (s_iconst (n := 2) (by decide +kernel) (by decide))
  <| all_c (s_iald (by decide +kernel))
  <| all_c (s_iret (by decide +kernel) rfl)
  <| all_c (s_ald_n (q := 0) (by decide +kernel) rfl)
  <| all_c (g_12_14 (by decide +kernel) fl_RX12_13)
  <| all_c (s_iconst (n := 3) (by decide +kernel) (by decide))
  <| all_c (s_iald (by decide +kernel))
  <| all_c (s_iret (by decide +kernel) rfl)
  <| all_c (s_ald_n (q := 0) (by decide +kernel) rfl)
  <| all_c (g_12_2 (by decide +kernel) fl_RX12_100)
  <| all_c (s_iret (by decide +kernel) rfl)
  <| all_c (s_iconst (n := (-1)) (by decide +kernel) (by decide))
  <| all_c (s_iret (by decide +kernel) rfl)
  <| all_n
theorem t_X12_count {l : Launch} {E : En_} (hE : EOK_ E) : Good_ l E yX12_count (.code yX12_count cX12_count 2 (some .int) :: G_) (rm_ 2) (f_X12_count E.2.2.2.1) := good_all hE (by decide +kernel) (a_X12_count hE)
