noncomputable def P_X12_book (K : Sh_)  : List (Nat × Op_) := [(0, o_ald 0 1),
  (1, o_ic 1000 3),
  (4, o_callV K 12 (f_X12_begin K) 1),
  (7, o_ald 0 1),
  (8, o_gF K 12 15),
  (11, o_ic 0 1),
  (12, o_ic 0 1),
  (13, o_iast K),
  (14, o_ald 0 1),
  (15, o_gF K 12 15),
  (18, o_ic 1 1),
  (19, o_ic 0 1),
  (20, o_iast K),
  (21, o_ald 0 1),
  (22, o_gF K 12 15),
  (25, o_ic 2 1),
  (26, o_ic 20 2),
  (28, o_iast K),
  (29, o_ald 0 1),
  (30, o_gF K 12 15),
  (33, o_ic 3 1),
  (34, o_ic 8 2),
  (36, o_iast K),
  (37, o_ald 0 1),
  (38, o_ic 0 1),
  (39, o_pI K 12 22),
  (42, o_ic 0 1),
  (43, o_aft [2] (o_ist 1 1)),
  (44, o_ald 0 1),
  (45, o_gI K 12 7),
  (48, o_ifeq 71),
  (51, o_ald 0 1),
  (52, o_callV K 12 (f_X12_readLine K) 0),
  (55, o_ifne 65),
  (58, o_ic (-1) 1),
  (59, o_ald 0 1),
  (60, o_gI K 12 11),
  (63, o_isub),
  (64, o_iret),
  (65, o_inc 1 1),
  (68, o_aft [2] (o_goto 44)),
  (71, o_ic 0 1),
  (72, o_ist 2 1),
  (73, o_ild 2 1),
  (74, o_ic 390 3),
  (77, o_cmpge 98),
  (80, o_ald 0 1),
  (81, o_gF K 12 14),
  (84, o_ild 2 1),
  (85, o_ald 0 1),
  (86, o_gF K 12 15),
  (89, o_ild 2 1),
  (90, o_iald K),
  (91, o_iast K),
  (92, o_inc 2 1),
  (95, o_goto 73),
  (98, o_ic 0 1),
  (99, o_ist 2 1),
  (100, o_ild 2 1),
  (101, o_ic 25 2),
  (103, o_cmpge 124),
  (106, o_ald 0 1),
  (107, o_gF K 12 17),
  (110, o_ild 2 1),
  (111, o_ald 0 1),
  (112, o_gF K 12 18),
  (115, o_ild 2 1),
  (116, o_lald K),
  (117, o_last K),
  (118, o_inc 2 1),
  (121, o_goto 100),
  (124, o_ald 0 1),
  (125, o_gF K 12 14),
  (128, o_ic 390 3),
  (131, o_ic 0 1),
  (132, o_iast K),
  (133, o_ald 0 1),
  (134, o_gF K 12 14),
  (137, o_ic 800 3),
  (140, o_ic 0 1),
  (141, o_iast K),
  (142, o_ild 1 1),
  (143, o_iret)]
noncomputable def f_X12_book (K : Sh_) : Fn_ := fn_ (P_X12_book K) 3
set_option maxRecDepth 100000 in
theorem a_X12_book {l : Launch} {E : En_} (hE : EOK_ E)   : All_ (Snd_ l E yX12_book.cls cX12_book 3 (some .int) (.code yX12_book cX12_book 3 (some .int) :: G_) (rm_ 7)) (P_X12_book E.2.2.2.1 ) :=
  all_c (s_ald_n (q := 0) (by decide +kernel) rfl)
  <| all_c (s_sipush (n := 1000) (by decide +kernel) (by decide))
  <| all_c (s_callV (by decide +kernel) (t_X12_begin hE) cl_X12_begin ml_RX12_226 im_X12_begin se_X12_begin (by decide) rfl (rm_lt (by decide)))
  <| all_c (s_ald_n (q := 0) (by decide +kernel) rfl)
  <| all_c (g_12_15 (by decide +kernel) fl_RX12_16)
  <| all_c (s_iconst (n := 0) (by decide +kernel) (by decide))
  <| all_c (s_iconst (n := 0) (by decide +kernel) (by decide))
  <| all_c (s_iast (by decide +kernel))
  <| all_c (s_ald_n (q := 0) (by decide +kernel) rfl)
  <| all_c (g_12_15 (by decide +kernel) fl_RX12_16)
  <| all_c (s_iconst (n := 1) (by decide +kernel) (by decide))
  <| all_c (s_iconst (n := 0) (by decide +kernel) (by decide))
  <| all_c (s_iast (by decide +kernel))
  <| all_c (s_ald_n (q := 0) (by decide +kernel) rfl)
  <| all_c (g_12_15 (by decide +kernel) fl_RX12_16)
  <| all_c (s_iconst (n := 2) (by decide +kernel) (by decide))
  <| all_c (s_bipush (n := 20) (by decide +kernel) (by decide))
  <| all_c (s_iast (by decide +kernel))
  <| all_c (s_ald_n (q := 0) (by decide +kernel) rfl)
  <| all_c (g_12_15 (by decide +kernel) fl_RX12_16)
  <| all_c (s_iconst (n := 3) (by decide +kernel) (by decide))
  <| all_c (s_bipush (n := 8) (by decide +kernel) (by decide))
  <| all_c (s_iast (by decide +kernel))
  <| all_c (s_ald_n (q := 0) (by decide +kernel) rfl)
  <| all_c (s_iconst (n := 0) (by decide +kernel) (by decide))
  <| all_c (p_12_22 (by decide +kernel) fl_RX12_220)
  <| all_c (s_iconst (n := 0) (by decide +kernel) (by decide))
  <| all_c (s_aft (s_ist_n (q := 1) (by decide +kernel) rfl))
  <| all_c (s_ald_n (q := 0) (by decide +kernel) rfl)
  <| all_c (g_12_7 (by decide +kernel) fl_RX12_119)
  <| all_c (s_ifeq (off := 23) (by decide +kernel) (by decide))
  <| all_c (s_ald_n (q := 0) (by decide +kernel) rfl)
  <| all_c (s_callV (by decide +kernel) (t_X12_readLine hE) cl_X12_readLine ml_RX12_229 im_X12_readLine se_X12_readLine (by decide) rfl (rm_lt (by decide)))
  <| all_c (s_ifne (off := 10) (by decide +kernel) (by decide))
  <| all_c (s_iconst (n := (-1)) (by decide +kernel) (by decide))
  <| all_c (s_ald_n (q := 0) (by decide +kernel) rfl)
  <| all_c (g_12_11 (by decide +kernel) fl_RX12_158)
  <| all_c (s_isub (by decide +kernel))
  <| all_c (s_iret (by decide +kernel) rfl)
  <| all_c (s_inc (n := 1) (by decide +kernel) (by decide))
  <| all_c (s_aft (s_goto (off := (-24)) (by decide +kernel) (by decide)))
  <| all_c (s_iconst (n := 0) (by decide +kernel) (by decide))
  <| all_c (s_ist_n (q := 2) (by decide +kernel) rfl)
  <| all_c (s_ild_n (q := 2) (by decide +kernel) rfl)
  <| all_c (s_sipush (n := 390) (by decide +kernel) (by decide))
  <| all_c (s_cmpge (off := 21) (by decide +kernel) (by decide))
  <| all_c (s_ald_n (q := 0) (by decide +kernel) rfl)
  <| all_c (g_12_14 (by decide +kernel) fl_RX12_13)
  <| all_c (s_ild_n (q := 2) (by decide +kernel) rfl)
  <| all_c (s_ald_n (q := 0) (by decide +kernel) rfl)
  <| all_c (g_12_15 (by decide +kernel) fl_RX12_16)
  <| all_c (s_ild_n (q := 2) (by decide +kernel) rfl)
  <| all_c (s_iald (by decide +kernel))
  <| all_c (s_iast (by decide +kernel))
  <| all_c (s_inc (n := 1) (by decide +kernel) (by decide))
  <| all_c (s_goto (off := (-22)) (by decide +kernel) (by decide))
  <| all_c (s_iconst (n := 0) (by decide +kernel) (by decide))
  <| all_c (s_ist_n (q := 2) (by decide +kernel) rfl)
  <| all_c (s_ild_n (q := 2) (by decide +kernel) rfl)
  <| all_c (s_bipush (n := 25) (by decide +kernel) (by decide))
  <| all_c (s_cmpge (off := 21) (by decide +kernel) (by decide))
  <| all_c (s_ald_n (q := 0) (by decide +kernel) rfl)
  <| all_c (g_12_17 (by decide +kernel) fl_RX12_22)
  <| all_c (s_ild_n (q := 2) (by decide +kernel) rfl)
  <| all_c (s_ald_n (q := 0) (by decide +kernel) rfl)
  <| all_c (g_12_18 (by decide +kernel) fl_RX12_26)
  <| all_c (s_ild_n (q := 2) (by decide +kernel) rfl)
  <| all_c (s_lald (by decide +kernel))
  <| all_c (s_last (by decide +kernel))
  <| all_c (s_inc (n := 1) (by decide +kernel) (by decide))
  <| all_c (s_goto (off := (-21)) (by decide +kernel) (by decide))
  <| all_c (s_ald_n (q := 0) (by decide +kernel) rfl)
  <| all_c (g_12_14 (by decide +kernel) fl_RX12_13)
  <| all_c (s_sipush (n := 390) (by decide +kernel) (by decide))
  <| all_c (s_iconst (n := 0) (by decide +kernel) (by decide))
  <| all_c (s_iast (by decide +kernel))
  <| all_c (s_ald_n (q := 0) (by decide +kernel) rfl)
  <| all_c (g_12_14 (by decide +kernel) fl_RX12_13)
  <| all_c (s_sipush (n := 800) (by decide +kernel) (by decide))
  <| all_c (s_iconst (n := 0) (by decide +kernel) (by decide))
  <| all_c (s_iast (by decide +kernel))
  <| all_c (s_ild_n (q := 1) (by decide +kernel) rfl)
  <| all_c (s_iret (by decide +kernel) rfl)
  <| all_n
theorem t_X12_book {l : Launch} {E : En_} (hE : EOK_ E) : Good_ l E yX12_book (.code yX12_book cX12_book 3 (some .int) :: G_) (rm_ 7) (f_X12_book E.2.2.2.1) := good_all hE (by decide +kernel) (a_X12_book hE)
noncomputable def P_X12_fault (K : Sh_)  : List (Nat × Op_) := [(0, o_ald 0 1),
  (1, o_ic 0 1),
  (2, o_pI K 12 0),
  (5, o_ald 0 1),
  (6, o_gI K 12 10),
  (9, o_iret)]
noncomputable def f_X12_fault (K : Sh_) : Fn_ := fn_ (P_X12_fault K) 1
set_option maxRecDepth 100000 in
theorem a_X12_fault {l : Launch} {E : En_} (hE : EOK_ E)   : All_ (Snd_ l E yX12_fault.cls cX12_fault 1 (some .int) (.code yX12_fault cX12_fault 1 (some .int) :: G_) (rm_ 1)) (P_X12_fault E.2.2.2.1 ) :=
  all_c (s_ald_n (q := 0) (by decide +kernel) rfl)
  <| all_c (s_iconst (n := 0) (by decide +kernel) (by decide))
  <| all_c (p_12_0 (by decide +kernel) fl_RX12_97)
  <| all_c (s_ald_n (q := 0) (by decide +kernel) rfl)
  <| all_c (g_12_10 (by decide +kernel) fl_RX12_155)
  <| all_c (s_iret (by decide +kernel) rfl)
  <| all_n
theorem t_X12_fault {l : Launch} {E : En_} (hE : EOK_ E) : Good_ l E yX12_fault (.code yX12_fault cX12_fault 1 (some .int) :: G_) (rm_ 1) (f_X12_fault E.2.2.2.1) := good_all hE (by decide +kernel) (a_X12_fault hE)
noncomputable def P_X12_chap (K : Sh_)  : List (Nat × Op_) := [(0, o_ald 0 1),
  (1, o_callV K 12 (f_X12_lay K) 0),
  (4, o_ald 0 1),
  (5, o_ild 1 1),
  (6, o_callV K 12 (f_X12_isChap K) 1),
  (9, o_ifeq 21),
  (12, o_ild 2 1),
  (13, o_ic 0 1),
  (14, o_ic 3 1),
  (15, o_callS (f_X12_isIn K) 3),
  (18, o_ifne 26),
  (21, o_ald 0 1),
  (22, o_callV K 12 (f_X12_refuse K) 0),
  (25, o_iret),
  (26, o_ald 0 1),
  (27, o_ic 0 1),
  (28, o_pI K 12 0),
  (31, o_ild 2 1),
  (32, o_ic 3 1),
  (33, o_cmpge 43),
  (36, o_ald 0 1),
  (37, o_ild 1 1),
  (38, o_ild 2 1),
  (39, o_callV K 12 (f_X12_chapOf K) 2),
  (42, o_iret),
  (43, o_ic 0 1),
  (44, o_ist 3 1),
  (45, o_ic 0 1),
  (46, o_ist 4 2),
  (48, o_ild 4 2),
  (50, o_ild 1 1),
  (51, o_cmpge 73),
  (54, o_ald 0 1),
  (55, o_ild 1 1),
  (56, o_ild 4 2),
  (58, o_callV K 12 (f_X12_leanOf K) 2),
  (61, o_ifle 67),
  (64, o_inc 3 1),
  (67, o_inc 4 1),
  (70, o_goto 48),
  (73, o_ild 3 1),
  (74, o_iret)]
noncomputable def f_X12_chap (K : Sh_) : Fn_ := fn_ (P_X12_chap K) 5
set_option maxRecDepth 100000 in
theorem a_X12_chap {l : Launch} {E : En_} (hE : EOK_ E)   : All_ (Snd_ l E yX12_chap.cls cX12_chap 5 (some .int) (.code yX12_chap cX12_chap 5 (some .int) :: G_) (rm_ 3)) (P_X12_chap E.2.2.2.1 ) :=
  all_c (s_ald_n (q := 0) (by decide +kernel) rfl)
  <| all_c (s_callV (by decide +kernel) (t_X12_lay hE) cl_X12_lay ml_RX12_177 im_X12_lay se_X12_lay (by decide) rfl (rm_lt (by decide)))
  <| all_c (s_ald_n (q := 0) (by decide +kernel) rfl)
  <| all_c (s_ild_n (q := 1) (by decide +kernel) rfl)
  <| all_c (s_callV (by decide +kernel) (t_X12_isChap hE) cl_X12_isChap ml_RX12_232 im_X12_isChap se_X12_isChap (by decide) rfl (rm_lt (by decide)))
  <| all_c (s_ifeq (off := 12) (by decide +kernel) (by decide))
  <| all_c (s_ild_n (q := 2) (by decide +kernel) rfl)
  <| all_c (s_iconst (n := 0) (by decide +kernel) (by decide))
  <| all_c (s_iconst (n := 3) (by decide +kernel) (by decide))
  <| all_c (s_callS (by decide +kernel) (t_X12_isIn hE) cl_X12_isIn ml_RX12_164 sm_X12_isIn (rm_lt (by decide)))
  <| all_c (s_ifne (off := 8) (by decide +kernel) (by decide))
  <| all_c (s_ald_n (q := 0) (by decide +kernel) rfl)
  <| all_c (s_callV (by decide +kernel) (t_X12_refuse hE) cl_X12_refuse ml_RX12_235 im_X12_refuse se_X12_refuse (by decide) rfl (rm_lt (by decide)))
  <| all_c (s_iret (by decide +kernel) rfl)
  <| all_c (s_ald_n (q := 0) (by decide +kernel) rfl)
  <| all_c (s_iconst (n := 0) (by decide +kernel) (by decide))
  <| all_c (p_12_0 (by decide +kernel) fl_RX12_97)
  <| all_c (s_ild_n (q := 2) (by decide +kernel) rfl)
  <| all_c (s_iconst (n := 3) (by decide +kernel) (by decide))
  <| all_c (s_cmpge (off := 10) (by decide +kernel) (by decide))
  <| all_c (s_ald_n (q := 0) (by decide +kernel) rfl)
  <| all_c (s_ild_n (q := 1) (by decide +kernel) rfl)
  <| all_c (s_ild_n (q := 2) (by decide +kernel) rfl)
  <| all_c (s_callV (by decide +kernel) (t_X12_chapOf hE) cl_X12_chapOf ml_RX12_238 im_X12_chapOf se_X12_chapOf (by decide) rfl (rm_lt (by decide)))
  <| all_c (s_iret (by decide +kernel) rfl)
  <| all_c (s_iconst (n := 0) (by decide +kernel) (by decide))
  <| all_c (s_ist_n (q := 3) (by decide +kernel) rfl)
  <| all_c (s_iconst (n := 0) (by decide +kernel) (by decide))
  <| all_c (s_ist (by decide +kernel))
  <| all_c (s_ild (by decide +kernel))
  <| all_c (s_ild_n (q := 1) (by decide +kernel) rfl)
  <| all_c (s_cmpge (off := 22) (by decide +kernel) (by decide))
  <| all_c (s_ald_n (q := 0) (by decide +kernel) rfl)
  <| all_c (s_ild_n (q := 1) (by decide +kernel) rfl)
  <| all_c (s_ild (by decide +kernel))
  <| all_c (s_callV (by decide +kernel) (t_X12_leanOf hE) cl_X12_leanOf ml_RX12_242 im_X12_leanOf se_X12_leanOf (by decide) rfl (rm_lt (by decide)))
  <| all_c (s_ifle (off := 6) (by decide +kernel) (by decide))
  <| all_c (s_inc (n := 1) (by decide +kernel) (by decide))
  <| all_c (s_inc (n := 1) (by decide +kernel) (by decide))
  <| all_c (s_goto (off := (-22)) (by decide +kernel) (by decide))
  <| all_c (s_ild_n (q := 3) (by decide +kernel) rfl)
  <| all_c (s_iret (by decide +kernel) rfl)
  <| all_n
theorem t_X12_chap {l : Launch} {E : En_} (hE : EOK_ E) : Good_ l E yX12_chap (.code yX12_chap cX12_chap 5 (some .int) :: G_) (rm_ 3) (f_X12_chap E.2.2.2.1) := good_all hE (by decide +kernel) (a_X12_chap hE)
noncomputable def P_X12_leans (K : Sh_)  : List (Nat × Op_) := [(0, o_ald 0 1),
  (1, o_ic 0 1),
  (2, o_pI K 12 0),
  (5, o_ald 0 1),
  (6, o_callV K 12 (f_X12_lay K) 0),
  (9, o_ald 0 1),
  (10, o_ild 1 1),
  (11, o_callV K 12 (f_X12_isChap K) 1),
  (14, o_ifeq 25),
  (17, o_ald 0 1),
  (18, o_ild 2 1),
  (19, o_callV K 12 (f_X12_isChap K) 1),
  (22, o_ifne 29),
  (25, o_ic (-1) 1),
  (26, o_goto 44),
  (29, o_ild 2 1),
  (30, o_ild 1 1),
  (31, o_cmpge 43),
  (34, o_ald 0 1),
  (35, o_ild 1 1),
  (36, o_ild 2 1),
  (37, o_callV K 12 (f_X12_leanOf K) 2),
  (40, o_goto 44),
  (43, o_ic 0 1),
  (44, o_iret)]
noncomputable def f_X12_leans (K : Sh_) : Fn_ := fn_ (P_X12_leans K) 3
set_option maxRecDepth 100000 in
theorem a_X12_leans {l : Launch} {E : En_} (hE : EOK_ E)   : All_ (Snd_ l E yX12_leans.cls cX12_leans 3 (some .int) (.code yX12_leans cX12_leans 3 (some .int) :: G_) (rm_ 3)) (P_X12_leans E.2.2.2.1 ) :=
  all_c (s_ald_n (q := 0) (by decide +kernel) rfl)
  <| all_c (s_iconst (n := 0) (by decide +kernel) (by decide))
  <| all_c (p_12_0 (by decide +kernel) fl_RX12_97)
  <| all_c (s_ald_n (q := 0) (by decide +kernel) rfl)
  <| all_c (s_callV (by decide +kernel) (t_X12_lay hE) cl_X12_lay ml_RX12_177 im_X12_lay se_X12_lay (by decide) rfl (rm_lt (by decide)))
  <| all_c (s_ald_n (q := 0) (by decide +kernel) rfl)
  <| all_c (s_ild_n (q := 1) (by decide +kernel) rfl)
  <| all_c (s_callV (by decide +kernel) (t_X12_isChap hE) cl_X12_isChap ml_RX12_232 im_X12_isChap se_X12_isChap (by decide) rfl (rm_lt (by decide)))
  <| all_c (s_ifeq (off := 11) (by decide +kernel) (by decide))
  <| all_c (s_ald_n (q := 0) (by decide +kernel) rfl)
  <| all_c (s_ild_n (q := 2) (by decide +kernel) rfl)
  <| all_c (s_callV (by decide +kernel) (t_X12_isChap hE) cl_X12_isChap ml_RX12_232 im_X12_isChap se_X12_isChap (by decide) rfl (rm_lt (by decide)))
  <| all_c (s_ifne (off := 7) (by decide +kernel) (by decide))
  <| all_c (s_iconst (n := (-1)) (by decide +kernel) (by decide))
  <| all_c (s_goto (off := 18) (by decide +kernel) (by decide))
  <| all_c (s_ild_n (q := 2) (by decide +kernel) rfl)
  <| all_c (s_ild_n (q := 1) (by decide +kernel) rfl)
  <| all_c (s_cmpge (off := 12) (by decide +kernel) (by decide))
  <| all_c (s_ald_n (q := 0) (by decide +kernel) rfl)
  <| all_c (s_ild_n (q := 1) (by decide +kernel) rfl)
  <| all_c (s_ild_n (q := 2) (by decide +kernel) rfl)
  <| all_c (s_callV (by decide +kernel) (t_X12_leanOf hE) cl_X12_leanOf ml_RX12_242 im_X12_leanOf se_X12_leanOf (by decide) rfl (rm_lt (by decide)))
  <| all_c (s_goto (off := 4) (by decide +kernel) (by decide))
  <| all_c (s_iconst (n := 0) (by decide +kernel) (by decide))
  <| all_c (s_iret (by decide +kernel) rfl)
  <| all_n
theorem t_X12_leans {l : Launch} {E : En_} (hE : EOK_ E) : Good_ l E yX12_leans (.code yX12_leans cX12_leans 3 (some .int) :: G_) (rm_ 3) (f_X12_leans E.2.2.2.1) := good_all hE (by decide +kernel) (a_X12_leans hE)
noncomputable def P_X12_reader (K : Sh_)  : List (Nat × Op_) := [(0, o_ald 0 1),
  (1, o_callV K 12 (f_X12_lay K) 0),
  (4, o_ald 0 1),
  (5, o_ild 1 1),
  (6, o_callV K 12 (f_X12_isReader K) 1),
  (9, o_ifeq 21),
  (12, o_ild 2 1),
  (13, o_ic 0 1),
  (14, o_ic 4 1),
  (15, o_callS (f_X12_isIn K) 3),
  (18, o_ifne 26),
  (21, o_ald 0 1),
  (22, o_callV K 12 (f_X12_refuse K) 0),
  (25, o_iret),
  (26, o_ald 0 1),
  (27, o_ic 0 1),
  (28, o_pI K 12 0),
  (31, o_ald 0 1),
  (32, o_ild 1 1),
  (33, o_ild 2 1),
  (34, o_callV K 12 (f_X12_readerOf K) 2),
  (37, o_iret)]
noncomputable def f_X12_reader (K : Sh_) : Fn_ := fn_ (P_X12_reader K) 3
set_option maxRecDepth 100000 in
theorem a_X12_reader {l : Launch} {E : En_} (hE : EOK_ E)   : All_ (Snd_ l E yX12_reader.cls cX12_reader 3 (some .int) (.code yX12_reader cX12_reader 3 (some .int) :: G_) (rm_ 3)) (P_X12_reader E.2.2.2.1 ) :=
  all_c (s_ald_n (q := 0) (by decide +kernel) rfl)
  <| all_c (s_callV (by decide +kernel) (t_X12_lay hE) cl_X12_lay ml_RX12_177 im_X12_lay se_X12_lay (by decide) rfl (rm_lt (by decide)))
  <| all_c (s_ald_n (q := 0) (by decide +kernel) rfl)
  <| all_c (s_ild_n (q := 1) (by decide +kernel) rfl)
  <| all_c (s_callV (by decide +kernel) (t_X12_isReader hE) cl_X12_isReader ml_RX12_245 im_X12_isReader se_X12_isReader (by decide) rfl (rm_lt (by decide)))
  <| all_c (s_ifeq (off := 12) (by decide +kernel) (by decide))
  <| all_c (s_ild_n (q := 2) (by decide +kernel) rfl)
  <| all_c (s_iconst (n := 0) (by decide +kernel) (by decide))
  <| all_c (s_iconst (n := 4) (by decide +kernel) (by decide))
  <| all_c (s_callS (by decide +kernel) (t_X12_isIn hE) cl_X12_isIn ml_RX12_164 sm_X12_isIn (rm_lt (by decide)))
  <| all_c (s_ifne (off := 8) (by decide +kernel) (by decide))
  <| all_c (s_ald_n (q := 0) (by decide +kernel) rfl)
  <| all_c (s_callV (by decide +kernel) (t_X12_refuse hE) cl_X12_refuse ml_RX12_235 im_X12_refuse se_X12_refuse (by decide) rfl (rm_lt (by decide)))
  <| all_c (s_iret (by decide +kernel) rfl)
  <| all_c (s_ald_n (q := 0) (by decide +kernel) rfl)
  <| all_c (s_iconst (n := 0) (by decide +kernel) (by decide))
  <| all_c (p_12_0 (by decide +kernel) fl_RX12_97)
  <| all_c (s_ald_n (q := 0) (by decide +kernel) rfl)
  <| all_c (s_ild_n (q := 1) (by decide +kernel) rfl)
  <| all_c (s_ild_n (q := 2) (by decide +kernel) rfl)
  <| all_c (s_callV (by decide +kernel) (t_X12_readerOf hE) cl_X12_readerOf ml_RX12_248 im_X12_readerOf se_X12_readerOf (by decide) rfl (rm_lt (by decide)))
  <| all_c (s_iret (by decide +kernel) rfl)
  <| all_n
theorem t_X12_reader {l : Launch} {E : En_} (hE : EOK_ E) : Good_ l E yX12_reader (.code yX12_reader cX12_reader 3 (some .int) :: G_) (rm_ 3) (f_X12_reader E.2.2.2.1) := good_all hE (by decide +kernel) (a_X12_reader hE)
noncomputable def P_X12_addAct (K : Sh_)  : List (Nat × Op_) := [(0, o_ald 0 1),
  (1, o_gI K 12 24),
  (4, o_ic 100 2),
  (6, o_cmpne 11),
  (9, o_ic 0 1),
  (10, o_zret),
  (11, o_ald 0 1),
  (12, o_gF K 12 23),
  (15, o_ic 4 1),
  (16, o_ald 0 1),
  (17, o_gI K 12 24),
  (20, o_imul),
  (21, o_ic 0 1),
  (22, o_iadd),
  (23, o_ild 1 1),
  (24, o_iast K),
  (25, o_ald 0 1),
  (26, o_gF K 12 23),
  (29, o_ic 4 1),
  (30, o_ald 0 1),
  (31, o_gI K 12 24),
  (34, o_imul),
  (35, o_ic 1 1),
  (36, o_iadd),
  (37, o_ild 2 1),
  (38, o_iast K),
  (39, o_ald 0 1),
  (40, o_gF K 12 23),
  (43, o_ic 4 1),
  (44, o_ald 0 1),
  (45, o_gI K 12 24),
  (48, o_imul),
  (49, o_ic 2 1),
  (50, o_iadd),
  (51, o_ild 3 1),
  (52, o_iast K),
  (53, o_ald 0 1),
  (54, o_gF K 12 23),
  (57, o_ic 4 1),
  (58, o_ald 0 1),
  (59, o_gI K 12 24),
  (62, o_imul),
  (63, o_ic 3 1),
  (64, o_iadd),
  (65, o_ild 4 2),
  (67, o_iast K),
  (68, o_ald 0 1),
  (69, o_dup),
  (70, o_gI K 12 24),
  (73, o_ic 1 1),
  (74, o_iadd),
  (75, o_pI K 12 24),
  (78, o_ic 1 1),
  (79, o_zret)]
noncomputable def f_X12_addAct (K : Sh_) : Fn_ := fn_ (P_X12_addAct K) 5
set_option maxRecDepth 100000 in
theorem a_X12_addAct {l : Launch} {E : En_} (hE : EOK_ E)   : All_ (Snd_ l E yX12_addAct.cls cX12_addAct 5 (some .boolean) (.code yX12_addAct cX12_addAct 5 (some .boolean) :: G_) (rm_ 1)) (P_X12_addAct E.2.2.2.1 ) :=
  all_c (s_ald_n (q := 0) (by decide +kernel) rfl)
  <| all_c (g_12_24 (by decide +kernel) fl_RX12_251)
  <| all_c (s_bipush (n := 100) (by decide +kernel) (by decide))
  <| all_c (s_cmpne (off := 5) (by decide +kernel) (by decide))
  <| all_c (s_iconst (n := 0) (by decide +kernel) (by decide))
  <| all_c (s_zret (by decide +kernel) rfl)
  <| all_c (s_ald_n (q := 0) (by decide +kernel) rfl)
  <| all_c (g_12_23 (by decide +kernel) fl_RX12_36)
  <| all_c (s_iconst (n := 4) (by decide +kernel) (by decide))
  <| all_c (s_ald_n (q := 0) (by decide +kernel) rfl)
  <| all_c (g_12_24 (by decide +kernel) fl_RX12_251)
  <| all_c (s_imul (by decide +kernel))
  <| all_c (s_iconst (n := 0) (by decide +kernel) (by decide))
  <| all_c (s_iadd (by decide +kernel))
  <| all_c (s_ild_n (q := 1) (by decide +kernel) rfl)
  <| all_c (s_iast (by decide +kernel))
  <| all_c (s_ald_n (q := 0) (by decide +kernel) rfl)
  <| all_c (g_12_23 (by decide +kernel) fl_RX12_36)
  <| all_c (s_iconst (n := 4) (by decide +kernel) (by decide))
  <| all_c (s_ald_n (q := 0) (by decide +kernel) rfl)
  <| all_c (g_12_24 (by decide +kernel) fl_RX12_251)
  <| all_c (s_imul (by decide +kernel))
  <| all_c (s_iconst (n := 1) (by decide +kernel) (by decide))
  <| all_c (s_iadd (by decide +kernel))
  <| all_c (s_ild_n (q := 2) (by decide +kernel) rfl)
  <| all_c (s_iast (by decide +kernel))
  <| all_c (s_ald_n (q := 0) (by decide +kernel) rfl)
  <| all_c (g_12_23 (by decide +kernel) fl_RX12_36)
  <| all_c (s_iconst (n := 4) (by decide +kernel) (by decide))
  <| all_c (s_ald_n (q := 0) (by decide +kernel) rfl)
  <| all_c (g_12_24 (by decide +kernel) fl_RX12_251)
  <| all_c (s_imul (by decide +kernel))
  <| all_c (s_iconst (n := 2) (by decide +kernel) (by decide))
  <| all_c (s_iadd (by decide +kernel))
  <| all_c (s_ild_n (q := 3) (by decide +kernel) rfl)
  <| all_c (s_iast (by decide +kernel))
  <| all_c (s_ald_n (q := 0) (by decide +kernel) rfl)
  <| all_c (g_12_23 (by decide +kernel) fl_RX12_36)
  <| all_c (s_iconst (n := 4) (by decide +kernel) (by decide))
  <| all_c (s_ald_n (q := 0) (by decide +kernel) rfl)
  <| all_c (g_12_24 (by decide +kernel) fl_RX12_251)
  <| all_c (s_imul (by decide +kernel))
  <| all_c (s_iconst (n := 3) (by decide +kernel) (by decide))
  <| all_c (s_iadd (by decide +kernel))
  <| all_c (s_ild (by decide +kernel))
  <| all_c (s_iast (by decide +kernel))
  <| all_c (s_ald_n (q := 0) (by decide +kernel) rfl)
  <| all_c (s_dup (by decide +kernel))
  <| all_c (g_12_24 (by decide +kernel) fl_RX12_251)
  <| all_c (s_iconst (n := 1) (by decide +kernel) (by decide))
  <| all_c (s_iadd (by decide +kernel))
  <| all_c (p_12_24 (by decide +kernel) fl_RX12_251)
  <| all_c (s_iconst (n := 1) (by decide +kernel) (by decide))
  <| all_c (s_zret (by decide +kernel) rfl)
  <| all_n
theorem t_X12_addAct {l : Launch} {E : En_} (hE : EOK_ E) : Good_ l E yX12_addAct (.code yX12_addAct cX12_addAct 5 (some .boolean) :: G_) (rm_ 1) (f_X12_addAct E.2.2.2.1) := good_all hE (by decide +kernel) (a_X12_addAct hE)
noncomputable def P_X12_plans (K : Sh_)  : List (Nat × Op_) := [(0, o_ic 0 1),
  (1, o_ist 1 1),
  (2, o_ild 1 1),
  (3, o_ic 4 1),
  (4, o_ald 0 1),
  (5, o_gI K 12 24),
  (8, o_imul),
  (9, o_cmpge 34),
  (12, o_ald 0 1),
  (13, o_gF K 12 14),
  (16, o_ic 400 3),
  (19, o_ild 1 1),
  (20, o_iadd),
  (21, o_ald 0 1),
  (22, o_gF K 12 23),
  (25, o_ild 1 1),
  (26, o_iald K),
  (27, o_iast K),
  (28, o_inc 1 1),
  (31, o_goto 2),
  (34, o_ald 0 1),
  (35, o_gF K 12 14),
  (38, o_ic 390 3),
  (41, o_ald 0 1),
  (42, o_gI K 12 24),
  (45, o_iast K),
  (46, o_ald 0 1),
  (47, o_gI K 12 24),
  (50, o_iret)]
noncomputable def f_X12_plans (K : Sh_) : Fn_ := fn_ (P_X12_plans K) 2
set_option maxRecDepth 100000 in
theorem a_X12_plans {l : Launch} {E : En_} (hE : EOK_ E)   : All_ (Snd_ l E yX12_plans.cls cX12_plans 2 (some .int) (.code yX12_plans cX12_plans 2 (some .int) :: G_) (rm_ 1)) (P_X12_plans E.2.2.2.1 ) :=
  all_c (s_iconst (n := 0) (by decide +kernel) (by decide))
  <| all_c (s_ist_n (q := 1) (by decide +kernel) rfl)
  <| all_c (s_ild_n (q := 1) (by decide +kernel) rfl)
  <| all_c (s_iconst (n := 4) (by decide +kernel) (by decide))
  <| all_c (s_ald_n (q := 0) (by decide +kernel) rfl)
  <| all_c (g_12_24 (by decide +kernel) fl_RX12_251)
  <| all_c (s_imul (by decide +kernel))
  <| all_c (s_cmpge (off := 25) (by decide +kernel) (by decide))
  <| all_c (s_ald_n (q := 0) (by decide +kernel) rfl)
  <| all_c (g_12_14 (by decide +kernel) fl_RX12_13)
  <| all_c (s_sipush (n := 400) (by decide +kernel) (by decide))
  <| all_c (s_ild_n (q := 1) (by decide +kernel) rfl)
  <| all_c (s_iadd (by decide +kernel))
  <| all_c (s_ald_n (q := 0) (by decide +kernel) rfl)
  <| all_c (g_12_23 (by decide +kernel) fl_RX12_36)
  <| all_c (s_ild_n (q := 1) (by decide +kernel) rfl)
  <| all_c (s_iald (by decide +kernel))
  <| all_c (s_iast (by decide +kernel))
  <| all_c (s_inc (n := 1) (by decide +kernel) (by decide))
  <| all_c (s_goto (off := (-29)) (by decide +kernel) (by decide))
  <| all_c (s_ald_n (q := 0) (by decide +kernel) rfl)
  <| all_c (g_12_14 (by decide +kernel) fl_RX12_13)
  <| all_c (s_sipush (n := 390) (by decide +kernel) (by decide))
  <| all_c (s_ald_n (q := 0) (by decide +kernel) rfl)
  <| all_c (g_12_24 (by decide +kernel) fl_RX12_251)
  <| all_c (s_iast (by decide +kernel))
  <| all_c (s_ald_n (q := 0) (by decide +kernel) rfl)
  <| all_c (g_12_24 (by decide +kernel) fl_RX12_251)
  <| all_c (s_iret (by decide +kernel) rfl)
  <| all_n
theorem t_X12_plans {l : Launch} {E : En_} (hE : EOK_ E) : Good_ l E yX12_plans (.code yX12_plans cX12_plans 2 (some .int) :: G_) (rm_ 1) (f_X12_plans E.2.2.2.1) := good_all hE (by decide +kernel) (a_X12_plans hE)
noncomputable def P_X12_named (K : Sh_)  : List (Nat × Op_) := [(0, o_ald 0 1),
  (1, o_callV K 12 (f_X12_isName K) 0),
  (4, o_ifne 10),
  (7, o_ic (-2) 2),
  (9, o_iret),
  (10, o_ic 0 1),
  (11, o_ist 3 1),
  (12, o_ild 3 1),
  (13, o_ild 2 1),
  (14, o_cmpge 41),
  (17, o_ald 0 1),
  (18, o_gF K 12 17),
  (21, o_ild 1 1),
  (22, o_ild 3 1),
  (23, o_iadd),
  (24, o_lald K),
  (25, o_ald 0 1),
  (26, o_gJ K 12 12),
  (29, o_lcmp),
  (30, o_ifne 35),
  (33, o_ild 3 1),
  (34, o_iret),
  (35, o_inc 3 1),
  (38, o_goto 12),
  (41, o_ic (-1) 1),
  (42, o_iret)]
noncomputable def f_X12_named (K : Sh_) : Fn_ := fn_ (P_X12_named K) 4
set_option maxRecDepth 100000 in
theorem a_X12_named {l : Launch} {E : En_} (hE : EOK_ E)   : All_ (Snd_ l E yX12_named.cls cX12_named 4 (some .int) (.code yX12_named cX12_named 4 (some .int) :: G_) (rm_ 4)) (P_X12_named E.2.2.2.1 ) :=
  all_c (s_ald_n (q := 0) (by decide +kernel) rfl)
  <| all_c (s_callV (by decide +kernel) (t_X12_isName hE) cl_X12_isName ml_RX12_194 im_X12_isName se_X12_isName (by decide) rfl (rm_lt (by decide)))
  <| all_c (s_ifne (off := 6) (by decide +kernel) (by decide))
  <| all_c (s_bipush (n := (-2)) (by decide +kernel) (by decide))
  <| all_c (s_iret (by decide +kernel) rfl)
  <| all_c (s_iconst (n := 0) (by decide +kernel) (by decide))
  <| all_c (s_ist_n (q := 3) (by decide +kernel) rfl)
  <| all_c (s_ild_n (q := 3) (by decide +kernel) rfl)
  <| all_c (s_ild_n (q := 2) (by decide +kernel) rfl)
  <| all_c (s_cmpge (off := 27) (by decide +kernel) (by decide))
  <| all_c (s_ald_n (q := 0) (by decide +kernel) rfl)
  <| all_c (g_12_17 (by decide +kernel) fl_RX12_22)
  <| all_c (s_ild_n (q := 1) (by decide +kernel) rfl)
  <| all_c (s_ild_n (q := 3) (by decide +kernel) rfl)
  <| all_c (s_iadd (by decide +kernel))
  <| all_c (s_lald (by decide +kernel))
  <| all_c (s_ald_n (q := 0) (by decide +kernel) rfl)
  <| all_c (g_12_12 (by decide +kernel) fl_RX12_132)
  <| all_c (s_lcmp (by decide +kernel))
  <| all_c (s_ifne (off := 5) (by decide +kernel) (by decide))
  <| all_c (s_ild_n (q := 3) (by decide +kernel) rfl)
  <| all_c (s_iret (by decide +kernel) rfl)
  <| all_c (s_inc (n := 1) (by decide +kernel) (by decide))
  <| all_c (s_goto (off := (-26)) (by decide +kernel) (by decide))
  <| all_c (s_iconst (n := (-1)) (by decide +kernel) (by decide))
  <| all_c (s_iret (by decide +kernel) rfl)
  <| all_n
theorem t_X12_named {l : Launch} {E : En_} (hE : EOK_ E) : Good_ l E yX12_named (.code yX12_named cX12_named 4 (some .int) :: G_) (rm_ 4) (f_X12_named E.2.2.2.1) := good_all hE (by decide +kernel) (a_X12_named hE)
noncomputable def P_X12_readNamed (K : Sh_)  : List (Nat × Op_) := [(0, o_ald 0 1),
  (1, o_ild 1 1),
  (2, o_ild 2 1),
  (3, o_callV K 12 (f_X12_named K) 2),
  (6, o_ist 3 1),
  (7, o_ild 3 1),
  (8, o_ifge 26),
  (11, o_ald 0 1),
  (12, o_ild 3 1),
  (13, o_ic (-1) 1),
  (14, o_cmpne 21),
  (17, o_ic 3 1),
  (18, o_goto 22),
  (21, o_ic 1 1),
  (22, o_callV K 12 (f_X12_bad K) 1),
  (25, o_zret),
  (26, o_ald 0 1),
  (27, o_ild 3 1),
  (28, o_pI K 12 13),
  (31, o_ald 0 1),
  (32, o_callV K 12 (f_X12_go K) 0),
  (35, o_ic 1 1),
  (36, o_zret)]
noncomputable def f_X12_readNamed (K : Sh_) : Fn_ := fn_ (P_X12_readNamed K) 4
set_option maxRecDepth 100000 in
theorem a_X12_readNamed {l : Launch} {E : En_} (hE : EOK_ E)   : All_ (Snd_ l E yX12_readNamed.cls cX12_readNamed 4 (some .boolean) (.code yX12_readNamed cX12_readNamed 4 (some .boolean) :: G_) (rm_ 5)) (P_X12_readNamed E.2.2.2.1 ) :=
  all_c (s_ald_n (q := 0) (by decide +kernel) rfl)
  <| all_c (s_ild_n (q := 1) (by decide +kernel) rfl)
  <| all_c (s_ild_n (q := 2) (by decide +kernel) rfl)
  <| all_c (s_callV (by decide +kernel) (t_X12_named hE) cl_X12_named ml_RX12_254 im_X12_named se_X12_named (by decide) rfl (rm_lt (by decide)))
  <| all_c (s_ist_n (q := 3) (by decide +kernel) rfl)
  <| all_c (s_ild_n (q := 3) (by decide +kernel) rfl)
  <| all_c (s_ifge (off := 18) (by decide +kernel) (by decide))
  <| all_c (s_ald_n (q := 0) (by decide +kernel) rfl)
  <| all_c (s_ild_n (q := 3) (by decide +kernel) rfl)
  <| all_c (s_iconst (n := (-1)) (by decide +kernel) (by decide))
  <| all_c (s_cmpne (off := 7) (by decide +kernel) (by decide))
  <| all_c (s_iconst (n := 3) (by decide +kernel) (by decide))
  <| all_c (s_goto (off := 4) (by decide +kernel) (by decide))
  <| all_c (s_iconst (n := 1) (by decide +kernel) (by decide))
  <| all_c (s_callV (by decide +kernel) (t_X12_bad hE) cl_X12_bad ml_RX12_161 im_X12_bad se_X12_bad (by decide) rfl (rm_lt (by decide)))
  <| all_c (s_zret (by decide +kernel) rfl)
  <| all_c (s_ald_n (q := 0) (by decide +kernel) rfl)
  <| all_c (s_ild_n (q := 3) (by decide +kernel) rfl)
  <| all_c (p_12_13 (by decide +kernel) fl_RX12_168)
  <| all_c (s_ald_n (q := 0) (by decide +kernel) rfl)
  <| all_c (s_callV (by decide +kernel) (t_X12_go hE) cl_X12_go ml_RX12_171 im_X12_go se_X12_go (by decide) rfl (rm_lt (by decide)))
  <| all_c (s_iconst (n := 1) (by decide +kernel) (by decide))
  <| all_c (s_zret (by decide +kernel) rfl)
  <| all_n
theorem t_X12_readNamed {l : Launch} {E : En_} (hE : EOK_ E) : Good_ l E yX12_readNamed (.code yX12_readNamed cX12_readNamed 4 (some .boolean) :: G_) (rm_ 5) (f_X12_readNamed E.2.2.2.1) := good_all hE (by decide +kernel) (a_X12_readNamed hE)
noncomputable def P_X12_readListeners (K : Sh_)  : List (Nat × Op_) := [(0, o_ic 0 1),
  (1, o_ist 2 1),
  (2, o_ald 0 1),
  (3, o_ic 10 2),
  (5, o_callV K 12 (f_X12_isWord K) 1),
  (8, o_aft [3] (o_ifeq 47)),
  (11, o_ic 1 1),
  (12, o_ald 0 1),
  (13, o_callV K 12 (f_X12_readers K) 0),
  (16, o_ishl),
  (17, o_ic 1 1),
  (18, o_isub),
  (19, o_ic 1 1),
  (20, o_ild 1 1),
  (21, o_ishl),
  (22, o_ic (-1) 1),
  (23, o_ixor),
  (24, o_iand),
  (25, o_ist 2 1),
  (26, o_ild 2 1),
  (27, o_ifne 36),
  (30, o_ald 0 1),
  (31, o_ic 1 1),
  (32, o_callV K 12 (f_X12_bad K) 1),
  (35, o_zret),
  (36, o_ald 0 1),
  (37, o_callV K 12 (f_X12_go K) 0),
  (40, o_ald 0 1),
  (41, o_ild 2 1),
  (42, o_pI K 12 13),
  (45, o_ic 1 1),
  (46, o_zret),
  (47, o_ald 0 1),
  (48, o_ic 16 2),
  (50, o_ald 0 1),
  (51, o_callV K 12 (f_X12_readers K) 0),
  (54, o_callV K 12 (f_X12_named K) 2),
  (57, o_ist 3 1),
  (58, o_ild 3 1),
  (59, o_iflt 75),
  (62, o_ild 3 1),
  (63, o_ild 1 1),
  (64, o_cmpeq 75),
  (67, o_ild 2 1),
  (68, o_ild 3 1),
  (69, o_callS (f_X12_has K) 2),
  (72, o_ifeq 91),
  (75, o_ald 0 1),
  (76, o_ild 3 1),
  (77, o_ic (-2) 2),
  (79, o_cmpne 86),
  (82, o_ic 1 1),
  (83, o_goto 87),
  (86, o_ic 3 1),
  (87, o_callV K 12 (f_X12_bad K) 1),
  (90, o_zret),
  (91, o_ild 2 1),
  (92, o_ic 1 1),
  (93, o_ild 3 1),
  (94, o_ishl),
  (95, o_ior),
  (96, o_ist 2 1),
  (97, o_ald 0 1),
  (98, o_callV K 12 (f_X12_go K) 0),
  (101, o_ald 0 1),
  (102, o_gI K 12 7),
  (105, o_ic 2 1),
  (106, o_aft [3] (o_cmpeq 47)),
  (109, o_ald 0 1),
  (110, o_ild 2 1),
  (111, o_pI K 12 13),
  (114, o_ic 1 1),
  (115, o_zret)]
noncomputable def f_X12_readListeners (K : Sh_) : Fn_ := fn_ (P_X12_readListeners K) 4
set_option maxRecDepth 100000 in
theorem a_X12_readListeners {l : Launch} {E : En_} (hE : EOK_ E)   : All_ (Snd_ l E yX12_readListeners.cls cX12_readListeners 4 (some .boolean) (.code yX12_readListeners cX12_readListeners 4 (some .boolean) :: G_) (rm_ 5)) (P_X12_readListeners E.2.2.2.1 ) :=
  all_c (s_iconst (n := 0) (by decide +kernel) (by decide))
  <| all_c (s_ist_n (q := 2) (by decide +kernel) rfl)
  <| all_c (s_ald_n (q := 0) (by decide +kernel) rfl)
  <| all_c (s_bipush (n := 10) (by decide +kernel) (by decide))
  <| all_c (s_callV (by decide +kernel) (t_X12_isWord hE) cl_X12_isWord ml_RX12_208 im_X12_isWord se_X12_isWord (by decide) rfl (rm_lt (by decide)))
  <| all_c (s_aft (s_ifeq (off := 39) (by decide +kernel) (by decide)))
  <| all_c (s_iconst (n := 1) (by decide +kernel) (by decide))
  <| all_c (s_ald_n (q := 0) (by decide +kernel) rfl)
  <| all_c (s_callV (by decide +kernel) (t_X12_readers hE) cl_X12_readers ml_RX12_191 im_X12_readers se_X12_readers (by decide) rfl (rm_lt (by decide)))
  <| all_c (s_ishl (by decide +kernel))
  <| all_c (s_iconst (n := 1) (by decide +kernel) (by decide))
  <| all_c (s_isub (by decide +kernel))
  <| all_c (s_iconst (n := 1) (by decide +kernel) (by decide))
  <| all_c (s_ild_n (q := 1) (by decide +kernel) rfl)
  <| all_c (s_ishl (by decide +kernel))
  <| all_c (s_iconst (n := (-1)) (by decide +kernel) (by decide))
  <| all_c (s_ixor (by decide +kernel))
  <| all_c (s_iand (by decide +kernel))
  <| all_c (s_ist_n (q := 2) (by decide +kernel) rfl)
  <| all_c (s_ild_n (q := 2) (by decide +kernel) rfl)
  <| all_c (s_ifne (off := 9) (by decide +kernel) (by decide))
  <| all_c (s_ald_n (q := 0) (by decide +kernel) rfl)
  <| all_c (s_iconst (n := 1) (by decide +kernel) (by decide))
  <| all_c (s_callV (by decide +kernel) (t_X12_bad hE) cl_X12_bad ml_RX12_161 im_X12_bad se_X12_bad (by decide) rfl (rm_lt (by decide)))
  <| all_c (s_zret (by decide +kernel) rfl)
  <| all_c (s_ald_n (q := 0) (by decide +kernel) rfl)
  <| all_c (s_callV (by decide +kernel) (t_X12_go hE) cl_X12_go ml_RX12_171 im_X12_go se_X12_go (by decide) rfl (rm_lt (by decide)))
  <| all_c (s_ald_n (q := 0) (by decide +kernel) rfl)
  <| all_c (s_ild_n (q := 2) (by decide +kernel) rfl)
  <| all_c (p_12_13 (by decide +kernel) fl_RX12_168)
  <| all_c (s_iconst (n := 1) (by decide +kernel) (by decide))
  <| all_c (s_zret (by decide +kernel) rfl)
  <| all_c (s_ald_n (q := 0) (by decide +kernel) rfl)
  <| all_c (s_bipush (n := 16) (by decide +kernel) (by decide))
  <| all_c (s_ald_n (q := 0) (by decide +kernel) rfl)
  <| all_c (s_callV (by decide +kernel) (t_X12_readers hE) cl_X12_readers ml_RX12_191 im_X12_readers se_X12_readers (by decide) rfl (rm_lt (by decide)))
  <| all_c (s_callV (by decide +kernel) (t_X12_named hE) cl_X12_named ml_RX12_254 im_X12_named se_X12_named (by decide) rfl (rm_lt (by decide)))
  <| all_c (s_ist_n (q := 3) (by decide +kernel) rfl)
  <| all_c (s_ild_n (q := 3) (by decide +kernel) rfl)
  <| all_c (s_iflt (off := 16) (by decide +kernel) (by decide))
  <| all_c (s_ild_n (q := 3) (by decide +kernel) rfl)
  <| all_c (s_ild_n (q := 1) (by decide +kernel) rfl)
  <| all_c (s_cmpeq (off := 11) (by decide +kernel) (by decide))
  <| all_c (s_ild_n (q := 2) (by decide +kernel) rfl)
  <| all_c (s_ild_n (q := 3) (by decide +kernel) rfl)
  <| all_c (s_callS (by decide +kernel) (t_X12_has hE) cl_X12_has ml_RX12_223 sm_X12_has (rm_lt (by decide)))
  <| all_c (s_ifeq (off := 19) (by decide +kernel) (by decide))
  <| all_c (s_ald_n (q := 0) (by decide +kernel) rfl)
  <| all_c (s_ild_n (q := 3) (by decide +kernel) rfl)
  <| all_c (s_bipush (n := (-2)) (by decide +kernel) (by decide))
  <| all_c (s_cmpne (off := 7) (by decide +kernel) (by decide))
  <| all_c (s_iconst (n := 1) (by decide +kernel) (by decide))
  <| all_c (s_goto (off := 4) (by decide +kernel) (by decide))
  <| all_c (s_iconst (n := 3) (by decide +kernel) (by decide))
  <| all_c (s_callV (by decide +kernel) (t_X12_bad hE) cl_X12_bad ml_RX12_161 im_X12_bad se_X12_bad (by decide) rfl (rm_lt (by decide)))
  <| all_c (s_zret (by decide +kernel) rfl)
  <| all_c (s_ild_n (q := 2) (by decide +kernel) rfl)
  <| all_c (s_iconst (n := 1) (by decide +kernel) (by decide))
  <| all_c (s_ild_n (q := 3) (by decide +kernel) rfl)
  <| all_c (s_ishl (by decide +kernel))
  <| all_c (s_ior (by decide +kernel))
  <| all_c (s_ist_n (q := 2) (by decide +kernel) rfl)
  <| all_c (s_ald_n (q := 0) (by decide +kernel) rfl)
  <| all_c (s_callV (by decide +kernel) (t_X12_go hE) cl_X12_go ml_RX12_171 im_X12_go se_X12_go (by decide) rfl (rm_lt (by decide)))
  <| all_c (s_ald_n (q := 0) (by decide +kernel) rfl)
  <| all_c (g_12_7 (by decide +kernel) fl_RX12_119)
  <| all_c (s_iconst (n := 2) (by decide +kernel) (by decide))
  <| all_c (s_aft (s_cmpeq (off := (-59)) (by decide +kernel) (by decide)))
  <| all_c (s_ald_n (q := 0) (by decide +kernel) rfl)
  <| all_c (s_ild_n (q := 2) (by decide +kernel) rfl)
  <| all_c (p_12_13 (by decide +kernel) fl_RX12_168)
  <| all_c (s_iconst (n := 1) (by decide +kernel) (by decide))
  <| all_c (s_zret (by decide +kernel) rfl)
  <| all_n
theorem t_X12_readListeners {l : Launch} {E : En_} (hE : EOK_ E) : Good_ l E yX12_readListeners (.code yX12_readListeners cX12_readListeners 4 (some .boolean) :: G_) (rm_ 5) (f_X12_readListeners E.2.2.2.1) := good_all hE (by decide +kernel) (a_X12_readListeners hE)
noncomputable def P_X12_readAct (K : Sh_)  : List (Nat × Op_) := [(0, o_ald 0 1),
  (1, o_ic 16 2),
  (3, o_ald 0 1),
  (4, o_callV K 12 (f_X12_readers K) 0),
  (7, o_callV K 12 (f_X12_named K) 2),
  (10, o_ist 1 1),
  (11, o_ild 1 1),
  (12, o_ifge 30),
  (15, o_ald 0 1),
  (16, o_ild 1 1),
  (17, o_ic (-1) 1),
  (18, o_cmpne 25),
  (21, o_ic 3 1),
  (22, o_goto 26),
  (25, o_ic 1 1),
  (26, o_callV K 12 (f_X12_bad K) 1),
  (29, o_zret),
  (30, o_ald 0 1),
  (31, o_gI K 12 24),
  (34, o_ic 60 2),
  (36, o_cmpne 45),
  (39, o_ald 0 1),
  (40, o_ic 4 1),
  (41, o_callV K 12 (f_X12_bad K) 1),
  (44, o_zret),
  (45, o_ald 0 1),
  (46, o_callV K 12 (f_X12_go K) 0),
  (49, o_ald 0 1),
  (50, o_ic 8 2),
  (52, o_callV K 12 (f_X12_isWord K) 1),
  (55, o_ist 2 1),
  (56, o_ild 2 1),
  (57, o_aft [3, 4] (o_ifne 75)),
  (60, o_ald 0 1),
  (61, o_ic 7 2),
  (63, o_callV K 12 (f_X12_isWord K) 1),
  (66, o_aft [3, 4] (o_ifne 75)),
  (69, o_ald 0 1),
  (70, o_ic 1 1),
  (71, o_callV K 12 (f_X12_bad K) 1),
  (74, o_zret),
  (75, o_ald 0 1),
  (76, o_callV K 12 (f_X12_go K) 0),
  (79, o_ald 0 1),
  (80, o_ic 0 1),
  (81, o_ald 0 1),
  (82, o_callV K 12 (f_X12_chaps K) 0),
  (85, o_callV K 12 (f_X12_readNamed K) 2),
  (88, o_ifne 93),
  (91, o_ic 0 1),
  (92, o_zret),
  (93, o_ald 0 1),
  (94, o_gI K 12 13),
  (97, o_ist 3 1),
  (98, o_ild 2 1),
  (99, o_ifne 116),
  (102, o_ald 0 1),
  (103, o_ild 1 1),
  (104, o_ild 3 1),
  (105, o_ic 0 1),
  (106, o_ic 0 1),
  (107, o_callV K 12 (f_X12_addAct K) 4),
  (110, o_pop),
  (111, o_ald 0 1),
  (112, o_callV K 12 (f_X12_readEnd K) 0),
  (115, o_zret),
  (116, o_ald 0 1),
  (117, o_ic 1 1),
  (118, o_ic 4 1),
  (119, o_callV K 12 (f_X12_readNumber K) 2),
  (122, o_ifne 127),
  (125, o_ic 0 1),
  (126, o_zret),
  (127, o_ald 0 1),
  (128, o_gI K 12 13),
  (131, o_ist 4 2),
  (133, o_ald 0 1),
  (134, o_ic 9 2),
  (136, o_callV K 12 (f_X12_isWord K) 1),
  (139, o_ifne 148),
  (142, o_ald 0 1),
  (143, o_ic 1 1),
  (144, o_callV K 12 (f_X12_bad K) 1),
  (147, o_zret),
  (148, o_ald 0 1),
  (149, o_callV K 12 (f_X12_go K) 0),
  (152, o_ald 0 1),
  (153, o_ild 1 1),
  (154, o_callV K 12 (f_X12_readListeners K) 1),
  (157, o_ifne 162),
  (160, o_ic 0 1),
  (161, o_zret),
  (162, o_ald 0 1),
  (163, o_ild 1 1),
  (164, o_ild 3 1),
  (165, o_ild 4 2),
  (167, o_ald 0 1),
  (168, o_gI K 12 13),
  (171, o_callV K 12 (f_X12_addAct K) 4),
  (174, o_pop),
  (175, o_ald 0 1),
  (176, o_callV K 12 (f_X12_readEnd K) 0),
  (179, o_zret)]
noncomputable def f_X12_readAct (K : Sh_) : Fn_ := fn_ (P_X12_readAct K) 5
set_option maxRecDepth 100000 in
theorem a_X12_readAct {l : Launch} {E : En_} (hE : EOK_ E)   : All_ (Snd_ l E yX12_readAct.cls cX12_readAct 5 (some .boolean) (.code yX12_readAct cX12_readAct 5 (some .boolean) :: G_) (rm_ 6)) (P_X12_readAct E.2.2.2.1 ) :=
  all_c (s_ald_n (q := 0) (by decide +kernel) rfl)
  <| all_c (s_bipush (n := 16) (by decide +kernel) (by decide))
  <| all_c (s_ald_n (q := 0) (by decide +kernel) rfl)
  <| all_c (s_callV (by decide +kernel) (t_X12_readers hE) cl_X12_readers ml_RX12_191 im_X12_readers se_X12_readers (by decide) rfl (rm_lt (by decide)))
  <| all_c (s_callV (by decide +kernel) (t_X12_named hE) cl_X12_named ml_RX12_254 im_X12_named se_X12_named (by decide) rfl (rm_lt (by decide)))
  <| all_c (s_ist_n (q := 1) (by decide +kernel) rfl)
  <| all_c (s_ild_n (q := 1) (by decide +kernel) rfl)
  <| all_c (s_ifge (off := 18) (by decide +kernel) (by decide))
  <| all_c (s_ald_n (q := 0) (by decide +kernel) rfl)
  <| all_c (s_ild_n (q := 1) (by decide +kernel) rfl)
  <| all_c (s_iconst (n := (-1)) (by decide +kernel) (by decide))
  <| all_c (s_cmpne (off := 7) (by decide +kernel) (by decide))
  <| all_c (s_iconst (n := 3) (by decide +kernel) (by decide))
  <| all_c (s_goto (off := 4) (by decide +kernel) (by decide))
  <| all_c (s_iconst (n := 1) (by decide +kernel) (by decide))
  <| all_c (s_callV (by decide +kernel) (t_X12_bad hE) cl_X12_bad ml_RX12_161 im_X12_bad se_X12_bad (by decide) rfl (rm_lt (by decide)))
  <| all_c (s_zret (by decide +kernel) rfl)
  <| all_c (s_ald_n (q := 0) (by decide +kernel) rfl)
  <| all_c (g_12_24 (by decide +kernel) fl_RX12_251)
  <| all_c (s_bipush (n := 60) (by decide +kernel) (by decide))
  <| all_c (s_cmpne (off := 9) (by decide +kernel) (by decide))
  <| all_c (s_ald_n (q := 0) (by decide +kernel) rfl)
  <| all_c (s_iconst (n := 4) (by decide +kernel) (by decide))
  <| all_c (s_callV (by decide +kernel) (t_X12_bad hE) cl_X12_bad ml_RX12_161 im_X12_bad se_X12_bad (by decide) rfl (rm_lt (by decide)))
  <| all_c (s_zret (by decide +kernel) rfl)
  <| all_c (s_ald_n (q := 0) (by decide +kernel) rfl)
  <| all_c (s_callV (by decide +kernel) (t_X12_go hE) cl_X12_go ml_RX12_171 im_X12_go se_X12_go (by decide) rfl (rm_lt (by decide)))
  <| all_c (s_ald_n (q := 0) (by decide +kernel) rfl)
  <| all_c (s_bipush (n := 8) (by decide +kernel) (by decide))
  <| all_c (s_callV (by decide +kernel) (t_X12_isWord hE) cl_X12_isWord ml_RX12_208 im_X12_isWord se_X12_isWord (by decide) rfl (rm_lt (by decide)))
  <| all_c (s_ist_n (q := 2) (by decide +kernel) rfl)
  <| all_c (s_ild_n (q := 2) (by decide +kernel) rfl)
  <| all_c (s_aft (s_ifne (off := 18) (by decide +kernel) (by decide)))
  <| all_c (s_ald_n (q := 0) (by decide +kernel) rfl)
  <| all_c (s_bipush (n := 7) (by decide +kernel) (by decide))
  <| all_c (s_callV (by decide +kernel) (t_X12_isWord hE) cl_X12_isWord ml_RX12_208 im_X12_isWord se_X12_isWord (by decide) rfl (rm_lt (by decide)))
  <| all_c (s_aft (s_ifne (off := 9) (by decide +kernel) (by decide)))
  <| all_c (s_ald_n (q := 0) (by decide +kernel) rfl)
  <| all_c (s_iconst (n := 1) (by decide +kernel) (by decide))
  <| all_c (s_callV (by decide +kernel) (t_X12_bad hE) cl_X12_bad ml_RX12_161 im_X12_bad se_X12_bad (by decide) rfl (rm_lt (by decide)))
  <| all_c (s_zret (by decide +kernel) rfl)
  <| all_c (s_ald_n (q := 0) (by decide +kernel) rfl)
  <| all_c (s_callV (by decide +kernel) (t_X12_go hE) cl_X12_go ml_RX12_171 im_X12_go se_X12_go (by decide) rfl (rm_lt (by decide)))
  <| all_c (s_ald_n (q := 0) (by decide +kernel) rfl)
  <| all_c (s_iconst (n := 0) (by decide +kernel) (by decide))
  <| all_c (s_ald_n (q := 0) (by decide +kernel) rfl)
  <| all_c (s_callV (by decide +kernel) (t_X12_chaps hE) cl_X12_chaps ml_RX12_188 im_X12_chaps se_X12_chaps (by decide) rfl (rm_lt (by decide)))
  <| all_c (s_callV (by decide +kernel) (t_X12_readNamed hE) cl_X12_readNamed ml_RX12_257 im_X12_readNamed se_X12_readNamed (by decide) rfl (rm_lt (by decide)))
  <| all_c (s_ifne (off := 5) (by decide +kernel) (by decide))
  <| all_c (s_iconst (n := 0) (by decide +kernel) (by decide))
  <| all_c (s_zret (by decide +kernel) rfl)
  <| all_c (s_ald_n (q := 0) (by decide +kernel) rfl)
  <| all_c (g_12_13 (by decide +kernel) fl_RX12_168)
  <| all_c (s_ist_n (q := 3) (by decide +kernel) rfl)
  <| all_c (s_ild_n (q := 2) (by decide +kernel) rfl)
  <| all_c (s_ifne (off := 17) (by decide +kernel) (by decide))
  <| all_c (s_ald_n (q := 0) (by decide +kernel) rfl)
  <| all_c (s_ild_n (q := 1) (by decide +kernel) rfl)
  <| all_c (s_ild_n (q := 3) (by decide +kernel) rfl)
  <| all_c (s_iconst (n := 0) (by decide +kernel) (by decide))
  <| all_c (s_iconst (n := 0) (by decide +kernel) (by decide))
  <| all_c (s_callV (by decide +kernel) (t_X12_addAct hE) cl_X12_addAct ml_RX12_260 im_X12_addAct se_X12_addAct (by decide) rfl (rm_lt (by decide)))
  <| all_c (s_pop (by decide +kernel))
  <| all_c (s_ald_n (q := 0) (by decide +kernel) rfl)
  <| all_c (s_callV (by decide +kernel) (t_X12_readEnd hE) cl_X12_readEnd ml_RX12_217 im_X12_readEnd se_X12_readEnd (by decide) rfl (rm_lt (by decide)))
  <| all_c (s_zret (by decide +kernel) rfl)
  <| all_c (s_ald_n (q := 0) (by decide +kernel) rfl)
  <| all_c (s_iconst (n := 1) (by decide +kernel) (by decide))
  <| all_c (s_iconst (n := 4) (by decide +kernel) (by decide))
  <| all_c (s_callV (by decide +kernel) (t_X12_readNumber hE) cl_X12_readNumber ml_RX12_204 im_X12_readNumber se_X12_readNumber (by decide) rfl (rm_lt (by decide)))
  <| all_c (s_ifne (off := 5) (by decide +kernel) (by decide))
  <| all_c (s_iconst (n := 0) (by decide +kernel) (by decide))
  <| all_c (s_zret (by decide +kernel) rfl)
  <| all_c (s_ald_n (q := 0) (by decide +kernel) rfl)
  <| all_c (g_12_13 (by decide +kernel) fl_RX12_168)
  <| all_c (s_ist (by decide +kernel))
  <| all_c (s_ald_n (q := 0) (by decide +kernel) rfl)
  <| all_c (s_bipush (n := 9) (by decide +kernel) (by decide))
  <| all_c (s_callV (by decide +kernel) (t_X12_isWord hE) cl_X12_isWord ml_RX12_208 im_X12_isWord se_X12_isWord (by decide) rfl (rm_lt (by decide)))
  <| all_c (s_ifne (off := 9) (by decide +kernel) (by decide))
  <| all_c (s_ald_n (q := 0) (by decide +kernel) rfl)
  <| all_c (s_iconst (n := 1) (by decide +kernel) (by decide))
  <| all_c (s_callV (by decide +kernel) (t_X12_bad hE) cl_X12_bad ml_RX12_161 im_X12_bad se_X12_bad (by decide) rfl (rm_lt (by decide)))
  <| all_c (s_zret (by decide +kernel) rfl)
  <| all_c (s_ald_n (q := 0) (by decide +kernel) rfl)
  <| all_c (s_callV (by decide +kernel) (t_X12_go hE) cl_X12_go ml_RX12_171 im_X12_go se_X12_go (by decide) rfl (rm_lt (by decide)))
  <| all_c (s_ald_n (q := 0) (by decide +kernel) rfl)
  <| all_c (s_ild_n (q := 1) (by decide +kernel) rfl)
  <| all_c (s_callV (by decide +kernel) (t_X12_readListeners hE) cl_X12_readListeners ml_RX12_264 im_X12_readListeners se_X12_readListeners (by decide) rfl (rm_lt (by decide)))
  <| all_c (s_ifne (off := 5) (by decide +kernel) (by decide))
  <| all_c (s_iconst (n := 0) (by decide +kernel) (by decide))
  <| all_c (s_zret (by decide +kernel) rfl)
  <| all_c (s_ald_n (q := 0) (by decide +kernel) rfl)
  <| all_c (s_ild_n (q := 1) (by decide +kernel) rfl)
  <| all_c (s_ild_n (q := 3) (by decide +kernel) rfl)
  <| all_c (s_ild (by decide +kernel))
  <| all_c (s_ald_n (q := 0) (by decide +kernel) rfl)
  <| all_c (g_12_13 (by decide +kernel) fl_RX12_168)
  <| all_c (s_callV (by decide +kernel) (t_X12_addAct hE) cl_X12_addAct ml_RX12_260 im_X12_addAct se_X12_addAct (by decide) rfl (rm_lt (by decide)))
  <| all_c (s_pop (by decide +kernel))
  <| all_c (s_ald_n (q := 0) (by decide +kernel) rfl)
  <| all_c (s_callV (by decide +kernel) (t_X12_readEnd hE) cl_X12_readEnd ml_RX12_217 im_X12_readEnd se_X12_readEnd (by decide) rfl (rm_lt (by decide)))
  <| all_c (s_zret (by decide +kernel) rfl)
  <| all_n
theorem t_X12_readAct {l : Launch} {E : En_} (hE : EOK_ E) : Good_ l E yX12_readAct (.code yX12_readAct cX12_readAct 5 (some .boolean) :: G_) (rm_ 6) (f_X12_readAct E.2.2.2.1) := good_all hE (by decide +kernel) (a_X12_readAct hE)
noncomputable def P_X12_plan (K : Sh_)  : List (Nat × Op_) := [(0, o_ald 0 1),
  (1, o_ic 700 3),
  (4, o_callV K 12 (f_X12_begin K) 1),
  (7, o_ald 0 1),
  (8, o_ic 0 1),
  (9, o_pI K 12 24),
  (12, o_ald 0 1),
  (13, o_gI K 12 7),
  (16, o_ifeq 33),
  (19, o_ald 0 1),
  (20, o_callV K 12 (f_X12_readAct K) 0),
  (23, o_ifne 12),
  (26, o_ic (-1) 1),
  (27, o_ald 0 1),
  (28, o_gI K 12 11),
  (31, o_isub),
  (32, o_iret),
  (33, o_ald 0 1),
  (34, o_callV K 12 (f_X12_plans K) 0),
  (37, o_iret)]
noncomputable def f_X12_plan (K : Sh_) : Fn_ := fn_ (P_X12_plan K) 1
set_option maxRecDepth 100000 in
theorem a_X12_plan {l : Launch} {E : En_} (hE : EOK_ E)   : All_ (Snd_ l E yX12_plan.cls cX12_plan 1 (some .int) (.code yX12_plan cX12_plan 1 (some .int) :: G_) (rm_ 7)) (P_X12_plan E.2.2.2.1 ) :=
  all_c (s_ald_n (q := 0) (by decide +kernel) rfl)
  <| all_c (s_sipush (n := 700) (by decide +kernel) (by decide))
  <| all_c (s_callV (by decide +kernel) (t_X12_begin hE) cl_X12_begin ml_RX12_226 im_X12_begin se_X12_begin (by decide) rfl (rm_lt (by decide)))
  <| all_c (s_ald_n (q := 0) (by decide +kernel) rfl)
  <| all_c (s_iconst (n := 0) (by decide +kernel) (by decide))
  <| all_c (p_12_24 (by decide +kernel) fl_RX12_251)
  <| all_c (s_ald_n (q := 0) (by decide +kernel) rfl)
  <| all_c (g_12_7 (by decide +kernel) fl_RX12_119)
  <| all_c (s_ifeq (off := 17) (by decide +kernel) (by decide))
  <| all_c (s_ald_n (q := 0) (by decide +kernel) rfl)
  <| all_c (s_callV (by decide +kernel) (t_X12_readAct hE) cl_X12_readAct ml_RX12_267 im_X12_readAct se_X12_readAct (by decide) rfl (rm_lt (by decide)))
  <| all_c (s_ifne (off := (-11)) (by decide +kernel) (by decide))
  <| all_c (s_iconst (n := (-1)) (by decide +kernel) (by decide))
  <| all_c (s_ald_n (q := 0) (by decide +kernel) rfl)
  <| all_c (g_12_11 (by decide +kernel) fl_RX12_158)
  <| all_c (s_isub (by decide +kernel))
  <| all_c (s_iret (by decide +kernel) rfl)
  <| all_c (s_ald_n (q := 0) (by decide +kernel) rfl)
  <| all_c (s_callV (by decide +kernel) (t_X12_plans hE) cl_X12_plans ml_RX12_270 im_X12_plans se_X12_plans (by decide) rfl (rm_lt (by decide)))
  <| all_c (s_iret (by decide +kernel) rfl)
  <| all_n
theorem t_X12_plan {l : Launch} {E : En_} (hE : EOK_ E) : Good_ l E yX12_plan (.code yX12_plan cX12_plan 1 (some .int) :: G_) (rm_ 7) (f_X12_plan E.2.2.2.1) := good_all hE (by decide +kernel) (a_X12_plan hE)
noncomputable def P_X12_act (K : Sh_)  : List (Nat × Op_) := [(0, o_ald 0 1),
  (1, o_callV K 12 (f_X12_lay K) 0),
  (4, o_ild 1 1),
  (5, o_iflt 29),
  (8, o_ild 1 1),
  (9, o_ald 0 1),
  (10, o_gF K 12 14),
  (13, o_ic 390 3),
  (16, o_iald K),
  (17, o_cmpge 29),
  (20, o_ild 2 1),
  (21, o_ic 0 1),
  (22, o_ic 3 1),
  (23, o_callS (f_X12_isIn K) 3),
  (26, o_ifne 34),
  (29, o_ald 0 1),
  (30, o_callV K 12 (f_X12_refuse K) 0),
  (33, o_iret),
  (34, o_ald 0 1),
  (35, o_ic 0 1),
  (36, o_pI K 12 0),
  (39, o_ald 0 1),
  (40, o_gF K 12 14),
  (43, o_ic 400 3),
  (46, o_ic 4 1),
  (47, o_ild 1 1),
  (48, o_imul),
  (49, o_iadd),
  (50, o_ild 2 1),
  (51, o_iadd),
  (52, o_iald K),
  (53, o_iret)]
noncomputable def f_X12_act (K : Sh_) : Fn_ := fn_ (P_X12_act K) 3
set_option maxRecDepth 100000 in
theorem a_X12_act {l : Launch} {E : En_} (hE : EOK_ E)   : All_ (Snd_ l E yX12_act.cls cX12_act 3 (some .int) (.code yX12_act cX12_act 3 (some .int) :: G_) (rm_ 2)) (P_X12_act E.2.2.2.1 ) :=
  all_c (s_ald_n (q := 0) (by decide +kernel) rfl)
  <| all_c (s_callV (by decide +kernel) (t_X12_lay hE) cl_X12_lay ml_RX12_177 im_X12_lay se_X12_lay (by decide) rfl (rm_lt (by decide)))
  <| all_c (s_ild_n (q := 1) (by decide +kernel) rfl)
  <| all_c (s_iflt (off := 24) (by decide +kernel) (by decide))
  <| all_c (s_ild_n (q := 1) (by decide +kernel) rfl)
  <| all_c (s_ald_n (q := 0) (by decide +kernel) rfl)
  <| all_c (g_12_14 (by decide +kernel) fl_RX12_13)
  <| all_c (s_sipush (n := 390) (by decide +kernel) (by decide))
  <| all_c (s_iald (by decide +kernel))
  <| all_c (s_cmpge (off := 12) (by decide +kernel) (by decide))
  <| all_c (s_ild_n (q := 2) (by decide +kernel) rfl)
  <| all_c (s_iconst (n := 0) (by decide +kernel) (by decide))
  <| all_c (s_iconst (n := 3) (by decide +kernel) (by decide))
  <| all_c (s_callS (by decide +kernel) (t_X12_isIn hE) cl_X12_isIn ml_RX12_164 sm_X12_isIn (rm_lt (by decide)))
  <| all_c (s_ifne (off := 8) (by decide +kernel) (by decide))
  <| all_c (s_ald_n (q := 0) (by decide +kernel) rfl)
  <| all_c (s_callV (by decide +kernel) (t_X12_refuse hE) cl_X12_refuse ml_RX12_235 im_X12_refuse se_X12_refuse (by decide) rfl (rm_lt (by decide)))
  <| all_c (s_iret (by decide +kernel) rfl)
  <| all_c (s_ald_n (q := 0) (by decide +kernel) rfl)
  <| all_c (s_iconst (n := 0) (by decide +kernel) (by decide))
  <| all_c (p_12_0 (by decide +kernel) fl_RX12_97)
  <| all_c (s_ald_n (q := 0) (by decide +kernel) rfl)
  <| all_c (g_12_14 (by decide +kernel) fl_RX12_13)
  <| all_c (s_sipush (n := 400) (by decide +kernel) (by decide))
  <| all_c (s_iconst (n := 4) (by decide +kernel) (by decide))
  <| all_c (s_ild_n (q := 1) (by decide +kernel) rfl)
  <| all_c (s_imul (by decide +kernel))
  <| all_c (s_iadd (by decide +kernel))
  <| all_c (s_ild_n (q := 2) (by decide +kernel) rfl)
  <| all_c (s_iadd (by decide +kernel))
  <| all_c (s_iald (by decide +kernel))
  <| all_c (s_iret (by decide +kernel) rfl)
  <| all_n
theorem t_X12_act {l : Launch} {E : En_} (hE : EOK_ E) : Good_ l E yX12_act (.code yX12_act cX12_act 3 (some .int) :: G_) (rm_ 2) (f_X12_act E.2.2.2.1) := good_all hE (by decide +kernel) (a_X12_act hE)
noncomputable def P_X12_dawn (K : Sh_)  : List (Nat × Op_) := [(0, o_ic 0 1),
  (1, o_ist 1 1),
  (2, o_ild 1 1),
  (3, o_ic 144 3),
  (6, o_cmpge 22),
  (9, o_ald 0 1),
  (10, o_gF K 12 25),
  (13, o_ild 1 1),
  (14, o_ic 0 1),
  (15, o_iast K),
  (16, o_inc 1 1),
  (19, o_goto 2),
  (22, o_ic 0 1),
  (23, o_ist 1 1),
  (24, o_ild 1 1),
  (25, o_ald 0 1),
  (26, o_callV K 12 (f_X12_readers K) 0),
  (29, o_cmpge 64),
  (32, o_ald 0 1),
  (33, o_gF K 12 26),
  (36, o_ild 1 1),
  (37, o_ald 0 1),
  (38, o_ild 1 1),
  (39, o_ic 3 1),
  (40, o_callV K 12 (f_X12_readerOf K) 2),
  (43, o_iast K),
  (44, o_ald 0 1),
  (45, o_gF K 12 27),
  (48, o_ild 1 1),
  (49, o_ic 0 1),
  (50, o_iast K),
  (51, o_ald 0 1),
  (52, o_gF K 12 28),
  (55, o_ild 1 1),
  (56, o_ic 0 1),
  (57, o_iast K),
  (58, o_inc 1 1),
  (61, o_goto 24),
  (64, o_vret)]
noncomputable def f_X12_dawn (K : Sh_) : Fn_ := fn_ (P_X12_dawn K) 2
set_option maxRecDepth 100000 in
theorem a_X12_dawn {l : Launch} {E : En_} (hE : EOK_ E)   : All_ (Snd_ l E yX12_dawn.cls cX12_dawn 2 (none) (.code yX12_dawn cX12_dawn 2 (none) :: G_) (rm_ 2)) (P_X12_dawn E.2.2.2.1 ) :=
  all_c (s_iconst (n := 0) (by decide +kernel) (by decide))
  <| all_c (s_ist_n (q := 1) (by decide +kernel) rfl)
  <| all_c (s_ild_n (q := 1) (by decide +kernel) rfl)
  <| all_c (s_sipush (n := 144) (by decide +kernel) (by decide))
  <| all_c (s_cmpge (off := 16) (by decide +kernel) (by decide))
  <| all_c (s_ald_n (q := 0) (by decide +kernel) rfl)
  <| all_c (g_12_25 (by decide +kernel) fl_RX12_39)
  <| all_c (s_ild_n (q := 1) (by decide +kernel) rfl)
  <| all_c (s_iconst (n := 0) (by decide +kernel) (by decide))
  <| all_c (s_iast (by decide +kernel))
  <| all_c (s_inc (n := 1) (by decide +kernel) (by decide))
  <| all_c (s_goto (off := (-17)) (by decide +kernel) (by decide))
  <| all_c (s_iconst (n := 0) (by decide +kernel) (by decide))
  <| all_c (s_ist_n (q := 1) (by decide +kernel) rfl)
  <| all_c (s_ild_n (q := 1) (by decide +kernel) rfl)
  <| all_c (s_ald_n (q := 0) (by decide +kernel) rfl)
  <| all_c (s_callV (by decide +kernel) (t_X12_readers hE) cl_X12_readers ml_RX12_191 im_X12_readers se_X12_readers (by decide) rfl (rm_lt (by decide)))
  <| all_c (s_cmpge (off := 35) (by decide +kernel) (by decide))
  <| all_c (s_ald_n (q := 0) (by decide +kernel) rfl)
  <| all_c (g_12_26 (by decide +kernel) fl_RX12_42)
  <| all_c (s_ild_n (q := 1) (by decide +kernel) rfl)
  <| all_c (s_ald_n (q := 0) (by decide +kernel) rfl)
  <| all_c (s_ild_n (q := 1) (by decide +kernel) rfl)
  <| all_c (s_iconst (n := 3) (by decide +kernel) (by decide))
  <| all_c (s_callV (by decide +kernel) (t_X12_readerOf hE) cl_X12_readerOf ml_RX12_248 im_X12_readerOf se_X12_readerOf (by decide) rfl (rm_lt (by decide)))
  <| all_c (s_iast (by decide +kernel))
  <| all_c (s_ald_n (q := 0) (by decide +kernel) rfl)
  <| all_c (g_12_27 (by decide +kernel) fl_RX12_45)
  <| all_c (s_ild_n (q := 1) (by decide +kernel) rfl)
  <| all_c (s_iconst (n := 0) (by decide +kernel) (by decide))
  <| all_c (s_iast (by decide +kernel))
  <| all_c (s_ald_n (q := 0) (by decide +kernel) rfl)
  <| all_c (g_12_28 (by decide +kernel) fl_RX12_48)
  <| all_c (s_ild_n (q := 1) (by decide +kernel) rfl)
  <| all_c (s_iconst (n := 0) (by decide +kernel) (by decide))
  <| all_c (s_iast (by decide +kernel))
  <| all_c (s_inc (n := 1) (by decide +kernel) (by decide))
  <| all_c (s_goto (off := (-37)) (by decide +kernel) (by decide))
  <| all_c (s_vret (by decide +kernel) rfl)
  <| all_n
theorem t_X12_dawn {l : Launch} {E : En_} (hE : EOK_ E) : Good_ l E yX12_dawn (.code yX12_dawn cX12_dawn 2 (none) :: G_) (rm_ 2) (f_X12_dawn E.2.2.2.1) := good_all hE (by decide +kernel) (a_X12_dawn hE)
noncomputable def P_X12_lackOf (K : Sh_)  : List (Nat × Op_) := [(0, o_ic 0 1),
  (1, o_ist 3 1),
  (2, o_ic 0 1),
  (3, o_ist 4 2),
  (5, o_ild 4 2),
  (7, o_ild 2 1),
  (8, o_cmpge 44),
  (11, o_ild 3 1),
  (12, o_ald 0 1),
  (13, o_ild 2 1),
  (14, o_ild 4 2),
  (16, o_callV K 12 (f_X12_leanOf K) 2),
  (19, o_ic 1000000 3),
  (22, o_ald 0 1),
  (23, o_gF K 12 25),
  (26, o_ic 16 2),
  (28, o_ild 1 1),
  (29, o_imul),
  (30, o_ild 4 2),
  (32, o_iadd),
  (33, o_iald K),
  (34, o_isub),
  (35, o_imul),
  (36, o_iadd),
  (37, o_ist 3 1),
  (38, o_inc 4 1),
  (41, o_goto 5),
  (44, o_ild 3 1),
  (45, o_ic 10 2),
  (47, o_idiv),
  (48, o_iret)]
noncomputable def f_X12_lackOf (K : Sh_) : Fn_ := fn_ (P_X12_lackOf K) 5
set_option maxRecDepth 100000 in
theorem a_X12_lackOf {l : Launch} {E : En_} (hE : EOK_ E)   : All_ (Snd_ l E yX12_lackOf.cls cX12_lackOf 5 (some .int) (.code yX12_lackOf cX12_lackOf 5 (some .int) :: G_) (rm_ 2)) (P_X12_lackOf E.2.2.2.1 ) :=
  all_c (s_iconst (n := 0) (by decide +kernel) (by decide))
  <| all_c (s_ist_n (q := 3) (by decide +kernel) rfl)
  <| all_c (s_iconst (n := 0) (by decide +kernel) (by decide))
  <| all_c (s_ist (by decide +kernel))
  <| all_c (s_ild (by decide +kernel))
  <| all_c (s_ild_n (q := 2) (by decide +kernel) rfl)
  <| all_c (s_cmpge (off := 36) (by decide +kernel) (by decide))
  <| all_c (s_ild_n (q := 3) (by decide +kernel) rfl)
  <| all_c (s_ald_n (q := 0) (by decide +kernel) rfl)
  <| all_c (s_ild_n (q := 2) (by decide +kernel) rfl)
  <| all_c (s_ild (by decide +kernel))
  <| all_c (s_callV (by decide +kernel) (t_X12_leanOf hE) cl_X12_leanOf ml_RX12_242 im_X12_leanOf se_X12_leanOf (by decide) rfl (rm_lt (by decide)))
  <| all_c (s_ldcw (by decide +kernel) (G_w kk_RX12_273))
  <| all_c (s_ald_n (q := 0) (by decide +kernel) rfl)
  <| all_c (g_12_25 (by decide +kernel) fl_RX12_39)
  <| all_c (s_bipush (n := 16) (by decide +kernel) (by decide))
  <| all_c (s_ild_n (q := 1) (by decide +kernel) rfl)
  <| all_c (s_imul (by decide +kernel))
  <| all_c (s_ild (by decide +kernel))
  <| all_c (s_iadd (by decide +kernel))
  <| all_c (s_iald (by decide +kernel))
  <| all_c (s_isub (by decide +kernel))
  <| all_c (s_imul (by decide +kernel))
  <| all_c (s_iadd (by decide +kernel))
  <| all_c (s_ist_n (q := 3) (by decide +kernel) rfl)
  <| all_c (s_inc (n := 1) (by decide +kernel) (by decide))
  <| all_c (s_goto (off := (-36)) (by decide +kernel) (by decide))
  <| all_c (s_ild_n (q := 3) (by decide +kernel) rfl)
  <| all_c (s_bipush (n := 10) (by decide +kernel) (by decide))
  <| all_c (s_idiv (by decide +kernel))
  <| all_c (s_iret (by decide +kernel) rfl)
  <| all_n
theorem t_X12_lackOf {l : Launch} {E : En_} (hE : EOK_ E) : Good_ l E yX12_lackOf (.code yX12_lackOf cX12_lackOf 5 (some .int) :: G_) (rm_ 2) (f_X12_lackOf E.2.2.2.1) := good_all hE (by decide +kernel) (a_X12_lackOf hE)
noncomputable def P_X12_up (K : Sh_)  : List (Nat × Op_) := [(0, o_ild 0 1),
  (1, o_ild 1 1),
  (2, o_iadd),
  (3, o_ic 1 1),
  (4, o_isub),
  (5, o_ild 1 1),
  (6, o_idiv),
  (7, o_iret)]
noncomputable def f_X12_up (K : Sh_) : Fn_ := fn_ (P_X12_up K) 2
set_option maxRecDepth 100000 in
theorem a_X12_up {l : Launch} {E : En_} (hE : EOK_ E)   : All_ (Snd_ l E yX12_up.cls cX12_up 2 (some .int) (.code yX12_up cX12_up 2 (some .int) :: G_) (rm_ 1)) (P_X12_up E.2.2.2.1 ) :=
  all_c (s_ild_n (q := 0) (by decide +kernel) rfl)
  <| all_c (s_ild_n (q := 1) (by decide +kernel) rfl)
  <| all_c (s_iadd (by decide +kernel))
  <| all_c (s_iconst (n := 1) (by decide +kernel) (by decide))
  <| all_c (s_isub (by decide +kernel))
  <| all_c (s_ild_n (q := 1) (by decide +kernel) rfl)
  <| all_c (s_idiv (by decide +kernel))
  <| all_c (s_iret (by decide +kernel) rfl)
  <| all_n
theorem t_X12_up {l : Launch} {E : En_} (hE : EOK_ E) : Good_ l E yX12_up (.code yX12_up cX12_up 2 (some .int) :: G_) (rm_ 1) (f_X12_up E.2.2.2.1) := good_all hE (by decide +kernel) (a_X12_up hE)
noncomputable def P_X12_timeToRead (K : Sh_)  : List (Nat × Op_) := [(0, o_ald 0 1),
  (1, o_ild 2 1),
  (2, o_ic 0 1),
  (3, o_callV K 12 (f_X12_chapOf K) 2),
  (6, o_ald 0 1),
  (7, o_ild 1 1),
  (8, o_ic 0 1),
  (9, o_callV K 12 (f_X12_readerOf K) 2),
  (12, o_callS (f_X12_up K) 2),
  (15, o_iret)]
noncomputable def f_X12_timeToRead (K : Sh_) : Fn_ := fn_ (P_X12_timeToRead K) 3
set_option maxRecDepth 100000 in
theorem a_X12_timeToRead {l : Launch} {E : En_} (hE : EOK_ E)   : All_ (Snd_ l E yX12_timeToRead.cls cX12_timeToRead 3 (some .int) (.code yX12_timeToRead cX12_timeToRead 3 (some .int) :: G_) (rm_ 2)) (P_X12_timeToRead E.2.2.2.1 ) :=
  all_c (s_ald_n (q := 0) (by decide +kernel) rfl)
  <| all_c (s_ild_n (q := 2) (by decide +kernel) rfl)
  <| all_c (s_iconst (n := 0) (by decide +kernel) (by decide))
  <| all_c (s_callV (by decide +kernel) (t_X12_chapOf hE) cl_X12_chapOf ml_RX12_238 im_X12_chapOf se_X12_chapOf (by decide) rfl (rm_lt (by decide)))
  <| all_c (s_ald_n (q := 0) (by decide +kernel) rfl)
  <| all_c (s_ild_n (q := 1) (by decide +kernel) rfl)
  <| all_c (s_iconst (n := 0) (by decide +kernel) (by decide))
  <| all_c (s_callV (by decide +kernel) (t_X12_readerOf hE) cl_X12_readerOf ml_RX12_248 im_X12_readerOf se_X12_readerOf (by decide) rfl (rm_lt (by decide)))
  <| all_c (s_callS (by decide +kernel) (t_X12_up hE) cl_X12_up ml_RX12_274 sm_X12_up (rm_lt (by decide)))
  <| all_c (s_iret (by decide +kernel) rfl)
  <| all_n
theorem t_X12_timeToRead {l : Launch} {E : En_} (hE : EOK_ E) : Good_ l E yX12_timeToRead (.code yX12_timeToRead cX12_timeToRead 3 (some .int) :: G_) (rm_ 2) (f_X12_timeToRead E.2.2.2.1) := good_all hE (by decide +kernel) (a_X12_timeToRead hE)
noncomputable def P_X12_timeToTell (K : Sh_)  : List (Nat × Op_) := [(0, o_ald 0 1),
  (1, o_ild 1 1),
  (2, o_ic 0 1),
  (3, o_callV K 12 (f_X12_chapOf K) 2),
  (6, o_ild 2 1),
  (7, o_imul),
  (8, o_ic 4 1),
  (9, o_ald 0 1),
  (10, o_gF K 12 14),
  (13, o_ic 2 1),
  (14, o_iald K),
  (15, o_imul),
  (16, o_callS (f_X12_up K) 2),
  (19, o_iret)]
noncomputable def f_X12_timeToTell (K : Sh_) : Fn_ := fn_ (P_X12_timeToTell K) 3
set_option maxRecDepth 100000 in
theorem a_X12_timeToTell {l : Launch} {E : En_} (hE : EOK_ E)   : All_ (Snd_ l E yX12_timeToTell.cls cX12_timeToTell 3 (some .int) (.code yX12_timeToTell cX12_timeToTell 3 (some .int) :: G_) (rm_ 2)) (P_X12_timeToTell E.2.2.2.1 ) :=
  all_c (s_ald_n (q := 0) (by decide +kernel) rfl)
  <| all_c (s_ild_n (q := 1) (by decide +kernel) rfl)
  <| all_c (s_iconst (n := 0) (by decide +kernel) (by decide))
  <| all_c (s_callV (by decide +kernel) (t_X12_chapOf hE) cl_X12_chapOf ml_RX12_238 im_X12_chapOf se_X12_chapOf (by decide) rfl (rm_lt (by decide)))
  <| all_c (s_ild_n (q := 2) (by decide +kernel) rfl)
  <| all_c (s_imul (by decide +kernel))
  <| all_c (s_iconst (n := 4) (by decide +kernel) (by decide))
  <| all_c (s_ald_n (q := 0) (by decide +kernel) rfl)
  <| all_c (g_12_14 (by decide +kernel) fl_RX12_13)
  <| all_c (s_iconst (n := 2) (by decide +kernel) (by decide))
  <| all_c (s_iald (by decide +kernel))
  <| all_c (s_imul (by decide +kernel))
  <| all_c (s_callS (by decide +kernel) (t_X12_up hE) cl_X12_up ml_RX12_274 sm_X12_up (rm_lt (by decide)))
  <| all_c (s_iret (by decide +kernel) rfl)
  <| all_n
theorem t_X12_timeToTell {l : Launch} {E : En_} (hE : EOK_ E) : Good_ l E yX12_timeToTell (.code yX12_timeToTell cX12_timeToTell 3 (some .int) :: G_) (rm_ 2) (f_X12_timeToTell E.2.2.2.1) := good_all hE (by decide +kernel) (a_X12_timeToTell hE)
noncomputable def P_X12_reads (K : Sh_)  : List (Nat × Op_) := [(0, o_ald 0 1),
  (1, o_gF K 12 26),
  (4, o_ild 1 1),
  (5, o_dup2),
  (6, o_iald K),
  (7, o_ald 0 1),
  (8, o_ild 1 1),
  (9, o_ild 2 1),
  (10, o_callV K 12 (f_X12_timeToRead K) 2),
  (13, o_isub),
  (14, o_iast K),
  (15, o_ic 1000000 3),
  (18, o_ald 0 1),
  (19, o_ild 1 1),
  (20, o_ild 2 1),
  (21, o_callV K 12 (f_X12_lackOf K) 2),
  (24, o_ic 2 1),
  (25, o_idiv),
  (26, o_isub),
  (27, o_ic 10 2),
  (29, o_ald 0 1),
  (30, o_ild 1 1),
  (31, o_ic 4 1),
  (32, o_callV K 12 (f_X12_readerOf K) 2),
  (35, o_isub),
  (36, o_imul),
  (37, o_ic 10 2),
  (39, o_idiv),
  (40, o_ist 3 1),
  (41, o_ild 3 1),
  (42, o_ald 0 1),
  (43, o_gF K 12 25),
  (46, o_ic 16 2),
  (48, o_ild 1 1),
  (49, o_imul),
  (50, o_ild 2 1),
  (51, o_iadd),
  (52, o_iald K),
  (53, o_cmple 68),
  (56, o_ald 0 1),
  (57, o_gF K 12 25),
  (60, o_ic 16 2),
  (62, o_ild 1 1),
  (63, o_imul),
  (64, o_ild 2 1),
  (65, o_iadd),
  (66, o_ild 3 1),
  (67, o_iast K),
  (68, o_ald 0 1),
  (69, o_gF K 12 27),
  (72, o_ild 1 1),
  (73, o_dup2),
  (74, o_iald K),
  (75, o_ic 1 1),
  (76, o_ild 2 1),
  (77, o_ishl),
  (78, o_ior),
  (79, o_iast K),
  (80, o_vret)]
noncomputable def f_X12_reads (K : Sh_) : Fn_ := fn_ (P_X12_reads K) 4
set_option maxRecDepth 100000 in
theorem a_X12_reads {l : Launch} {E : En_} (hE : EOK_ E)   : All_ (Snd_ l E yX12_reads.cls cX12_reads 4 (none) (.code yX12_reads cX12_reads 4 (none) :: G_) (rm_ 3)) (P_X12_reads E.2.2.2.1 ) :=
  all_c (s_ald_n (q := 0) (by decide +kernel) rfl)
  <| all_c (g_12_26 (by decide +kernel) fl_RX12_42)
  <| all_c (s_ild_n (q := 1) (by decide +kernel) rfl)
  <| all_c (s_dup2 (by decide +kernel))
  <| all_c (s_iald (by decide +kernel))
  <| all_c (s_ald_n (q := 0) (by decide +kernel) rfl)
  <| all_c (s_ild_n (q := 1) (by decide +kernel) rfl)
  <| all_c (s_ild_n (q := 2) (by decide +kernel) rfl)
  <| all_c (s_callV (by decide +kernel) (t_X12_timeToRead hE) cl_X12_timeToRead ml_RX12_277 im_X12_timeToRead se_X12_timeToRead (by decide) rfl (rm_lt (by decide)))
  <| all_c (s_isub (by decide +kernel))
  <| all_c (s_iast (by decide +kernel))
  <| all_c (s_ldcw (by decide +kernel) (G_w kk_RX12_273))
  <| all_c (s_ald_n (q := 0) (by decide +kernel) rfl)
  <| all_c (s_ild_n (q := 1) (by decide +kernel) rfl)
  <| all_c (s_ild_n (q := 2) (by decide +kernel) rfl)
  <| all_c (s_callV (by decide +kernel) (t_X12_lackOf hE) cl_X12_lackOf ml_RX12_280 im_X12_lackOf se_X12_lackOf (by decide) rfl (rm_lt (by decide)))
  <| all_c (s_iconst (n := 2) (by decide +kernel) (by decide))
  <| all_c (s_idiv (by decide +kernel))
  <| all_c (s_isub (by decide +kernel))
  <| all_c (s_bipush (n := 10) (by decide +kernel) (by decide))
  <| all_c (s_ald_n (q := 0) (by decide +kernel) rfl)
  <| all_c (s_ild_n (q := 1) (by decide +kernel) rfl)
  <| all_c (s_iconst (n := 4) (by decide +kernel) (by decide))
  <| all_c (s_callV (by decide +kernel) (t_X12_readerOf hE) cl_X12_readerOf ml_RX12_248 im_X12_readerOf se_X12_readerOf (by decide) rfl (rm_lt (by decide)))
  <| all_c (s_isub (by decide +kernel))
  <| all_c (s_imul (by decide +kernel))
  <| all_c (s_bipush (n := 10) (by decide +kernel) (by decide))
  <| all_c (s_idiv (by decide +kernel))
  <| all_c (s_ist_n (q := 3) (by decide +kernel) rfl)
  <| all_c (s_ild_n (q := 3) (by decide +kernel) rfl)
  <| all_c (s_ald_n (q := 0) (by decide +kernel) rfl)
  <| all_c (g_12_25 (by decide +kernel) fl_RX12_39)
  <| all_c (s_bipush (n := 16) (by decide +kernel) (by decide))
  <| all_c (s_ild_n (q := 1) (by decide +kernel) rfl)
  <| all_c (s_imul (by decide +kernel))
  <| all_c (s_ild_n (q := 2) (by decide +kernel) rfl)
  <| all_c (s_iadd (by decide +kernel))
  <| all_c (s_iald (by decide +kernel))
  <| all_c (s_cmple (off := 15) (by decide +kernel) (by decide))
  <| all_c (s_ald_n (q := 0) (by decide +kernel) rfl)
  <| all_c (g_12_25 (by decide +kernel) fl_RX12_39)
  <| all_c (s_bipush (n := 16) (by decide +kernel) (by decide))
  <| all_c (s_ild_n (q := 1) (by decide +kernel) rfl)
  <| all_c (s_imul (by decide +kernel))
  <| all_c (s_ild_n (q := 2) (by decide +kernel) rfl)
  <| all_c (s_iadd (by decide +kernel))
  <| all_c (s_ild_n (q := 3) (by decide +kernel) rfl)
  <| all_c (s_iast (by decide +kernel))
  <| all_c (s_ald_n (q := 0) (by decide +kernel) rfl)
  <| all_c (g_12_27 (by decide +kernel) fl_RX12_45)
  <| all_c (s_ild_n (q := 1) (by decide +kernel) rfl)
  <| all_c (s_dup2 (by decide +kernel))
  <| all_c (s_iald (by decide +kernel))
  <| all_c (s_iconst (n := 1) (by decide +kernel) (by decide))
  <| all_c (s_ild_n (q := 2) (by decide +kernel) rfl)
  <| all_c (s_ishl (by decide +kernel))
  <| all_c (s_ior (by decide +kernel))
  <| all_c (s_iast (by decide +kernel))
  <| all_c (s_vret (by decide +kernel) rfl)
  <| all_n
theorem t_X12_reads {l : Launch} {E : En_} (hE : EOK_ E) : Good_ l E yX12_reads (.code yX12_reads cX12_reads 4 (none) :: G_) (rm_ 3) (f_X12_reads E.2.2.2.1) := good_all hE (by decide +kernel) (a_X12_reads hE)
noncomputable def P_X12_given (K : Sh_)  : List (Nat × Op_) := [(0, o_ild 2 1),
  (1, o_ald 0 1),
  (2, o_ild 1 1),
  (3, o_ic 1 1),
  (4, o_callV K 12 (f_X12_readerOf K) 2),
  (7, o_imul),
  (8, o_ic 10 2),
  (10, o_idiv),
  (11, o_ild 5 2),
  (13, o_imul),
  (14, o_ic 4 1),
  (15, o_idiv),
  (16, o_ald 0 1),
  (17, o_ild 4 2),
  (19, o_ic 2 1),
  (20, o_callV K 12 (f_X12_readerOf K) 2),
  (23, o_imul),
  (24, o_ic 10 2),
  (26, o_idiv),
  (27, o_ist 6 2),
  (29, o_ild 3 1),
  (30, o_ifeq 38),
  (33, o_ild 6 2),
  (35, o_goto 50),
  (38, o_ild 6 2),
  (40, o_ald 0 1),
  (41, o_gF K 12 14),
  (44, o_ic 3 1),
  (45, o_iald K),
  (46, o_imul),
  (47, o_ic 10 2),
  (49, o_idiv),
  (50, o_iret)]
noncomputable def f_X12_given (K : Sh_) : Fn_ := fn_ (P_X12_given K) 7
set_option maxRecDepth 100000 in
theorem a_X12_given {l : Launch} {E : En_} (hE : EOK_ E)   : All_ (Snd_ l E yX12_given.cls cX12_given 7 (some .int) (.code yX12_given cX12_given 7 (some .int) :: G_) (rm_ 2)) (P_X12_given E.2.2.2.1 ) :=
  all_c (s_ild_n (q := 2) (by decide +kernel) rfl)
  <| all_c (s_ald_n (q := 0) (by decide +kernel) rfl)
  <| all_c (s_ild_n (q := 1) (by decide +kernel) rfl)
  <| all_c (s_iconst (n := 1) (by decide +kernel) (by decide))
  <| all_c (s_callV (by decide +kernel) (t_X12_readerOf hE) cl_X12_readerOf ml_RX12_248 im_X12_readerOf se_X12_readerOf (by decide) rfl (rm_lt (by decide)))
  <| all_c (s_imul (by decide +kernel))
  <| all_c (s_bipush (n := 10) (by decide +kernel) (by decide))
  <| all_c (s_idiv (by decide +kernel))
  <| all_c (s_ild (by decide +kernel))
  <| all_c (s_imul (by decide +kernel))
  <| all_c (s_iconst (n := 4) (by decide +kernel) (by decide))
  <| all_c (s_idiv (by decide +kernel))
  <| all_c (s_ald_n (q := 0) (by decide +kernel) rfl)
  <| all_c (s_ild (by decide +kernel))
  <| all_c (s_iconst (n := 2) (by decide +kernel) (by decide))
  <| all_c (s_callV (by decide +kernel) (t_X12_readerOf hE) cl_X12_readerOf ml_RX12_248 im_X12_readerOf se_X12_readerOf (by decide) rfl (rm_lt (by decide)))
  <| all_c (s_imul (by decide +kernel))
  <| all_c (s_bipush (n := 10) (by decide +kernel) (by decide))
  <| all_c (s_idiv (by decide +kernel))
  <| all_c (s_ist (by decide +kernel))
  <| all_c (s_ild_n (q := 3) (by decide +kernel) rfl)
  <| all_c (s_ifeq (off := 8) (by decide +kernel) (by decide))
  <| all_c (s_ild (by decide +kernel))
  <| all_c (s_goto (off := 15) (by decide +kernel) (by decide))
  <| all_c (s_ild (by decide +kernel))
  <| all_c (s_ald_n (q := 0) (by decide +kernel) rfl)
  <| all_c (g_12_14 (by decide +kernel) fl_RX12_13)
  <| all_c (s_iconst (n := 3) (by decide +kernel) (by decide))
  <| all_c (s_iald (by decide +kernel))
  <| all_c (s_imul (by decide +kernel))
  <| all_c (s_bipush (n := 10) (by decide +kernel) (by decide))
  <| all_c (s_idiv (by decide +kernel))
  <| all_c (s_iret (by decide +kernel) rfl)
  <| all_n
theorem t_X12_given {l : Launch} {E : En_} (hE : EOK_ E) : Good_ l E yX12_given (.code yX12_given cX12_given 7 (some .int) :: G_) (rm_ 2) (f_X12_given E.2.2.2.1) := good_all hE (by decide +kernel) (a_X12_given hE)
noncomputable def P_X12_gets (K : Sh_)  : List (Nat × Op_) := [(0, o_ald 0 1),
  (1, o_ild 1 1),
  (2, o_ald 0 1),
  (3, o_gF K 12 25),
  (6, o_ic 16 2),
  (8, o_ild 1 1),
  (9, o_imul),
  (10, o_ild 3 1),
  (11, o_iadd),
  (12, o_iald K),
  (13, o_ald 0 1),
  (14, o_gF K 12 27),
  (17, o_ild 1 1),
  (18, o_iald K),
  (19, o_ild 3 1),
  (20, o_callS (f_X12_has K) 2),
  (23, o_ild 2 1),
  (24, o_ild 4 2),
  (26, o_callV K 12 (f_X12_given K) 5),
  (29, o_ist 5 2),
  (31, o_ild 5 2),
  (33, o_i2l),
  (34, o_ic 1000000 3),
  (37, o_ald 0 1),
  (38, o_ild 2 1),
  (39, o_ild 3 1),
  (40, o_callV K 12 (f_X12_lackOf K) 2),
  (43, o_isub),
  (44, o_i2l),
  (45, o_lmul),
  (46, o_lc 1000000 3),
  (49, o_ldiv),
  (50, o_l2i),
  (51, o_ist 5 2),
  (53, o_ald 0 1),
  (54, o_gF K 12 25),
  (57, o_ic 16 2),
  (59, o_ild 2 1),
  (60, o_imul),
  (61, o_ild 3 1),
  (62, o_iadd),
  (63, o_iald K),
  (64, o_ist 6 2),
  (66, o_ald 0 1),
  (67, o_gF K 12 25),
  (70, o_ic 16 2),
  (72, o_ild 2 1),
  (73, o_imul),
  (74, o_ild 3 1),
  (75, o_iadd),
  (76, o_ild 6 2),
  (78, o_ic 1000000 3),
  (81, o_ild 6 2),
  (83, o_isub),
  (84, o_i2l),
  (85, o_ild 5 2),
  (87, o_i2l),
  (88, o_lmul),
  (89, o_lc 1000000 3),
  (92, o_ldiv),
  (93, o_l2i),
  (94, o_iadd),
  (95, o_iast K),
  (96, o_ald 0 1),
  (97, o_gF K 12 28),
  (100, o_ild 2 1),
  (101, o_dup2),
  (102, o_iald K),
  (103, o_ic 1 1),
  (104, o_ild 3 1),
  (105, o_ishl),
  (106, o_ior),
  (107, o_iast K),
  (108, o_vret)]
noncomputable def f_X12_gets (K : Sh_) : Fn_ := fn_ (P_X12_gets K) 7
set_option maxRecDepth 100000 in
theorem a_X12_gets {l : Launch} {E : En_} (hE : EOK_ E)   : All_ (Snd_ l E yX12_gets.cls cX12_gets 7 (none) (.code yX12_gets cX12_gets 7 (none) :: G_) (rm_ 3)) (P_X12_gets E.2.2.2.1 ) :=
  all_c (s_ald_n (q := 0) (by decide +kernel) rfl)
  <| all_c (s_ild_n (q := 1) (by decide +kernel) rfl)
  <| all_c (s_ald_n (q := 0) (by decide +kernel) rfl)
  <| all_c (g_12_25 (by decide +kernel) fl_RX12_39)
  <| all_c (s_bipush (n := 16) (by decide +kernel) (by decide))
  <| all_c (s_ild_n (q := 1) (by decide +kernel) rfl)
  <| all_c (s_imul (by decide +kernel))
  <| all_c (s_ild_n (q := 3) (by decide +kernel) rfl)
  <| all_c (s_iadd (by decide +kernel))
  <| all_c (s_iald (by decide +kernel))
  <| all_c (s_ald_n (q := 0) (by decide +kernel) rfl)
  <| all_c (g_12_27 (by decide +kernel) fl_RX12_45)
  <| all_c (s_ild_n (q := 1) (by decide +kernel) rfl)
  <| all_c (s_iald (by decide +kernel))
  <| all_c (s_ild_n (q := 3) (by decide +kernel) rfl)
  <| all_c (s_callS (by decide +kernel) (t_X12_has hE) cl_X12_has ml_RX12_223 sm_X12_has (rm_lt (by decide)))
  <| all_c (s_ild_n (q := 2) (by decide +kernel) rfl)
  <| all_c (s_ild (by decide +kernel))
  <| all_c (s_callV (by decide +kernel) (t_X12_given hE) cl_X12_given ml_RX12_283 im_X12_given se_X12_given (by decide) rfl (rm_lt (by decide)))
  <| all_c (s_ist (by decide +kernel))
  <| all_c (s_ild (by decide +kernel))
  <| all_c (s_i2l (by decide +kernel))
  <| all_c (s_ldcw (by decide +kernel) (G_w kk_RX12_273))
  <| all_c (s_ald_n (q := 0) (by decide +kernel) rfl)
  <| all_c (s_ild_n (q := 2) (by decide +kernel) rfl)
  <| all_c (s_ild_n (q := 3) (by decide +kernel) rfl)
  <| all_c (s_callV (by decide +kernel) (t_X12_lackOf hE) cl_X12_lackOf ml_RX12_280 im_X12_lackOf se_X12_lackOf (by decide) rfl (rm_lt (by decide)))
  <| all_c (s_isub (by decide +kernel))
  <| all_c (s_i2l (by decide +kernel))
  <| all_c (s_lmul (by decide +kernel))
  <| all_c (s_ldc2 (by decide +kernel) (G_w kk_RX12_287))
  <| all_c (s_ldiv (by decide +kernel))
  <| all_c (s_l2i (by decide +kernel))
  <| all_c (s_ist (by decide +kernel))
  <| all_c (s_ald_n (q := 0) (by decide +kernel) rfl)
  <| all_c (g_12_25 (by decide +kernel) fl_RX12_39)
  <| all_c (s_bipush (n := 16) (by decide +kernel) (by decide))
  <| all_c (s_ild_n (q := 2) (by decide +kernel) rfl)
  <| all_c (s_imul (by decide +kernel))
  <| all_c (s_ild_n (q := 3) (by decide +kernel) rfl)
  <| all_c (s_iadd (by decide +kernel))
  <| all_c (s_iald (by decide +kernel))
  <| all_c (s_ist (by decide +kernel))
  <| all_c (s_ald_n (q := 0) (by decide +kernel) rfl)
  <| all_c (g_12_25 (by decide +kernel) fl_RX12_39)
  <| all_c (s_bipush (n := 16) (by decide +kernel) (by decide))
  <| all_c (s_ild_n (q := 2) (by decide +kernel) rfl)
  <| all_c (s_imul (by decide +kernel))
  <| all_c (s_ild_n (q := 3) (by decide +kernel) rfl)
  <| all_c (s_iadd (by decide +kernel))
  <| all_c (s_ild (by decide +kernel))
  <| all_c (s_ldcw (by decide +kernel) (G_w kk_RX12_273))
  <| all_c (s_ild (by decide +kernel))
  <| all_c (s_isub (by decide +kernel))
  <| all_c (s_i2l (by decide +kernel))
  <| all_c (s_ild (by decide +kernel))
  <| all_c (s_i2l (by decide +kernel))
  <| all_c (s_lmul (by decide +kernel))
  <| all_c (s_ldc2 (by decide +kernel) (G_w kk_RX12_287))
  <| all_c (s_ldiv (by decide +kernel))
  <| all_c (s_l2i (by decide +kernel))
  <| all_c (s_iadd (by decide +kernel))
  <| all_c (s_iast (by decide +kernel))
  <| all_c (s_ald_n (q := 0) (by decide +kernel) rfl)
  <| all_c (g_12_28 (by decide +kernel) fl_RX12_48)
  <| all_c (s_ild_n (q := 2) (by decide +kernel) rfl)
  <| all_c (s_dup2 (by decide +kernel))
  <| all_c (s_iald (by decide +kernel))
  <| all_c (s_iconst (n := 1) (by decide +kernel) (by decide))
  <| all_c (s_ild_n (q := 3) (by decide +kernel) rfl)
  <| all_c (s_ishl (by decide +kernel))
  <| all_c (s_ior (by decide +kernel))
  <| all_c (s_iast (by decide +kernel))
  <| all_c (s_vret (by decide +kernel) rfl)
  <| all_n
theorem t_X12_gets {l : Launch} {E : En_} (hE : EOK_ E) : Good_ l E yX12_gets (.code yX12_gets cX12_gets 7 (none) :: G_) (rm_ 3) (f_X12_gets E.2.2.2.1) := good_all hE (by decide +kernel) (a_X12_gets hE)
noncomputable def P_X12_wrong (K : Sh_)  : List (Nat × Op_) := [(0, o_ild 3 1),
  (1, o_ifne 25),
  (4, o_ald 0 1),
  (5, o_gF K 12 26),
  (8, o_ild 1 1),
  (9, o_iald K),
  (10, o_ald 0 1),
  (11, o_ild 1 1),
  (12, o_ild 2 1),
  (13, o_callV K 12 (f_X12_timeToRead K) 2),
  (16, o_cmpge 23),
  (19, o_ic 1 1),
  (20, o_goto 24),
  (23, o_ic 0 1),
  (24, o_iret),
  (25, o_ald 0 1),
  (26, o_ild 2 1),
  (27, o_ild 3 1),
  (28, o_callV K 12 (f_X12_timeToTell K) 2),
  (31, o_ist 5 2),
  (33, o_ald 0 1),
  (34, o_gF K 12 26),
  (37, o_ild 1 1),
  (38, o_iald K),
  (39, o_ild 5 2),
  (41, o_cmpge 46),
  (44, o_ic 1 1),
  (45, o_iret),
  (46, o_ic 0 1),
  (47, o_ist 6 2),
  (49, o_ild 6 2),
  (51, o_ald 0 1),
  (52, o_callV K 12 (f_X12_readers K) 0),
  (55, o_cmpge 88),
  (58, o_ild 4 2),
  (60, o_ild 6 2),
  (62, o_callS (f_X12_has K) 2),
  (65, o_ifeq 82),
  (68, o_ald 0 1),
  (69, o_gF K 12 26),
  (72, o_ild 6 2),
  (74, o_iald K),
  (75, o_ild 5 2),
  (77, o_cmpge 82),
  (80, o_ic 1 1),
  (81, o_iret),
  (82, o_inc 6 1),
  (85, o_goto 49),
  (88, o_ald 0 1),
  (89, o_gF K 12 25),
  (92, o_ic 16 2),
  (94, o_ild 1 1),
  (95, o_imul),
  (96, o_ild 2 1),
  (97, o_iadd),
  (98, o_iald K),
  (99, o_ifne 106),
  (102, o_ic 2 1),
  (103, o_goto 107),
  (106, o_ic 0 1),
  (107, o_iret)]
noncomputable def f_X12_wrong (K : Sh_) : Fn_ := fn_ (P_X12_wrong K) 7
set_option maxRecDepth 100000 in
theorem a_X12_wrong {l : Launch} {E : En_} (hE : EOK_ E)   : All_ (Snd_ l E yX12_wrong.cls cX12_wrong 7 (some .int) (.code yX12_wrong cX12_wrong 7 (some .int) :: G_) (rm_ 3)) (P_X12_wrong E.2.2.2.1 ) :=
  all_c (s_ild_n (q := 3) (by decide +kernel) rfl)
  <| all_c (s_ifne (off := 24) (by decide +kernel) (by decide))
  <| all_c (s_ald_n (q := 0) (by decide +kernel) rfl)
  <| all_c (g_12_26 (by decide +kernel) fl_RX12_42)
  <| all_c (s_ild_n (q := 1) (by decide +kernel) rfl)
  <| all_c (s_iald (by decide +kernel))
  <| all_c (s_ald_n (q := 0) (by decide +kernel) rfl)
  <| all_c (s_ild_n (q := 1) (by decide +kernel) rfl)
  <| all_c (s_ild_n (q := 2) (by decide +kernel) rfl)
  <| all_c (s_callV (by decide +kernel) (t_X12_timeToRead hE) cl_X12_timeToRead ml_RX12_277 im_X12_timeToRead se_X12_timeToRead (by decide) rfl (rm_lt (by decide)))
  <| all_c (s_cmpge (off := 7) (by decide +kernel) (by decide))
  <| all_c (s_iconst (n := 1) (by decide +kernel) (by decide))
  <| all_c (s_goto (off := 4) (by decide +kernel) (by decide))
  <| all_c (s_iconst (n := 0) (by decide +kernel) (by decide))
  <| all_c (s_iret (by decide +kernel) rfl)
  <| all_c (s_ald_n (q := 0) (by decide +kernel) rfl)
  <| all_c (s_ild_n (q := 2) (by decide +kernel) rfl)
  <| all_c (s_ild_n (q := 3) (by decide +kernel) rfl)
  <| all_c (s_callV (by decide +kernel) (t_X12_timeToTell hE) cl_X12_timeToTell ml_RX12_289 im_X12_timeToTell se_X12_timeToTell (by decide) rfl (rm_lt (by decide)))
  <| all_c (s_ist (by decide +kernel))
  <| all_c (s_ald_n (q := 0) (by decide +kernel) rfl)
  <| all_c (g_12_26 (by decide +kernel) fl_RX12_42)
  <| all_c (s_ild_n (q := 1) (by decide +kernel) rfl)
  <| all_c (s_iald (by decide +kernel))
  <| all_c (s_ild (by decide +kernel))
  <| all_c (s_cmpge (off := 5) (by decide +kernel) (by decide))
  <| all_c (s_iconst (n := 1) (by decide +kernel) (by decide))
  <| all_c (s_iret (by decide +kernel) rfl)
  <| all_c (s_iconst (n := 0) (by decide +kernel) (by decide))
  <| all_c (s_ist (by decide +kernel))
  <| all_c (s_ild (by decide +kernel))
  <| all_c (s_ald_n (q := 0) (by decide +kernel) rfl)
  <| all_c (s_callV (by decide +kernel) (t_X12_readers hE) cl_X12_readers ml_RX12_191 im_X12_readers se_X12_readers (by decide) rfl (rm_lt (by decide)))
  <| all_c (s_cmpge (off := 33) (by decide +kernel) (by decide))
  <| all_c (s_ild (by decide +kernel))
  <| all_c (s_ild (by decide +kernel))
  <| all_c (s_callS (by decide +kernel) (t_X12_has hE) cl_X12_has ml_RX12_223 sm_X12_has (rm_lt (by decide)))
  <| all_c (s_ifeq (off := 17) (by decide +kernel) (by decide))
  <| all_c (s_ald_n (q := 0) (by decide +kernel) rfl)
  <| all_c (g_12_26 (by decide +kernel) fl_RX12_42)
  <| all_c (s_ild (by decide +kernel))
  <| all_c (s_iald (by decide +kernel))
  <| all_c (s_ild (by decide +kernel))
  <| all_c (s_cmpge (off := 5) (by decide +kernel) (by decide))
  <| all_c (s_iconst (n := 1) (by decide +kernel) (by decide))
  <| all_c (s_iret (by decide +kernel) rfl)
  <| all_c (s_inc (n := 1) (by decide +kernel) (by decide))
  <| all_c (s_goto (off := (-36)) (by decide +kernel) (by decide))
  <| all_c (s_ald_n (q := 0) (by decide +kernel) rfl)
  <| all_c (g_12_25 (by decide +kernel) fl_RX12_39)
  <| all_c (s_bipush (n := 16) (by decide +kernel) (by decide))
  <| all_c (s_ild_n (q := 1) (by decide +kernel) rfl)
  <| all_c (s_imul (by decide +kernel))
  <| all_c (s_ild_n (q := 2) (by decide +kernel) rfl)
  <| all_c (s_iadd (by decide +kernel))
  <| all_c (s_iald (by decide +kernel))
  <| all_c (s_ifne (off := 7) (by decide +kernel) (by decide))
  <| all_c (s_iconst (n := 2) (by decide +kernel) (by decide))
  <| all_c (s_goto (off := 4) (by decide +kernel) (by decide))
  <| all_c (s_iconst (n := 0) (by decide +kernel) (by decide))
  <| all_c (s_iret (by decide +kernel) rfl)
  <| all_n
theorem t_X12_wrong {l : Launch} {E : En_} (hE : EOK_ E) : Good_ l E yX12_wrong (.code yX12_wrong cX12_wrong 7 (some .int) :: G_) (rm_ 3) (f_X12_wrong E.2.2.2.1) := good_all hE (by decide +kernel) (a_X12_wrong hE)
noncomputable def P_X12_does (K : Sh_)  : List (Nat × Op_) := [(0, o_ild 3 1),
  (1, o_ifne 11),
  (4, o_ald 0 1),
  (5, o_ild 1 1),
  (6, o_ild 2 1),
  (7, o_callV K 12 (f_X12_reads K) 2),
  (10, o_vret),
  (11, o_ald 0 1),
  (12, o_ild 2 1),
  (13, o_ild 3 1),
  (14, o_callV K 12 (f_X12_timeToTell K) 2),
  (17, o_ist 5 2),
  (19, o_ald 0 1),
  (20, o_gF K 12 26),
  (23, o_ild 1 1),
  (24, o_dup2),
  (25, o_iald K),
  (26, o_ild 5 2),
  (28, o_isub),
  (29, o_iast K),
  (30, o_ic 0 1),
  (31, o_ist 6 2),
  (33, o_ild 6 2),
  (35, o_ald 0 1),
  (36, o_callV K 12 (f_X12_readers K) 0),
  (39, o_cmpge 82),
  (42, o_ild 4 2),
  (44, o_ild 6 2),
  (46, o_callS (f_X12_has K) 2),
  (49, o_ifne 55),
  (52, o_goto 76),
  (55, o_ald 0 1),
  (56, o_gF K 12 26),
  (59, o_ild 6 2),
  (61, o_dup2),
  (62, o_iald K),
  (63, o_ild 5 2),
  (65, o_isub),
  (66, o_iast K),
  (67, o_ald 0 1),
  (68, o_ild 1 1),
  (69, o_ild 6 2),
  (71, o_ild 2 1),
  (72, o_ild 3 1),
  (73, o_callV K 12 (f_X12_gets K) 4),
  (76, o_inc 6 1),
  (79, o_goto 33),
  (82, o_vret)]
noncomputable def f_X12_does (K : Sh_) : Fn_ := fn_ (P_X12_does K) 7
set_option maxRecDepth 100000 in
theorem a_X12_does {l : Launch} {E : En_} (hE : EOK_ E)   : All_ (Snd_ l E yX12_does.cls cX12_does 7 (none) (.code yX12_does cX12_does 7 (none) :: G_) (rm_ 4)) (P_X12_does E.2.2.2.1 ) :=
  all_c (s_ild_n (q := 3) (by decide +kernel) rfl)
  <| all_c (s_ifne (off := 10) (by decide +kernel) (by decide))
  <| all_c (s_ald_n (q := 0) (by decide +kernel) rfl)
  <| all_c (s_ild_n (q := 1) (by decide +kernel) rfl)
  <| all_c (s_ild_n (q := 2) (by decide +kernel) rfl)
  <| all_c (s_callV (by decide +kernel) (t_X12_reads hE) cl_X12_reads ml_RX12_292 im_X12_reads se_X12_reads (by decide) rfl (rm_lt (by decide)))
  <| all_c (s_vret (by decide +kernel) rfl)
  <| all_c (s_ald_n (q := 0) (by decide +kernel) rfl)
  <| all_c (s_ild_n (q := 2) (by decide +kernel) rfl)
  <| all_c (s_ild_n (q := 3) (by decide +kernel) rfl)
  <| all_c (s_callV (by decide +kernel) (t_X12_timeToTell hE) cl_X12_timeToTell ml_RX12_289 im_X12_timeToTell se_X12_timeToTell (by decide) rfl (rm_lt (by decide)))
  <| all_c (s_ist (by decide +kernel))
  <| all_c (s_ald_n (q := 0) (by decide +kernel) rfl)
  <| all_c (g_12_26 (by decide +kernel) fl_RX12_42)
  <| all_c (s_ild_n (q := 1) (by decide +kernel) rfl)
  <| all_c (s_dup2 (by decide +kernel))
  <| all_c (s_iald (by decide +kernel))
  <| all_c (s_ild (by decide +kernel))
  <| all_c (s_isub (by decide +kernel))
  <| all_c (s_iast (by decide +kernel))
  <| all_c (s_iconst (n := 0) (by decide +kernel) (by decide))
  <| all_c (s_ist (by decide +kernel))
  <| all_c (s_ild (by decide +kernel))
  <| all_c (s_ald_n (q := 0) (by decide +kernel) rfl)
  <| all_c (s_callV (by decide +kernel) (t_X12_readers hE) cl_X12_readers ml_RX12_191 im_X12_readers se_X12_readers (by decide) rfl (rm_lt (by decide)))
  <| all_c (s_cmpge (off := 43) (by decide +kernel) (by decide))
  <| all_c (s_ild (by decide +kernel))
  <| all_c (s_ild (by decide +kernel))
  <| all_c (s_callS (by decide +kernel) (t_X12_has hE) cl_X12_has ml_RX12_223 sm_X12_has (rm_lt (by decide)))
  <| all_c (s_ifne (off := 6) (by decide +kernel) (by decide))
  <| all_c (s_goto (off := 24) (by decide +kernel) (by decide))
  <| all_c (s_ald_n (q := 0) (by decide +kernel) rfl)
  <| all_c (g_12_26 (by decide +kernel) fl_RX12_42)
  <| all_c (s_ild (by decide +kernel))
  <| all_c (s_dup2 (by decide +kernel))
  <| all_c (s_iald (by decide +kernel))
  <| all_c (s_ild (by decide +kernel))
  <| all_c (s_isub (by decide +kernel))
  <| all_c (s_iast (by decide +kernel))
  <| all_c (s_ald_n (q := 0) (by decide +kernel) rfl)
  <| all_c (s_ild_n (q := 1) (by decide +kernel) rfl)
  <| all_c (s_ild (by decide +kernel))
  <| all_c (s_ild_n (q := 2) (by decide +kernel) rfl)
  <| all_c (s_ild_n (q := 3) (by decide +kernel) rfl)
  <| all_c (s_callV (by decide +kernel) (t_X12_gets hE) cl_X12_gets ml_RX12_296 im_X12_gets se_X12_gets (by decide) rfl (rm_lt (by decide)))
  <| all_c (s_inc (n := 1) (by decide +kernel) (by decide))
  <| all_c (s_goto (off := (-46)) (by decide +kernel) (by decide))
  <| all_c (s_vret (by decide +kernel) rfl)
  <| all_n
theorem t_X12_does {l : Launch} {E : En_} (hE : EOK_ E) : Good_ l E yX12_does (.code yX12_does cX12_does 7 (none) :: G_) (rm_ 4) (f_X12_does E.2.2.2.1) := good_all hE (by decide +kernel) (a_X12_does hE)
noncomputable def P_X12_night (K : Sh_)  : List (Nat × Op_) := [(0, o_ald 0 1),
  (1, o_callV K 12 (f_X12_lay K) 0),
  (4, o_ald 0 1),
  (5, o_callV K 12 (f_X12_dawn K) 0),
  (8, o_ald 0 1),
  (9, o_ic (-1) 1),
  (10, o_pI K 12 29),
  (13, o_ald 0 1),
  (14, o_ic 0 1),
  (15, o_pI K 12 30),
  (18, o_ic 0 1),
  (19, o_aft [2] (o_ist 1 1)),
  (20, o_ild 1 1),
  (21, o_ald 0 1),
  (22, o_gF K 12 14),
  (25, o_ic 390 3),
  (28, o_iald K),
  (29, o_cmpge 131),
  (32, o_ic 400 3),
  (35, o_ic 4 1),
  (36, o_ild 1 1),
  (37, o_imul),
  (38, o_iadd),
  (39, o_ist 2 1),
  (40, o_ald 0 1),
  (41, o_ald 0 1),
  (42, o_ald 0 1),
  (43, o_gF K 12 14),
  (46, o_ild 2 1),
  (47, o_iald K),
  (48, o_ald 0 1),
  (49, o_gF K 12 14),
  (52, o_ild 2 1),
  (53, o_ic 1 1),
  (54, o_iadd),
  (55, o_iald K),
  (56, o_ald 0 1),
  (57, o_gF K 12 14),
  (60, o_ild 2 1),
  (61, o_ic 2 1),
  (62, o_iadd),
  (63, o_iald K),
  (64, o_ald 0 1),
  (65, o_gF K 12 14),
  (68, o_ild 2 1),
  (69, o_ic 3 1),
  (70, o_iadd),
  (71, o_iald K),
  (72, o_callV K 12 (f_X12_wrong K) 4),
  (75, o_pI K 12 30),
  (78, o_ald 0 1),
  (79, o_gI K 12 30),
  (82, o_ifeq 91),
  (85, o_ald 0 1),
  (86, o_ild 1 1),
  (87, o_pI K 12 29),
  (90, o_vret),
  (91, o_ald 0 1),
  (92, o_ald 0 1),
  (93, o_gF K 12 14),
  (96, o_ild 2 1),
  (97, o_iald K),
  (98, o_ald 0 1),
  (99, o_gF K 12 14),
  (102, o_ild 2 1),
  (103, o_ic 1 1),
  (104, o_iadd),
  (105, o_iald K),
  (106, o_ald 0 1),
  (107, o_gF K 12 14),
  (110, o_ild 2 1),
  (111, o_ic 2 1),
  (112, o_iadd),
  (113, o_iald K),
  (114, o_ald 0 1),
  (115, o_gF K 12 14),
  (118, o_ild 2 1),
  (119, o_ic 3 1),
  (120, o_iadd),
  (121, o_iald K),
  (122, o_callV K 12 (f_X12_does K) 4),
  (125, o_inc 1 1),
  (128, o_aft [2] (o_goto 20)),
  (131, o_vret)]
noncomputable def f_X12_night (K : Sh_) : Fn_ := fn_ (P_X12_night K) 3
set_option maxRecDepth 100000 in
theorem a_X12_night {l : Launch} {E : En_} (hE : EOK_ E)   : All_ (Snd_ l E yX12_night.cls cX12_night 3 (none) (.code yX12_night cX12_night 3 (none) :: G_) (rm_ 5)) (P_X12_night E.2.2.2.1 ) :=
  all_c (s_ald_n (q := 0) (by decide +kernel) rfl)
  <| all_c (s_callV (by decide +kernel) (t_X12_lay hE) cl_X12_lay ml_RX12_177 im_X12_lay se_X12_lay (by decide) rfl (rm_lt (by decide)))
  <| all_c (s_ald_n (q := 0) (by decide +kernel) rfl)
  <| all_c (s_callV (by decide +kernel) (t_X12_dawn hE) cl_X12_dawn ml_RX12_300 im_X12_dawn se_X12_dawn (by decide) rfl (rm_lt (by decide)))
  <| all_c (s_ald_n (q := 0) (by decide +kernel) rfl)
  <| all_c (s_iconst (n := (-1)) (by decide +kernel) (by decide))
  <| all_c (p_12_29 (by decide +kernel) fl_RX12_303)
  <| all_c (s_ald_n (q := 0) (by decide +kernel) rfl)
  <| all_c (s_iconst (n := 0) (by decide +kernel) (by decide))
  <| all_c (p_12_30 (by decide +kernel) fl_RX12_306)
  <| all_c (s_iconst (n := 0) (by decide +kernel) (by decide))
  <| all_c (s_aft (s_ist_n (q := 1) (by decide +kernel) rfl))
  <| all_c (s_ild_n (q := 1) (by decide +kernel) rfl)
  <| all_c (s_ald_n (q := 0) (by decide +kernel) rfl)
  <| all_c (g_12_14 (by decide +kernel) fl_RX12_13)
  <| all_c (s_sipush (n := 390) (by decide +kernel) (by decide))
  <| all_c (s_iald (by decide +kernel))
  <| all_c (s_cmpge (off := 102) (by decide +kernel) (by decide))
  <| all_c (s_sipush (n := 400) (by decide +kernel) (by decide))
  <| all_c (s_iconst (n := 4) (by decide +kernel) (by decide))
  <| all_c (s_ild_n (q := 1) (by decide +kernel) rfl)
  <| all_c (s_imul (by decide +kernel))
  <| all_c (s_iadd (by decide +kernel))
  <| all_c (s_ist_n (q := 2) (by decide +kernel) rfl)
  <| all_c (s_ald_n (q := 0) (by decide +kernel) rfl)
  <| all_c (s_ald_n (q := 0) (by decide +kernel) rfl)
  <| all_c (s_ald_n (q := 0) (by decide +kernel) rfl)
  <| all_c (g_12_14 (by decide +kernel) fl_RX12_13)
  <| all_c (s_ild_n (q := 2) (by decide +kernel) rfl)
  <| all_c (s_iald (by decide +kernel))
  <| all_c (s_ald_n (q := 0) (by decide +kernel) rfl)
  <| all_c (g_12_14 (by decide +kernel) fl_RX12_13)
  <| all_c (s_ild_n (q := 2) (by decide +kernel) rfl)
  <| all_c (s_iconst (n := 1) (by decide +kernel) (by decide))
  <| all_c (s_iadd (by decide +kernel))
  <| all_c (s_iald (by decide +kernel))
  <| all_c (s_ald_n (q := 0) (by decide +kernel) rfl)
  <| all_c (g_12_14 (by decide +kernel) fl_RX12_13)
  <| all_c (s_ild_n (q := 2) (by decide +kernel) rfl)
  <| all_c (s_iconst (n := 2) (by decide +kernel) (by decide))
  <| all_c (s_iadd (by decide +kernel))
  <| all_c (s_iald (by decide +kernel))
  <| all_c (s_ald_n (q := 0) (by decide +kernel) rfl)
  <| all_c (g_12_14 (by decide +kernel) fl_RX12_13)
  <| all_c (s_ild_n (q := 2) (by decide +kernel) rfl)
  <| all_c (s_iconst (n := 3) (by decide +kernel) (by decide))
  <| all_c (s_iadd (by decide +kernel))
  <| all_c (s_iald (by decide +kernel))
  <| all_c (s_callV (by decide +kernel) (t_X12_wrong hE) cl_X12_wrong ml_RX12_309 im_X12_wrong se_X12_wrong (by decide) rfl (rm_lt (by decide)))
  <| all_c (p_12_30 (by decide +kernel) fl_RX12_306)
  <| all_c (s_ald_n (q := 0) (by decide +kernel) rfl)
  <| all_c (g_12_30 (by decide +kernel) fl_RX12_306)
  <| all_c (s_ifeq (off := 9) (by decide +kernel) (by decide))
  <| all_c (s_ald_n (q := 0) (by decide +kernel) rfl)
  <| all_c (s_ild_n (q := 1) (by decide +kernel) rfl)
  <| all_c (p_12_29 (by decide +kernel) fl_RX12_303)
  <| all_c (s_vret (by decide +kernel) rfl)
  <| all_c (s_ald_n (q := 0) (by decide +kernel) rfl)
  <| all_c (s_ald_n (q := 0) (by decide +kernel) rfl)
  <| all_c (g_12_14 (by decide +kernel) fl_RX12_13)
  <| all_c (s_ild_n (q := 2) (by decide +kernel) rfl)
  <| all_c (s_iald (by decide +kernel))
  <| all_c (s_ald_n (q := 0) (by decide +kernel) rfl)
  <| all_c (g_12_14 (by decide +kernel) fl_RX12_13)
  <| all_c (s_ild_n (q := 2) (by decide +kernel) rfl)
  <| all_c (s_iconst (n := 1) (by decide +kernel) (by decide))
  <| all_c (s_iadd (by decide +kernel))
  <| all_c (s_iald (by decide +kernel))
  <| all_c (s_ald_n (q := 0) (by decide +kernel) rfl)
  <| all_c (g_12_14 (by decide +kernel) fl_RX12_13)
  <| all_c (s_ild_n (q := 2) (by decide +kernel) rfl)
  <| all_c (s_iconst (n := 2) (by decide +kernel) (by decide))
  <| all_c (s_iadd (by decide +kernel))
  <| all_c (s_iald (by decide +kernel))
  <| all_c (s_ald_n (q := 0) (by decide +kernel) rfl)
  <| all_c (g_12_14 (by decide +kernel) fl_RX12_13)
  <| all_c (s_ild_n (q := 2) (by decide +kernel) rfl)
  <| all_c (s_iconst (n := 3) (by decide +kernel) (by decide))
  <| all_c (s_iadd (by decide +kernel))
  <| all_c (s_iald (by decide +kernel))
  <| all_c (s_callV (by decide +kernel) (t_X12_does hE) cl_X12_does ml_RX12_313 im_X12_does se_X12_does (by decide) rfl (rm_lt (by decide)))
  <| all_c (s_inc (n := 1) (by decide +kernel) (by decide))
  <| all_c (s_aft (s_goto (off := (-108)) (by decide +kernel) (by decide)))
  <| all_c (s_vret (by decide +kernel) rfl)
  <| all_n
theorem t_X12_night {l : Launch} {E : En_} (hE : EOK_ E) : Good_ l E yX12_night (.code yX12_night cX12_night 3 (none) :: G_) (rm_ 5) (f_X12_night E.2.2.2.1) := good_all hE (by decide +kernel) (a_X12_night hE)
noncomputable def P_X12_inAll (K : Sh_)  : List (Nat × Op_) := [(0, o_ic 0 1),
  (1, o_ist 2 1),
  (2, o_ic 0 1),
  (3, o_ist 3 1),
  (4, o_ild 3 1),
  (5, o_ald 0 1),
  (6, o_callV K 12 (f_X12_chaps K) 0),
  (9, o_cmpge 46),
  (12, o_ild 2 1),
  (13, o_ald 0 1),
  (14, o_ild 3 1),
  (15, o_ic 1 1),
  (16, o_callV K 12 (f_X12_chapOf K) 2),
  (19, o_i2l),
  (20, o_ald 0 1),
  (21, o_gF K 12 25),
  (24, o_ic 16 2),
  (26, o_ild 1 1),
  (27, o_imul),
  (28, o_ild 3 1),
  (29, o_iadd),
  (30, o_iald K),
  (31, o_i2l),
  (32, o_lmul),
  (33, o_lc 1000000 3),
  (36, o_ldiv),
  (37, o_l2i),
  (38, o_iadd),
  (39, o_ist 2 1),
  (40, o_inc 3 1),
  (43, o_goto 4),
  (46, o_ild 2 1),
  (47, o_iret)]
noncomputable def f_X12_inAll (K : Sh_) : Fn_ := fn_ (P_X12_inAll K) 4
set_option maxRecDepth 100000 in
theorem a_X12_inAll {l : Launch} {E : En_} (hE : EOK_ E)   : All_ (Snd_ l E yX12_inAll.cls cX12_inAll 4 (some .int) (.code yX12_inAll cX12_inAll 4 (some .int) :: G_) (rm_ 2)) (P_X12_inAll E.2.2.2.1 ) :=
  all_c (s_iconst (n := 0) (by decide +kernel) (by decide))
  <| all_c (s_ist_n (q := 2) (by decide +kernel) rfl)
  <| all_c (s_iconst (n := 0) (by decide +kernel) (by decide))
  <| all_c (s_ist_n (q := 3) (by decide +kernel) rfl)
  <| all_c (s_ild_n (q := 3) (by decide +kernel) rfl)
  <| all_c (s_ald_n (q := 0) (by decide +kernel) rfl)
  <| all_c (s_callV (by decide +kernel) (t_X12_chaps hE) cl_X12_chaps ml_RX12_188 im_X12_chaps se_X12_chaps (by decide) rfl (rm_lt (by decide)))
  <| all_c (s_cmpge (off := 37) (by decide +kernel) (by decide))
  <| all_c (s_ild_n (q := 2) (by decide +kernel) rfl)
  <| all_c (s_ald_n (q := 0) (by decide +kernel) rfl)
  <| all_c (s_ild_n (q := 3) (by decide +kernel) rfl)
  <| all_c (s_iconst (n := 1) (by decide +kernel) (by decide))
  <| all_c (s_callV (by decide +kernel) (t_X12_chapOf hE) cl_X12_chapOf ml_RX12_238 im_X12_chapOf se_X12_chapOf (by decide) rfl (rm_lt (by decide)))
  <| all_c (s_i2l (by decide +kernel))
  <| all_c (s_ald_n (q := 0) (by decide +kernel) rfl)
  <| all_c (g_12_25 (by decide +kernel) fl_RX12_39)
  <| all_c (s_bipush (n := 16) (by decide +kernel) (by decide))
  <| all_c (s_ild_n (q := 1) (by decide +kernel) rfl)
  <| all_c (s_imul (by decide +kernel))
  <| all_c (s_ild_n (q := 3) (by decide +kernel) rfl)
  <| all_c (s_iadd (by decide +kernel))
  <| all_c (s_iald (by decide +kernel))
  <| all_c (s_i2l (by decide +kernel))
  <| all_c (s_lmul (by decide +kernel))
  <| all_c (s_ldc2 (by decide +kernel) (G_w kk_RX12_287))
  <| all_c (s_ldiv (by decide +kernel))
  <| all_c (s_l2i (by decide +kernel))
  <| all_c (s_iadd (by decide +kernel))
  <| all_c (s_ist_n (q := 2) (by decide +kernel) rfl)
  <| all_c (s_inc (n := 1) (by decide +kernel) (by decide))
  <| all_c (s_goto (off := (-39)) (by decide +kernel) (by decide))
  <| all_c (s_ild_n (q := 2) (by decide +kernel) rfl)
  <| all_c (s_iret (by decide +kernel) rfl)
  <| all_n
theorem t_X12_inAll {l : Launch} {E : En_} (hE : EOK_ E) : Good_ l E yX12_inAll (.code yX12_inAll cX12_inAll 4 (some .int) :: G_) (rm_ 2) (f_X12_inAll E.2.2.2.1) := good_all hE (by decide +kernel) (a_X12_inAll hE)
noncomputable def P_X12_sum (K : Sh_)  : List (Nat × Op_) := [(0, o_ic 0 1),
  (1, o_ist 2 1),
  (2, o_ic 0 1),
  (3, o_ist 3 1),
  (4, o_ild 3 1),
  (5, o_ild 1 1),
  (6, o_cmpge 23),
  (9, o_ild 2 1),
  (10, o_ald 0 1),
  (11, o_ild 3 1),
  (12, o_callV K 12 (f_X12_inAll K) 1),
  (15, o_iadd),
  (16, o_ist 2 1),
  (17, o_inc 3 1),
  (20, o_goto 4),
  (23, o_ild 2 1),
  (24, o_iret)]
noncomputable def f_X12_sum (K : Sh_) : Fn_ := fn_ (P_X12_sum K) 4
set_option maxRecDepth 100000 in
theorem a_X12_sum {l : Launch} {E : En_} (hE : EOK_ E)   : All_ (Snd_ l E yX12_sum.cls cX12_sum 4 (some .int) (.code yX12_sum cX12_sum 4 (some .int) :: G_) (rm_ 3)) (P_X12_sum E.2.2.2.1 ) :=
  all_c (s_iconst (n := 0) (by decide +kernel) (by decide))
  <| all_c (s_ist_n (q := 2) (by decide +kernel) rfl)
  <| all_c (s_iconst (n := 0) (by decide +kernel) (by decide))
  <| all_c (s_ist_n (q := 3) (by decide +kernel) rfl)
  <| all_c (s_ild_n (q := 3) (by decide +kernel) rfl)
  <| all_c (s_ild_n (q := 1) (by decide +kernel) rfl)
  <| all_c (s_cmpge (off := 17) (by decide +kernel) (by decide))
  <| all_c (s_ild_n (q := 2) (by decide +kernel) rfl)
  <| all_c (s_ald_n (q := 0) (by decide +kernel) rfl)
  <| all_c (s_ild_n (q := 3) (by decide +kernel) rfl)
  <| all_c (s_callV (by decide +kernel) (t_X12_inAll hE) cl_X12_inAll ml_RX12_316 im_X12_inAll se_X12_inAll (by decide) rfl (rm_lt (by decide)))
  <| all_c (s_iadd (by decide +kernel))
  <| all_c (s_ist_n (q := 2) (by decide +kernel) rfl)
  <| all_c (s_inc (n := 1) (by decide +kernel) (by decide))
  <| all_c (s_goto (off := (-16)) (by decide +kernel) (by decide))
  <| all_c (s_ild_n (q := 2) (by decide +kernel) rfl)
  <| all_c (s_iret (by decide +kernel) rfl)
  <| all_n
theorem t_X12_sum {l : Launch} {E : En_} (hE : EOK_ E) : Good_ l E yX12_sum (.code yX12_sum cX12_sum 4 (some .int) :: G_) (rm_ 3) (f_X12_sum E.2.2.2.1) := good_all hE (by decide +kernel) (a_X12_sum hE)
noncomputable def P_X12_run (K : Sh_)  : List (Nat × Op_) := [(0, o_ald 0 1),
  (1, o_ic 0 1),
  (2, o_pI K 12 0),
  (5, o_ald 0 1),
  (6, o_callV K 12 (f_X12_night K) 0),
  (9, o_ald 0 1),
  (10, o_ald 0 1),
  (11, o_gI K 12 30),
  (14, o_pI K 12 31),
  (17, o_ald 0 1),
  (18, o_gI K 12 29),
  (21, o_iret)]
noncomputable def f_X12_run (K : Sh_) : Fn_ := fn_ (P_X12_run K) 1
set_option maxRecDepth 100000 in
theorem a_X12_run {l : Launch} {E : En_} (hE : EOK_ E)   : All_ (Snd_ l E yX12_run.cls cX12_run 1 (some .int) (.code yX12_run cX12_run 1 (some .int) :: G_) (rm_ 6)) (P_X12_run E.2.2.2.1 ) :=
  all_c (s_ald_n (q := 0) (by decide +kernel) rfl)
  <| all_c (s_iconst (n := 0) (by decide +kernel) (by decide))
  <| all_c (p_12_0 (by decide +kernel) fl_RX12_97)
  <| all_c (s_ald_n (q := 0) (by decide +kernel) rfl)
  <| all_c (s_callV (by decide +kernel) (t_X12_night hE) cl_X12_night ml_RX12_319 im_X12_night se_X12_night (by decide) rfl (rm_lt (by decide)))
  <| all_c (s_ald_n (q := 0) (by decide +kernel) rfl)
  <| all_c (s_ald_n (q := 0) (by decide +kernel) rfl)
  <| all_c (g_12_30 (by decide +kernel) fl_RX12_306)
  <| all_c (p_12_31 (by decide +kernel) fl_RX12_322)
  <| all_c (s_ald_n (q := 0) (by decide +kernel) rfl)
  <| all_c (g_12_29 (by decide +kernel) fl_RX12_303)
  <| all_c (s_iret (by decide +kernel) rfl)
  <| all_n
theorem t_X12_run {l : Launch} {E : En_} (hE : EOK_ E) : Good_ l E yX12_run (.code yX12_run cX12_run 1 (some .int) :: G_) (rm_ 6) (f_X12_run E.2.2.2.1) := good_all hE (by decide +kernel) (a_X12_run hE)
noncomputable def P_X12_why (K : Sh_)  : List (Nat × Op_) := [(0, o_ald 0 1),
  (1, o_ic 0 1),
  (2, o_pI K 12 0),
  (5, o_ald 0 1),
  (6, o_gI K 12 31),
  (9, o_iret)]
noncomputable def f_X12_why (K : Sh_) : Fn_ := fn_ (P_X12_why K) 1
set_option maxRecDepth 100000 in
theorem a_X12_why {l : Launch} {E : En_} (hE : EOK_ E)   : All_ (Snd_ l E yX12_why.cls cX12_why 1 (some .int) (.code yX12_why cX12_why 1 (some .int) :: G_) (rm_ 1)) (P_X12_why E.2.2.2.1 ) :=
  all_c (s_ald_n (q := 0) (by decide +kernel) rfl)
  <| all_c (s_iconst (n := 0) (by decide +kernel) (by decide))
  <| all_c (p_12_0 (by decide +kernel) fl_RX12_97)
  <| all_c (s_ald_n (q := 0) (by decide +kernel) rfl)
  <| all_c (g_12_31 (by decide +kernel) fl_RX12_322)
  <| all_c (s_iret (by decide +kernel) rfl)
  <| all_n
theorem t_X12_why {l : Launch} {E : En_} (hE : EOK_ E) : Good_ l E yX12_why (.code yX12_why cX12_why 1 (some .int) :: G_) (rm_ 1) (f_X12_why E.2.2.2.1) := good_all hE (by decide +kernel) (a_X12_why hE)
noncomputable def P_X12_known (K : Sh_)  : List (Nat × Op_) := [(0, o_ald 0 1),
  (1, o_ic 0 1),
  (2, o_pI K 12 0),
  (5, o_ald 0 1),
  (6, o_callV K 12 (f_X12_night K) 0),
  (9, o_ald 0 1),
  (10, o_ild 1 1),
  (11, o_callV K 12 (f_X12_isReader K) 1),
  (14, o_ifeq 39),
  (17, o_ald 0 1),
  (18, o_ild 2 1),
  (19, o_callV K 12 (f_X12_isChap K) 1),
  (22, o_ifeq 39),
  (25, o_ald 0 1),
  (26, o_gF K 12 25),
  (29, o_ic 16 2),
  (31, o_ild 1 1),
  (32, o_imul),
  (33, o_ild 2 1),
  (34, o_iadd),
  (35, o_iald K),
  (36, o_goto 40),
  (39, o_ic (-1) 1),
  (40, o_iret)]
noncomputable def f_X12_known (K : Sh_) : Fn_ := fn_ (P_X12_known K) 3
set_option maxRecDepth 100000 in
theorem a_X12_known {l : Launch} {E : En_} (hE : EOK_ E)   : All_ (Snd_ l E yX12_known.cls cX12_known 3 (some .int) (.code yX12_known cX12_known 3 (some .int) :: G_) (rm_ 6)) (P_X12_known E.2.2.2.1 ) :=
  all_c (s_ald_n (q := 0) (by decide +kernel) rfl)
  <| all_c (s_iconst (n := 0) (by decide +kernel) (by decide))
  <| all_c (p_12_0 (by decide +kernel) fl_RX12_97)
  <| all_c (s_ald_n (q := 0) (by decide +kernel) rfl)
  <| all_c (s_callV (by decide +kernel) (t_X12_night hE) cl_X12_night ml_RX12_319 im_X12_night se_X12_night (by decide) rfl (rm_lt (by decide)))
  <| all_c (s_ald_n (q := 0) (by decide +kernel) rfl)
  <| all_c (s_ild_n (q := 1) (by decide +kernel) rfl)
  <| all_c (s_callV (by decide +kernel) (t_X12_isReader hE) cl_X12_isReader ml_RX12_245 im_X12_isReader se_X12_isReader (by decide) rfl (rm_lt (by decide)))
  <| all_c (s_ifeq (off := 25) (by decide +kernel) (by decide))
  <| all_c (s_ald_n (q := 0) (by decide +kernel) rfl)
  <| all_c (s_ild_n (q := 2) (by decide +kernel) rfl)
  <| all_c (s_callV (by decide +kernel) (t_X12_isChap hE) cl_X12_isChap ml_RX12_232 im_X12_isChap se_X12_isChap (by decide) rfl (rm_lt (by decide)))
  <| all_c (s_ifeq (off := 17) (by decide +kernel) (by decide))
  <| all_c (s_ald_n (q := 0) (by decide +kernel) rfl)
  <| all_c (g_12_25 (by decide +kernel) fl_RX12_39)
  <| all_c (s_bipush (n := 16) (by decide +kernel) (by decide))
  <| all_c (s_ild_n (q := 1) (by decide +kernel) rfl)
  <| all_c (s_imul (by decide +kernel))
  <| all_c (s_ild_n (q := 2) (by decide +kernel) rfl)
  <| all_c (s_iadd (by decide +kernel))
  <| all_c (s_iald (by decide +kernel))
  <| all_c (s_goto (off := 4) (by decide +kernel) (by decide))
  <| all_c (s_iconst (n := (-1)) (by decide +kernel) (by decide))
  <| all_c (s_iret (by decide +kernel) rfl)
  <| all_n
theorem t_X12_known {l : Launch} {E : En_} (hE : EOK_ E) : Good_ l E yX12_known (.code yX12_known cX12_known 3 (some .int) :: G_) (rm_ 6) (f_X12_known E.2.2.2.1) := good_all hE (by decide +kernel) (a_X12_known hE)
noncomputable def P_X12_after (K : Sh_)  : List (Nat × Op_) := [(0, o_ald 0 1),
  (1, o_ic 0 1),
  (2, o_pI K 12 0),
  (5, o_ald 0 1),
  (6, o_callV K 12 (f_X12_night K) 0),
  (9, o_ald 0 1),
  (10, o_ild 1 1),
  (11, o_callV K 12 (f_X12_isReader K) 1),
  (14, o_ifeq 26),
  (17, o_ild 2 1),
  (18, o_ic 0 1),
  (19, o_ic 3 1),
  (20, o_callS (f_X12_isIn K) 3),
  (23, o_ifne 28),
  (26, o_ic (-1) 1),
  (27, o_iret),
  (28, o_ild 2 1),
  (29, o_ifne 41),
  (32, o_ald 0 1),
  (33, o_gF K 12 26),
  (36, o_ild 1 1),
  (37, o_iald K),
  (38, o_goto 74),
  (41, o_ild 2 1),
  (42, o_ic 1 1),
  (43, o_cmpne 54),
  (46, o_ald 0 1),
  (47, o_ild 1 1),
  (48, o_callV K 12 (f_X12_inAll K) 1),
  (51, o_goto 74),
  (54, o_ild 2 1),
  (55, o_ic 2 1),
  (56, o_cmpne 68),
  (59, o_ald 0 1),
  (60, o_gF K 12 27),
  (63, o_ild 1 1),
  (64, o_iald K),
  (65, o_goto 74),
  (68, o_ald 0 1),
  (69, o_gF K 12 28),
  (72, o_ild 1 1),
  (73, o_iald K),
  (74, o_iret)]
noncomputable def f_X12_after (K : Sh_) : Fn_ := fn_ (P_X12_after K) 3
set_option maxRecDepth 100000 in
theorem a_X12_after {l : Launch} {E : En_} (hE : EOK_ E)   : All_ (Snd_ l E yX12_after.cls cX12_after 3 (some .int) (.code yX12_after cX12_after 3 (some .int) :: G_) (rm_ 6)) (P_X12_after E.2.2.2.1 ) :=
  all_c (s_ald_n (q := 0) (by decide +kernel) rfl)
  <| all_c (s_iconst (n := 0) (by decide +kernel) (by decide))
  <| all_c (p_12_0 (by decide +kernel) fl_RX12_97)
  <| all_c (s_ald_n (q := 0) (by decide +kernel) rfl)
  <| all_c (s_callV (by decide +kernel) (t_X12_night hE) cl_X12_night ml_RX12_319 im_X12_night se_X12_night (by decide) rfl (rm_lt (by decide)))
  <| all_c (s_ald_n (q := 0) (by decide +kernel) rfl)
  <| all_c (s_ild_n (q := 1) (by decide +kernel) rfl)
  <| all_c (s_callV (by decide +kernel) (t_X12_isReader hE) cl_X12_isReader ml_RX12_245 im_X12_isReader se_X12_isReader (by decide) rfl (rm_lt (by decide)))
  <| all_c (s_ifeq (off := 12) (by decide +kernel) (by decide))
  <| all_c (s_ild_n (q := 2) (by decide +kernel) rfl)
  <| all_c (s_iconst (n := 0) (by decide +kernel) (by decide))
  <| all_c (s_iconst (n := 3) (by decide +kernel) (by decide))
  <| all_c (s_callS (by decide +kernel) (t_X12_isIn hE) cl_X12_isIn ml_RX12_164 sm_X12_isIn (rm_lt (by decide)))
  <| all_c (s_ifne (off := 5) (by decide +kernel) (by decide))
  <| all_c (s_iconst (n := (-1)) (by decide +kernel) (by decide))
  <| all_c (s_iret (by decide +kernel) rfl)
  <| all_c (s_ild_n (q := 2) (by decide +kernel) rfl)
  <| all_c (s_ifne (off := 12) (by decide +kernel) (by decide))
  <| all_c (s_ald_n (q := 0) (by decide +kernel) rfl)
  <| all_c (g_12_26 (by decide +kernel) fl_RX12_42)
  <| all_c (s_ild_n (q := 1) (by decide +kernel) rfl)
  <| all_c (s_iald (by decide +kernel))
  <| all_c (s_goto (off := 36) (by decide +kernel) (by decide))
  <| all_c (s_ild_n (q := 2) (by decide +kernel) rfl)
  <| all_c (s_iconst (n := 1) (by decide +kernel) (by decide))
  <| all_c (s_cmpne (off := 11) (by decide +kernel) (by decide))
  <| all_c (s_ald_n (q := 0) (by decide +kernel) rfl)
  <| all_c (s_ild_n (q := 1) (by decide +kernel) rfl)
  <| all_c (s_callV (by decide +kernel) (t_X12_inAll hE) cl_X12_inAll ml_RX12_316 im_X12_inAll se_X12_inAll (by decide) rfl (rm_lt (by decide)))
  <| all_c (s_goto (off := 23) (by decide +kernel) (by decide))
  <| all_c (s_ild_n (q := 2) (by decide +kernel) rfl)
  <| all_c (s_iconst (n := 2) (by decide +kernel) (by decide))
  <| all_c (s_cmpne (off := 12) (by decide +kernel) (by decide))
  <| all_c (s_ald_n (q := 0) (by decide +kernel) rfl)
  <| all_c (g_12_27 (by decide +kernel) fl_RX12_45)
  <| all_c (s_ild_n (q := 1) (by decide +kernel) rfl)
  <| all_c (s_iald (by decide +kernel))
  <| all_c (s_goto (off := 9) (by decide +kernel) (by decide))
  <| all_c (s_ald_n (q := 0) (by decide +kernel) rfl)
  <| all_c (g_12_28 (by decide +kernel) fl_RX12_48)
  <| all_c (s_ild_n (q := 1) (by decide +kernel) rfl)
  <| all_c (s_iald (by decide +kernel))
  <| all_c (s_iret (by decide +kernel) rfl)
  <| all_n
theorem t_X12_after {l : Launch} {E : En_} (hE : EOK_ E) : Good_ l E yX12_after (.code yX12_after cX12_after 3 (some .int) :: G_) (rm_ 6) (f_X12_after E.2.2.2.1) := good_all hE (by decide +kernel) (a_X12_after hE)
noncomputable def P_X12_lacking (K : Sh_)  : List (Nat × Op_) := [(0, o_ic 0 1),
  (1, o_ist 1 1),
  (2, o_ic 0 1),
  (3, o_aft [3, 4] (o_ist 2 1)),
  (4, o_ild 2 1),
  (5, o_ald 0 1),
  (6, o_callV K 12 (f_X12_chaps K) 0),
  (9, o_cmpge 78),
  (12, o_ic 0 1),
  (13, o_ist 3 1),
  (14, o_ic 0 1),
  (15, o_ist 4 2),
  (17, o_ild 4 2),
  (19, o_ald 0 1),
  (20, o_callV K 12 (f_X12_readers K) 0),
  (23, o_cmpge 62),
  (26, o_ild 3 1),
  (27, o_ifne 50),
  (30, o_ic 2 1),
  (31, o_ald 0 1),
  (32, o_gF K 12 25),
  (35, o_ic 16 2),
  (37, o_ild 4 2),
  (39, o_imul),
  (40, o_ild 2 1),
  (41, o_iadd),
  (42, o_iald K),
  (43, o_imul),
  (44, o_ic 1000000 3),
  (47, o_cmplt 54),
  (50, o_ic 1 1),
  (51, o_goto 55),
  (54, o_ic 0 1),
  (55, o_ist 3 1),
  (56, o_inc 4 1),
  (59, o_goto 17),
  (62, o_ild 3 1),
  (63, o_ifne 72),
  (66, o_ild 1 1),
  (67, o_ic 1 1),
  (68, o_ild 2 1),
  (69, o_ishl),
  (70, o_ior),
  (71, o_ist 1 1),
  (72, o_inc 2 1),
  (75, o_aft [3, 4] (o_goto 4)),
  (78, o_ild 1 1),
  (79, o_iret)]
noncomputable def f_X12_lacking (K : Sh_) : Fn_ := fn_ (P_X12_lacking K) 5
set_option maxRecDepth 100000 in
theorem a_X12_lacking {l : Launch} {E : En_} (hE : EOK_ E)   : All_ (Snd_ l E yX12_lacking.cls cX12_lacking 5 (some .int) (.code yX12_lacking cX12_lacking 5 (some .int) :: G_) (rm_ 2)) (P_X12_lacking E.2.2.2.1 ) :=
  all_c (s_iconst (n := 0) (by decide +kernel) (by decide))
  <| all_c (s_ist_n (q := 1) (by decide +kernel) rfl)
  <| all_c (s_iconst (n := 0) (by decide +kernel) (by decide))
  <| all_c (s_aft (s_ist_n (q := 2) (by decide +kernel) rfl))
  <| all_c (s_ild_n (q := 2) (by decide +kernel) rfl)
  <| all_c (s_ald_n (q := 0) (by decide +kernel) rfl)
  <| all_c (s_callV (by decide +kernel) (t_X12_chaps hE) cl_X12_chaps ml_RX12_188 im_X12_chaps se_X12_chaps (by decide) rfl (rm_lt (by decide)))
  <| all_c (s_cmpge (off := 69) (by decide +kernel) (by decide))
  <| all_c (s_iconst (n := 0) (by decide +kernel) (by decide))
  <| all_c (s_ist_n (q := 3) (by decide +kernel) rfl)
  <| all_c (s_iconst (n := 0) (by decide +kernel) (by decide))
  <| all_c (s_ist (by decide +kernel))
  <| all_c (s_ild (by decide +kernel))
  <| all_c (s_ald_n (q := 0) (by decide +kernel) rfl)
  <| all_c (s_callV (by decide +kernel) (t_X12_readers hE) cl_X12_readers ml_RX12_191 im_X12_readers se_X12_readers (by decide) rfl (rm_lt (by decide)))
  <| all_c (s_cmpge (off := 39) (by decide +kernel) (by decide))
  <| all_c (s_ild_n (q := 3) (by decide +kernel) rfl)
  <| all_c (s_ifne (off := 23) (by decide +kernel) (by decide))
  <| all_c (s_iconst (n := 2) (by decide +kernel) (by decide))
  <| all_c (s_ald_n (q := 0) (by decide +kernel) rfl)
  <| all_c (g_12_25 (by decide +kernel) fl_RX12_39)
  <| all_c (s_bipush (n := 16) (by decide +kernel) (by decide))
  <| all_c (s_ild (by decide +kernel))
  <| all_c (s_imul (by decide +kernel))
  <| all_c (s_ild_n (q := 2) (by decide +kernel) rfl)
  <| all_c (s_iadd (by decide +kernel))
  <| all_c (s_iald (by decide +kernel))
  <| all_c (s_imul (by decide +kernel))
  <| all_c (s_ldcw (by decide +kernel) (G_w kk_RX12_273))
  <| all_c (s_cmplt (off := 7) (by decide +kernel) (by decide))
  <| all_c (s_iconst (n := 1) (by decide +kernel) (by decide))
  <| all_c (s_goto (off := 4) (by decide +kernel) (by decide))
  <| all_c (s_iconst (n := 0) (by decide +kernel) (by decide))
  <| all_c (s_ist_n (q := 3) (by decide +kernel) rfl)
  <| all_c (s_inc (n := 1) (by decide +kernel) (by decide))
  <| all_c (s_goto (off := (-42)) (by decide +kernel) (by decide))
  <| all_c (s_ild_n (q := 3) (by decide +kernel) rfl)
  <| all_c (s_ifne (off := 9) (by decide +kernel) (by decide))
  <| all_c (s_ild_n (q := 1) (by decide +kernel) rfl)
  <| all_c (s_iconst (n := 1) (by decide +kernel) (by decide))
  <| all_c (s_ild_n (q := 2) (by decide +kernel) rfl)
  <| all_c (s_ishl (by decide +kernel))
  <| all_c (s_ior (by decide +kernel))
  <| all_c (s_ist_n (q := 1) (by decide +kernel) rfl)
  <| all_c (s_inc (n := 1) (by decide +kernel) (by decide))
  <| all_c (s_aft (s_goto (off := (-71)) (by decide +kernel) (by decide)))
  <| all_c (s_ild_n (q := 1) (by decide +kernel) rfl)
  <| all_c (s_iret (by decide +kernel) rfl)
  <| all_n
theorem t_X12_lacking {l : Launch} {E : En_} (hE : EOK_ E) : Good_ l E yX12_lacking (.code yX12_lacking cX12_lacking 5 (some .int) :: G_) (rm_ 2) (f_X12_lacking E.2.2.2.1) := good_all hE (by decide +kernel) (a_X12_lacking hE)
noncomputable def P_X12_all (K : Sh_)  : List (Nat × Op_) := [(0, o_ald 0 1),
  (1, o_ic 0 1),
  (2, o_pI K 12 0),
  (5, o_ald 0 1),
  (6, o_callV K 12 (f_X12_night K) 0),
  (9, o_ild 1 1),
  (10, o_ifne 22),
  (13, o_ald 0 1),
  (14, o_ald 0 1),
  (15, o_callV K 12 (f_X12_readers K) 0),
  (18, o_callV K 12 (f_X12_sum K) 1),
  (21, o_iret),
  (22, o_ild 1 1),
  (23, o_ic 3 1),
  (24, o_cmpne 32),
  (27, o_ald 0 1),
  (28, o_callV K 12 (f_X12_lacking K) 0),
  (31, o_iret),
  (32, o_ild 1 1),
  (33, o_ic 1 1),
  (34, o_cmpne 83),
  (37, o_ald 0 1),
  (38, o_callV K 12 (f_X12_readers K) 0),
  (41, o_ifne 48),
  (44, o_ic (-1) 1),
  (45, o_goto 49),
  (48, o_ic 0 1),
  (49, o_ist 2 1),
  (50, o_ic 1 1),
  (51, o_aft [4] (o_ist 3 1)),
  (52, o_ild 3 1),
  (53, o_ald 0 1),
  (54, o_callV K 12 (f_X12_readers K) 0),
  (57, o_cmpge 81),
  (60, o_ald 0 1),
  (61, o_ild 3 1),
  (62, o_callV K 12 (f_X12_inAll K) 1),
  (65, o_ald 0 1),
  (66, o_ild 2 1),
  (67, o_callV K 12 (f_X12_inAll K) 1),
  (70, o_cmple 75),
  (73, o_ild 3 1),
  (74, o_ist 2 1),
  (75, o_inc 3 1),
  (78, o_aft [4] (o_goto 52)),
  (81, o_ild 2 1),
  (82, o_iret),
  (83, o_ild 1 1),
  (84, o_ic 2 1),
  (85, o_cmpeq 90),
  (88, o_ic (-1) 1),
  (89, o_iret),
  (90, o_ic 0 1),
  (91, o_ist 2 1),
  (92, o_ic 0 1),
  (93, o_aft [4] (o_ist 3 1)),
  (94, o_ild 3 1),
  (95, o_ald 0 1),
  (96, o_callV K 12 (f_X12_readers K) 0),
  (99, o_cmpge 154),
  (102, o_ic 0 1),
  (103, o_ist 4 2),
  (105, o_ild 4 2),
  (107, o_ald 0 1),
  (108, o_callV K 12 (f_X12_chaps K) 0),
  (111, o_cmpge 148),
  (114, o_ald 0 1),
  (115, o_ild 4 2),
  (117, o_ic 2 1),
  (118, o_callV K 12 (f_X12_chapOf K) 2),
  (121, o_ic 1 1),
  (122, o_cmpne 142),
  (125, o_ald 0 1),
  (126, o_gF K 12 27),
  (129, o_ild 3 1),
  (130, o_iald K),
  (131, o_ild 4 2),
  (133, o_callS (f_X12_has K) 2),
  (136, o_ifne 142),
  (139, o_inc 2 1),
  (142, o_inc 4 1),
  (145, o_goto 105),
  (148, o_inc 3 1),
  (151, o_aft [4] (o_goto 94)),
  (154, o_ild 2 1),
  (155, o_iret)]
noncomputable def f_X12_all (K : Sh_) : Fn_ := fn_ (P_X12_all K) 5
set_option maxRecDepth 100000 in
theorem a_X12_all {l : Launch} {E : En_} (hE : EOK_ E)   : All_ (Snd_ l E yX12_all.cls cX12_all 5 (some .int) (.code yX12_all cX12_all 5 (some .int) :: G_) (rm_ 6)) (P_X12_all E.2.2.2.1 ) :=
  all_c (s_ald_n (q := 0) (by decide +kernel) rfl)
  <| all_c (s_iconst (n := 0) (by decide +kernel) (by decide))
  <| all_c (p_12_0 (by decide +kernel) fl_RX12_97)
  <| all_c (s_ald_n (q := 0) (by decide +kernel) rfl)
  <| all_c (s_callV (by decide +kernel) (t_X12_night hE) cl_X12_night ml_RX12_319 im_X12_night se_X12_night (by decide) rfl (rm_lt (by decide)))
  <| all_c (s_ild_n (q := 1) (by decide +kernel) rfl)
  <| all_c (s_ifne (off := 12) (by decide +kernel) (by decide))
  <| all_c (s_ald_n (q := 0) (by decide +kernel) rfl)
  <| all_c (s_ald_n (q := 0) (by decide +kernel) rfl)
  <| all_c (s_callV (by decide +kernel) (t_X12_readers hE) cl_X12_readers ml_RX12_191 im_X12_readers se_X12_readers (by decide) rfl (rm_lt (by decide)))
  <| all_c (s_callV (by decide +kernel) (t_X12_sum hE) cl_X12_sum ml_RX12_325 im_X12_sum se_X12_sum (by decide) rfl (rm_lt (by decide)))
  <| all_c (s_iret (by decide +kernel) rfl)
  <| all_c (s_ild_n (q := 1) (by decide +kernel) rfl)
  <| all_c (s_iconst (n := 3) (by decide +kernel) (by decide))
  <| all_c (s_cmpne (off := 8) (by decide +kernel) (by decide))
  <| all_c (s_ald_n (q := 0) (by decide +kernel) rfl)
  <| all_c (s_callV (by decide +kernel) (t_X12_lacking hE) cl_X12_lacking ml_RX12_328 im_X12_lacking se_X12_lacking (by decide) rfl (rm_lt (by decide)))
  <| all_c (s_iret (by decide +kernel) rfl)
  <| all_c (s_ild_n (q := 1) (by decide +kernel) rfl)
  <| all_c (s_iconst (n := 1) (by decide +kernel) (by decide))
  <| all_c (s_cmpne (off := 49) (by decide +kernel) (by decide))
  <| all_c (s_ald_n (q := 0) (by decide +kernel) rfl)
  <| all_c (s_callV (by decide +kernel) (t_X12_readers hE) cl_X12_readers ml_RX12_191 im_X12_readers se_X12_readers (by decide) rfl (rm_lt (by decide)))
  <| all_c (s_ifne (off := 7) (by decide +kernel) (by decide))
  <| all_c (s_iconst (n := (-1)) (by decide +kernel) (by decide))
  <| all_c (s_goto (off := 4) (by decide +kernel) (by decide))
  <| all_c (s_iconst (n := 0) (by decide +kernel) (by decide))
  <| all_c (s_ist_n (q := 2) (by decide +kernel) rfl)
  <| all_c (s_iconst (n := 1) (by decide +kernel) (by decide))
  <| all_c (s_aft (s_ist_n (q := 3) (by decide +kernel) rfl))
  <| all_c (s_ild_n (q := 3) (by decide +kernel) rfl)
  <| all_c (s_ald_n (q := 0) (by decide +kernel) rfl)
  <| all_c (s_callV (by decide +kernel) (t_X12_readers hE) cl_X12_readers ml_RX12_191 im_X12_readers se_X12_readers (by decide) rfl (rm_lt (by decide)))
  <| all_c (s_cmpge (off := 24) (by decide +kernel) (by decide))
  <| all_c (s_ald_n (q := 0) (by decide +kernel) rfl)
  <| all_c (s_ild_n (q := 3) (by decide +kernel) rfl)
  <| all_c (s_callV (by decide +kernel) (t_X12_inAll hE) cl_X12_inAll ml_RX12_316 im_X12_inAll se_X12_inAll (by decide) rfl (rm_lt (by decide)))
  <| all_c (s_ald_n (q := 0) (by decide +kernel) rfl)
  <| all_c (s_ild_n (q := 2) (by decide +kernel) rfl)
  <| all_c (s_callV (by decide +kernel) (t_X12_inAll hE) cl_X12_inAll ml_RX12_316 im_X12_inAll se_X12_inAll (by decide) rfl (rm_lt (by decide)))
  <| all_c (s_cmple (off := 5) (by decide +kernel) (by decide))
  <| all_c (s_ild_n (q := 3) (by decide +kernel) rfl)
  <| all_c (s_ist_n (q := 2) (by decide +kernel) rfl)
  <| all_c (s_inc (n := 1) (by decide +kernel) (by decide))
  <| all_c (s_aft (s_goto (off := (-26)) (by decide +kernel) (by decide)))
  <| all_c (s_ild_n (q := 2) (by decide +kernel) rfl)
  <| all_c (s_iret (by decide +kernel) rfl)
  <| all_c (s_ild_n (q := 1) (by decide +kernel) rfl)
  <| all_c (s_iconst (n := 2) (by decide +kernel) (by decide))
  <| all_c (s_cmpeq (off := 5) (by decide +kernel) (by decide))
  <| all_c (s_iconst (n := (-1)) (by decide +kernel) (by decide))
  <| all_c (s_iret (by decide +kernel) rfl)
  <| all_c (s_iconst (n := 0) (by decide +kernel) (by decide))
  <| all_c (s_ist_n (q := 2) (by decide +kernel) rfl)
  <| all_c (s_iconst (n := 0) (by decide +kernel) (by decide))
  <| all_c (s_aft (s_ist_n (q := 3) (by decide +kernel) rfl))
  <| all_c (s_ild_n (q := 3) (by decide +kernel) rfl)
  <| all_c (s_ald_n (q := 0) (by decide +kernel) rfl)
  <| all_c (s_callV (by decide +kernel) (t_X12_readers hE) cl_X12_readers ml_RX12_191 im_X12_readers se_X12_readers (by decide) rfl (rm_lt (by decide)))
  <| all_c (s_cmpge (off := 55) (by decide +kernel) (by decide))
  <| all_c (s_iconst (n := 0) (by decide +kernel) (by decide))
  <| all_c (s_ist (by decide +kernel))
  <| all_c (s_ild (by decide +kernel))
  <| all_c (s_ald_n (q := 0) (by decide +kernel) rfl)
  <| all_c (s_callV (by decide +kernel) (t_X12_chaps hE) cl_X12_chaps ml_RX12_188 im_X12_chaps se_X12_chaps (by decide) rfl (rm_lt (by decide)))
  <| all_c (s_cmpge (off := 37) (by decide +kernel) (by decide))
  <| all_c (s_ald_n (q := 0) (by decide +kernel) rfl)
  <| all_c (s_ild (by decide +kernel))
  <| all_c (s_iconst (n := 2) (by decide +kernel) (by decide))
  <| all_c (s_callV (by decide +kernel) (t_X12_chapOf hE) cl_X12_chapOf ml_RX12_238 im_X12_chapOf se_X12_chapOf (by decide) rfl (rm_lt (by decide)))
  <| all_c (s_iconst (n := 1) (by decide +kernel) (by decide))
  <| all_c (s_cmpne (off := 20) (by decide +kernel) (by decide))
  <| all_c (s_ald_n (q := 0) (by decide +kernel) rfl)
  <| all_c (g_12_27 (by decide +kernel) fl_RX12_45)
  <| all_c (s_ild_n (q := 3) (by decide +kernel) rfl)
  <| all_c (s_iald (by decide +kernel))
  <| all_c (s_ild (by decide +kernel))
  <| all_c (s_callS (by decide +kernel) (t_X12_has hE) cl_X12_has ml_RX12_223 sm_X12_has (rm_lt (by decide)))
  <| all_c (s_ifne (off := 6) (by decide +kernel) (by decide))
  <| all_c (s_inc (n := 1) (by decide +kernel) (by decide))
  <| all_c (s_inc (n := 1) (by decide +kernel) (by decide))
  <| all_c (s_goto (off := (-40)) (by decide +kernel) (by decide))
  <| all_c (s_inc (n := 1) (by decide +kernel) (by decide))
  <| all_c (s_aft (s_goto (off := (-57)) (by decide +kernel) (by decide)))
  <| all_c (s_ild_n (q := 2) (by decide +kernel) rfl)
  <| all_c (s_iret (by decide +kernel) rfl)
  <| all_n
theorem t_X12_all {l : Launch} {E : En_} (hE : EOK_ E) : Good_ l E yX12_all (.code yX12_all cX12_all 5 (some .int) :: G_) (rm_ 6) (f_X12_all E.2.2.2.1) := good_all hE (by decide +kernel) (a_X12_all hE)
noncomputable def P_X12_tries (K : Sh_)  : List (Nat × Op_) := [(0, o_ald 0 1),
  (1, o_ild 1 1),
  (2, o_ild 2 1),
  (3, o_ild 3 1),
  (4, o_ild 4 2),
  (6, o_callV K 12 (f_X12_wrong K) 4),
  (9, o_ifne 24),
  (12, o_ald 0 1),
  (13, o_ild 1 1),
  (14, o_ild 2 1),
  (15, o_ild 3 1),
  (16, o_ild 4 2),
  (18, o_callV K 12 (f_X12_addAct K) 4),
  (21, o_ifne 26),
  (24, o_ic 0 1),
  (25, o_zret),
  (26, o_ald 0 1),
  (27, o_ild 1 1),
  (28, o_ild 2 1),
  (29, o_ild 3 1),
  (30, o_ild 4 2),
  (32, o_callV K 12 (f_X12_does K) 4),
  (35, o_ic 1 1),
  (36, o_zret)]
noncomputable def f_X12_tries (K : Sh_) : Fn_ := fn_ (P_X12_tries K) 5
set_option maxRecDepth 100000 in
theorem a_X12_tries {l : Launch} {E : En_} (hE : EOK_ E)   : All_ (Snd_ l E yX12_tries.cls cX12_tries 5 (some .boolean) (.code yX12_tries cX12_tries 5 (some .boolean) :: G_) (rm_ 5)) (P_X12_tries E.2.2.2.1 ) :=
  all_c (s_ald_n (q := 0) (by decide +kernel) rfl)
  <| all_c (s_ild_n (q := 1) (by decide +kernel) rfl)
  <| all_c (s_ild_n (q := 2) (by decide +kernel) rfl)
  <| all_c (s_ild_n (q := 3) (by decide +kernel) rfl)
  <| all_c (s_ild (by decide +kernel))
  <| all_c (s_callV (by decide +kernel) (t_X12_wrong hE) cl_X12_wrong ml_RX12_309 im_X12_wrong se_X12_wrong (by decide) rfl (rm_lt (by decide)))
  <| all_c (s_ifne (off := 15) (by decide +kernel) (by decide))
  <| all_c (s_ald_n (q := 0) (by decide +kernel) rfl)
  <| all_c (s_ild_n (q := 1) (by decide +kernel) rfl)
  <| all_c (s_ild_n (q := 2) (by decide +kernel) rfl)
  <| all_c (s_ild_n (q := 3) (by decide +kernel) rfl)
  <| all_c (s_ild (by decide +kernel))
  <| all_c (s_callV (by decide +kernel) (t_X12_addAct hE) cl_X12_addAct ml_RX12_260 im_X12_addAct se_X12_addAct (by decide) rfl (rm_lt (by decide)))
  <| all_c (s_ifne (off := 5) (by decide +kernel) (by decide))
  <| all_c (s_iconst (n := 0) (by decide +kernel) (by decide))
  <| all_c (s_zret (by decide +kernel) rfl)
  <| all_c (s_ald_n (q := 0) (by decide +kernel) rfl)
  <| all_c (s_ild_n (q := 1) (by decide +kernel) rfl)
  <| all_c (s_ild_n (q := 2) (by decide +kernel) rfl)
  <| all_c (s_ild_n (q := 3) (by decide +kernel) rfl)
  <| all_c (s_ild (by decide +kernel))
  <| all_c (s_callV (by decide +kernel) (t_X12_does hE) cl_X12_does ml_RX12_313 im_X12_does se_X12_does (by decide) rfl (rm_lt (by decide)))
  <| all_c (s_iconst (n := 1) (by decide +kernel) (by decide))
  <| all_c (s_zret (by decide +kernel) rfl)
  <| all_n
theorem t_X12_tries {l : Launch} {E : En_} (hE : EOK_ E) : Good_ l E yX12_tries (.code yX12_tries cX12_tries 5 (some .boolean) :: G_) (rm_ 5) (f_X12_tries E.2.2.2.1) := good_all hE (by decide +kernel) (a_X12_tries hE)
noncomputable def P_X12_makeRows (K : Sh_)  : List (Nat × Op_) := [(0, o_ic 0 1),
  (1, o_ist 1 1),
  (2, o_ic 0 1),
  (3, o_ist 2 1),
  (4, o_ild 2 1),
  (5, o_ald 0 1),
  (6, o_callV K 12 (f_X12_chaps K) 0),
  (9, o_cmpge 65),
  (12, o_ild 1 1),
  (13, o_ald 0 1),
  (14, o_callV K 12 (f_X12_readers K) 0),
  (17, o_cmpge 41),
  (20, o_ald 0 1),
  (21, o_gF K 12 26),
  (24, o_ild 1 1),
  (25, o_iald K),
  (26, o_ald 0 1),
  (27, o_ild 1 1),
  (28, o_ild 2 1),
  (29, o_callV K 12 (f_X12_timeToRead K) 2),
  (32, o_cmpge 41),
  (35, o_inc 1 1),
  (38, o_goto 12),
  (41, o_ild 1 1),
  (42, o_ald 0 1),
  (43, o_callV K 12 (f_X12_readers K) 0),
  (46, o_cmpne 50),
  (49, o_vret),
  (50, o_ald 0 1),
  (51, o_ild 1 1),
  (52, o_ild 2 1),
  (53, o_ic 0 1),
  (54, o_ic 0 1),
  (55, o_callV K 12 (f_X12_tries K) 4),
  (58, o_pop),
  (59, o_inc 2 1),
  (62, o_goto 4),
  (65, o_vret)]
noncomputable def f_X12_makeRows (K : Sh_) : Fn_ := fn_ (P_X12_makeRows K) 3
set_option maxRecDepth 100000 in
theorem a_X12_makeRows {l : Launch} {E : En_} (hE : EOK_ E)   : All_ (Snd_ l E yX12_makeRows.cls cX12_makeRows 3 (none) (.code yX12_makeRows cX12_makeRows 3 (none) :: G_) (rm_ 6)) (P_X12_makeRows E.2.2.2.1 ) :=
  all_c (s_iconst (n := 0) (by decide +kernel) (by decide))
  <| all_c (s_ist_n (q := 1) (by decide +kernel) rfl)
  <| all_c (s_iconst (n := 0) (by decide +kernel) (by decide))
  <| all_c (s_ist_n (q := 2) (by decide +kernel) rfl)
  <| all_c (s_ild_n (q := 2) (by decide +kernel) rfl)
  <| all_c (s_ald_n (q := 0) (by decide +kernel) rfl)
  <| all_c (s_callV (by decide +kernel) (t_X12_chaps hE) cl_X12_chaps ml_RX12_188 im_X12_chaps se_X12_chaps (by decide) rfl (rm_lt (by decide)))
  <| all_c (s_cmpge (off := 56) (by decide +kernel) (by decide))
  <| all_c (s_ild_n (q := 1) (by decide +kernel) rfl)
  <| all_c (s_ald_n (q := 0) (by decide +kernel) rfl)
  <| all_c (s_callV (by decide +kernel) (t_X12_readers hE) cl_X12_readers ml_RX12_191 im_X12_readers se_X12_readers (by decide) rfl (rm_lt (by decide)))
  <| all_c (s_cmpge (off := 24) (by decide +kernel) (by decide))
  <| all_c (s_ald_n (q := 0) (by decide +kernel) rfl)
  <| all_c (g_12_26 (by decide +kernel) fl_RX12_42)
  <| all_c (s_ild_n (q := 1) (by decide +kernel) rfl)
  <| all_c (s_iald (by decide +kernel))
  <| all_c (s_ald_n (q := 0) (by decide +kernel) rfl)
  <| all_c (s_ild_n (q := 1) (by decide +kernel) rfl)
  <| all_c (s_ild_n (q := 2) (by decide +kernel) rfl)
  <| all_c (s_callV (by decide +kernel) (t_X12_timeToRead hE) cl_X12_timeToRead ml_RX12_277 im_X12_timeToRead se_X12_timeToRead (by decide) rfl (rm_lt (by decide)))
  <| all_c (s_cmpge (off := 9) (by decide +kernel) (by decide))
  <| all_c (s_inc (n := 1) (by decide +kernel) (by decide))
  <| all_c (s_goto (off := (-26)) (by decide +kernel) (by decide))
  <| all_c (s_ild_n (q := 1) (by decide +kernel) rfl)
  <| all_c (s_ald_n (q := 0) (by decide +kernel) rfl)
  <| all_c (s_callV (by decide +kernel) (t_X12_readers hE) cl_X12_readers ml_RX12_191 im_X12_readers se_X12_readers (by decide) rfl (rm_lt (by decide)))
  <| all_c (s_cmpne (off := 4) (by decide +kernel) (by decide))
  <| all_c (s_vret (by decide +kernel) rfl)
  <| all_c (s_ald_n (q := 0) (by decide +kernel) rfl)
  <| all_c (s_ild_n (q := 1) (by decide +kernel) rfl)
  <| all_c (s_ild_n (q := 2) (by decide +kernel) rfl)
  <| all_c (s_iconst (n := 0) (by decide +kernel) (by decide))
  <| all_c (s_iconst (n := 0) (by decide +kernel) (by decide))
  <| all_c (s_callV (by decide +kernel) (t_X12_tries hE) cl_X12_tries ml_RX12_331 im_X12_tries se_X12_tries (by decide) rfl (rm_lt (by decide)))
  <| all_c (s_pop (by decide +kernel))
  <| all_c (s_inc (n := 1) (by decide +kernel) (by decide))
  <| all_c (s_goto (off := (-58)) (by decide +kernel) (by decide))
  <| all_c (s_vret (by decide +kernel) rfl)
  <| all_n
theorem t_X12_makeRows {l : Launch} {E : En_} (hE : EOK_ E) : Good_ l E yX12_makeRows (.code yX12_makeRows cX12_makeRows 3 (none) :: G_) (rm_ 6) (f_X12_makeRows E.2.2.2.1) := good_all hE (by decide +kernel) (a_X12_makeRows hE)
