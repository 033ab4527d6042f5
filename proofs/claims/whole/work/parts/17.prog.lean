noncomputable def P_X12_chainAt (K : Sh_)  : List (Nat × Op_) := [(0, o_ald 0 1),
  (1, o_ic 0 1),
  (2, o_pI K 12 0),
  (5, o_ild 1 1),
  (6, o_iflt 26),
  (9, o_ild 1 1),
  (10, o_ald 0 1),
  (11, o_gI K 12 53),
  (14, o_cmpge 26),
  (17, o_ald 0 1),
  (18, o_gF K 12 49),
  (21, o_ild 1 1),
  (22, o_iald K),
  (23, o_goto 27),
  (26, o_ic (-1) 1),
  (27, o_iret)]
noncomputable def f_X12_chainAt (K : Sh_) : Fn_ := fn_ (P_X12_chainAt K) 2
set_option maxRecDepth 100000 in
theorem a_X12_chainAt {l : Launch} {E : En_} (hE : EOK_ E)   : All_ (Snd_ l E yX12_chainAt.cls cX12_chainAt 2 (some .int) (.code yX12_chainAt cX12_chainAt 2 (some .int) :: G_) (rm_ 1)) (P_X12_chainAt E.2.2.2.1 ) :=
  all_c (s_ald_n (q := 0) (by decide +kernel) rfl)
  <| all_c (s_iconst (n := 0) (by decide +kernel) (by decide))
  <| all_c (p_12_0 (by decide +kernel) fl_RX12_97)
  <| all_c (s_ild_n (q := 1) (by decide +kernel) rfl)
  <| all_c (s_iflt (off := 20) (by decide +kernel) (by decide))
  <| all_c (s_ild_n (q := 1) (by decide +kernel) rfl)
  <| all_c (s_ald_n (q := 0) (by decide +kernel) rfl)
  <| all_c (g_12_53 (by decide +kernel) fl_RX12_402)
  <| all_c (s_cmpge (off := 12) (by decide +kernel) (by decide))
  <| all_c (s_ald_n (q := 0) (by decide +kernel) rfl)
  <| all_c (g_12_49 (by decide +kernel) fl_RX12_79)
  <| all_c (s_ild_n (q := 1) (by decide +kernel) rfl)
  <| all_c (s_iald (by decide +kernel))
  <| all_c (s_goto (off := 4) (by decide +kernel) (by decide))
  <| all_c (s_iconst (n := (-1)) (by decide +kernel) (by decide))
  <| all_c (s_iret (by decide +kernel) rfl)
  <| all_n
theorem t_X12_chainAt {l : Launch} {E : En_} (hE : EOK_ E) : Good_ l E yX12_chainAt (.code yX12_chainAt cX12_chainAt 2 (some .int) :: G_) (rm_ 1) (f_X12_chainAt E.2.2.2.1) := good_all hE (by decide +kernel) (a_X12_chainAt hE)
noncomputable def P_X12_alone (K : Sh_)  : List (Nat × Op_) := [(0, o_ald 0 1),
  (1, o_ic 0 1),
  (2, o_pI K 12 0),
  (5, o_ald 0 1),
  (6, o_callV K 12 (f_X12_lay K) 0),
  (9, o_ald 0 1),
  (10, o_ild 1 1),
  (11, o_callV K 12 (f_X12_isReader K) 1),
  (14, o_ifeq 26),
  (17, o_ild 2 1),
  (18, o_ic 0 1),
  (19, o_ic 1 1),
  (20, o_callS (f_X12_isIn K) 3),
  (23, o_ifne 28),
  (26, o_ic (-1) 1),
  (27, o_iret),
  (28, o_ic 0 1),
  (29, o_ist 3 1),
  (30, o_ic 0 1),
  (31, o_ist 4 2),
  (33, o_ic 0 1),
  (34, o_aft [6, 7, 8] (o_ist 5 2)),
  (36, o_ild 5 2),
  (38, o_ic 1 1),
  (39, o_ald 0 1),
  (40, o_callV K 12 (f_X12_chaps K) 0),
  (43, o_ishl),
  (44, o_cmpge 142),
  (47, o_ic 0 1),
  (48, o_ist 6 2),
  (50, o_ic 0 1),
  (51, o_ist 7 2),
  (53, o_ic 0 1),
  (54, o_ist 8 2),
  (56, o_ild 8 2),
  (58, o_ald 0 1),
  (59, o_callV K 12 (f_X12_chaps K) 0),
  (62, o_cmpge 108),
  (65, o_ild 5 2),
  (67, o_ild 8 2),
  (69, o_callS (f_X12_has K) 2),
  (72, o_ifne 78),
  (75, o_goto 102),
  (78, o_ild 6 2),
  (80, o_ald 0 1),
  (81, o_ild 1 1),
  (82, o_ild 8 2),
  (84, o_callV K 12 (f_X12_timeToRead K) 2),
  (87, o_iadd),
  (88, o_ist 6 2),
  (90, o_ild 7 2),
  (92, o_ald 0 1),
  (93, o_ild 8 2),
  (95, o_ic 1 1),
  (96, o_callV K 12 (f_X12_chapOf K) 2),
  (99, o_iadd),
  (100, o_ist 7 2),
  (102, o_inc 8 1),
  (105, o_goto 56),
  (108, o_ild 6 2),
  (110, o_ald 0 1),
  (111, o_ild 1 1),
  (112, o_ic 3 1),
  (113, o_callV K 12 (f_X12_readerOf K) 2),
  (116, o_cmpgt 136),
  (119, o_ild 7 2),
  (121, o_ild 4 2),
  (123, o_cmpgt 129),
  (126, o_goto 136),
  (129, o_ild 7 2),
  (131, o_ist 4 2),
  (133, o_ild 5 2),
  (135, o_ist 3 1),
  (136, o_inc 5 1),
  (139, o_aft [6, 7, 8] (o_goto 36)),
  (142, o_ild 2 1),
  (143, o_ifne 151),
  (146, o_ild 4 2),
  (148, o_goto 152),
  (151, o_ild 3 1),
  (152, o_iret)]
noncomputable def f_X12_alone (K : Sh_) : Fn_ := fn_ (P_X12_alone K) 9
set_option maxRecDepth 100000 in
theorem a_X12_alone {l : Launch} {E : En_} (hE : EOK_ E)   : All_ (Snd_ l E yX12_alone.cls cX12_alone 9 (some .int) (.code yX12_alone cX12_alone 9 (some .int) :: G_) (rm_ 3)) (P_X12_alone E.2.2.2.1 ) :=
  all_c (s_ald_n (q := 0) (by decide +kernel) rfl)
  <| all_c (s_iconst (n := 0) (by decide +kernel) (by decide))
  <| all_c (p_12_0 (by decide +kernel) fl_RX12_97)
  <| all_c (s_ald_n (q := 0) (by decide +kernel) rfl)
  <| all_c (s_callV (by decide +kernel) (t_X12_lay hE) cl_X12_lay ml_RX12_177 im_X12_lay se_X12_lay (by decide) rfl (rm_lt (by decide)))
  <| all_c (s_ald_n (q := 0) (by decide +kernel) rfl)
  <| all_c (s_ild_n (q := 1) (by decide +kernel) rfl)
  <| all_c (s_callV (by decide +kernel) (t_X12_isReader hE) cl_X12_isReader ml_RX12_245 im_X12_isReader se_X12_isReader (by decide) rfl (rm_lt (by decide)))
  <| all_c (s_ifeq (off := 12) (by decide +kernel) (by decide))
  <| all_c (s_ild_n (q := 2) (by decide +kernel) rfl)
  <| all_c (s_iconst (n := 0) (by decide +kernel) (by decide))
  <| all_c (s_iconst (n := 1) (by decide +kernel) (by decide))
  <| all_c (s_callS (by decide +kernel) (t_X12_isIn hE) cl_X12_isIn ml_RX12_164 sm_X12_isIn (rm_lt (by decide)))
  <| all_c (s_ifne (off := 5) (by decide +kernel) (by decide))
  <| all_c (s_iconst (n := (-1)) (by decide +kernel) (by decide))
  <| all_c (s_iret (by decide +kernel) rfl)
  <| all_c (s_iconst (n := 0) (by decide +kernel) (by decide))
  <| all_c (s_ist_n (q := 3) (by decide +kernel) rfl)
  <| all_c (s_iconst (n := 0) (by decide +kernel) (by decide))
  <| all_c (s_ist (by decide +kernel))
  <| all_c (s_iconst (n := 0) (by decide +kernel) (by decide))
  <| all_c (s_aft (s_ist (by decide +kernel)))
  <| all_c (s_ild (by decide +kernel))
  <| all_c (s_iconst (n := 1) (by decide +kernel) (by decide))
  <| all_c (s_ald_n (q := 0) (by decide +kernel) rfl)
  <| all_c (s_callV (by decide +kernel) (t_X12_chaps hE) cl_X12_chaps ml_RX12_188 im_X12_chaps se_X12_chaps (by decide) rfl (rm_lt (by decide)))
  <| all_c (s_ishl (by decide +kernel))
  <| all_c (s_cmpge (off := 98) (by decide +kernel) (by decide))
  <| all_c (s_iconst (n := 0) (by decide +kernel) (by decide))
  <| all_c (s_ist (by decide +kernel))
  <| all_c (s_iconst (n := 0) (by decide +kernel) (by decide))
  <| all_c (s_ist (by decide +kernel))
  <| all_c (s_iconst (n := 0) (by decide +kernel) (by decide))
  <| all_c (s_ist (by decide +kernel))
  <| all_c (s_ild (by decide +kernel))
  <| all_c (s_ald_n (q := 0) (by decide +kernel) rfl)
  <| all_c (s_callV (by decide +kernel) (t_X12_chaps hE) cl_X12_chaps ml_RX12_188 im_X12_chaps se_X12_chaps (by decide) rfl (rm_lt (by decide)))
  <| all_c (s_cmpge (off := 46) (by decide +kernel) (by decide))
  <| all_c (s_ild (by decide +kernel))
  <| all_c (s_ild (by decide +kernel))
  <| all_c (s_callS (by decide +kernel) (t_X12_has hE) cl_X12_has ml_RX12_223 sm_X12_has (rm_lt (by decide)))
  <| all_c (s_ifne (off := 6) (by decide +kernel) (by decide))
  <| all_c (s_goto (off := 27) (by decide +kernel) (by decide))
  <| all_c (s_ild (by decide +kernel))
  <| all_c (s_ald_n (q := 0) (by decide +kernel) rfl)
  <| all_c (s_ild_n (q := 1) (by decide +kernel) rfl)
  <| all_c (s_ild (by decide +kernel))
  <| all_c (s_callV (by decide +kernel) (t_X12_timeToRead hE) cl_X12_timeToRead ml_RX12_277 im_X12_timeToRead se_X12_timeToRead (by decide) rfl (rm_lt (by decide)))
  <| all_c (s_iadd (by decide +kernel))
  <| all_c (s_ist (by decide +kernel))
  <| all_c (s_ild (by decide +kernel))
  <| all_c (s_ald_n (q := 0) (by decide +kernel) rfl)
  <| all_c (s_ild (by decide +kernel))
  <| all_c (s_iconst (n := 1) (by decide +kernel) (by decide))
  <| all_c (s_callV (by decide +kernel) (t_X12_chapOf hE) cl_X12_chapOf ml_RX12_238 im_X12_chapOf se_X12_chapOf (by decide) rfl (rm_lt (by decide)))
  <| all_c (s_iadd (by decide +kernel))
  <| all_c (s_ist (by decide +kernel))
  <| all_c (s_inc (n := 1) (by decide +kernel) (by decide))
  <| all_c (s_goto (off := (-49)) (by decide +kernel) (by decide))
  <| all_c (s_ild (by decide +kernel))
  <| all_c (s_ald_n (q := 0) (by decide +kernel) rfl)
  <| all_c (s_ild_n (q := 1) (by decide +kernel) rfl)
  <| all_c (s_iconst (n := 3) (by decide +kernel) (by decide))
  <| all_c (s_callV (by decide +kernel) (t_X12_readerOf hE) cl_X12_readerOf ml_RX12_248 im_X12_readerOf se_X12_readerOf (by decide) rfl (rm_lt (by decide)))
  <| all_c (s_cmpgt (off := 20) (by decide +kernel) (by decide))
  <| all_c (s_ild (by decide +kernel))
  <| all_c (s_ild (by decide +kernel))
  <| all_c (s_cmpgt (off := 6) (by decide +kernel) (by decide))
  <| all_c (s_goto (off := 10) (by decide +kernel) (by decide))
  <| all_c (s_ild (by decide +kernel))
  <| all_c (s_ist (by decide +kernel))
  <| all_c (s_ild (by decide +kernel))
  <| all_c (s_ist_n (q := 3) (by decide +kernel) rfl)
  <| all_c (s_inc (n := 1) (by decide +kernel) (by decide))
  <| all_c (s_aft (s_goto (off := (-103)) (by decide +kernel) (by decide)))
  <| all_c (s_ild_n (q := 2) (by decide +kernel) rfl)
  <| all_c (s_ifne (off := 8) (by decide +kernel) (by decide))
  <| all_c (s_ild (by decide +kernel))
  <| all_c (s_goto (off := 4) (by decide +kernel) (by decide))
  <| all_c (s_ild_n (q := 3) (by decide +kernel) rfl)
  <| all_c (s_iret (by decide +kernel) rfl)
  <| all_n
theorem t_X12_alone {l : Launch} {E : En_} (hE : EOK_ E) : Good_ l E yX12_alone (.code yX12_alone cX12_alone 9 (some .int) :: G_) (rm_ 3) (f_X12_alone E.2.2.2.1) := good_all hE (by decide +kernel) (a_X12_alone hE)
noncomputable def P_X12_quickest (K : Sh_)  : List (Nat × Op_) := [(0, o_ald 0 1),
  (1, o_ic 0 1),
  (2, o_ild 1 1),
  (3, o_callV K 12 (f_X12_timeToRead K) 2),
  (6, o_ist 2 1),
  (7, o_ic 1 1),
  (8, o_ist 3 1),
  (9, o_ild 3 1),
  (10, o_ald 0 1),
  (11, o_callV K 12 (f_X12_readers K) 0),
  (14, o_cmpge 40),
  (17, o_ald 0 1),
  (18, o_ild 3 1),
  (19, o_ild 1 1),
  (20, o_callV K 12 (f_X12_timeToRead K) 2),
  (23, o_ild 2 1),
  (24, o_cmpge 34),
  (27, o_ald 0 1),
  (28, o_ild 3 1),
  (29, o_ild 1 1),
  (30, o_callV K 12 (f_X12_timeToRead K) 2),
  (33, o_ist 2 1),
  (34, o_inc 3 1),
  (37, o_goto 9),
  (40, o_ild 2 1),
  (41, o_iret)]
noncomputable def f_X12_quickest (K : Sh_) : Fn_ := fn_ (P_X12_quickest K) 4
set_option maxRecDepth 100000 in
theorem a_X12_quickest {l : Launch} {E : En_} (hE : EOK_ E)   : All_ (Snd_ l E yX12_quickest.cls cX12_quickest 4 (some .int) (.code yX12_quickest cX12_quickest 4 (some .int) :: G_) (rm_ 3)) (P_X12_quickest E.2.2.2.1 ) :=
  all_c (s_ald_n (q := 0) (by decide +kernel) rfl)
  <| all_c (s_iconst (n := 0) (by decide +kernel) (by decide))
  <| all_c (s_ild_n (q := 1) (by decide +kernel) rfl)
  <| all_c (s_callV (by decide +kernel) (t_X12_timeToRead hE) cl_X12_timeToRead ml_RX12_277 im_X12_timeToRead se_X12_timeToRead (by decide) rfl (rm_lt (by decide)))
  <| all_c (s_ist_n (q := 2) (by decide +kernel) rfl)
  <| all_c (s_iconst (n := 1) (by decide +kernel) (by decide))
  <| all_c (s_ist_n (q := 3) (by decide +kernel) rfl)
  <| all_c (s_ild_n (q := 3) (by decide +kernel) rfl)
  <| all_c (s_ald_n (q := 0) (by decide +kernel) rfl)
  <| all_c (s_callV (by decide +kernel) (t_X12_readers hE) cl_X12_readers ml_RX12_191 im_X12_readers se_X12_readers (by decide) rfl (rm_lt (by decide)))
  <| all_c (s_cmpge (off := 26) (by decide +kernel) (by decide))
  <| all_c (s_ald_n (q := 0) (by decide +kernel) rfl)
  <| all_c (s_ild_n (q := 3) (by decide +kernel) rfl)
  <| all_c (s_ild_n (q := 1) (by decide +kernel) rfl)
  <| all_c (s_callV (by decide +kernel) (t_X12_timeToRead hE) cl_X12_timeToRead ml_RX12_277 im_X12_timeToRead se_X12_timeToRead (by decide) rfl (rm_lt (by decide)))
  <| all_c (s_ild_n (q := 2) (by decide +kernel) rfl)
  <| all_c (s_cmpge (off := 10) (by decide +kernel) (by decide))
  <| all_c (s_ald_n (q := 0) (by decide +kernel) rfl)
  <| all_c (s_ild_n (q := 3) (by decide +kernel) rfl)
  <| all_c (s_ild_n (q := 1) (by decide +kernel) rfl)
  <| all_c (s_callV (by decide +kernel) (t_X12_timeToRead hE) cl_X12_timeToRead ml_RX12_277 im_X12_timeToRead se_X12_timeToRead (by decide) rfl (rm_lt (by decide)))
  <| all_c (s_ist_n (q := 2) (by decide +kernel) rfl)
  <| all_c (s_inc (n := 1) (by decide +kernel) (by decide))
  <| all_c (s_goto (off := (-28)) (by decide +kernel) (by decide))
  <| all_c (s_ild_n (q := 2) (by decide +kernel) rfl)
  <| all_c (s_iret (by decide +kernel) rfl)
  <| all_n
theorem t_X12_quickest {l : Launch} {E : En_} (hE : EOK_ E) : Good_ l E yX12_quickest (.code yX12_quickest cX12_quickest 4 (some .int) :: G_) (rm_ 3) (f_X12_quickest E.2.2.2.1) := good_all hE (by decide +kernel) (a_X12_quickest hE)
noncomputable def P_X12_isShut (K : Sh_)  : List (Nat × Op_) := [(0, o_ic 0 1),
  (1, o_aft [3] (o_ist 2 1)),
  (2, o_ild 2 1),
  (3, o_ald 0 1),
  (4, o_callV K 12 (f_X12_chaps K) 0),
  (7, o_cmpge 57),
  (10, o_ic 0 1),
  (11, o_ist 3 1),
  (12, o_ild 3 1),
  (13, o_ild 2 1),
  (14, o_cmpge 51),
  (17, o_ild 1 1),
  (18, o_ild 3 1),
  (19, o_callS (f_X12_has K) 2),
  (22, o_ifeq 45),
  (25, o_ild 1 1),
  (26, o_ild 2 1),
  (27, o_callS (f_X12_has K) 2),
  (30, o_ifne 45),
  (33, o_ald 0 1),
  (34, o_ild 2 1),
  (35, o_ild 3 1),
  (36, o_callV K 12 (f_X12_leanOf K) 2),
  (39, o_ic 4 1),
  (40, o_cmple 45),
  (43, o_ic 0 1),
  (44, o_zret),
  (45, o_inc 3 1),
  (48, o_goto 12),
  (51, o_inc 2 1),
  (54, o_aft [3] (o_goto 2)),
  (57, o_ic 1 1),
  (58, o_zret)]
noncomputable def f_X12_isShut (K : Sh_) : Fn_ := fn_ (P_X12_isShut K) 4
set_option maxRecDepth 100000 in
theorem a_X12_isShut {l : Launch} {E : En_} (hE : EOK_ E)   : All_ (Snd_ l E yX12_isShut.cls cX12_isShut 4 (some .boolean) (.code yX12_isShut cX12_isShut 4 (some .boolean) :: G_) (rm_ 2)) (P_X12_isShut E.2.2.2.1 ) :=
  all_c (s_iconst (n := 0) (by decide +kernel) (by decide))
  <| all_c (s_aft (s_ist_n (q := 2) (by decide +kernel) rfl))
  <| all_c (s_ild_n (q := 2) (by decide +kernel) rfl)
  <| all_c (s_ald_n (q := 0) (by decide +kernel) rfl)
  <| all_c (s_callV (by decide +kernel) (t_X12_chaps hE) cl_X12_chaps ml_RX12_188 im_X12_chaps se_X12_chaps (by decide) rfl (rm_lt (by decide)))
  <| all_c (s_cmpge (off := 50) (by decide +kernel) (by decide))
  <| all_c (s_iconst (n := 0) (by decide +kernel) (by decide))
  <| all_c (s_ist_n (q := 3) (by decide +kernel) rfl)
  <| all_c (s_ild_n (q := 3) (by decide +kernel) rfl)
  <| all_c (s_ild_n (q := 2) (by decide +kernel) rfl)
  <| all_c (s_cmpge (off := 37) (by decide +kernel) (by decide))
  <| all_c (s_ild_n (q := 1) (by decide +kernel) rfl)
  <| all_c (s_ild_n (q := 3) (by decide +kernel) rfl)
  <| all_c (s_callS (by decide +kernel) (t_X12_has hE) cl_X12_has ml_RX12_223 sm_X12_has (rm_lt (by decide)))
  <| all_c (s_ifeq (off := 23) (by decide +kernel) (by decide))
  <| all_c (s_ild_n (q := 1) (by decide +kernel) rfl)
  <| all_c (s_ild_n (q := 2) (by decide +kernel) rfl)
  <| all_c (s_callS (by decide +kernel) (t_X12_has hE) cl_X12_has ml_RX12_223 sm_X12_has (rm_lt (by decide)))
  <| all_c (s_ifne (off := 15) (by decide +kernel) (by decide))
  <| all_c (s_ald_n (q := 0) (by decide +kernel) rfl)
  <| all_c (s_ild_n (q := 2) (by decide +kernel) rfl)
  <| all_c (s_ild_n (q := 3) (by decide +kernel) rfl)
  <| all_c (s_callV (by decide +kernel) (t_X12_leanOf hE) cl_X12_leanOf ml_RX12_242 im_X12_leanOf se_X12_leanOf (by decide) rfl (rm_lt (by decide)))
  <| all_c (s_iconst (n := 4) (by decide +kernel) (by decide))
  <| all_c (s_cmple (off := 5) (by decide +kernel) (by decide))
  <| all_c (s_iconst (n := 0) (by decide +kernel) (by decide))
  <| all_c (s_zret (by decide +kernel) rfl)
  <| all_c (s_inc (n := 1) (by decide +kernel) (by decide))
  <| all_c (s_goto (off := (-36)) (by decide +kernel) (by decide))
  <| all_c (s_inc (n := 1) (by decide +kernel) (by decide))
  <| all_c (s_aft (s_goto (off := (-52)) (by decide +kernel) (by decide)))
  <| all_c (s_iconst (n := 1) (by decide +kernel) (by decide))
  <| all_c (s_zret (by decide +kernel) rfl)
  <| all_n
theorem t_X12_isShut {l : Launch} {E : En_} (hE : EOK_ E) : Good_ l E yX12_isShut (.code yX12_isShut cX12_isShut 4 (some .boolean) :: G_) (rm_ 2) (f_X12_isShut E.2.2.2.1) := good_all hE (by decide +kernel) (a_X12_isShut hE)
noncomputable def P_X12_leave (K : Sh_)  : List (Nat × Op_) := [(0, o_ald 0 1),
  (1, o_ic 0 1),
  (2, o_pI K 12 0),
  (5, o_ald 0 1),
  (6, o_callV K 12 (f_X12_lay K) 0),
  (9, o_ild 1 1),
  (10, o_ic 0 1),
  (11, o_ic 1 1),
  (12, o_callS (f_X12_isIn K) 3),
  (15, o_ifeq 25),
  (18, o_ald 0 1),
  (19, o_callV K 12 (f_X12_readers K) 0),
  (22, o_ifne 27),
  (25, o_ic (-1) 1),
  (26, o_iret),
  (27, o_ic 0 1),
  (28, o_ist 2 1),
  (29, o_ic 0 1),
  (30, o_aft [4, 5, 6, 7, 8] (o_ist 3 1)),
  (31, o_ild 3 1),
  (32, o_ald 0 1),
  (33, o_callV K 12 (f_X12_readers K) 0),
  (36, o_cmpge 54),
  (39, o_ild 2 1),
  (40, o_ald 0 1),
  (41, o_ild 3 1),
  (42, o_ic 3 1),
  (43, o_callV K 12 (f_X12_readerOf K) 2),
  (46, o_iadd),
  (47, o_ist 2 1),
  (48, o_inc 3 1),
  (51, o_aft [4, 5, 6, 7, 8] (o_goto 31)),
  (54, o_ic 0 1),
  (55, o_aft [4, 5, 6, 7, 8] (o_ist 3 1)),
  (56, o_ild 3 1),
  (57, o_ald 0 1),
  (58, o_callV K 12 (f_X12_chaps K) 0),
  (61, o_cmpge 81),
  (64, o_ald 0 1),
  (65, o_gF K 12 55),
  (68, o_ild 3 1),
  (69, o_ald 0 1),
  (70, o_ild 3 1),
  (71, o_callV K 12 (f_X12_quickest K) 1),
  (74, o_iast K),
  (75, o_inc 3 1),
  (78, o_aft [4, 5, 6, 7, 8] (o_goto 56)),
  (81, o_ic (-1) 1),
  (82, o_ist 3 1),
  (83, o_ic 0 1),
  (84, o_ist 4 2),
  (86, o_ic 0 1),
  (87, o_aft [6, 7, 8] (o_ist 5 2)),
  (89, o_ild 5 2),
  (91, o_ic 1 1),
  (92, o_ald 0 1),
  (93, o_callV K 12 (f_X12_chaps K) 0),
  (96, o_ishl),
  (97, o_cmpge 204),
  (100, o_ic 0 1),
  (101, o_ist 6 2),
  (103, o_ic 0 1),
  (104, o_ist 7 2),
  (106, o_ic 0 1),
  (107, o_ist 8 2),
  (109, o_ild 8 2),
  (111, o_ald 0 1),
  (112, o_callV K 12 (f_X12_chaps K) 0),
  (115, o_cmpge 161),
  (118, o_ild 5 2),
  (120, o_ild 8 2),
  (122, o_callS (f_X12_has K) 2),
  (125, o_ifeq 143),
  (128, o_ild 7 2),
  (130, o_ald 0 1),
  (131, o_ild 8 2),
  (133, o_ic 1 1),
  (134, o_callV K 12 (f_X12_chapOf K) 2),
  (137, o_iadd),
  (138, o_ist 7 2),
  (140, o_goto 155),
  (143, o_ild 6 2),
  (145, o_ald 0 1),
  (146, o_gF K 12 55),
  (149, o_ild 8 2),
  (151, o_iald K),
  (152, o_iadd),
  (153, o_ist 6 2),
  (155, o_inc 8 1),
  (158, o_goto 109),
  (161, o_ild 6 2),
  (163, o_ild 2 1),
  (164, o_cmpgt 198),
  (167, o_ild 3 1),
  (168, o_ic (-1) 1),
  (169, o_cmpeq 179),
  (172, o_ild 7 2),
  (174, o_ild 4 2),
  (176, o_cmpge 198),
  (179, o_ald 0 1),
  (180, o_ild 5 2),
  (182, o_callV K 12 (f_X12_isShut K) 1),
  (185, o_ifne 191),
  (188, o_goto 198),
  (191, o_ild 5 2),
  (193, o_ist 3 1),
  (194, o_ild 7 2),
  (196, o_ist 4 2),
  (198, o_inc 5 1),
  (201, o_aft [6, 7, 8] (o_goto 89)),
  (204, o_ild 1 1),
  (205, o_ifne 213),
  (208, o_ild 4 2),
  (210, o_goto 214),
  (213, o_ild 3 1),
  (214, o_iret)]
noncomputable def f_X12_leave (K : Sh_) : Fn_ := fn_ (P_X12_leave K) 9
set_option maxRecDepth 100000 in
theorem a_X12_leave {l : Launch} {E : En_} (hE : EOK_ E)   : All_ (Snd_ l E yX12_leave.cls cX12_leave 9 (some .int) (.code yX12_leave cX12_leave 9 (some .int) :: G_) (rm_ 4)) (P_X12_leave E.2.2.2.1 ) :=
  all_c (s_ald_n (q := 0) (by decide +kernel) rfl)
  <| all_c (s_iconst (n := 0) (by decide +kernel) (by decide))
  <| all_c (p_12_0 (by decide +kernel) fl_RX12_97)
  <| all_c (s_ald_n (q := 0) (by decide +kernel) rfl)
  <| all_c (s_callV (by decide +kernel) (t_X12_lay hE) cl_X12_lay ml_RX12_177 im_X12_lay se_X12_lay (by decide) rfl (rm_lt (by decide)))
  <| all_c (s_ild_n (q := 1) (by decide +kernel) rfl)
  <| all_c (s_iconst (n := 0) (by decide +kernel) (by decide))
  <| all_c (s_iconst (n := 1) (by decide +kernel) (by decide))
  <| all_c (s_callS (by decide +kernel) (t_X12_isIn hE) cl_X12_isIn ml_RX12_164 sm_X12_isIn (rm_lt (by decide)))
  <| all_c (s_ifeq (off := 10) (by decide +kernel) (by decide))
  <| all_c (s_ald_n (q := 0) (by decide +kernel) rfl)
  <| all_c (s_callV (by decide +kernel) (t_X12_readers hE) cl_X12_readers ml_RX12_191 im_X12_readers se_X12_readers (by decide) rfl (rm_lt (by decide)))
  <| all_c (s_ifne (off := 5) (by decide +kernel) (by decide))
  <| all_c (s_iconst (n := (-1)) (by decide +kernel) (by decide))
  <| all_c (s_iret (by decide +kernel) rfl)
  <| all_c (s_iconst (n := 0) (by decide +kernel) (by decide))
  <| all_c (s_ist_n (q := 2) (by decide +kernel) rfl)
  <| all_c (s_iconst (n := 0) (by decide +kernel) (by decide))
  <| all_c (s_aft (s_ist_n (q := 3) (by decide +kernel) rfl))
  <| all_c (s_ild_n (q := 3) (by decide +kernel) rfl)
  <| all_c (s_ald_n (q := 0) (by decide +kernel) rfl)
  <| all_c (s_callV (by decide +kernel) (t_X12_readers hE) cl_X12_readers ml_RX12_191 im_X12_readers se_X12_readers (by decide) rfl (rm_lt (by decide)))
  <| all_c (s_cmpge (off := 18) (by decide +kernel) (by decide))
  <| all_c (s_ild_n (q := 2) (by decide +kernel) rfl)
  <| all_c (s_ald_n (q := 0) (by decide +kernel) rfl)
  <| all_c (s_ild_n (q := 3) (by decide +kernel) rfl)
  <| all_c (s_iconst (n := 3) (by decide +kernel) (by decide))
  <| all_c (s_callV (by decide +kernel) (t_X12_readerOf hE) cl_X12_readerOf ml_RX12_248 im_X12_readerOf se_X12_readerOf (by decide) rfl (rm_lt (by decide)))
  <| all_c (s_iadd (by decide +kernel))
  <| all_c (s_ist_n (q := 2) (by decide +kernel) rfl)
  <| all_c (s_inc (n := 1) (by decide +kernel) (by decide))
  <| all_c (s_aft (s_goto (off := (-20)) (by decide +kernel) (by decide)))
  <| all_c (s_iconst (n := 0) (by decide +kernel) (by decide))
  <| all_c (s_aft (s_ist_n (q := 3) (by decide +kernel) rfl))
  <| all_c (s_ild_n (q := 3) (by decide +kernel) rfl)
  <| all_c (s_ald_n (q := 0) (by decide +kernel) rfl)
  <| all_c (s_callV (by decide +kernel) (t_X12_chaps hE) cl_X12_chaps ml_RX12_188 im_X12_chaps se_X12_chaps (by decide) rfl (rm_lt (by decide)))
  <| all_c (s_cmpge (off := 20) (by decide +kernel) (by decide))
  <| all_c (s_ald_n (q := 0) (by decide +kernel) rfl)
  <| all_c (g_12_55 (by decide +kernel) fl_RX12_88)
  <| all_c (s_ild_n (q := 3) (by decide +kernel) rfl)
  <| all_c (s_ald_n (q := 0) (by decide +kernel) rfl)
  <| all_c (s_ild_n (q := 3) (by decide +kernel) rfl)
  <| all_c (s_callV (by decide +kernel) (t_X12_quickest hE) cl_X12_quickest ml_RX12_405 im_X12_quickest se_X12_quickest (by decide) rfl (rm_lt (by decide)))
  <| all_c (s_iast (by decide +kernel))
  <| all_c (s_inc (n := 1) (by decide +kernel) (by decide))
  <| all_c (s_aft (s_goto (off := (-22)) (by decide +kernel) (by decide)))
  <| all_c (s_iconst (n := (-1)) (by decide +kernel) (by decide))
  <| all_c (s_ist_n (q := 3) (by decide +kernel) rfl)
  <| all_c (s_iconst (n := 0) (by decide +kernel) (by decide))
  <| all_c (s_ist (by decide +kernel))
  <| all_c (s_iconst (n := 0) (by decide +kernel) (by decide))
  <| all_c (s_aft (s_ist (by decide +kernel)))
  <| all_c (s_ild (by decide +kernel))
  <| all_c (s_iconst (n := 1) (by decide +kernel) (by decide))
  <| all_c (s_ald_n (q := 0) (by decide +kernel) rfl)
  <| all_c (s_callV (by decide +kernel) (t_X12_chaps hE) cl_X12_chaps ml_RX12_188 im_X12_chaps se_X12_chaps (by decide) rfl (rm_lt (by decide)))
  <| all_c (s_ishl (by decide +kernel))
  <| all_c (s_cmpge (off := 107) (by decide +kernel) (by decide))
  <| all_c (s_iconst (n := 0) (by decide +kernel) (by decide))
  <| all_c (s_ist (by decide +kernel))
  <| all_c (s_iconst (n := 0) (by decide +kernel) (by decide))
  <| all_c (s_ist (by decide +kernel))
  <| all_c (s_iconst (n := 0) (by decide +kernel) (by decide))
  <| all_c (s_ist (by decide +kernel))
  <| all_c (s_ild (by decide +kernel))
  <| all_c (s_ald_n (q := 0) (by decide +kernel) rfl)
  <| all_c (s_callV (by decide +kernel) (t_X12_chaps hE) cl_X12_chaps ml_RX12_188 im_X12_chaps se_X12_chaps (by decide) rfl (rm_lt (by decide)))
  <| all_c (s_cmpge (off := 46) (by decide +kernel) (by decide))
  <| all_c (s_ild (by decide +kernel))
  <| all_c (s_ild (by decide +kernel))
  <| all_c (s_callS (by decide +kernel) (t_X12_has hE) cl_X12_has ml_RX12_223 sm_X12_has (rm_lt (by decide)))
  <| all_c (s_ifeq (off := 18) (by decide +kernel) (by decide))
  <| all_c (s_ild (by decide +kernel))
  <| all_c (s_ald_n (q := 0) (by decide +kernel) rfl)
  <| all_c (s_ild (by decide +kernel))
  <| all_c (s_iconst (n := 1) (by decide +kernel) (by decide))
  <| all_c (s_callV (by decide +kernel) (t_X12_chapOf hE) cl_X12_chapOf ml_RX12_238 im_X12_chapOf se_X12_chapOf (by decide) rfl (rm_lt (by decide)))
  <| all_c (s_iadd (by decide +kernel))
  <| all_c (s_ist (by decide +kernel))
  <| all_c (s_goto (off := 15) (by decide +kernel) (by decide))
  <| all_c (s_ild (by decide +kernel))
  <| all_c (s_ald_n (q := 0) (by decide +kernel) rfl)
  <| all_c (g_12_55 (by decide +kernel) fl_RX12_88)
  <| all_c (s_ild (by decide +kernel))
  <| all_c (s_iald (by decide +kernel))
  <| all_c (s_iadd (by decide +kernel))
  <| all_c (s_ist (by decide +kernel))
  <| all_c (s_inc (n := 1) (by decide +kernel) (by decide))
  <| all_c (s_goto (off := (-49)) (by decide +kernel) (by decide))
  <| all_c (s_ild (by decide +kernel))
  <| all_c (s_ild_n (q := 2) (by decide +kernel) rfl)
  <| all_c (s_cmpgt (off := 34) (by decide +kernel) (by decide))
  <| all_c (s_ild_n (q := 3) (by decide +kernel) rfl)
  <| all_c (s_iconst (n := (-1)) (by decide +kernel) (by decide))
  <| all_c (s_cmpeq (off := 10) (by decide +kernel) (by decide))
  <| all_c (s_ild (by decide +kernel))
  <| all_c (s_ild (by decide +kernel))
  <| all_c (s_cmpge (off := 22) (by decide +kernel) (by decide))
  <| all_c (s_ald_n (q := 0) (by decide +kernel) rfl)
  <| all_c (s_ild (by decide +kernel))
  <| all_c (s_callV (by decide +kernel) (t_X12_isShut hE) cl_X12_isShut ml_RX12_408 im_X12_isShut se_X12_isShut (by decide) rfl (rm_lt (by decide)))
  <| all_c (s_ifne (off := 6) (by decide +kernel) (by decide))
  <| all_c (s_goto (off := 10) (by decide +kernel) (by decide))
  <| all_c (s_ild (by decide +kernel))
  <| all_c (s_ist_n (q := 3) (by decide +kernel) rfl)
  <| all_c (s_ild (by decide +kernel))
  <| all_c (s_ist (by decide +kernel))
  <| all_c (s_inc (n := 1) (by decide +kernel) (by decide))
  <| all_c (s_aft (s_goto (off := (-112)) (by decide +kernel) (by decide)))
  <| all_c (s_ild_n (q := 1) (by decide +kernel) rfl)
  <| all_c (s_ifne (off := 8) (by decide +kernel) (by decide))
  <| all_c (s_ild (by decide +kernel))
  <| all_c (s_goto (off := 4) (by decide +kernel) (by decide))
  <| all_c (s_ild_n (q := 3) (by decide +kernel) rfl)
  <| all_c (s_iret (by decide +kernel) rfl)
  <| all_n
theorem t_X12_leave {l : Launch} {E : En_} (hE : EOK_ E) : Good_ l E yX12_leave (.code yX12_leave cX12_leave 9 (some .int) :: G_) (rm_ 4) (f_X12_leave E.2.2.2.1) := good_all hE (by decide +kernel) (a_X12_leave hE)
noncomputable def P_X12_extra (K : Sh_)  : List (Nat × Op_) := [(0, o_ald 0 1),
  (1, o_ic 0 1),
  (2, o_pI K 12 0),
  (5, o_ald 0 1),
  (6, o_callV K 12 (f_X12_night K) 0),
  (9, o_ild 1 1),
  (10, o_ic 0 1),
  (11, o_ic 2 1),
  (12, o_callS (f_X12_isIn K) 3),
  (15, o_ifne 20),
  (18, o_ic (-1) 1),
  (19, o_iret),
  (20, o_ic (-1) 1),
  (21, o_ist 2 1),
  (22, o_ic (-1) 1),
  (23, o_ist 3 1),
  (24, o_ic (-1) 1),
  (25, o_ist 4 2),
  (27, o_ic 0 1),
  (28, o_aft [6, 7, 8, 9] (o_ist 5 2)),
  (30, o_ild 5 2),
  (32, o_ald 0 1),
  (33, o_callV K 12 (f_X12_readers K) 0),
  (36, o_cmpge 213),
  (39, o_ic 0 1),
  (40, o_aft [7, 8, 9] (o_ist 6 2)),
  (42, o_ild 6 2),
  (44, o_ald 0 1),
  (45, o_callV K 12 (f_X12_chaps K) 0),
  (48, o_cmpge 207),
  (51, o_ald 0 1),
  (52, o_gF K 12 27),
  (55, o_ild 5 2),
  (57, o_iald K),
  (58, o_ild 6 2),
  (60, o_callS (f_X12_has K) 2),
  (63, o_ifne 201),
  (66, o_ald 0 1),
  (67, o_gF K 12 26),
  (70, o_ild 5 2),
  (72, o_iald K),
  (73, o_ald 0 1),
  (74, o_ild 5 2),
  (76, o_ild 6 2),
  (78, o_callV K 12 (f_X12_timeToRead K) 2),
  (81, o_cmpge 87),
  (84, o_goto 201),
  (87, o_ald 0 1),
  (88, o_ald 0 1),
  (89, o_callV K 12 (f_X12_readers K) 0),
  (92, o_callV K 12 (f_X12_sum K) 1),
  (95, o_ist 7 2),
  (97, o_ald 0 1),
  (98, o_gF K 12 25),
  (101, o_ic 16 2),
  (103, o_ild 5 2),
  (105, o_imul),
  (106, o_ild 6 2),
  (108, o_iadd),
  (109, o_iald K),
  (110, o_ist 8 2),
  (112, o_ald 0 1),
  (113, o_ild 5 2),
  (115, o_ild 6 2),
  (117, o_callV K 12 (f_X12_reads K) 2),
  (120, o_ald 0 1),
  (121, o_ald 0 1),
  (122, o_callV K 12 (f_X12_readers K) 0),
  (125, o_callV K 12 (f_X12_sum K) 1),
  (128, o_ild 7 2),
  (130, o_isub),
  (131, o_ist 9 2),
  (133, o_ald 0 1),
  (134, o_gF K 12 25),
  (137, o_ic 16 2),
  (139, o_ild 5 2),
  (141, o_imul),
  (142, o_ild 6 2),
  (144, o_iadd),
  (145, o_ild 8 2),
  (147, o_iast K),
  (148, o_ald 0 1),
  (149, o_gF K 12 27),
  (152, o_ild 5 2),
  (154, o_dup2),
  (155, o_iald K),
  (156, o_ic 1 1),
  (157, o_ild 6 2),
  (159, o_ishl),
  (160, o_ic (-1) 1),
  (161, o_ixor),
  (162, o_iand),
  (163, o_iast K),
  (164, o_ald 0 1),
  (165, o_gF K 12 26),
  (168, o_ild 5 2),
  (170, o_dup2),
  (171, o_iald K),
  (172, o_ald 0 1),
  (173, o_ild 5 2),
  (175, o_ild 6 2),
  (177, o_callV K 12 (f_X12_timeToRead K) 2),
  (180, o_iadd),
  (181, o_iast K),
  (182, o_ild 9 2),
  (184, o_ild 2 1),
  (185, o_cmpgt 191),
  (188, o_goto 201),
  (191, o_ild 9 2),
  (193, o_ist 2 1),
  (194, o_ild 5 2),
  (196, o_ist 3 1),
  (197, o_ild 6 2),
  (199, o_ist 4 2),
  (201, o_inc 6 1),
  (204, o_aft [7, 8, 9] (o_goto 42)),
  (207, o_inc 5 1),
  (210, o_aft [6, 7, 8, 9] (o_goto 30)),
  (213, o_ild 1 1),
  (214, o_ifne 221),
  (217, o_ild 2 1),
  (218, o_goto 232),
  (221, o_ild 1 1),
  (222, o_ic 1 1),
  (223, o_cmpne 230),
  (226, o_ild 3 1),
  (227, o_goto 232),
  (230, o_ild 4 2),
  (232, o_iret)]
noncomputable def f_X12_extra (K : Sh_) : Fn_ := fn_ (P_X12_extra K) 10
set_option maxRecDepth 100000 in
theorem a_X12_extra {l : Launch} {E : En_} (hE : EOK_ E)   : All_ (Snd_ l E yX12_extra.cls cX12_extra 10 (some .int) (.code yX12_extra cX12_extra 10 (some .int) :: G_) (rm_ 6)) (P_X12_extra E.2.2.2.1 ) :=
  all_c (s_ald_n (q := 0) (by decide +kernel) rfl)
  <| all_c (s_iconst (n := 0) (by decide +kernel) (by decide))
  <| all_c (p_12_0 (by decide +kernel) fl_RX12_97)
  <| all_c (s_ald_n (q := 0) (by decide +kernel) rfl)
  <| all_c (s_callV (by decide +kernel) (t_X12_night hE) cl_X12_night ml_RX12_319 im_X12_night se_X12_night (by decide) rfl (rm_lt (by decide)))
  <| all_c (s_ild_n (q := 1) (by decide +kernel) rfl)
  <| all_c (s_iconst (n := 0) (by decide +kernel) (by decide))
  <| all_c (s_iconst (n := 2) (by decide +kernel) (by decide))
  <| all_c (s_callS (by decide +kernel) (t_X12_isIn hE) cl_X12_isIn ml_RX12_164 sm_X12_isIn (rm_lt (by decide)))
  <| all_c (s_ifne (off := 5) (by decide +kernel) (by decide))
  <| all_c (s_iconst (n := (-1)) (by decide +kernel) (by decide))
  <| all_c (s_iret (by decide +kernel) rfl)
  <| all_c (s_iconst (n := (-1)) (by decide +kernel) (by decide))
  <| all_c (s_ist_n (q := 2) (by decide +kernel) rfl)
  <| all_c (s_iconst (n := (-1)) (by decide +kernel) (by decide))
  <| all_c (s_ist_n (q := 3) (by decide +kernel) rfl)
  <| all_c (s_iconst (n := (-1)) (by decide +kernel) (by decide))
  <| all_c (s_ist (by decide +kernel))
  <| all_c (s_iconst (n := 0) (by decide +kernel) (by decide))
  <| all_c (s_aft (s_ist (by decide +kernel)))
  <| all_c (s_ild (by decide +kernel))
  <| all_c (s_ald_n (q := 0) (by decide +kernel) rfl)
  <| all_c (s_callV (by decide +kernel) (t_X12_readers hE) cl_X12_readers ml_RX12_191 im_X12_readers se_X12_readers (by decide) rfl (rm_lt (by decide)))
  <| all_c (s_cmpge (off := 177) (by decide +kernel) (by decide))
  <| all_c (s_iconst (n := 0) (by decide +kernel) (by decide))
  <| all_c (s_aft (s_ist (by decide +kernel)))
  <| all_c (s_ild (by decide +kernel))
  <| all_c (s_ald_n (q := 0) (by decide +kernel) rfl)
  <| all_c (s_callV (by decide +kernel) (t_X12_chaps hE) cl_X12_chaps ml_RX12_188 im_X12_chaps se_X12_chaps (by decide) rfl (rm_lt (by decide)))
  <| all_c (s_cmpge (off := 159) (by decide +kernel) (by decide))
  <| all_c (s_ald_n (q := 0) (by decide +kernel) rfl)
  <| all_c (g_12_27 (by decide +kernel) fl_RX12_45)
  <| all_c (s_ild (by decide +kernel))
  <| all_c (s_iald (by decide +kernel))
  <| all_c (s_ild (by decide +kernel))
  <| all_c (s_callS (by decide +kernel) (t_X12_has hE) cl_X12_has ml_RX12_223 sm_X12_has (rm_lt (by decide)))
  <| all_c (s_ifne (off := 138) (by decide +kernel) (by decide))
  <| all_c (s_ald_n (q := 0) (by decide +kernel) rfl)
  <| all_c (g_12_26 (by decide +kernel) fl_RX12_42)
  <| all_c (s_ild (by decide +kernel))
  <| all_c (s_iald (by decide +kernel))
  <| all_c (s_ald_n (q := 0) (by decide +kernel) rfl)
  <| all_c (s_ild (by decide +kernel))
  <| all_c (s_ild (by decide +kernel))
  <| all_c (s_callV (by decide +kernel) (t_X12_timeToRead hE) cl_X12_timeToRead ml_RX12_277 im_X12_timeToRead se_X12_timeToRead (by decide) rfl (rm_lt (by decide)))
  <| all_c (s_cmpge (off := 6) (by decide +kernel) (by decide))
  <| all_c (s_goto (off := 117) (by decide +kernel) (by decide))
  <| all_c (s_ald_n (q := 0) (by decide +kernel) rfl)
  <| all_c (s_ald_n (q := 0) (by decide +kernel) rfl)
  <| all_c (s_callV (by decide +kernel) (t_X12_readers hE) cl_X12_readers ml_RX12_191 im_X12_readers se_X12_readers (by decide) rfl (rm_lt (by decide)))
  <| all_c (s_callV (by decide +kernel) (t_X12_sum hE) cl_X12_sum ml_RX12_325 im_X12_sum se_X12_sum (by decide) rfl (rm_lt (by decide)))
  <| all_c (s_ist (by decide +kernel))
  <| all_c (s_ald_n (q := 0) (by decide +kernel) rfl)
  <| all_c (g_12_25 (by decide +kernel) fl_RX12_39)
  <| all_c (s_bipush (n := 16) (by decide +kernel) (by decide))
  <| all_c (s_ild (by decide +kernel))
  <| all_c (s_imul (by decide +kernel))
  <| all_c (s_ild (by decide +kernel))
  <| all_c (s_iadd (by decide +kernel))
  <| all_c (s_iald (by decide +kernel))
  <| all_c (s_ist (by decide +kernel))
  <| all_c (s_ald_n (q := 0) (by decide +kernel) rfl)
  <| all_c (s_ild (by decide +kernel))
  <| all_c (s_ild (by decide +kernel))
  <| all_c (s_callV (by decide +kernel) (t_X12_reads hE) cl_X12_reads ml_RX12_292 im_X12_reads se_X12_reads (by decide) rfl (rm_lt (by decide)))
  <| all_c (s_ald_n (q := 0) (by decide +kernel) rfl)
  <| all_c (s_ald_n (q := 0) (by decide +kernel) rfl)
  <| all_c (s_callV (by decide +kernel) (t_X12_readers hE) cl_X12_readers ml_RX12_191 im_X12_readers se_X12_readers (by decide) rfl (rm_lt (by decide)))
  <| all_c (s_callV (by decide +kernel) (t_X12_sum hE) cl_X12_sum ml_RX12_325 im_X12_sum se_X12_sum (by decide) rfl (rm_lt (by decide)))
  <| all_c (s_ild (by decide +kernel))
  <| all_c (s_isub (by decide +kernel))
  <| all_c (s_ist (by decide +kernel))
  <| all_c (s_ald_n (q := 0) (by decide +kernel) rfl)
  <| all_c (g_12_25 (by decide +kernel) fl_RX12_39)
  <| all_c (s_bipush (n := 16) (by decide +kernel) (by decide))
  <| all_c (s_ild (by decide +kernel))
  <| all_c (s_imul (by decide +kernel))
  <| all_c (s_ild (by decide +kernel))
  <| all_c (s_iadd (by decide +kernel))
  <| all_c (s_ild (by decide +kernel))
  <| all_c (s_iast (by decide +kernel))
  <| all_c (s_ald_n (q := 0) (by decide +kernel) rfl)
  <| all_c (g_12_27 (by decide +kernel) fl_RX12_45)
  <| all_c (s_ild (by decide +kernel))
  <| all_c (s_dup2 (by decide +kernel))
  <| all_c (s_iald (by decide +kernel))
  <| all_c (s_iconst (n := 1) (by decide +kernel) (by decide))
  <| all_c (s_ild (by decide +kernel))
  <| all_c (s_ishl (by decide +kernel))
  <| all_c (s_iconst (n := (-1)) (by decide +kernel) (by decide))
  <| all_c (s_ixor (by decide +kernel))
  <| all_c (s_iand (by decide +kernel))
  <| all_c (s_iast (by decide +kernel))
  <| all_c (s_ald_n (q := 0) (by decide +kernel) rfl)
  <| all_c (g_12_26 (by decide +kernel) fl_RX12_42)
  <| all_c (s_ild (by decide +kernel))
  <| all_c (s_dup2 (by decide +kernel))
  <| all_c (s_iald (by decide +kernel))
  <| all_c (s_ald_n (q := 0) (by decide +kernel) rfl)
  <| all_c (s_ild (by decide +kernel))
  <| all_c (s_ild (by decide +kernel))
  <| all_c (s_callV (by decide +kernel) (t_X12_timeToRead hE) cl_X12_timeToRead ml_RX12_277 im_X12_timeToRead se_X12_timeToRead (by decide) rfl (rm_lt (by decide)))
  <| all_c (s_iadd (by decide +kernel))
  <| all_c (s_iast (by decide +kernel))
  <| all_c (s_ild (by decide +kernel))
  <| all_c (s_ild_n (q := 2) (by decide +kernel) rfl)
  <| all_c (s_cmpgt (off := 6) (by decide +kernel) (by decide))
  <| all_c (s_goto (off := 13) (by decide +kernel) (by decide))
  <| all_c (s_ild (by decide +kernel))
  <| all_c (s_ist_n (q := 2) (by decide +kernel) rfl)
  <| all_c (s_ild (by decide +kernel))
  <| all_c (s_ist_n (q := 3) (by decide +kernel) rfl)
  <| all_c (s_ild (by decide +kernel))
  <| all_c (s_ist (by decide +kernel))
  <| all_c (s_inc (n := 1) (by decide +kernel) (by decide))
  <| all_c (s_aft (s_goto (off := (-162)) (by decide +kernel) (by decide)))
  <| all_c (s_inc (n := 1) (by decide +kernel) (by decide))
  <| all_c (s_aft (s_goto (off := (-180)) (by decide +kernel) (by decide)))
  <| all_c (s_ild_n (q := 1) (by decide +kernel) rfl)
  <| all_c (s_ifne (off := 7) (by decide +kernel) (by decide))
  <| all_c (s_ild_n (q := 2) (by decide +kernel) rfl)
  <| all_c (s_goto (off := 14) (by decide +kernel) (by decide))
  <| all_c (s_ild_n (q := 1) (by decide +kernel) rfl)
  <| all_c (s_iconst (n := 1) (by decide +kernel) (by decide))
  <| all_c (s_cmpne (off := 7) (by decide +kernel) (by decide))
  <| all_c (s_ild_n (q := 3) (by decide +kernel) rfl)
  <| all_c (s_goto (off := 5) (by decide +kernel) (by decide))
  <| all_c (s_ild (by decide +kernel))
  <| all_c (s_iret (by decide +kernel) rfl)
  <| all_n
theorem t_X12_extra {l : Launch} {E : En_} (hE : EOK_ E) : Good_ l E yX12_extra (.code yX12_extra cX12_extra 10 (some .int) :: G_) (rm_ 6) (f_X12_extra E.2.2.2.1) := good_all hE (by decide +kernel) (a_X12_extra hE)
noncomputable def P_X12_ask (K : Sh_)  : List (Nat × Op_) := [(0, o_ald 0 1),
  (1, o_ic 0 1),
  (2, o_pI K 12 0),
  (5, o_ald 0 1),
  (6, o_callV K 12 (f_X12_night K) 0),
  (9, o_ald 0 1),
  (10, o_callV K 12 (f_X12_take K) 0),
  (13, o_ist 1 1),
  (14, o_ild 1 1),
  (15, o_ic 2 1),
  (16, o_irem),
  (17, o_ifne 32),
  (20, o_ild 1 1),
  (21, o_ic 2 1),
  (22, o_idiv),
  (23, o_ic 1 1),
  (24, o_ic 10 2),
  (26, o_callS (f_X12_isIn K) 3),
  (29, o_ifne 35),
  (32, o_ic (-2) 2),
  (34, o_iret),
  (35, o_ild 1 1),
  (36, o_ic 2 1),
  (37, o_idiv),
  (38, o_ist 1 1),
  (39, o_ic 0 1),
  (40, o_aft [3, 4, 5, 6] (o_ist 2 1)),
  (41, o_ild 2 1),
  (42, o_ild 1 1),
  (43, o_cmpge 86),
  (46, o_ic 256 3),
  (49, o_ald 0 1),
  (50, o_gF K 12 1),
  (53, o_ic 2 1),
  (54, o_ild 2 1),
  (55, o_imul),
  (56, o_iald K),
  (57, o_imul),
  (58, o_ald 0 1),
  (59, o_gF K 12 1),
  (62, o_ic 2 1),
  (63, o_ild 2 1),
  (64, o_imul),
  (65, o_ic 1 1),
  (66, o_iadd),
  (67, o_iald K),
  (68, o_iadd),
  (69, o_ald 0 1),
  (70, o_callV K 12 (f_X12_chaps K) 0),
  (73, o_ishr),
  (74, o_ifeq 80),
  (77, o_ic (-2) 2),
  (79, o_iret),
  (80, o_inc 2 1),
  (83, o_aft [3, 4, 5, 6] (o_goto 41)),
  (86, o_ald 0 1),
  (87, o_callV K 12 (f_X12_lacking K) 0),
  (90, o_ist 2 1),
  (91, o_ic (-1) 1),
  (92, o_ist 3 1),
  (93, o_ic 0 1),
  (94, o_aft [5, 6] (o_ist 4 2)),
  (96, o_ild 4 2),
  (98, o_ic 1 1),
  (99, o_ild 1 1),
  (100, o_ishl),
  (101, o_cmpge 200),
  (104, o_ic 0 1),
  (105, o_ist 5 2),
  (107, o_ic 0 1),
  (108, o_ist 6 2),
  (110, o_ild 6 2),
  (112, o_ild 1 1),
  (113, o_cmpge 162),
  (116, o_ild 4 2),
  (118, o_ild 6 2),
  (120, o_callS (f_X12_has K) 2),
  (123, o_ifeq 156),
  (126, o_ild 5 2),
  (128, o_ic 256 3),
  (131, o_ald 0 1),
  (132, o_gF K 12 1),
  (135, o_ic 2 1),
  (136, o_ild 6 2),
  (138, o_imul),
  (139, o_iald K),
  (140, o_imul),
  (141, o_ald 0 1),
  (142, o_gF K 12 1),
  (145, o_ic 2 1),
  (146, o_ild 6 2),
  (148, o_imul),
  (149, o_ic 1 1),
  (150, o_iadd),
  (151, o_iald K),
  (152, o_iadd),
  (153, o_ior),
  (154, o_ist 5 2),
  (156, o_inc 6 1),
  (159, o_goto 110),
  (162, o_ild 2 1),
  (163, o_ild 5 2),
  (165, o_ic (-1) 1),
  (166, o_ixor),
  (167, o_iand),
  (168, o_ifne 194),
  (171, o_ild 3 1),
  (172, o_ic (-1) 1),
  (173, o_cmpeq 191),
  (176, o_ild 4 2),
  (178, o_callS (f_X12_bits K) 1),
  (181, o_ild 3 1),
  (182, o_callS (f_X12_bits K) 1),
  (185, o_cmplt 191),
  (188, o_goto 194),
  (191, o_ild 4 2),
  (193, o_ist 3 1),
  (194, o_inc 4 1),
  (197, o_aft [5, 6] (o_goto 96)),
  (200, o_ild 3 1),
  (201, o_ic (-1) 1),
  (202, o_cmpne 207),
  (205, o_ic (-1) 1),
  (206, o_iret),
  (207, o_ald 0 1),
  (208, o_ild 3 1),
  (209, o_pI K 12 56),
  (212, o_ild 3 1),
  (213, o_callS (f_X12_bits K) 1),
  (216, o_iret)]
noncomputable def f_X12_ask (K : Sh_) : Fn_ := fn_ (P_X12_ask K) 7
set_option maxRecDepth 100000 in
theorem a_X12_ask {l : Launch} {E : En_} (hE : EOK_ E)   : All_ (Snd_ l E yX12_ask.cls cX12_ask 7 (some .int) (.code yX12_ask cX12_ask 7 (some .int) :: G_) (rm_ 6)) (P_X12_ask E.2.2.2.1 ) :=
  all_c (s_ald_n (q := 0) (by decide +kernel) rfl)
  <| all_c (s_iconst (n := 0) (by decide +kernel) (by decide))
  <| all_c (p_12_0 (by decide +kernel) fl_RX12_97)
  <| all_c (s_ald_n (q := 0) (by decide +kernel) rfl)
  <| all_c (s_callV (by decide +kernel) (t_X12_night hE) cl_X12_night ml_RX12_319 im_X12_night se_X12_night (by decide) rfl (rm_lt (by decide)))
  <| all_c (s_ald_n (q := 0) (by decide +kernel) rfl)
  <| all_c (s_callV (by decide +kernel) (t_X12_take hE) cl_X12_take ml_RX12_180 im_X12_take se_X12_take (by decide) rfl (rm_lt (by decide)))
  <| all_c (s_ist_n (q := 1) (by decide +kernel) rfl)
  <| all_c (s_ild_n (q := 1) (by decide +kernel) rfl)
  <| all_c (s_iconst (n := 2) (by decide +kernel) (by decide))
  <| all_c (s_irem (by decide +kernel))
  <| all_c (s_ifne (off := 15) (by decide +kernel) (by decide))
  <| all_c (s_ild_n (q := 1) (by decide +kernel) rfl)
  <| all_c (s_iconst (n := 2) (by decide +kernel) (by decide))
  <| all_c (s_idiv (by decide +kernel))
  <| all_c (s_iconst (n := 1) (by decide +kernel) (by decide))
  <| all_c (s_bipush (n := 10) (by decide +kernel) (by decide))
  <| all_c (s_callS (by decide +kernel) (t_X12_isIn hE) cl_X12_isIn ml_RX12_164 sm_X12_isIn (rm_lt (by decide)))
  <| all_c (s_ifne (off := 6) (by decide +kernel) (by decide))
  <| all_c (s_bipush (n := (-2)) (by decide +kernel) (by decide))
  <| all_c (s_iret (by decide +kernel) rfl)
  <| all_c (s_ild_n (q := 1) (by decide +kernel) rfl)
  <| all_c (s_iconst (n := 2) (by decide +kernel) (by decide))
  <| all_c (s_idiv (by decide +kernel))
  <| all_c (s_ist_n (q := 1) (by decide +kernel) rfl)
  <| all_c (s_iconst (n := 0) (by decide +kernel) (by decide))
  <| all_c (s_aft (s_ist_n (q := 2) (by decide +kernel) rfl))
  <| all_c (s_ild_n (q := 2) (by decide +kernel) rfl)
  <| all_c (s_ild_n (q := 1) (by decide +kernel) rfl)
  <| all_c (s_cmpge (off := 43) (by decide +kernel) (by decide))
  <| all_c (s_sipush (n := 256) (by decide +kernel) (by decide))
  <| all_c (s_ald_n (q := 0) (by decide +kernel) rfl)
  <| all_c (g_12_1 (by decide +kernel) fl_RX12_7)
  <| all_c (s_iconst (n := 2) (by decide +kernel) (by decide))
  <| all_c (s_ild_n (q := 2) (by decide +kernel) rfl)
  <| all_c (s_imul (by decide +kernel))
  <| all_c (s_iald (by decide +kernel))
  <| all_c (s_imul (by decide +kernel))
  <| all_c (s_ald_n (q := 0) (by decide +kernel) rfl)
  <| all_c (g_12_1 (by decide +kernel) fl_RX12_7)
  <| all_c (s_iconst (n := 2) (by decide +kernel) (by decide))
  <| all_c (s_ild_n (q := 2) (by decide +kernel) rfl)
  <| all_c (s_imul (by decide +kernel))
  <| all_c (s_iconst (n := 1) (by decide +kernel) (by decide))
  <| all_c (s_iadd (by decide +kernel))
  <| all_c (s_iald (by decide +kernel))
  <| all_c (s_iadd (by decide +kernel))
  <| all_c (s_ald_n (q := 0) (by decide +kernel) rfl)
  <| all_c (s_callV (by decide +kernel) (t_X12_chaps hE) cl_X12_chaps ml_RX12_188 im_X12_chaps se_X12_chaps (by decide) rfl (rm_lt (by decide)))
  <| all_c (s_ishr (by decide +kernel))
  <| all_c (s_ifeq (off := 6) (by decide +kernel) (by decide))
  <| all_c (s_bipush (n := (-2)) (by decide +kernel) (by decide))
  <| all_c (s_iret (by decide +kernel) rfl)
  <| all_c (s_inc (n := 1) (by decide +kernel) (by decide))
  <| all_c (s_aft (s_goto (off := (-42)) (by decide +kernel) (by decide)))
  <| all_c (s_ald_n (q := 0) (by decide +kernel) rfl)
  <| all_c (s_callV (by decide +kernel) (t_X12_lacking hE) cl_X12_lacking ml_RX12_328 im_X12_lacking se_X12_lacking (by decide) rfl (rm_lt (by decide)))
  <| all_c (s_ist_n (q := 2) (by decide +kernel) rfl)
  <| all_c (s_iconst (n := (-1)) (by decide +kernel) (by decide))
  <| all_c (s_ist_n (q := 3) (by decide +kernel) rfl)
  <| all_c (s_iconst (n := 0) (by decide +kernel) (by decide))
  <| all_c (s_aft (s_ist (by decide +kernel)))
  <| all_c (s_ild (by decide +kernel))
  <| all_c (s_iconst (n := 1) (by decide +kernel) (by decide))
  <| all_c (s_ild_n (q := 1) (by decide +kernel) rfl)
  <| all_c (s_ishl (by decide +kernel))
  <| all_c (s_cmpge (off := 99) (by decide +kernel) (by decide))
  <| all_c (s_iconst (n := 0) (by decide +kernel) (by decide))
  <| all_c (s_ist (by decide +kernel))
  <| all_c (s_iconst (n := 0) (by decide +kernel) (by decide))
  <| all_c (s_ist (by decide +kernel))
  <| all_c (s_ild (by decide +kernel))
  <| all_c (s_ild_n (q := 1) (by decide +kernel) rfl)
  <| all_c (s_cmpge (off := 49) (by decide +kernel) (by decide))
  <| all_c (s_ild (by decide +kernel))
  <| all_c (s_ild (by decide +kernel))
  <| all_c (s_callS (by decide +kernel) (t_X12_has hE) cl_X12_has ml_RX12_223 sm_X12_has (rm_lt (by decide)))
  <| all_c (s_ifeq (off := 33) (by decide +kernel) (by decide))
  <| all_c (s_ild (by decide +kernel))
  <| all_c (s_sipush (n := 256) (by decide +kernel) (by decide))
  <| all_c (s_ald_n (q := 0) (by decide +kernel) rfl)
  <| all_c (g_12_1 (by decide +kernel) fl_RX12_7)
  <| all_c (s_iconst (n := 2) (by decide +kernel) (by decide))
  <| all_c (s_ild (by decide +kernel))
  <| all_c (s_imul (by decide +kernel))
  <| all_c (s_iald (by decide +kernel))
  <| all_c (s_imul (by decide +kernel))
  <| all_c (s_ald_n (q := 0) (by decide +kernel) rfl)
  <| all_c (g_12_1 (by decide +kernel) fl_RX12_7)
  <| all_c (s_iconst (n := 2) (by decide +kernel) (by decide))
  <| all_c (s_ild (by decide +kernel))
  <| all_c (s_imul (by decide +kernel))
  <| all_c (s_iconst (n := 1) (by decide +kernel) (by decide))
  <| all_c (s_iadd (by decide +kernel))
  <| all_c (s_iald (by decide +kernel))
  <| all_c (s_iadd (by decide +kernel))
  <| all_c (s_ior (by decide +kernel))
  <| all_c (s_ist (by decide +kernel))
  <| all_c (s_inc (n := 1) (by decide +kernel) (by decide))
  <| all_c (s_goto (off := (-49)) (by decide +kernel) (by decide))
  <| all_c (s_ild_n (q := 2) (by decide +kernel) rfl)
  <| all_c (s_ild (by decide +kernel))
  <| all_c (s_iconst (n := (-1)) (by decide +kernel) (by decide))
  <| all_c (s_ixor (by decide +kernel))
  <| all_c (s_iand (by decide +kernel))
  <| all_c (s_ifne (off := 26) (by decide +kernel) (by decide))
  <| all_c (s_ild_n (q := 3) (by decide +kernel) rfl)
  <| all_c (s_iconst (n := (-1)) (by decide +kernel) (by decide))
  <| all_c (s_cmpeq (off := 18) (by decide +kernel) (by decide))
  <| all_c (s_ild (by decide +kernel))
  <| all_c (s_callS (by decide +kernel) (t_X12_bits hE) cl_X12_bits ml_RX12_411 sm_X12_bits (rm_lt (by decide)))
  <| all_c (s_ild_n (q := 3) (by decide +kernel) rfl)
  <| all_c (s_callS (by decide +kernel) (t_X12_bits hE) cl_X12_bits ml_RX12_411 sm_X12_bits (rm_lt (by decide)))
  <| all_c (s_cmplt (off := 6) (by decide +kernel) (by decide))
  <| all_c (s_goto (off := 6) (by decide +kernel) (by decide))
  <| all_c (s_ild (by decide +kernel))
  <| all_c (s_ist_n (q := 3) (by decide +kernel) rfl)
  <| all_c (s_inc (n := 1) (by decide +kernel) (by decide))
  <| all_c (s_aft (s_goto (off := (-101)) (by decide +kernel) (by decide)))
  <| all_c (s_ild_n (q := 3) (by decide +kernel) rfl)
  <| all_c (s_iconst (n := (-1)) (by decide +kernel) (by decide))
  <| all_c (s_cmpne (off := 5) (by decide +kernel) (by decide))
  <| all_c (s_iconst (n := (-1)) (by decide +kernel) (by decide))
  <| all_c (s_iret (by decide +kernel) rfl)
  <| all_c (s_ald_n (q := 0) (by decide +kernel) rfl)
  <| all_c (s_ild_n (q := 3) (by decide +kernel) rfl)
  <| all_c (p_12_56 (by decide +kernel) fl_RX12_91)
  <| all_c (s_ild_n (q := 3) (by decide +kernel) rfl)
  <| all_c (s_callS (by decide +kernel) (t_X12_bits hE) cl_X12_bits ml_RX12_411 sm_X12_bits (rm_lt (by decide)))
  <| all_c (s_iret (by decide +kernel) rfl)
  <| all_n
theorem t_X12_ask {l : Launch} {E : En_} (hE : EOK_ E) : Good_ l E yX12_ask (.code yX12_ask cX12_ask 7 (some .int) :: G_) (rm_ 6) (f_X12_ask E.2.2.2.1) := good_all hE (by decide +kernel) (a_X12_ask hE)
noncomputable def P_X12_asked (K : Sh_)  : List (Nat × Op_) := [(0, o_ald 0 1),
  (1, o_ic 0 1),
  (2, o_pI K 12 0),
  (5, o_ald 0 1),
  (6, o_gI K 12 56),
  (9, o_iret)]
noncomputable def f_X12_asked (K : Sh_) : Fn_ := fn_ (P_X12_asked K) 1
set_option maxRecDepth 100000 in
theorem a_X12_asked {l : Launch} {E : En_} (hE : EOK_ E)   : All_ (Snd_ l E yX12_asked.cls cX12_asked 1 (some .int) (.code yX12_asked cX12_asked 1 (some .int) :: G_) (rm_ 1)) (P_X12_asked E.2.2.2.1 ) :=
  all_c (s_ald_n (q := 0) (by decide +kernel) rfl)
  <| all_c (s_iconst (n := 0) (by decide +kernel) (by decide))
  <| all_c (p_12_0 (by decide +kernel) fl_RX12_97)
  <| all_c (s_ald_n (q := 0) (by decide +kernel) rfl)
  <| all_c (g_12_56 (by decide +kernel) fl_RX12_91)
  <| all_c (s_iret (by decide +kernel) rfl)
  <| all_n
theorem t_X12_asked {l : Launch} {E : En_} (hE : EOK_ E) : Good_ l E yX12_asked (.code yX12_asked cX12_asked 1 (some .int) :: G_) (rm_ 1) (f_X12_asked E.2.2.2.1) := good_all hE (by decide +kernel) (a_X12_asked hE)
noncomputable def P_X12_seen (K : Sh_)  : List (Nat × Op_) := [(0, o_ald 0 1),
  (1, o_ic 0 1),
  (2, o_pI K 12 0),
  (5, o_ald 0 1),
  (6, o_callV K 12 (f_X12_lay K) 0),
  (9, o_ald 0 1),
  (10, o_ild 1 1),
  (11, o_callV K 12 (f_X12_isReader K) 1),
  (14, o_ifeq 28),
  (17, o_ild 2 1),
  (18, o_ic 1 1),
  (19, o_ic 1000000 3),
  (22, o_callS (f_X12_isIn K) 3),
  (25, o_ifne 31),
  (28, o_ic (-2) 2),
  (30, o_iret),
  (31, o_lc 1000000000000000 3),
  (34, o_lst 3 1),
  (35, o_lld 3 1),
  (36, o_ild 2 1),
  (37, o_i2l),
  (38, o_ldiv),
  (39, o_lst 5 2),
  (41, o_ic 0 1),
  (42, o_aft [4, 6] (o_ist 7 2)),
  (44, o_ild 7 2),
  (46, o_ic 300 3),
  (49, o_cmpgt 85),
  (52, o_lld 3 1),
  (53, o_lld 5 2),
  (55, o_lcmp),
  (56, o_ifgt 62),
  (59, o_ild 7 2),
  (61, o_iret),
  (62, o_lld 3 1),
  (63, o_ic 10 2),
  (65, o_ald 0 1),
  (66, o_ild 1 1),
  (67, o_ic 4 1),
  (68, o_callV K 12 (f_X12_readerOf K) 2),
  (71, o_isub),
  (72, o_i2l),
  (73, o_lmul),
  (74, o_lc 10 3),
  (77, o_ldiv),
  (78, o_lst 3 1),
  (79, o_inc 7 1),
  (82, o_aft [4, 6] (o_goto 44)),
  (85, o_ic (-1) 1),
  (86, o_iret)]
noncomputable def f_X12_seen (K : Sh_) : Fn_ := fn_ (P_X12_seen K) 8
set_option maxRecDepth 100000 in
theorem a_X12_seen {l : Launch} {E : En_} (hE : EOK_ E)   : All_ (Snd_ l E yX12_seen.cls cX12_seen 8 (some .int) (.code yX12_seen cX12_seen 8 (some .int) :: G_) (rm_ 3)) (P_X12_seen E.2.2.2.1 ) :=
  all_c (s_ald_n (q := 0) (by decide +kernel) rfl)
  <| all_c (s_iconst (n := 0) (by decide +kernel) (by decide))
  <| all_c (p_12_0 (by decide +kernel) fl_RX12_97)
  <| all_c (s_ald_n (q := 0) (by decide +kernel) rfl)
  <| all_c (s_callV (by decide +kernel) (t_X12_lay hE) cl_X12_lay ml_RX12_177 im_X12_lay se_X12_lay (by decide) rfl (rm_lt (by decide)))
  <| all_c (s_ald_n (q := 0) (by decide +kernel) rfl)
  <| all_c (s_ild_n (q := 1) (by decide +kernel) rfl)
  <| all_c (s_callV (by decide +kernel) (t_X12_isReader hE) cl_X12_isReader ml_RX12_245 im_X12_isReader se_X12_isReader (by decide) rfl (rm_lt (by decide)))
  <| all_c (s_ifeq (off := 14) (by decide +kernel) (by decide))
  <| all_c (s_ild_n (q := 2) (by decide +kernel) rfl)
  <| all_c (s_iconst (n := 1) (by decide +kernel) (by decide))
  <| all_c (s_ldcw (by decide +kernel) (G_w kk_RX12_273))
  <| all_c (s_callS (by decide +kernel) (t_X12_isIn hE) cl_X12_isIn ml_RX12_164 sm_X12_isIn (rm_lt (by decide)))
  <| all_c (s_ifne (off := 6) (by decide +kernel) (by decide))
  <| all_c (s_bipush (n := (-2)) (by decide +kernel) (by decide))
  <| all_c (s_iret (by decide +kernel) rfl)
  <| all_c (s_ldc2 (by decide +kernel) (G_w kk_RX12_414))
  <| all_c (s_lst_n (q := 3) (by decide +kernel) rfl)
  <| all_c (s_lld_n (q := 3) (by decide +kernel) rfl)
  <| all_c (s_ild_n (q := 2) (by decide +kernel) rfl)
  <| all_c (s_i2l (by decide +kernel))
  <| all_c (s_ldiv (by decide +kernel))
  <| all_c (s_lst (by decide +kernel))
  <| all_c (s_iconst (n := 0) (by decide +kernel) (by decide))
  <| all_c (s_aft (s_ist (by decide +kernel)))
  <| all_c (s_ild (by decide +kernel))
  <| all_c (s_sipush (n := 300) (by decide +kernel) (by decide))
  <| all_c (s_cmpgt (off := 36) (by decide +kernel) (by decide))
  <| all_c (s_lld_n (q := 3) (by decide +kernel) rfl)
  <| all_c (s_lld (by decide +kernel))
  <| all_c (s_lcmp (by decide +kernel))
  <| all_c (s_ifgt (off := 6) (by decide +kernel) (by decide))
  <| all_c (s_ild (by decide +kernel))
  <| all_c (s_iret (by decide +kernel) rfl)
  <| all_c (s_lld_n (q := 3) (by decide +kernel) rfl)
  <| all_c (s_bipush (n := 10) (by decide +kernel) (by decide))
  <| all_c (s_ald_n (q := 0) (by decide +kernel) rfl)
  <| all_c (s_ild_n (q := 1) (by decide +kernel) rfl)
  <| all_c (s_iconst (n := 4) (by decide +kernel) (by decide))
  <| all_c (s_callV (by decide +kernel) (t_X12_readerOf hE) cl_X12_readerOf ml_RX12_248 im_X12_readerOf se_X12_readerOf (by decide) rfl (rm_lt (by decide)))
  <| all_c (s_isub (by decide +kernel))
  <| all_c (s_i2l (by decide +kernel))
  <| all_c (s_lmul (by decide +kernel))
  <| all_c (s_ldc2 (by decide +kernel) (G_w kk_RX12_416))
  <| all_c (s_ldiv (by decide +kernel))
  <| all_c (s_lst_n (q := 3) (by decide +kernel) rfl)
  <| all_c (s_inc (n := 1) (by decide +kernel) (by decide))
  <| all_c (s_aft (s_goto (off := (-38)) (by decide +kernel) (by decide)))
  <| all_c (s_iconst (n := (-1)) (by decide +kernel) (by decide))
  <| all_c (s_iret (by decide +kernel) rfl)
  <| all_n
theorem t_X12_seen {l : Launch} {E : En_} (hE : EOK_ E) : Good_ l E yX12_seen (.code yX12_seen cX12_seen 8 (some .int) :: G_) (rm_ 3) (f_X12_seen E.2.2.2.1) := good_all hE (by decide +kernel) (a_X12_seen hE)
noncomputable def P_X12_illNight (K : Sh_)  : List (Nat × Op_) := [(0, o_ald 0 1),
  (1, o_callV K 12 (f_X12_dawn K) 0),
  (4, o_ald 0 1),
  (5, o_ic 0 1),
  (6, o_pI K 12 57),
  (9, o_ic 0 1),
  (10, o_aft [4, 5, 6, 7] (o_ist 3 1)),
  (11, o_ild 3 1),
  (12, o_ald 0 1),
  (13, o_gF K 12 14),
  (16, o_ic 390 3),
  (19, o_iald K),
  (20, o_cmpge 183),
  (23, o_ic 400 3),
  (26, o_ic 4 1),
  (27, o_ild 3 1),
  (28, o_imul),
  (29, o_iadd),
  (30, o_ist 4 2),
  (32, o_ald 0 1),
  (33, o_gF K 12 14),
  (36, o_ild 4 2),
  (38, o_ic 0 1),
  (39, o_iadd),
  (40, o_iald K),
  (41, o_ist 5 2),
  (43, o_ald 0 1),
  (44, o_gF K 12 14),
  (47, o_ild 4 2),
  (49, o_ic 3 1),
  (50, o_iadd),
  (51, o_iald K),
  (52, o_ist 6 2),
  (54, o_ild 3 1),
  (55, o_ild 2 1),
  (56, o_aft [7] (o_cmplt 69)),
  (59, o_ild 6 2),
  (61, o_ic 1 1),
  (62, o_ild 1 1),
  (63, o_ishl),
  (64, o_ic (-1) 1),
  (65, o_ixor),
  (66, o_iand),
  (67, o_aft [7] (o_ist 6 2)),
  (69, o_ild 3 1),
  (70, o_ild 2 1),
  (71, o_cmplt 80),
  (74, o_ild 5 2),
  (76, o_ild 1 1),
  (77, o_cmpeq 97),
  (80, o_ald 0 1),
  (81, o_gF K 12 14),
  (84, o_ild 4 2),
  (86, o_ic 2 1),
  (87, o_iadd),
  (88, o_iald K),
  (89, o_ifle 101),
  (92, o_ild 6 2),
  (94, o_ifne 101),
  (97, o_ic 1 1),
  (98, o_aft [7] (o_goto 102)),
  (101, o_aft [7] (o_ic 0 1)),
  (102, o_ist 7 2),
  (104, o_ild 7 2),
  (106, o_ifne 138),
  (109, o_ald 0 1),
  (110, o_ild 5 2),
  (112, o_ald 0 1),
  (113, o_gF K 12 14),
  (116, o_ild 4 2),
  (118, o_ic 1 1),
  (119, o_iadd),
  (120, o_iald K),
  (121, o_ald 0 1),
  (122, o_gF K 12 14),
  (125, o_ild 4 2),
  (127, o_ic 2 1),
  (128, o_iadd),
  (129, o_iald K),
  (130, o_ild 6 2),
  (132, o_callV K 12 (f_X12_wrong K) 4),
  (135, o_ifeq 151),
  (138, o_ald 0 1),
  (139, o_dup),
  (140, o_gI K 12 57),
  (143, o_ic 1 1),
  (144, o_iadd),
  (145, o_pI K 12 57),
  (148, o_goto 177),
  (151, o_ald 0 1),
  (152, o_ild 5 2),
  (154, o_ald 0 1),
  (155, o_gF K 12 14),
  (158, o_ild 4 2),
  (160, o_ic 1 1),
  (161, o_iadd),
  (162, o_iald K),
  (163, o_ald 0 1),
  (164, o_gF K 12 14),
  (167, o_ild 4 2),
  (169, o_ic 2 1),
  (170, o_iadd),
  (171, o_iald K),
  (172, o_ild 6 2),
  (174, o_callV K 12 (f_X12_does K) 4),
  (177, o_inc 3 1),
  (180, o_aft [4, 5, 6, 7] (o_goto 11)),
  (183, o_vret)]
noncomputable def f_X12_illNight (K : Sh_) : Fn_ := fn_ (P_X12_illNight K) 8
set_option maxRecDepth 100000 in
theorem a_X12_illNight {l : Launch} {E : En_} (hE : EOK_ E)   : All_ (Snd_ l E yX12_illNight.cls cX12_illNight 8 (none) (.code yX12_illNight cX12_illNight 8 (none) :: G_) (rm_ 5)) (P_X12_illNight E.2.2.2.1 ) :=
  all_c (s_ald_n (q := 0) (by decide +kernel) rfl)
  <| all_c (s_callV (by decide +kernel) (t_X12_dawn hE) cl_X12_dawn ml_RX12_300 im_X12_dawn se_X12_dawn (by decide) rfl (rm_lt (by decide)))
  <| all_c (s_ald_n (q := 0) (by decide +kernel) rfl)
  <| all_c (s_iconst (n := 0) (by decide +kernel) (by decide))
  <| all_c (p_12_57 (by decide +kernel) fl_RX12_418)
  <| all_c (s_iconst (n := 0) (by decide +kernel) (by decide))
  <| all_c (s_aft (s_ist_n (q := 3) (by decide +kernel) rfl))
  <| all_c (s_ild_n (q := 3) (by decide +kernel) rfl)
  <| all_c (s_ald_n (q := 0) (by decide +kernel) rfl)
  <| all_c (g_12_14 (by decide +kernel) fl_RX12_13)
  <| all_c (s_sipush (n := 390) (by decide +kernel) (by decide))
  <| all_c (s_iald (by decide +kernel))
  <| all_c (s_cmpge (off := 163) (by decide +kernel) (by decide))
  <| all_c (s_sipush (n := 400) (by decide +kernel) (by decide))
  <| all_c (s_iconst (n := 4) (by decide +kernel) (by decide))
  <| all_c (s_ild_n (q := 3) (by decide +kernel) rfl)
  <| all_c (s_imul (by decide +kernel))
  <| all_c (s_iadd (by decide +kernel))
  <| all_c (s_ist (by decide +kernel))
  <| all_c (s_ald_n (q := 0) (by decide +kernel) rfl)
  <| all_c (g_12_14 (by decide +kernel) fl_RX12_13)
  <| all_c (s_ild (by decide +kernel))
  <| all_c (s_iconst (n := 0) (by decide +kernel) (by decide))
  <| all_c (s_iadd (by decide +kernel))
  <| all_c (s_iald (by decide +kernel))
  <| all_c (s_ist (by decide +kernel))
  <| all_c (s_ald_n (q := 0) (by decide +kernel) rfl)
  <| all_c (g_12_14 (by decide +kernel) fl_RX12_13)
  <| all_c (s_ild (by decide +kernel))
  <| all_c (s_iconst (n := 3) (by decide +kernel) (by decide))
  <| all_c (s_iadd (by decide +kernel))
  <| all_c (s_iald (by decide +kernel))
  <| all_c (s_ist (by decide +kernel))
  <| all_c (s_ild_n (q := 3) (by decide +kernel) rfl)
  <| all_c (s_ild_n (q := 2) (by decide +kernel) rfl)
  <| all_c (s_aft (s_cmplt (off := 13) (by decide +kernel) (by decide)))
  <| all_c (s_ild (by decide +kernel))
  <| all_c (s_iconst (n := 1) (by decide +kernel) (by decide))
  <| all_c (s_ild_n (q := 1) (by decide +kernel) rfl)
  <| all_c (s_ishl (by decide +kernel))
  <| all_c (s_iconst (n := (-1)) (by decide +kernel) (by decide))
  <| all_c (s_ixor (by decide +kernel))
  <| all_c (s_iand (by decide +kernel))
  <| all_c (s_aft (s_ist (by decide +kernel)))
  <| all_c (s_ild_n (q := 3) (by decide +kernel) rfl)
  <| all_c (s_ild_n (q := 2) (by decide +kernel) rfl)
  <| all_c (s_cmplt (off := 9) (by decide +kernel) (by decide))
  <| all_c (s_ild (by decide +kernel))
  <| all_c (s_ild_n (q := 1) (by decide +kernel) rfl)
  <| all_c (s_cmpeq (off := 20) (by decide +kernel) (by decide))
  <| all_c (s_ald_n (q := 0) (by decide +kernel) rfl)
  <| all_c (g_12_14 (by decide +kernel) fl_RX12_13)
  <| all_c (s_ild (by decide +kernel))
  <| all_c (s_iconst (n := 2) (by decide +kernel) (by decide))
  <| all_c (s_iadd (by decide +kernel))
  <| all_c (s_iald (by decide +kernel))
  <| all_c (s_ifle (off := 12) (by decide +kernel) (by decide))
  <| all_c (s_ild (by decide +kernel))
  <| all_c (s_ifne (off := 7) (by decide +kernel) (by decide))
  <| all_c (s_iconst (n := 1) (by decide +kernel) (by decide))
  <| all_c (s_aft (s_goto (off := 4) (by decide +kernel) (by decide)))
  <| all_c (s_aft (s_iconst (n := 0) (by decide +kernel) (by decide)))
  <| all_c (s_ist (by decide +kernel))
  <| all_c (s_ild (by decide +kernel))
  <| all_c (s_ifne (off := 32) (by decide +kernel) (by decide))
  <| all_c (s_ald_n (q := 0) (by decide +kernel) rfl)
  <| all_c (s_ild (by decide +kernel))
  <| all_c (s_ald_n (q := 0) (by decide +kernel) rfl)
  <| all_c (g_12_14 (by decide +kernel) fl_RX12_13)
  <| all_c (s_ild (by decide +kernel))
  <| all_c (s_iconst (n := 1) (by decide +kernel) (by decide))
  <| all_c (s_iadd (by decide +kernel))
  <| all_c (s_iald (by decide +kernel))
  <| all_c (s_ald_n (q := 0) (by decide +kernel) rfl)
  <| all_c (g_12_14 (by decide +kernel) fl_RX12_13)
  <| all_c (s_ild (by decide +kernel))
  <| all_c (s_iconst (n := 2) (by decide +kernel) (by decide))
  <| all_c (s_iadd (by decide +kernel))
  <| all_c (s_iald (by decide +kernel))
  <| all_c (s_ild (by decide +kernel))
  <| all_c (s_callV (by decide +kernel) (t_X12_wrong hE) cl_X12_wrong ml_RX12_309 im_X12_wrong se_X12_wrong (by decide) rfl (rm_lt (by decide)))
  <| all_c (s_ifeq (off := 16) (by decide +kernel) (by decide))
  <| all_c (s_ald_n (q := 0) (by decide +kernel) rfl)
  <| all_c (s_dup (by decide +kernel))
  <| all_c (g_12_57 (by decide +kernel) fl_RX12_418)
  <| all_c (s_iconst (n := 1) (by decide +kernel) (by decide))
  <| all_c (s_iadd (by decide +kernel))
  <| all_c (p_12_57 (by decide +kernel) fl_RX12_418)
  <| all_c (s_goto (off := 29) (by decide +kernel) (by decide))
  <| all_c (s_ald_n (q := 0) (by decide +kernel) rfl)
  <| all_c (s_ild (by decide +kernel))
  <| all_c (s_ald_n (q := 0) (by decide +kernel) rfl)
  <| all_c (g_12_14 (by decide +kernel) fl_RX12_13)
  <| all_c (s_ild (by decide +kernel))
  <| all_c (s_iconst (n := 1) (by decide +kernel) (by decide))
  <| all_c (s_iadd (by decide +kernel))
  <| all_c (s_iald (by decide +kernel))
  <| all_c (s_ald_n (q := 0) (by decide +kernel) rfl)
  <| all_c (g_12_14 (by decide +kernel) fl_RX12_13)
  <| all_c (s_ild (by decide +kernel))
  <| all_c (s_iconst (n := 2) (by decide +kernel) (by decide))
  <| all_c (s_iadd (by decide +kernel))
  <| all_c (s_iald (by decide +kernel))
  <| all_c (s_ild (by decide +kernel))
  <| all_c (s_callV (by decide +kernel) (t_X12_does hE) cl_X12_does ml_RX12_313 im_X12_does se_X12_does (by decide) rfl (rm_lt (by decide)))
  <| all_c (s_inc (n := 1) (by decide +kernel) (by decide))
  <| all_c (s_aft (s_goto (off := (-169)) (by decide +kernel) (by decide)))
  <| all_c (s_vret (by decide +kernel) rfl)
  <| all_n
theorem t_X12_illNight {l : Launch} {E : En_} (hE : EOK_ E) : Good_ l E yX12_illNight (.code yX12_illNight cX12_illNight 8 (none) :: G_) (rm_ 5) (f_X12_illNight E.2.2.2.1) := good_all hE (by decide +kernel) (a_X12_illNight hE)
noncomputable def P_X12_helps (K : Sh_)  : List (Nat × Op_) := [(0, o_ild 3 1),
  (1, o_aft [5] (o_ist 4 2)),
  (3, o_ild 4 2),
  (5, o_ald 0 1),
  (6, o_gF K 12 14),
  (9, o_ic 390 3),
  (12, o_iald K),
  (13, o_cmpge 119),
  (16, o_ic 400 3),
  (19, o_ic 4 1),
  (20, o_ild 4 2),
  (22, o_imul),
  (23, o_iadd),
  (24, o_ist 5 2),
  (26, o_ald 0 1),
  (27, o_gF K 12 14),
  (30, o_ild 5 2),
  (32, o_ic 0 1),
  (33, o_iadd),
  (34, o_iald K),
  (35, o_ild 2 1),
  (36, o_cmpne 113),
  (39, o_ald 0 1),
  (40, o_gF K 12 14),
  (43, o_ild 5 2),
  (45, o_ic 2 1),
  (46, o_iadd),
  (47, o_iald K),
  (48, o_ifgt 113),
  (51, o_ald 0 1),
  (52, o_gF K 12 27),
  (55, o_ild 1 1),
  (56, o_iald K),
  (57, o_ald 0 1),
  (58, o_gF K 12 14),
  (61, o_ild 5 2),
  (63, o_ic 1 1),
  (64, o_iadd),
  (65, o_iald K),
  (66, o_callS (f_X12_has K) 2),
  (69, o_ifeq 75),
  (72, o_goto 113),
  (75, o_ald 0 1),
  (76, o_gF K 12 26),
  (79, o_ild 1 1),
  (80, o_iald K),
  (81, o_ald 0 1),
  (82, o_ild 1 1),
  (83, o_ald 0 1),
  (84, o_gF K 12 14),
  (87, o_ild 5 2),
  (89, o_ic 1 1),
  (90, o_iadd),
  (91, o_iald K),
  (92, o_callV K 12 (f_X12_timeToRead K) 2),
  (95, o_cmpge 99),
  (98, o_vret),
  (99, o_ald 0 1),
  (100, o_ild 1 1),
  (101, o_ald 0 1),
  (102, o_gF K 12 14),
  (105, o_ild 5 2),
  (107, o_ic 1 1),
  (108, o_iadd),
  (109, o_iald K),
  (110, o_callV K 12 (f_X12_reads K) 2),
  (113, o_inc 4 1),
  (116, o_aft [5] (o_goto 3)),
  (119, o_vret)]
noncomputable def f_X12_helps (K : Sh_) : Fn_ := fn_ (P_X12_helps K) 6
set_option maxRecDepth 100000 in
theorem a_X12_helps {l : Launch} {E : En_} (hE : EOK_ E)   : All_ (Snd_ l E yX12_helps.cls cX12_helps 6 (none) (.code yX12_helps cX12_helps 6 (none) :: G_) (rm_ 4)) (P_X12_helps E.2.2.2.1 ) :=
  all_c (s_ild_n (q := 3) (by decide +kernel) rfl)
  <| all_c (s_aft (s_ist (by decide +kernel)))
  <| all_c (s_ild (by decide +kernel))
  <| all_c (s_ald_n (q := 0) (by decide +kernel) rfl)
  <| all_c (g_12_14 (by decide +kernel) fl_RX12_13)
  <| all_c (s_sipush (n := 390) (by decide +kernel) (by decide))
  <| all_c (s_iald (by decide +kernel))
  <| all_c (s_cmpge (off := 106) (by decide +kernel) (by decide))
  <| all_c (s_sipush (n := 400) (by decide +kernel) (by decide))
  <| all_c (s_iconst (n := 4) (by decide +kernel) (by decide))
  <| all_c (s_ild (by decide +kernel))
  <| all_c (s_imul (by decide +kernel))
  <| all_c (s_iadd (by decide +kernel))
  <| all_c (s_ist (by decide +kernel))
  <| all_c (s_ald_n (q := 0) (by decide +kernel) rfl)
  <| all_c (g_12_14 (by decide +kernel) fl_RX12_13)
  <| all_c (s_ild (by decide +kernel))
  <| all_c (s_iconst (n := 0) (by decide +kernel) (by decide))
  <| all_c (s_iadd (by decide +kernel))
  <| all_c (s_iald (by decide +kernel))
  <| all_c (s_ild_n (q := 2) (by decide +kernel) rfl)
  <| all_c (s_cmpne (off := 77) (by decide +kernel) (by decide))
  <| all_c (s_ald_n (q := 0) (by decide +kernel) rfl)
  <| all_c (g_12_14 (by decide +kernel) fl_RX12_13)
  <| all_c (s_ild (by decide +kernel))
  <| all_c (s_iconst (n := 2) (by decide +kernel) (by decide))
  <| all_c (s_iadd (by decide +kernel))
  <| all_c (s_iald (by decide +kernel))
  <| all_c (s_ifgt (off := 65) (by decide +kernel) (by decide))
  <| all_c (s_ald_n (q := 0) (by decide +kernel) rfl)
  <| all_c (g_12_27 (by decide +kernel) fl_RX12_45)
  <| all_c (s_ild_n (q := 1) (by decide +kernel) rfl)
  <| all_c (s_iald (by decide +kernel))
  <| all_c (s_ald_n (q := 0) (by decide +kernel) rfl)
  <| all_c (g_12_14 (by decide +kernel) fl_RX12_13)
  <| all_c (s_ild (by decide +kernel))
  <| all_c (s_iconst (n := 1) (by decide +kernel) (by decide))
  <| all_c (s_iadd (by decide +kernel))
  <| all_c (s_iald (by decide +kernel))
  <| all_c (s_callS (by decide +kernel) (t_X12_has hE) cl_X12_has ml_RX12_223 sm_X12_has (rm_lt (by decide)))
  <| all_c (s_ifeq (off := 6) (by decide +kernel) (by decide))
  <| all_c (s_goto (off := 41) (by decide +kernel) (by decide))
  <| all_c (s_ald_n (q := 0) (by decide +kernel) rfl)
  <| all_c (g_12_26 (by decide +kernel) fl_RX12_42)
  <| all_c (s_ild_n (q := 1) (by decide +kernel) rfl)
  <| all_c (s_iald (by decide +kernel))
  <| all_c (s_ald_n (q := 0) (by decide +kernel) rfl)
  <| all_c (s_ild_n (q := 1) (by decide +kernel) rfl)
  <| all_c (s_ald_n (q := 0) (by decide +kernel) rfl)
  <| all_c (g_12_14 (by decide +kernel) fl_RX12_13)
  <| all_c (s_ild (by decide +kernel))
  <| all_c (s_iconst (n := 1) (by decide +kernel) (by decide))
  <| all_c (s_iadd (by decide +kernel))
  <| all_c (s_iald (by decide +kernel))
  <| all_c (s_callV (by decide +kernel) (t_X12_timeToRead hE) cl_X12_timeToRead ml_RX12_277 im_X12_timeToRead se_X12_timeToRead (by decide) rfl (rm_lt (by decide)))
  <| all_c (s_cmpge (off := 4) (by decide +kernel) (by decide))
  <| all_c (s_vret (by decide +kernel) rfl)
  <| all_c (s_ald_n (q := 0) (by decide +kernel) rfl)
  <| all_c (s_ild_n (q := 1) (by decide +kernel) rfl)
  <| all_c (s_ald_n (q := 0) (by decide +kernel) rfl)
  <| all_c (g_12_14 (by decide +kernel) fl_RX12_13)
  <| all_c (s_ild (by decide +kernel))
  <| all_c (s_iconst (n := 1) (by decide +kernel) (by decide))
  <| all_c (s_iadd (by decide +kernel))
  <| all_c (s_iald (by decide +kernel))
  <| all_c (s_callV (by decide +kernel) (t_X12_reads hE) cl_X12_reads ml_RX12_292 im_X12_reads se_X12_reads (by decide) rfl (rm_lt (by decide)))
  <| all_c (s_inc (n := 1) (by decide +kernel) (by decide))
  <| all_c (s_aft (s_goto (off := (-113)) (by decide +kernel) (by decide)))
  <| all_c (s_vret (by decide +kernel) rfl)
  <| all_n
theorem t_X12_helps {l : Launch} {E : En_} (hE : EOK_ E) : Good_ l E yX12_helps (.code yX12_helps cX12_helps 6 (none) :: G_) (rm_ 4) (f_X12_helps E.2.2.2.1) := good_all hE (by decide +kernel) (a_X12_helps hE)
noncomputable def P_X12_ill (K : Sh_)  : List (Nat × Op_) := [(0, o_ald 0 1),
  (1, o_ic 0 1),
  (2, o_pI K 12 0),
  (5, o_ald 0 1),
  (6, o_callV K 12 (f_X12_lay K) 0),
  (9, o_ald 0 1),
  (10, o_ild 1 1),
  (11, o_callV K 12 (f_X12_isReader K) 1),
  (14, o_ifeq 42),
  (17, o_ild 2 1),
  (18, o_ic 0 1),
  (19, o_ald 0 1),
  (20, o_gF K 12 14),
  (23, o_ic 390 3),
  (26, o_iald K),
  (27, o_callS (f_X12_isIn K) 3),
  (30, o_ifeq 42),
  (33, o_ild 3 1),
  (34, o_ic 0 1),
  (35, o_ic 3 1),
  (36, o_callS (f_X12_isIn K) 3),
  (39, o_ifne 44),
  (42, o_ic (-1) 1),
  (43, o_iret),
  (44, o_ald 0 1),
  (45, o_ild 1 1),
  (46, o_ild 2 1),
  (47, o_callV K 12 (f_X12_illNight K) 2),
  (50, o_ild 3 1),
  (51, o_ic 2 1),
  (52, o_cmpge 75),
  (55, o_ild 3 1),
  (56, o_ifne 70),
  (59, o_ald 0 1),
  (60, o_ald 0 1),
  (61, o_callV K 12 (f_X12_readers K) 0),
  (64, o_callV K 12 (f_X12_sum K) 1),
  (67, o_goto 74),
  (70, o_ald 0 1),
  (71, o_gI K 12 57),
  (74, o_iret),
  (75, o_ic (-1) 1),
  (76, o_ist 4 2),
  (78, o_ic (-1) 1),
  (79, o_ist 5 2),
  (81, o_ic 0 1),
  (82, o_aft [7] (o_ist 6 2)),
  (84, o_ild 6 2),
  (86, o_ald 0 1),
  (87, o_callV K 12 (f_X12_readers K) 0),
  (90, o_cmpge 150),
  (93, o_ild 6 2),
  (95, o_ild 1 1),
  (96, o_cmpne 102),
  (99, o_goto 144),
  (102, o_ald 0 1),
  (103, o_ild 1 1),
  (104, o_ild 2 1),
  (105, o_callV K 12 (f_X12_illNight K) 2),
  (108, o_ald 0 1),
  (109, o_ild 6 2),
  (111, o_ild 1 1),
  (112, o_ild 2 1),
  (113, o_callV K 12 (f_X12_helps K) 3),
  (116, o_ald 0 1),
  (117, o_ald 0 1),
  (118, o_callV K 12 (f_X12_readers K) 0),
  (121, o_callV K 12 (f_X12_sum K) 1),
  (124, o_ist 7 2),
  (126, o_ild 7 2),
  (128, o_ild 5 2),
  (130, o_cmpgt 136),
  (133, o_goto 144),
  (136, o_ild 7 2),
  (138, o_ist 5 2),
  (140, o_ild 6 2),
  (142, o_ist 4 2),
  (144, o_inc 6 1),
  (147, o_aft [7] (o_goto 84)),
  (150, o_ild 3 1),
  (151, o_ic 2 1),
  (152, o_cmpne 160),
  (155, o_ild 4 2),
  (157, o_goto 162),
  (160, o_ild 5 2),
  (162, o_iret)]
noncomputable def f_X12_ill (K : Sh_) : Fn_ := fn_ (P_X12_ill K) 8
set_option maxRecDepth 100000 in
theorem a_X12_ill {l : Launch} {E : En_} (hE : EOK_ E)   : All_ (Snd_ l E yX12_ill.cls cX12_ill 8 (some .int) (.code yX12_ill cX12_ill 8 (some .int) :: G_) (rm_ 6)) (P_X12_ill E.2.2.2.1 ) :=
  all_c (s_ald_n (q := 0) (by decide +kernel) rfl)
  <| all_c (s_iconst (n := 0) (by decide +kernel) (by decide))
  <| all_c (p_12_0 (by decide +kernel) fl_RX12_97)
  <| all_c (s_ald_n (q := 0) (by decide +kernel) rfl)
  <| all_c (s_callV (by decide +kernel) (t_X12_lay hE) cl_X12_lay ml_RX12_177 im_X12_lay se_X12_lay (by decide) rfl (rm_lt (by decide)))
  <| all_c (s_ald_n (q := 0) (by decide +kernel) rfl)
  <| all_c (s_ild_n (q := 1) (by decide +kernel) rfl)
  <| all_c (s_callV (by decide +kernel) (t_X12_isReader hE) cl_X12_isReader ml_RX12_245 im_X12_isReader se_X12_isReader (by decide) rfl (rm_lt (by decide)))
  <| all_c (s_ifeq (off := 28) (by decide +kernel) (by decide))
  <| all_c (s_ild_n (q := 2) (by decide +kernel) rfl)
  <| all_c (s_iconst (n := 0) (by decide +kernel) (by decide))
  <| all_c (s_ald_n (q := 0) (by decide +kernel) rfl)
  <| all_c (g_12_14 (by decide +kernel) fl_RX12_13)
  <| all_c (s_sipush (n := 390) (by decide +kernel) (by decide))
  <| all_c (s_iald (by decide +kernel))
  <| all_c (s_callS (by decide +kernel) (t_X12_isIn hE) cl_X12_isIn ml_RX12_164 sm_X12_isIn (rm_lt (by decide)))
  <| all_c (s_ifeq (off := 12) (by decide +kernel) (by decide))
  <| all_c (s_ild_n (q := 3) (by decide +kernel) rfl)
  <| all_c (s_iconst (n := 0) (by decide +kernel) (by decide))
  <| all_c (s_iconst (n := 3) (by decide +kernel) (by decide))
  <| all_c (s_callS (by decide +kernel) (t_X12_isIn hE) cl_X12_isIn ml_RX12_164 sm_X12_isIn (rm_lt (by decide)))
  <| all_c (s_ifne (off := 5) (by decide +kernel) (by decide))
  <| all_c (s_iconst (n := (-1)) (by decide +kernel) (by decide))
  <| all_c (s_iret (by decide +kernel) rfl)
  <| all_c (s_ald_n (q := 0) (by decide +kernel) rfl)
  <| all_c (s_ild_n (q := 1) (by decide +kernel) rfl)
  <| all_c (s_ild_n (q := 2) (by decide +kernel) rfl)
  <| all_c (s_callV (by decide +kernel) (t_X12_illNight hE) cl_X12_illNight ml_RX12_421 im_X12_illNight se_X12_illNight (by decide) rfl (rm_lt (by decide)))
  <| all_c (s_ild_n (q := 3) (by decide +kernel) rfl)
  <| all_c (s_iconst (n := 2) (by decide +kernel) (by decide))
  <| all_c (s_cmpge (off := 23) (by decide +kernel) (by decide))
  <| all_c (s_ild_n (q := 3) (by decide +kernel) rfl)
  <| all_c (s_ifne (off := 14) (by decide +kernel) (by decide))
  <| all_c (s_ald_n (q := 0) (by decide +kernel) rfl)
  <| all_c (s_ald_n (q := 0) (by decide +kernel) rfl)
  <| all_c (s_callV (by decide +kernel) (t_X12_readers hE) cl_X12_readers ml_RX12_191 im_X12_readers se_X12_readers (by decide) rfl (rm_lt (by decide)))
  <| all_c (s_callV (by decide +kernel) (t_X12_sum hE) cl_X12_sum ml_RX12_325 im_X12_sum se_X12_sum (by decide) rfl (rm_lt (by decide)))
  <| all_c (s_goto (off := 7) (by decide +kernel) (by decide))
  <| all_c (s_ald_n (q := 0) (by decide +kernel) rfl)
  <| all_c (g_12_57 (by decide +kernel) fl_RX12_418)
  <| all_c (s_iret (by decide +kernel) rfl)
  <| all_c (s_iconst (n := (-1)) (by decide +kernel) (by decide))
  <| all_c (s_ist (by decide +kernel))
  <| all_c (s_iconst (n := (-1)) (by decide +kernel) (by decide))
  <| all_c (s_ist (by decide +kernel))
  <| all_c (s_iconst (n := 0) (by decide +kernel) (by decide))
  <| all_c (s_aft (s_ist (by decide +kernel)))
  <| all_c (s_ild (by decide +kernel))
  <| all_c (s_ald_n (q := 0) (by decide +kernel) rfl)
  <| all_c (s_callV (by decide +kernel) (t_X12_readers hE) cl_X12_readers ml_RX12_191 im_X12_readers se_X12_readers (by decide) rfl (rm_lt (by decide)))
  <| all_c (s_cmpge (off := 60) (by decide +kernel) (by decide))
  <| all_c (s_ild (by decide +kernel))
  <| all_c (s_ild_n (q := 1) (by decide +kernel) rfl)
  <| all_c (s_cmpne (off := 6) (by decide +kernel) (by decide))
  <| all_c (s_goto (off := 45) (by decide +kernel) (by decide))
  <| all_c (s_ald_n (q := 0) (by decide +kernel) rfl)
  <| all_c (s_ild_n (q := 1) (by decide +kernel) rfl)
  <| all_c (s_ild_n (q := 2) (by decide +kernel) rfl)
  <| all_c (s_callV (by decide +kernel) (t_X12_illNight hE) cl_X12_illNight ml_RX12_421 im_X12_illNight se_X12_illNight (by decide) rfl (rm_lt (by decide)))
  <| all_c (s_ald_n (q := 0) (by decide +kernel) rfl)
  <| all_c (s_ild (by decide +kernel))
  <| all_c (s_ild_n (q := 1) (by decide +kernel) rfl)
  <| all_c (s_ild_n (q := 2) (by decide +kernel) rfl)
  <| all_c (s_callV (by decide +kernel) (t_X12_helps hE) cl_X12_helps ml_RX12_424 im_X12_helps se_X12_helps (by decide) rfl (rm_lt (by decide)))
  <| all_c (s_ald_n (q := 0) (by decide +kernel) rfl)
  <| all_c (s_ald_n (q := 0) (by decide +kernel) rfl)
  <| all_c (s_callV (by decide +kernel) (t_X12_readers hE) cl_X12_readers ml_RX12_191 im_X12_readers se_X12_readers (by decide) rfl (rm_lt (by decide)))
  <| all_c (s_callV (by decide +kernel) (t_X12_sum hE) cl_X12_sum ml_RX12_325 im_X12_sum se_X12_sum (by decide) rfl (rm_lt (by decide)))
  <| all_c (s_ist (by decide +kernel))
  <| all_c (s_ild (by decide +kernel))
  <| all_c (s_ild (by decide +kernel))
  <| all_c (s_cmpgt (off := 6) (by decide +kernel) (by decide))
  <| all_c (s_goto (off := 11) (by decide +kernel) (by decide))
  <| all_c (s_ild (by decide +kernel))
  <| all_c (s_ist (by decide +kernel))
  <| all_c (s_ild (by decide +kernel))
  <| all_c (s_ist (by decide +kernel))
  <| all_c (s_inc (n := 1) (by decide +kernel) (by decide))
  <| all_c (s_aft (s_goto (off := (-63)) (by decide +kernel) (by decide)))
  <| all_c (s_ild_n (q := 3) (by decide +kernel) rfl)
  <| all_c (s_iconst (n := 2) (by decide +kernel) (by decide))
  <| all_c (s_cmpne (off := 8) (by decide +kernel) (by decide))
  <| all_c (s_ild (by decide +kernel))
  <| all_c (s_goto (off := 5) (by decide +kernel) (by decide))
  <| all_c (s_ild (by decide +kernel))
  <| all_c (s_iret (by decide +kernel) rfl)
  <| all_n
theorem t_X12_ill {l : Launch} {E : En_} (hE : EOK_ E) : Good_ l E yX12_ill (.code yX12_ill cX12_ill 8 (some .int) :: G_) (rm_ 6) (f_X12_ill E.2.2.2.1) := good_all hE (by decide +kernel) (a_X12_ill hE)
noncomputable def P_X12_lays (K : Sh_)  : List (Nat × Op_) := [(0, o_ic 4 1),
  (1, o_ald 0 1),
  (2, o_gI K 12 59),
  (5, o_imul),
  (6, o_ist 5 2),
  (8, o_ald 0 1),
  (9, o_gF K 12 58),
  (12, o_ild 5 2),
  (14, o_ild 1 1),
  (15, o_iast K),
  (16, o_ald 0 1),
  (17, o_gF K 12 58),
  (20, o_ild 5 2),
  (22, o_ic 1 1),
  (23, o_iadd),
  (24, o_ild 2 1),
  (25, o_iast K),
  (26, o_ald 0 1),
  (27, o_gF K 12 58),
  (30, o_ild 5 2),
  (32, o_ic 2 1),
  (33, o_iadd),
  (34, o_ild 3 1),
  (35, o_iast K),
  (36, o_ald 0 1),
  (37, o_gF K 12 58),
  (40, o_ild 5 2),
  (42, o_ic 3 1),
  (43, o_iadd),
  (44, o_ild 4 2),
  (46, o_iast K),
  (47, o_ald 0 1),
  (48, o_dup),
  (49, o_gI K 12 59),
  (52, o_ic 1 1),
  (53, o_iadd),
  (54, o_pI K 12 59),
  (57, o_ald 0 1),
  (58, o_gI K 12 59),
  (61, o_ic 1 1),
  (62, o_isub),
  (63, o_iret)]
noncomputable def f_X12_lays (K : Sh_) : Fn_ := fn_ (P_X12_lays K) 6
set_option maxRecDepth 100000 in
theorem a_X12_lays {l : Launch} {E : En_} (hE : EOK_ E)   : All_ (Snd_ l E yX12_lays.cls cX12_lays 6 (some .int) (.code yX12_lays cX12_lays 6 (some .int) :: G_) (rm_ 1)) (P_X12_lays E.2.2.2.1 ) :=
  all_c (s_iconst (n := 4) (by decide +kernel) (by decide))
  <| all_c (s_ald_n (q := 0) (by decide +kernel) rfl)
  <| all_c (g_12_59 (by decide +kernel) fl_RX12_427)
  <| all_c (s_imul (by decide +kernel))
  <| all_c (s_ist (by decide +kernel))
  <| all_c (s_ald_n (q := 0) (by decide +kernel) rfl)
  <| all_c (g_12_58 (by decide +kernel) fl_RX12_94)
  <| all_c (s_ild (by decide +kernel))
  <| all_c (s_ild_n (q := 1) (by decide +kernel) rfl)
  <| all_c (s_iast (by decide +kernel))
  <| all_c (s_ald_n (q := 0) (by decide +kernel) rfl)
  <| all_c (g_12_58 (by decide +kernel) fl_RX12_94)
  <| all_c (s_ild (by decide +kernel))
  <| all_c (s_iconst (n := 1) (by decide +kernel) (by decide))
  <| all_c (s_iadd (by decide +kernel))
  <| all_c (s_ild_n (q := 2) (by decide +kernel) rfl)
  <| all_c (s_iast (by decide +kernel))
  <| all_c (s_ald_n (q := 0) (by decide +kernel) rfl)
  <| all_c (g_12_58 (by decide +kernel) fl_RX12_94)
  <| all_c (s_ild (by decide +kernel))
  <| all_c (s_iconst (n := 2) (by decide +kernel) (by decide))
  <| all_c (s_iadd (by decide +kernel))
  <| all_c (s_ild_n (q := 3) (by decide +kernel) rfl)
  <| all_c (s_iast (by decide +kernel))
  <| all_c (s_ald_n (q := 0) (by decide +kernel) rfl)
  <| all_c (g_12_58 (by decide +kernel) fl_RX12_94)
  <| all_c (s_ild (by decide +kernel))
  <| all_c (s_iconst (n := 3) (by decide +kernel) (by decide))
  <| all_c (s_iadd (by decide +kernel))
  <| all_c (s_ild (by decide +kernel))
  <| all_c (s_iast (by decide +kernel))
  <| all_c (s_ald_n (q := 0) (by decide +kernel) rfl)
  <| all_c (s_dup (by decide +kernel))
  <| all_c (g_12_59 (by decide +kernel) fl_RX12_427)
  <| all_c (s_iconst (n := 1) (by decide +kernel) (by decide))
  <| all_c (s_iadd (by decide +kernel))
  <| all_c (p_12_59 (by decide +kernel) fl_RX12_427)
  <| all_c (s_ald_n (q := 0) (by decide +kernel) rfl)
  <| all_c (g_12_59 (by decide +kernel) fl_RX12_427)
  <| all_c (s_iconst (n := 1) (by decide +kernel) (by decide))
  <| all_c (s_isub (by decide +kernel))
  <| all_c (s_iret (by decide +kernel) rfl)
  <| all_n
theorem t_X12_lays {l : Launch} {E : En_} (hE : EOK_ E) : Good_ l E yX12_lays (.code yX12_lays cX12_lays 6 (some .int) :: G_) (rm_ 1) (f_X12_lays E.2.2.2.1) := good_all hE (by decide +kernel) (a_X12_lays hE)
noncomputable def P_X12_readCompare (K : Sh_)  : List (Nat × Op_) := [(0, o_ild 1 1),
  (1, o_ist 2 1),
  (2, o_ild 1 1),
  (3, o_ic 16 2),
  (5, o_aft [3] (o_cmpne 27)),
  (8, o_ald 0 1),
  (9, o_ic 0 1),
  (10, o_ald 0 1),
  (11, o_callV K 12 (f_X12_chaps K) 0),
  (14, o_callV K 12 (f_X12_readNamed K) 2),
  (17, o_ifne 22),
  (20, o_ic 0 1),
  (21, o_zret),
  (22, o_ald 0 1),
  (23, o_gI K 12 13),
  (26, o_aft [3] (o_ist 2 1)),
  (27, o_ald 0 1),
  (28, o_ic 60 2),
  (30, o_callV K 12 (f_X12_isSign K) 1),
  (33, o_aft [3] (o_ifne 60)),
  (36, o_ald 0 1),
  (37, o_ic 61 2),
  (39, o_callV K 12 (f_X12_isSign K) 1),
  (42, o_aft [3] (o_ifne 60)),
  (45, o_ald 0 1),
  (46, o_ic 62 2),
  (48, o_callV K 12 (f_X12_isSign K) 1),
  (51, o_aft [3] (o_ifne 60)),
  (54, o_ald 0 1),
  (55, o_ic 1 1),
  (56, o_callV K 12 (f_X12_bad K) 1),
  (59, o_zret),
  (60, o_ald 0 1),
  (61, o_gI K 12 9),
  (64, o_ist 3 1),
  (65, o_ald 0 1),
  (66, o_callV K 12 (f_X12_go K) 0),
  (69, o_ald 0 1),
  (70, o_ic 0 1),
  (71, o_ic 999 3),
  (74, o_callV K 12 (f_X12_readNumber K) 2),
  (77, o_ifne 82),
  (80, o_ic 0 1),
  (81, o_zret),
  (82, o_ald 0 1),
  (83, o_ald 0 1),
  (84, o_ild 1 1),
  (85, o_ic 16 2),
  (87, o_cmpne 95),
  (90, o_ic 6 2),
  (92, o_goto 97),
  (95, o_ic 7 2),
  (97, o_ild 2 1),
  (98, o_ald 0 1),
  (99, o_gI K 12 13),
  (102, o_ild 3 1),
  (103, o_callV K 12 (f_X12_lays K) 4),
  (106, o_pI K 12 62),
  (109, o_ic 1 1),
  (110, o_zret)]
noncomputable def f_X12_readCompare (K : Sh_) : Fn_ := fn_ (P_X12_readCompare K) 4
set_option maxRecDepth 100000 in
theorem a_X12_readCompare {l : Launch} {E : En_} (hE : EOK_ E)   : All_ (Snd_ l E yX12_readCompare.cls cX12_readCompare 4 (some .boolean) (.code yX12_readCompare cX12_readCompare 4 (some .boolean) :: G_) (rm_ 6)) (P_X12_readCompare E.2.2.2.1 ) :=
  all_c (s_ild_n (q := 1) (by decide +kernel) rfl)
  <| all_c (s_ist_n (q := 2) (by decide +kernel) rfl)
  <| all_c (s_ild_n (q := 1) (by decide +kernel) rfl)
  <| all_c (s_bipush (n := 16) (by decide +kernel) (by decide))
  <| all_c (s_aft (s_cmpne (off := 22) (by decide +kernel) (by decide)))
  <| all_c (s_ald_n (q := 0) (by decide +kernel) rfl)
  <| all_c (s_iconst (n := 0) (by decide +kernel) (by decide))
  <| all_c (s_ald_n (q := 0) (by decide +kernel) rfl)
  <| all_c (s_callV (by decide +kernel) (t_X12_chaps hE) cl_X12_chaps ml_RX12_188 im_X12_chaps se_X12_chaps (by decide) rfl (rm_lt (by decide)))
  <| all_c (s_callV (by decide +kernel) (t_X12_readNamed hE) cl_X12_readNamed ml_RX12_257 im_X12_readNamed se_X12_readNamed (by decide) rfl (rm_lt (by decide)))
  <| all_c (s_ifne (off := 5) (by decide +kernel) (by decide))
  <| all_c (s_iconst (n := 0) (by decide +kernel) (by decide))
  <| all_c (s_zret (by decide +kernel) rfl)
  <| all_c (s_ald_n (q := 0) (by decide +kernel) rfl)
  <| all_c (g_12_13 (by decide +kernel) fl_RX12_168)
  <| all_c (s_aft (s_ist_n (q := 2) (by decide +kernel) rfl))
  <| all_c (s_ald_n (q := 0) (by decide +kernel) rfl)
  <| all_c (s_bipush (n := 60) (by decide +kernel) (by decide))
  <| all_c (s_callV (by decide +kernel) (t_X12_isSign hE) cl_X12_isSign ml_RX12_174 im_X12_isSign se_X12_isSign (by decide) rfl (rm_lt (by decide)))
  <| all_c (s_aft (s_ifne (off := 27) (by decide +kernel) (by decide)))
  <| all_c (s_ald_n (q := 0) (by decide +kernel) rfl)
  <| all_c (s_bipush (n := 61) (by decide +kernel) (by decide))
  <| all_c (s_callV (by decide +kernel) (t_X12_isSign hE) cl_X12_isSign ml_RX12_174 im_X12_isSign se_X12_isSign (by decide) rfl (rm_lt (by decide)))
  <| all_c (s_aft (s_ifne (off := 18) (by decide +kernel) (by decide)))
  <| all_c (s_ald_n (q := 0) (by decide +kernel) rfl)
  <| all_c (s_bipush (n := 62) (by decide +kernel) (by decide))
  <| all_c (s_callV (by decide +kernel) (t_X12_isSign hE) cl_X12_isSign ml_RX12_174 im_X12_isSign se_X12_isSign (by decide) rfl (rm_lt (by decide)))
  <| all_c (s_aft (s_ifne (off := 9) (by decide +kernel) (by decide)))
  <| all_c (s_ald_n (q := 0) (by decide +kernel) rfl)
  <| all_c (s_iconst (n := 1) (by decide +kernel) (by decide))
  <| all_c (s_callV (by decide +kernel) (t_X12_bad hE) cl_X12_bad ml_RX12_161 im_X12_bad se_X12_bad (by decide) rfl (rm_lt (by decide)))
  <| all_c (s_zret (by decide +kernel) rfl)
  <| all_c (s_ald_n (q := 0) (by decide +kernel) rfl)
  <| all_c (g_12_9 (by decide +kernel) fl_RX12_129)
  <| all_c (s_ist_n (q := 3) (by decide +kernel) rfl)
  <| all_c (s_ald_n (q := 0) (by decide +kernel) rfl)
  <| all_c (s_callV (by decide +kernel) (t_X12_go hE) cl_X12_go ml_RX12_171 im_X12_go se_X12_go (by decide) rfl (rm_lt (by decide)))
  <| all_c (s_ald_n (q := 0) (by decide +kernel) rfl)
  <| all_c (s_iconst (n := 0) (by decide +kernel) (by decide))
  <| all_c (s_sipush (n := 999) (by decide +kernel) (by decide))
  <| all_c (s_callV (by decide +kernel) (t_X12_readNumber hE) cl_X12_readNumber ml_RX12_204 im_X12_readNumber se_X12_readNumber (by decide) rfl (rm_lt (by decide)))
  <| all_c (s_ifne (off := 5) (by decide +kernel) (by decide))
  <| all_c (s_iconst (n := 0) (by decide +kernel) (by decide))
  <| all_c (s_zret (by decide +kernel) rfl)
  <| all_c (s_ald_n (q := 0) (by decide +kernel) rfl)
  <| all_c (s_ald_n (q := 0) (by decide +kernel) rfl)
  <| all_c (s_ild_n (q := 1) (by decide +kernel) rfl)
  <| all_c (s_bipush (n := 16) (by decide +kernel) (by decide))
  <| all_c (s_cmpne (off := 8) (by decide +kernel) (by decide))
  <| all_c (s_bipush (n := 6) (by decide +kernel) (by decide))
  <| all_c (s_goto (off := 5) (by decide +kernel) (by decide))
  <| all_c (s_bipush (n := 7) (by decide +kernel) (by decide))
  <| all_c (s_ild_n (q := 2) (by decide +kernel) rfl)
  <| all_c (s_ald_n (q := 0) (by decide +kernel) rfl)
  <| all_c (g_12_13 (by decide +kernel) fl_RX12_168)
  <| all_c (s_ild_n (q := 3) (by decide +kernel) rfl)
  <| all_c (s_callV (by decide +kernel) (t_X12_lays hE) cl_X12_lays ml_RX12_436 im_X12_lays se_X12_lays (by decide) rfl (rm_lt (by decide)))
  <| all_c (p_12_62 (by decide +kernel) fl_RX12_433)
  <| all_c (s_iconst (n := 1) (by decide +kernel) (by decide))
  <| all_c (s_zret (by decide +kernel) rfl)
  <| all_n
theorem t_X12_readCompare {l : Launch} {E : En_} (hE : EOK_ E) : Good_ l E yX12_readCompare (.code yX12_readCompare cX12_readCompare 4 (some .boolean) :: G_) (rm_ 6) (f_X12_readCompare E.2.2.2.1) := good_all hE (by decide +kernel) (a_X12_readCompare hE)
noncomputable def P_X12_readOf (K : Sh_)  : List (Nat × Op_) := [(0, o_ald 0 1),
  (1, o_ic 0 1),
  (2, o_ald 0 1),
  (3, o_callV K 12 (f_X12_chaps K) 0),
  (6, o_callV K 12 (f_X12_readNamed K) 2),
  (9, o_ifne 14),
  (12, o_ic 0 1),
  (13, o_zret),
  (14, o_ald 0 1),
  (15, o_ald 0 1),
  (16, o_ild 1 1),
  (17, o_ic 14 2),
  (19, o_cmpne 26),
  (22, o_ic 4 1),
  (23, o_goto 27),
  (26, o_ic 5 1),
  (27, o_ald 0 1),
  (28, o_gI K 12 13),
  (31, o_ic 0 1),
  (32, o_ic 0 1),
  (33, o_callV K 12 (f_X12_lays K) 4),
  (36, o_pI K 12 62),
  (39, o_ic 1 1),
  (40, o_zret)]
noncomputable def f_X12_readOf (K : Sh_) : Fn_ := fn_ (P_X12_readOf K) 2
set_option maxRecDepth 100000 in
theorem a_X12_readOf {l : Launch} {E : En_} (hE : EOK_ E)   : All_ (Snd_ l E yX12_readOf.cls cX12_readOf 2 (some .boolean) (.code yX12_readOf cX12_readOf 2 (some .boolean) :: G_) (rm_ 6)) (P_X12_readOf E.2.2.2.1 ) :=
  all_c (s_ald_n (q := 0) (by decide +kernel) rfl)
  <| all_c (s_iconst (n := 0) (by decide +kernel) (by decide))
  <| all_c (s_ald_n (q := 0) (by decide +kernel) rfl)
  <| all_c (s_callV (by decide +kernel) (t_X12_chaps hE) cl_X12_chaps ml_RX12_188 im_X12_chaps se_X12_chaps (by decide) rfl (rm_lt (by decide)))
  <| all_c (s_callV (by decide +kernel) (t_X12_readNamed hE) cl_X12_readNamed ml_RX12_257 im_X12_readNamed se_X12_readNamed (by decide) rfl (rm_lt (by decide)))
  <| all_c (s_ifne (off := 5) (by decide +kernel) (by decide))
  <| all_c (s_iconst (n := 0) (by decide +kernel) (by decide))
  <| all_c (s_zret (by decide +kernel) rfl)
  <| all_c (s_ald_n (q := 0) (by decide +kernel) rfl)
  <| all_c (s_ald_n (q := 0) (by decide +kernel) rfl)
  <| all_c (s_ild_n (q := 1) (by decide +kernel) rfl)
  <| all_c (s_bipush (n := 14) (by decide +kernel) (by decide))
  <| all_c (s_cmpne (off := 7) (by decide +kernel) (by decide))
  <| all_c (s_iconst (n := 4) (by decide +kernel) (by decide))
  <| all_c (s_goto (off := 4) (by decide +kernel) (by decide))
  <| all_c (s_iconst (n := 5) (by decide +kernel) (by decide))
  <| all_c (s_ald_n (q := 0) (by decide +kernel) rfl)
  <| all_c (g_12_13 (by decide +kernel) fl_RX12_168)
  <| all_c (s_iconst (n := 0) (by decide +kernel) (by decide))
  <| all_c (s_iconst (n := 0) (by decide +kernel) (by decide))
  <| all_c (s_callV (by decide +kernel) (t_X12_lays hE) cl_X12_lays ml_RX12_436 im_X12_lays se_X12_lays (by decide) rfl (rm_lt (by decide)))
  <| all_c (p_12_62 (by decide +kernel) fl_RX12_433)
  <| all_c (s_iconst (n := 1) (by decide +kernel) (by decide))
  <| all_c (s_zret (by decide +kernel) rfl)
  <| all_n
theorem t_X12_readOf {l : Launch} {E : En_} (hE : EOK_ E) : Good_ l E yX12_readOf (.code yX12_readOf cX12_readOf 2 (some .boolean) :: G_) (rm_ 6) (f_X12_readOf E.2.2.2.1) := good_all hE (by decide +kernel) (a_X12_readOf hE)
noncomputable def P_X12_readOr (K : Sh_) (r_X12_readOr : Fn_) (r_X12_readAnd : Fn_) (r_X12_readOne : Fn_) (r_X12_readBracket : Fn_) (r_X12_readNot : Fn_) : List (Nat × Op_) := [(0, o_ald 0 1),
  (1, o_callV K 12 (r_X12_readAnd) 0),
  (4, o_ifne 9),
  (7, o_ic 0 1),
  (8, o_zret),
  (9, o_ald 0 1),
  (10, o_gI K 12 62),
  (13, o_ist 1 1),
  (14, o_ald 0 1),
  (15, o_ic 11 2),
  (17, o_callV K 12 (f_X12_isWord K) 1),
  (20, o_ifeq 51),
  (23, o_ald 0 1),
  (24, o_callV K 12 (f_X12_go K) 0),
  (27, o_ald 0 1),
  (28, o_callV K 12 (r_X12_readAnd) 0),
  (31, o_ifne 36),
  (34, o_ic 0 1),
  (35, o_zret),
  (36, o_ald 0 1),
  (37, o_ic 3 1),
  (38, o_ild 1 1),
  (39, o_ald 0 1),
  (40, o_gI K 12 62),
  (43, o_ic 0 1),
  (44, o_callV K 12 (f_X12_lays K) 4),
  (47, o_ist 1 1),
  (48, o_goto 14),
  (51, o_ald 0 1),
  (52, o_ild 1 1),
  (53, o_pI K 12 62),
  (56, o_ic 1 1),
  (57, o_zret)]
noncomputable def P_X12_readAnd (K : Sh_) (r_X12_readOr : Fn_) (r_X12_readAnd : Fn_) (r_X12_readOne : Fn_) (r_X12_readBracket : Fn_) (r_X12_readNot : Fn_) : List (Nat × Op_) := [(0, o_ald 0 1),
  (1, o_callV K 12 (r_X12_readOne) 0),
  (4, o_ifne 9),
  (7, o_ic 0 1),
  (8, o_zret),
  (9, o_ald 0 1),
  (10, o_gI K 12 62),
  (13, o_ist 1 1),
  (14, o_ald 0 1),
  (15, o_ic 12 2),
  (17, o_callV K 12 (f_X12_isWord K) 1),
  (20, o_ifeq 51),
  (23, o_ald 0 1),
  (24, o_callV K 12 (f_X12_go K) 0),
  (27, o_ald 0 1),
  (28, o_callV K 12 (r_X12_readOne) 0),
  (31, o_ifne 36),
  (34, o_ic 0 1),
  (35, o_zret),
  (36, o_ald 0 1),
  (37, o_ic 2 1),
  (38, o_ild 1 1),
  (39, o_ald 0 1),
  (40, o_gI K 12 62),
  (43, o_ic 0 1),
  (44, o_callV K 12 (f_X12_lays K) 4),
  (47, o_ist 1 1),
  (48, o_goto 14),
  (51, o_ald 0 1),
  (52, o_ild 1 1),
  (53, o_pI K 12 62),
  (56, o_ic 1 1),
  (57, o_zret)]
noncomputable def P_X12_readOne (K : Sh_) (r_X12_readOr : Fn_) (r_X12_readAnd : Fn_) (r_X12_readOne : Fn_) (r_X12_readBracket : Fn_) (r_X12_readNot : Fn_) : List (Nat × Op_) := [(0, o_ald 0 1),
  (1, o_ic 40 2),
  (3, o_callV K 12 (f_X12_isSign K) 1),
  (6, o_ist 1 1),
  (7, o_ic 13 2),
  (9, o_aft [3] (o_ist 2 1)),
  (10, o_ild 2 1),
  (11, o_ic 19 2),
  (13, o_cmpgt 30),
  (16, o_ald 0 1),
  (17, o_ild 2 1),
  (18, o_callV K 12 (f_X12_isWord K) 1),
  (21, o_ifne 30),
  (24, o_inc 2 1),
  (27, o_aft [3] (o_goto 10)),
  (30, o_ild 1 1),
  (31, o_aft [3] (o_ifne 46)),
  (34, o_ild 2 1),
  (35, o_ic 19 2),
  (37, o_aft [3] (o_cmple 46)),
  (40, o_ald 0 1),
  (41, o_ic 1 1),
  (42, o_callV K 12 (f_X12_bad K) 1),
  (45, o_zret),
  (46, o_ald 0 1),
  (47, o_gI K 12 60),
  (50, o_ic 20 2),
  (52, o_cmpeq 64),
  (55, o_ald 0 1),
  (56, o_gI K 12 61),
  (59, o_ic 8 2),
  (61, o_cmpne 70),
  (64, o_ald 0 1),
  (65, o_ic 4 1),
  (66, o_callV K 12 (f_X12_bad K) 1),
  (69, o_zret),
  (70, o_ald 0 1),
  (71, o_dup),
  (72, o_gI K 12 60),
  (75, o_ic 1 1),
  (76, o_iadd),
  (77, o_pI K 12 60),
  (80, o_ald 0 1),
  (81, o_dup),
  (82, o_gI K 12 61),
  (85, o_ic 1 1),
  (86, o_iadd),
  (87, o_pI K 12 61),
  (90, o_ald 0 1),
  (91, o_callV K 12 (f_X12_go K) 0),
  (94, o_ild 1 1),
  (95, o_ifeq 105),
  (98, o_ald 0 1),
  (99, o_callV K 12 (r_X12_readBracket) 0),
  (102, o_goto 137),
  (105, o_ild 2 1),
  (106, o_ic 13 2),
  (108, o_cmpne 118),
  (111, o_ald 0 1),
  (112, o_callV K 12 (r_X12_readNot) 0),
  (115, o_goto 137),
  (118, o_ild 2 1),
  (119, o_ic 16 2),
  (121, o_cmpge 132),
  (124, o_ald 0 1),
  (125, o_ild 2 1),
  (126, o_callV K 12 (f_X12_readOf K) 1),
  (129, o_goto 137),
  (132, o_ald 0 1),
  (133, o_ild 2 1),
  (134, o_callV K 12 (f_X12_readCompare K) 1),
  (137, o_ist 3 1),
  (138, o_ald 0 1),
  (139, o_dup),
  (140, o_gI K 12 61),
  (143, o_ic 1 1),
  (144, o_isub),
  (145, o_pI K 12 61),
  (148, o_ild 3 1),
  (149, o_zret)]
noncomputable def P_X12_readBracket (K : Sh_) (r_X12_readOr : Fn_) (r_X12_readAnd : Fn_) (r_X12_readOne : Fn_) (r_X12_readBracket : Fn_) (r_X12_readNot : Fn_) : List (Nat × Op_) := [(0, o_ald 0 1),
  (1, o_callV K 12 (r_X12_readOr) 0),
  (4, o_ifne 9),
  (7, o_ic 0 1),
  (8, o_zret),
  (9, o_ald 0 1),
  (10, o_ic 41 2),
  (12, o_callV K 12 (f_X12_isSign K) 1),
  (15, o_ifne 24),
  (18, o_ald 0 1),
  (19, o_ic 1 1),
  (20, o_callV K 12 (f_X12_bad K) 1),
  (23, o_zret),
  (24, o_ald 0 1),
  (25, o_callV K 12 (f_X12_go K) 0),
  (28, o_ic 1 1),
  (29, o_zret)]
noncomputable def P_X12_readNot (K : Sh_) (r_X12_readOr : Fn_) (r_X12_readAnd : Fn_) (r_X12_readOne : Fn_) (r_X12_readBracket : Fn_) (r_X12_readNot : Fn_) : List (Nat × Op_) := [(0, o_ald 0 1),
  (1, o_callV K 12 (r_X12_readOne) 0),
  (4, o_ifne 9),
  (7, o_ic 0 1),
  (8, o_zret),
  (9, o_ald 0 1),
  (10, o_ald 0 1),
  (11, o_ic 1 1),
  (12, o_ald 0 1),
  (13, o_gI K 12 62),
  (16, o_ic 0 1),
  (17, o_ic 0 1),
  (18, o_callV K 12 (f_X12_lays K) 4),
  (21, o_pI K 12 62),
  (24, o_ic 1 1),
  (25, o_zret)]
noncomputable def F_X12_readOr (K : Sh_) : Nat → Fn_ × Fn_ × Fn_ × Fn_ × Fn_
  | 0 => (fun _ _ => none, fun _ _ => none, fun _ _ => none, fun _ _ => none, fun _ _ => none)
  | d + 1 => (fn_ (P_X12_readOr K (F_X12_readOr K d).1 (F_X12_readOr K d).2.1 (F_X12_readOr K d).2.2.1 (F_X12_readOr K d).2.2.2.1 (F_X12_readOr K d).2.2.2.2) 2, fn_ (P_X12_readAnd K (F_X12_readOr K d).1 (F_X12_readOr K d).2.1 (F_X12_readOr K d).2.2.1 (F_X12_readOr K d).2.2.2.1 (F_X12_readOr K d).2.2.2.2) 2, fn_ (P_X12_readOne K (F_X12_readOr K d).1 (F_X12_readOr K d).2.1 (F_X12_readOr K d).2.2.1 (F_X12_readOr K d).2.2.2.1 (F_X12_readOr K d).2.2.2.2) 4, fn_ (P_X12_readBracket K (F_X12_readOr K d).1 (F_X12_readOr K d).2.1 (F_X12_readOr K d).2.2.1 (F_X12_readOr K d).2.2.2.1 (F_X12_readOr K d).2.2.2.2) 1, fn_ (P_X12_readNot K (F_X12_readOr K d).1 (F_X12_readOr K d).2.1 (F_X12_readOr K d).2.2.1 (F_X12_readOr K d).2.2.2.1 (F_X12_readOr K d).2.2.2.2) 1)
noncomputable def f_X12_readOr (K : Sh_) (d : Nat) : Fn_ := (F_X12_readOr K d).1
noncomputable def f_X12_readAnd (K : Sh_) (d : Nat) : Fn_ := (F_X12_readOr K d).2.1
noncomputable def f_X12_readOne (K : Sh_) (d : Nat) : Fn_ := (F_X12_readOr K d).2.2.1
noncomputable def f_X12_readBracket (K : Sh_) (d : Nat) : Fn_ := (F_X12_readOr K d).2.2.2.1
noncomputable def f_X12_readNot (K : Sh_) (d : Nat) : Fn_ := (F_X12_readOr K d).2.2.2.2
set_option maxRecDepth 100000 in
theorem a_X12_readOr {l : Launch} {E : En_} (hE : EOK_ E) {d : Nat} {r_X12_readOr : Fn_} (h_X12_readOr : Good_ l E yX12_readOr (.code yX12_readOr cX12_readOr 2 (some .boolean) :: G_) (rm_ (7 + d)) r_X12_readOr) {r_X12_readAnd : Fn_} (h_X12_readAnd : Good_ l E yX12_readAnd (.code yX12_readAnd cX12_readAnd 2 (some .boolean) :: G_) (rm_ (7 + d)) r_X12_readAnd) {r_X12_readOne : Fn_} (h_X12_readOne : Good_ l E yX12_readOne (.code yX12_readOne cX12_readOne 4 (some .boolean) :: G_) (rm_ (7 + d)) r_X12_readOne) {r_X12_readBracket : Fn_} (h_X12_readBracket : Good_ l E yX12_readBracket (.code yX12_readBracket cX12_readBracket 1 (some .boolean) :: G_) (rm_ (7 + d)) r_X12_readBracket) {r_X12_readNot : Fn_} (h_X12_readNot : Good_ l E yX12_readNot (.code yX12_readNot cX12_readNot 1 (some .boolean) :: G_) (rm_ (7 + d)) r_X12_readNot) : All_ (Snd_ l E yX12_readOr.cls cX12_readOr 2 (some .boolean) (.code yX12_readOr cX12_readOr 2 (some .boolean) :: G_) (rm_ (7 + (d + 1)))) (P_X12_readOr E.2.2.2.1 r_X12_readOr r_X12_readAnd r_X12_readOne r_X12_readBracket r_X12_readNot) :=
  all_c (s_ald_n (q := 0) (by decide +kernel) rfl)
  <| all_c (s_callV (by decide +kernel) (h_X12_readAnd) cl_X12_readAnd ml_RX12_430 im_X12_readAnd se_X12_readAnd (by decide) rfl (rm_lt (by omega)))
  <| all_c (s_ifne (off := 5) (by decide +kernel) (by decide))
  <| all_c (s_iconst (n := 0) (by decide +kernel) (by decide))
  <| all_c (s_zret (by decide +kernel) rfl)
  <| all_c (s_ald_n (q := 0) (by decide +kernel) rfl)
  <| all_c (g_12_62 (by decide +kernel) fl_RX12_433)
  <| all_c (s_ist_n (q := 1) (by decide +kernel) rfl)
  <| all_c (s_ald_n (q := 0) (by decide +kernel) rfl)
  <| all_c (s_bipush (n := 11) (by decide +kernel) (by decide))
  <| all_c (s_callV (by decide +kernel) (t_X12_isWord hE) cl_X12_isWord ml_RX12_208 im_X12_isWord se_X12_isWord (by decide) rfl (rm_lt (by omega)))
  <| all_c (s_ifeq (off := 31) (by decide +kernel) (by decide))
  <| all_c (s_ald_n (q := 0) (by decide +kernel) rfl)
  <| all_c (s_callV (by decide +kernel) (t_X12_go hE) cl_X12_go ml_RX12_171 im_X12_go se_X12_go (by decide) rfl (rm_lt (by omega)))
  <| all_c (s_ald_n (q := 0) (by decide +kernel) rfl)
  <| all_c (s_callV (by decide +kernel) (h_X12_readAnd) cl_X12_readAnd ml_RX12_430 im_X12_readAnd se_X12_readAnd (by decide) rfl (rm_lt (by omega)))
  <| all_c (s_ifne (off := 5) (by decide +kernel) (by decide))
  <| all_c (s_iconst (n := 0) (by decide +kernel) (by decide))
  <| all_c (s_zret (by decide +kernel) rfl)
  <| all_c (s_ald_n (q := 0) (by decide +kernel) rfl)
  <| all_c (s_iconst (n := 3) (by decide +kernel) (by decide))
  <| all_c (s_ild_n (q := 1) (by decide +kernel) rfl)
  <| all_c (s_ald_n (q := 0) (by decide +kernel) rfl)
  <| all_c (g_12_62 (by decide +kernel) fl_RX12_433)
  <| all_c (s_iconst (n := 0) (by decide +kernel) (by decide))
  <| all_c (s_callV (by decide +kernel) (t_X12_lays hE) cl_X12_lays ml_RX12_436 im_X12_lays se_X12_lays (by decide) rfl (rm_lt (by omega)))
  <| all_c (s_ist_n (q := 1) (by decide +kernel) rfl)
  <| all_c (s_goto (off := (-34)) (by decide +kernel) (by decide))
  <| all_c (s_ald_n (q := 0) (by decide +kernel) rfl)
  <| all_c (s_ild_n (q := 1) (by decide +kernel) rfl)
  <| all_c (p_12_62 (by decide +kernel) fl_RX12_433)
  <| all_c (s_iconst (n := 1) (by decide +kernel) (by decide))
  <| all_c (s_zret (by decide +kernel) rfl)
  <| all_n
set_option maxRecDepth 100000 in
theorem a_X12_readAnd {l : Launch} {E : En_} (hE : EOK_ E) {d : Nat} {r_X12_readOr : Fn_} (h_X12_readOr : Good_ l E yX12_readOr (.code yX12_readOr cX12_readOr 2 (some .boolean) :: G_) (rm_ (7 + d)) r_X12_readOr) {r_X12_readAnd : Fn_} (h_X12_readAnd : Good_ l E yX12_readAnd (.code yX12_readAnd cX12_readAnd 2 (some .boolean) :: G_) (rm_ (7 + d)) r_X12_readAnd) {r_X12_readOne : Fn_} (h_X12_readOne : Good_ l E yX12_readOne (.code yX12_readOne cX12_readOne 4 (some .boolean) :: G_) (rm_ (7 + d)) r_X12_readOne) {r_X12_readBracket : Fn_} (h_X12_readBracket : Good_ l E yX12_readBracket (.code yX12_readBracket cX12_readBracket 1 (some .boolean) :: G_) (rm_ (7 + d)) r_X12_readBracket) {r_X12_readNot : Fn_} (h_X12_readNot : Good_ l E yX12_readNot (.code yX12_readNot cX12_readNot 1 (some .boolean) :: G_) (rm_ (7 + d)) r_X12_readNot) : All_ (Snd_ l E yX12_readAnd.cls cX12_readAnd 2 (some .boolean) (.code yX12_readAnd cX12_readAnd 2 (some .boolean) :: G_) (rm_ (7 + (d + 1)))) (P_X12_readAnd E.2.2.2.1 r_X12_readOr r_X12_readAnd r_X12_readOne r_X12_readBracket r_X12_readNot) :=
  all_c (s_ald_n (q := 0) (by decide +kernel) rfl)
  <| all_c (s_callV (by decide +kernel) (h_X12_readOne) cl_X12_readOne ml_RX12_439 im_X12_readOne se_X12_readOne (by decide) rfl (rm_lt (by omega)))
  <| all_c (s_ifne (off := 5) (by decide +kernel) (by decide))
  <| all_c (s_iconst (n := 0) (by decide +kernel) (by decide))
  <| all_c (s_zret (by decide +kernel) rfl)
  <| all_c (s_ald_n (q := 0) (by decide +kernel) rfl)
  <| all_c (g_12_62 (by decide +kernel) fl_RX12_433)
  <| all_c (s_ist_n (q := 1) (by decide +kernel) rfl)
  <| all_c (s_ald_n (q := 0) (by decide +kernel) rfl)
  <| all_c (s_bipush (n := 12) (by decide +kernel) (by decide))
  <| all_c (s_callV (by decide +kernel) (t_X12_isWord hE) cl_X12_isWord ml_RX12_208 im_X12_isWord se_X12_isWord (by decide) rfl (rm_lt (by omega)))
  <| all_c (s_ifeq (off := 31) (by decide +kernel) (by decide))
  <| all_c (s_ald_n (q := 0) (by decide +kernel) rfl)
  <| all_c (s_callV (by decide +kernel) (t_X12_go hE) cl_X12_go ml_RX12_171 im_X12_go se_X12_go (by decide) rfl (rm_lt (by omega)))
  <| all_c (s_ald_n (q := 0) (by decide +kernel) rfl)
  <| all_c (s_callV (by decide +kernel) (h_X12_readOne) cl_X12_readOne ml_RX12_439 im_X12_readOne se_X12_readOne (by decide) rfl (rm_lt (by omega)))
  <| all_c (s_ifne (off := 5) (by decide +kernel) (by decide))
  <| all_c (s_iconst (n := 0) (by decide +kernel) (by decide))
  <| all_c (s_zret (by decide +kernel) rfl)
  <| all_c (s_ald_n (q := 0) (by decide +kernel) rfl)
  <| all_c (s_iconst (n := 2) (by decide +kernel) (by decide))
  <| all_c (s_ild_n (q := 1) (by decide +kernel) rfl)
  <| all_c (s_ald_n (q := 0) (by decide +kernel) rfl)
  <| all_c (g_12_62 (by decide +kernel) fl_RX12_433)
  <| all_c (s_iconst (n := 0) (by decide +kernel) (by decide))
  <| all_c (s_callV (by decide +kernel) (t_X12_lays hE) cl_X12_lays ml_RX12_436 im_X12_lays se_X12_lays (by decide) rfl (rm_lt (by omega)))
  <| all_c (s_ist_n (q := 1) (by decide +kernel) rfl)
  <| all_c (s_goto (off := (-34)) (by decide +kernel) (by decide))
  <| all_c (s_ald_n (q := 0) (by decide +kernel) rfl)
  <| all_c (s_ild_n (q := 1) (by decide +kernel) rfl)
  <| all_c (p_12_62 (by decide +kernel) fl_RX12_433)
  <| all_c (s_iconst (n := 1) (by decide +kernel) (by decide))
  <| all_c (s_zret (by decide +kernel) rfl)
  <| all_n
set_option maxRecDepth 100000 in
theorem a_X12_readOne {l : Launch} {E : En_} (hE : EOK_ E) {d : Nat} {r_X12_readOr : Fn_} (h_X12_readOr : Good_ l E yX12_readOr (.code yX12_readOr cX12_readOr 2 (some .boolean) :: G_) (rm_ (7 + d)) r_X12_readOr) {r_X12_readAnd : Fn_} (h_X12_readAnd : Good_ l E yX12_readAnd (.code yX12_readAnd cX12_readAnd 2 (some .boolean) :: G_) (rm_ (7 + d)) r_X12_readAnd) {r_X12_readOne : Fn_} (h_X12_readOne : Good_ l E yX12_readOne (.code yX12_readOne cX12_readOne 4 (some .boolean) :: G_) (rm_ (7 + d)) r_X12_readOne) {r_X12_readBracket : Fn_} (h_X12_readBracket : Good_ l E yX12_readBracket (.code yX12_readBracket cX12_readBracket 1 (some .boolean) :: G_) (rm_ (7 + d)) r_X12_readBracket) {r_X12_readNot : Fn_} (h_X12_readNot : Good_ l E yX12_readNot (.code yX12_readNot cX12_readNot 1 (some .boolean) :: G_) (rm_ (7 + d)) r_X12_readNot) : All_ (Snd_ l E yX12_readOne.cls cX12_readOne 4 (some .boolean) (.code yX12_readOne cX12_readOne 4 (some .boolean) :: G_) (rm_ (7 + (d + 1)))) (P_X12_readOne E.2.2.2.1 r_X12_readOr r_X12_readAnd r_X12_readOne r_X12_readBracket r_X12_readNot) :=
  all_c (s_ald_n (q := 0) (by decide +kernel) rfl)
  <| all_c (s_bipush (n := 40) (by decide +kernel) (by decide))
  <| all_c (s_callV (by decide +kernel) (t_X12_isSign hE) cl_X12_isSign ml_RX12_174 im_X12_isSign se_X12_isSign (by decide) rfl (rm_lt (by omega)))
  <| all_c (s_ist_n (q := 1) (by decide +kernel) rfl)
  <| all_c (s_bipush (n := 13) (by decide +kernel) (by decide))
  <| all_c (s_aft (s_ist_n (q := 2) (by decide +kernel) rfl))
  <| all_c (s_ild_n (q := 2) (by decide +kernel) rfl)
  <| all_c (s_bipush (n := 19) (by decide +kernel) (by decide))
  <| all_c (s_cmpgt (off := 17) (by decide +kernel) (by decide))
  <| all_c (s_ald_n (q := 0) (by decide +kernel) rfl)
  <| all_c (s_ild_n (q := 2) (by decide +kernel) rfl)
  <| all_c (s_callV (by decide +kernel) (t_X12_isWord hE) cl_X12_isWord ml_RX12_208 im_X12_isWord se_X12_isWord (by decide) rfl (rm_lt (by omega)))
  <| all_c (s_ifne (off := 9) (by decide +kernel) (by decide))
  <| all_c (s_inc (n := 1) (by decide +kernel) (by decide))
  <| all_c (s_aft (s_goto (off := (-17)) (by decide +kernel) (by decide)))
  <| all_c (s_ild_n (q := 1) (by decide +kernel) rfl)
  <| all_c (s_aft (s_ifne (off := 15) (by decide +kernel) (by decide)))
  <| all_c (s_ild_n (q := 2) (by decide +kernel) rfl)
  <| all_c (s_bipush (n := 19) (by decide +kernel) (by decide))
  <| all_c (s_aft (s_cmple (off := 9) (by decide +kernel) (by decide)))
  <| all_c (s_ald_n (q := 0) (by decide +kernel) rfl)
  <| all_c (s_iconst (n := 1) (by decide +kernel) (by decide))
  <| all_c (s_callV (by decide +kernel) (t_X12_bad hE) cl_X12_bad ml_RX12_161 im_X12_bad se_X12_bad (by decide) rfl (rm_lt (by omega)))
  <| all_c (s_zret (by decide +kernel) rfl)
  <| all_c (s_ald_n (q := 0) (by decide +kernel) rfl)
  <| all_c (g_12_60 (by decide +kernel) fl_RX12_442)
  <| all_c (s_bipush (n := 20) (by decide +kernel) (by decide))
  <| all_c (s_cmpeq (off := 12) (by decide +kernel) (by decide))
  <| all_c (s_ald_n (q := 0) (by decide +kernel) rfl)
  <| all_c (g_12_61 (by decide +kernel) fl_RX12_445)
  <| all_c (s_bipush (n := 8) (by decide +kernel) (by decide))
  <| all_c (s_cmpne (off := 9) (by decide +kernel) (by decide))
  <| all_c (s_ald_n (q := 0) (by decide +kernel) rfl)
  <| all_c (s_iconst (n := 4) (by decide +kernel) (by decide))
  <| all_c (s_callV (by decide +kernel) (t_X12_bad hE) cl_X12_bad ml_RX12_161 im_X12_bad se_X12_bad (by decide) rfl (rm_lt (by omega)))
  <| all_c (s_zret (by decide +kernel) rfl)
  <| all_c (s_ald_n (q := 0) (by decide +kernel) rfl)
  <| all_c (s_dup (by decide +kernel))
  <| all_c (g_12_60 (by decide +kernel) fl_RX12_442)
  <| all_c (s_iconst (n := 1) (by decide +kernel) (by decide))
  <| all_c (s_iadd (by decide +kernel))
  <| all_c (p_12_60 (by decide +kernel) fl_RX12_442)
  <| all_c (s_ald_n (q := 0) (by decide +kernel) rfl)
  <| all_c (s_dup (by decide +kernel))
  <| all_c (g_12_61 (by decide +kernel) fl_RX12_445)
  <| all_c (s_iconst (n := 1) (by decide +kernel) (by decide))
  <| all_c (s_iadd (by decide +kernel))
  <| all_c (p_12_61 (by decide +kernel) fl_RX12_445)
  <| all_c (s_ald_n (q := 0) (by decide +kernel) rfl)
  <| all_c (s_callV (by decide +kernel) (t_X12_go hE) cl_X12_go ml_RX12_171 im_X12_go se_X12_go (by decide) rfl (rm_lt (by omega)))
  <| all_c (s_ild_n (q := 1) (by decide +kernel) rfl)
  <| all_c (s_ifeq (off := 10) (by decide +kernel) (by decide))
  <| all_c (s_ald_n (q := 0) (by decide +kernel) rfl)
  <| all_c (s_callV (by decide +kernel) (h_X12_readBracket) cl_X12_readBracket ml_RX12_448 im_X12_readBracket se_X12_readBracket (by decide) rfl (rm_lt (by omega)))
  <| all_c (s_goto (off := 35) (by decide +kernel) (by decide))
  <| all_c (s_ild_n (q := 2) (by decide +kernel) rfl)
  <| all_c (s_bipush (n := 13) (by decide +kernel) (by decide))
  <| all_c (s_cmpne (off := 10) (by decide +kernel) (by decide))
  <| all_c (s_ald_n (q := 0) (by decide +kernel) rfl)
  <| all_c (s_callV (by decide +kernel) (h_X12_readNot) cl_X12_readNot ml_RX12_451 im_X12_readNot se_X12_readNot (by decide) rfl (rm_lt (by omega)))
  <| all_c (s_goto (off := 22) (by decide +kernel) (by decide))
  <| all_c (s_ild_n (q := 2) (by decide +kernel) rfl)
  <| all_c (s_bipush (n := 16) (by decide +kernel) (by decide))
  <| all_c (s_cmpge (off := 11) (by decide +kernel) (by decide))
  <| all_c (s_ald_n (q := 0) (by decide +kernel) rfl)
  <| all_c (s_ild_n (q := 2) (by decide +kernel) rfl)
  <| all_c (s_callV (by decide +kernel) (t_X12_readOf hE) cl_X12_readOf ml_RX12_454 im_X12_readOf se_X12_readOf (by decide) rfl (rm_lt (by omega)))
  <| all_c (s_goto (off := 8) (by decide +kernel) (by decide))
  <| all_c (s_ald_n (q := 0) (by decide +kernel) rfl)
  <| all_c (s_ild_n (q := 2) (by decide +kernel) rfl)
  <| all_c (s_callV (by decide +kernel) (t_X12_readCompare hE) cl_X12_readCompare ml_RX12_457 im_X12_readCompare se_X12_readCompare (by decide) rfl (rm_lt (by omega)))
  <| all_c (s_ist_n (q := 3) (by decide +kernel) rfl)
  <| all_c (s_ald_n (q := 0) (by decide +kernel) rfl)
  <| all_c (s_dup (by decide +kernel))
  <| all_c (g_12_61 (by decide +kernel) fl_RX12_445)
  <| all_c (s_iconst (n := 1) (by decide +kernel) (by decide))
  <| all_c (s_isub (by decide +kernel))
  <| all_c (p_12_61 (by decide +kernel) fl_RX12_445)
  <| all_c (s_ild_n (q := 3) (by decide +kernel) rfl)
  <| all_c (s_zret (by decide +kernel) rfl)
  <| all_n
set_option maxRecDepth 100000 in
theorem a_X12_readBracket {l : Launch} {E : En_} (hE : EOK_ E) {d : Nat} {r_X12_readOr : Fn_} (h_X12_readOr : Good_ l E yX12_readOr (.code yX12_readOr cX12_readOr 2 (some .boolean) :: G_) (rm_ (7 + d)) r_X12_readOr) {r_X12_readAnd : Fn_} (h_X12_readAnd : Good_ l E yX12_readAnd (.code yX12_readAnd cX12_readAnd 2 (some .boolean) :: G_) (rm_ (7 + d)) r_X12_readAnd) {r_X12_readOne : Fn_} (h_X12_readOne : Good_ l E yX12_readOne (.code yX12_readOne cX12_readOne 4 (some .boolean) :: G_) (rm_ (7 + d)) r_X12_readOne) {r_X12_readBracket : Fn_} (h_X12_readBracket : Good_ l E yX12_readBracket (.code yX12_readBracket cX12_readBracket 1 (some .boolean) :: G_) (rm_ (7 + d)) r_X12_readBracket) {r_X12_readNot : Fn_} (h_X12_readNot : Good_ l E yX12_readNot (.code yX12_readNot cX12_readNot 1 (some .boolean) :: G_) (rm_ (7 + d)) r_X12_readNot) : All_ (Snd_ l E yX12_readBracket.cls cX12_readBracket 1 (some .boolean) (.code yX12_readBracket cX12_readBracket 1 (some .boolean) :: G_) (rm_ (7 + (d + 1)))) (P_X12_readBracket E.2.2.2.1 r_X12_readOr r_X12_readAnd r_X12_readOne r_X12_readBracket r_X12_readNot) :=
  all_c (s_ald_n (q := 0) (by decide +kernel) rfl)
  <| all_c (s_callV (by decide +kernel) (h_X12_readOr) cl_X12_readOr ml_RX12_460 im_X12_readOr se_X12_readOr (by decide) rfl (rm_lt (by omega)))
  <| all_c (s_ifne (off := 5) (by decide +kernel) (by decide))
  <| all_c (s_iconst (n := 0) (by decide +kernel) (by decide))
  <| all_c (s_zret (by decide +kernel) rfl)
  <| all_c (s_ald_n (q := 0) (by decide +kernel) rfl)
  <| all_c (s_bipush (n := 41) (by decide +kernel) (by decide))
  <| all_c (s_callV (by decide +kernel) (t_X12_isSign hE) cl_X12_isSign ml_RX12_174 im_X12_isSign se_X12_isSign (by decide) rfl (rm_lt (by omega)))
  <| all_c (s_ifne (off := 9) (by decide +kernel) (by decide))
  <| all_c (s_ald_n (q := 0) (by decide +kernel) rfl)
  <| all_c (s_iconst (n := 1) (by decide +kernel) (by decide))
  <| all_c (s_callV (by decide +kernel) (t_X12_bad hE) cl_X12_bad ml_RX12_161 im_X12_bad se_X12_bad (by decide) rfl (rm_lt (by omega)))
  <| all_c (s_zret (by decide +kernel) rfl)
  <| all_c (s_ald_n (q := 0) (by decide +kernel) rfl)
  <| all_c (s_callV (by decide +kernel) (t_X12_go hE) cl_X12_go ml_RX12_171 im_X12_go se_X12_go (by decide) rfl (rm_lt (by omega)))
  <| all_c (s_iconst (n := 1) (by decide +kernel) (by decide))
  <| all_c (s_zret (by decide +kernel) rfl)
  <| all_n
set_option maxRecDepth 100000 in
theorem a_X12_readNot {l : Launch} {E : En_} (hE : EOK_ E) {d : Nat} {r_X12_readOr : Fn_} (h_X12_readOr : Good_ l E yX12_readOr (.code yX12_readOr cX12_readOr 2 (some .boolean) :: G_) (rm_ (7 + d)) r_X12_readOr) {r_X12_readAnd : Fn_} (h_X12_readAnd : Good_ l E yX12_readAnd (.code yX12_readAnd cX12_readAnd 2 (some .boolean) :: G_) (rm_ (7 + d)) r_X12_readAnd) {r_X12_readOne : Fn_} (h_X12_readOne : Good_ l E yX12_readOne (.code yX12_readOne cX12_readOne 4 (some .boolean) :: G_) (rm_ (7 + d)) r_X12_readOne) {r_X12_readBracket : Fn_} (h_X12_readBracket : Good_ l E yX12_readBracket (.code yX12_readBracket cX12_readBracket 1 (some .boolean) :: G_) (rm_ (7 + d)) r_X12_readBracket) {r_X12_readNot : Fn_} (h_X12_readNot : Good_ l E yX12_readNot (.code yX12_readNot cX12_readNot 1 (some .boolean) :: G_) (rm_ (7 + d)) r_X12_readNot) : All_ (Snd_ l E yX12_readNot.cls cX12_readNot 1 (some .boolean) (.code yX12_readNot cX12_readNot 1 (some .boolean) :: G_) (rm_ (7 + (d + 1)))) (P_X12_readNot E.2.2.2.1 r_X12_readOr r_X12_readAnd r_X12_readOne r_X12_readBracket r_X12_readNot) :=
  all_c (s_ald_n (q := 0) (by decide +kernel) rfl)
  <| all_c (s_callV (by decide +kernel) (h_X12_readOne) cl_X12_readOne ml_RX12_439 im_X12_readOne se_X12_readOne (by decide) rfl (rm_lt (by omega)))
  <| all_c (s_ifne (off := 5) (by decide +kernel) (by decide))
  <| all_c (s_iconst (n := 0) (by decide +kernel) (by decide))
  <| all_c (s_zret (by decide +kernel) rfl)
  <| all_c (s_ald_n (q := 0) (by decide +kernel) rfl)
  <| all_c (s_ald_n (q := 0) (by decide +kernel) rfl)
  <| all_c (s_iconst (n := 1) (by decide +kernel) (by decide))
  <| all_c (s_ald_n (q := 0) (by decide +kernel) rfl)
  <| all_c (g_12_62 (by decide +kernel) fl_RX12_433)
  <| all_c (s_iconst (n := 0) (by decide +kernel) (by decide))
  <| all_c (s_iconst (n := 0) (by decide +kernel) (by decide))
  <| all_c (s_callV (by decide +kernel) (t_X12_lays hE) cl_X12_lays ml_RX12_436 im_X12_lays se_X12_lays (by decide) rfl (rm_lt (by omega)))
  <| all_c (p_12_62 (by decide +kernel) fl_RX12_433)
  <| all_c (s_iconst (n := 1) (by decide +kernel) (by decide))
  <| all_c (s_zret (by decide +kernel) rfl)
  <| all_n
theorem T_X12_readOr {l : Launch} {E : En_} (hE : EOK_ E) : ∀ d, Good_ l E yX12_readOr (.code yX12_readOr cX12_readOr 2 (some .boolean) :: G_) (rm_ (7 + d)) (f_X12_readOr E.2.2.2.1 d) ∧ Good_ l E yX12_readAnd (.code yX12_readAnd cX12_readAnd 2 (some .boolean) :: G_) (rm_ (7 + d)) (f_X12_readAnd E.2.2.2.1 d) ∧ Good_ l E yX12_readOne (.code yX12_readOne cX12_readOne 4 (some .boolean) :: G_) (rm_ (7 + d)) (f_X12_readOne E.2.2.2.1 d) ∧ Good_ l E yX12_readBracket (.code yX12_readBracket cX12_readBracket 1 (some .boolean) :: G_) (rm_ (7 + d)) (f_X12_readBracket E.2.2.2.1 d) ∧ Good_ l E yX12_readNot (.code yX12_readNot cX12_readNot 1 (some .boolean) :: G_) (rm_ (7 + d)) (f_X12_readNot E.2.2.2.1 d)
  | 0 => ⟨good_0, good_0, good_0, good_0, good_0⟩
  | d + 1 => by
    obtain ⟨h_X12_readOr, h_X12_readAnd, h_X12_readOne, h_X12_readBracket, h_X12_readNot⟩ := T_X12_readOr (l := l) hE d
    exact ⟨good_all hE (by decide +kernel) (a_X12_readOr hE h_X12_readOr h_X12_readAnd h_X12_readOne h_X12_readBracket h_X12_readNot), good_all hE (by decide +kernel) (a_X12_readAnd hE h_X12_readOr h_X12_readAnd h_X12_readOne h_X12_readBracket h_X12_readNot), good_all hE (by decide +kernel) (a_X12_readOne hE h_X12_readOr h_X12_readAnd h_X12_readOne h_X12_readBracket h_X12_readNot), good_all hE (by decide +kernel) (a_X12_readBracket hE h_X12_readOr h_X12_readAnd h_X12_readOne h_X12_readBracket h_X12_readNot), good_all hE (by decide +kernel) (a_X12_readNot hE h_X12_readOr h_X12_readAnd h_X12_readOne h_X12_readBracket h_X12_readNot)⟩
theorem t_X12_readOr {l : Launch} {E : En_} (hE : EOK_ E) (d : Nat) : Good_ l E yX12_readOr (.code yX12_readOr cX12_readOr 2 (some .boolean) :: G_) (rm_ (7 + d)) (f_X12_readOr E.2.2.2.1 d) := (T_X12_readOr hE d).1
theorem t_X12_readAnd {l : Launch} {E : En_} (hE : EOK_ E) (d : Nat) : Good_ l E yX12_readAnd (.code yX12_readAnd cX12_readAnd 2 (some .boolean) :: G_) (rm_ (7 + d)) (f_X12_readAnd E.2.2.2.1 d) := (T_X12_readOr hE d).2.1
theorem t_X12_readOne {l : Launch} {E : En_} (hE : EOK_ E) (d : Nat) : Good_ l E yX12_readOne (.code yX12_readOne cX12_readOne 4 (some .boolean) :: G_) (rm_ (7 + d)) (f_X12_readOne E.2.2.2.1 d) := (T_X12_readOr hE d).2.2.1
theorem t_X12_readBracket {l : Launch} {E : En_} (hE : EOK_ E) (d : Nat) : Good_ l E yX12_readBracket (.code yX12_readBracket cX12_readBracket 1 (some .boolean) :: G_) (rm_ (7 + d)) (f_X12_readBracket E.2.2.2.1 d) := (T_X12_readOr hE d).2.2.2.1
theorem t_X12_readNot {l : Launch} {E : En_} (hE : EOK_ E) (d : Nat) : Good_ l E yX12_readNot (.code yX12_readNot cX12_readNot 1 (some .boolean) :: G_) (rm_ (7 + d)) (f_X12_readNot E.2.2.2.1 d) := (T_X12_readOr hE d).2.2.2.2
noncomputable def P_X12_sentence (K : Sh_)  : List (Nat × Op_) := [(0, o_ald 0 1),
  (1, o_ic 200 3),
  (4, o_callV K 12 (f_X12_begin K) 1),
  (7, o_ald 0 1),
  (8, o_ic 0 1),
  (9, o_pI K 12 59),
  (12, o_ald 0 1),
  (13, o_ic 0 1),
  (14, o_pI K 12 60),
  (17, o_ald 0 1),
  (18, o_ic 0 1),
  (19, o_pI K 12 61),
  (22, o_ald 0 1),
  (23, o_callV K 12 (f_X12_readOr K 80) 0),
  (26, o_ifne 36),
  (29, o_ic (-1) 1),
  (30, o_ald 0 1),
  (31, o_gI K 12 11),
  (34, o_isub),
  (35, o_iret),
  (36, o_ald 0 1),
  (37, o_gI K 12 7),
  (40, o_ifeq 56),
  (43, o_ald 0 1),
  (44, o_ic 1 1),
  (45, o_callV K 12 (f_X12_bad K) 1),
  (48, o_pop),
  (49, o_ic (-1) 1),
  (50, o_ald 0 1),
  (51, o_gI K 12 11),
  (54, o_isub),
  (55, o_iret),
  (56, o_ald 0 1),
  (57, o_gF K 12 14),
  (60, o_ic 800 3),
  (63, o_ic 1 1),
  (64, o_iast K),
  (65, o_ald 0 1),
  (66, o_gF K 12 14),
  (69, o_ic 801 3),
  (72, o_ald 0 1),
  (73, o_gI K 12 62),
  (76, o_iast K),
  (77, o_ic 0 1),
  (78, o_ist 1 1),
  (79, o_ild 1 1),
  (80, o_ic 240 3),
  (83, o_cmpge 108),
  (86, o_ald 0 1),
  (87, o_gF K 12 14),
  (90, o_ic 810 3),
  (93, o_ild 1 1),
  (94, o_iadd),
  (95, o_ald 0 1),
  (96, o_gF K 12 58),
  (99, o_ild 1 1),
  (100, o_iald K),
  (101, o_iast K),
  (102, o_inc 1 1),
  (105, o_goto 79),
  (108, o_ald 0 1),
  (109, o_gI K 12 60),
  (112, o_iret)]
noncomputable def f_X12_sentence (K : Sh_) : Fn_ := fn_ (P_X12_sentence K) 2
set_option maxRecDepth 100000 in
theorem a_X12_sentence {l : Launch} {E : En_} (hE : EOK_ E)   : All_ (Snd_ l E yX12_sentence.cls cX12_sentence 2 (some .int) (.code yX12_sentence cX12_sentence 2 (some .int) :: G_) (rm_ 88)) (P_X12_sentence E.2.2.2.1 ) :=
  all_c (s_ald_n (q := 0) (by decide +kernel) rfl)
  <| all_c (s_sipush (n := 200) (by decide +kernel) (by decide))
  <| all_c (s_callV (by decide +kernel) (t_X12_begin hE) cl_X12_begin ml_RX12_226 im_X12_begin se_X12_begin (by decide) rfl (rm_lt (by decide)))
  <| all_c (s_ald_n (q := 0) (by decide +kernel) rfl)
  <| all_c (s_iconst (n := 0) (by decide +kernel) (by decide))
  <| all_c (p_12_59 (by decide +kernel) fl_RX12_427)
  <| all_c (s_ald_n (q := 0) (by decide +kernel) rfl)
  <| all_c (s_iconst (n := 0) (by decide +kernel) (by decide))
  <| all_c (p_12_60 (by decide +kernel) fl_RX12_442)
  <| all_c (s_ald_n (q := 0) (by decide +kernel) rfl)
  <| all_c (s_iconst (n := 0) (by decide +kernel) (by decide))
  <| all_c (p_12_61 (by decide +kernel) fl_RX12_445)
  <| all_c (s_ald_n (q := 0) (by decide +kernel) rfl)
  <| all_c (s_callV (by decide +kernel) (t_X12_readOr hE 80) cl_X12_readOr ml_RX12_460 im_X12_readOr se_X12_readOr (by decide) rfl (rm_lt (by decide)))
  <| all_c (s_ifne (off := 10) (by decide +kernel) (by decide))
  <| all_c (s_iconst (n := (-1)) (by decide +kernel) (by decide))
  <| all_c (s_ald_n (q := 0) (by decide +kernel) rfl)
  <| all_c (g_12_11 (by decide +kernel) fl_RX12_158)
  <| all_c (s_isub (by decide +kernel))
  <| all_c (s_iret (by decide +kernel) rfl)
  <| all_c (s_ald_n (q := 0) (by decide +kernel) rfl)
  <| all_c (g_12_7 (by decide +kernel) fl_RX12_119)
  <| all_c (s_ifeq (off := 16) (by decide +kernel) (by decide))
  <| all_c (s_ald_n (q := 0) (by decide +kernel) rfl)
  <| all_c (s_iconst (n := 1) (by decide +kernel) (by decide))
  <| all_c (s_callV (by decide +kernel) (t_X12_bad hE) cl_X12_bad ml_RX12_161 im_X12_bad se_X12_bad (by decide) rfl (rm_lt (by decide)))
  <| all_c (s_pop (by decide +kernel))
  <| all_c (s_iconst (n := (-1)) (by decide +kernel) (by decide))
  <| all_c (s_ald_n (q := 0) (by decide +kernel) rfl)
  <| all_c (g_12_11 (by decide +kernel) fl_RX12_158)
  <| all_c (s_isub (by decide +kernel))
  <| all_c (s_iret (by decide +kernel) rfl)
  <| all_c (s_ald_n (q := 0) (by decide +kernel) rfl)
  <| all_c (g_12_14 (by decide +kernel) fl_RX12_13)
  <| all_c (s_sipush (n := 800) (by decide +kernel) (by decide))
  <| all_c (s_iconst (n := 1) (by decide +kernel) (by decide))
  <| all_c (s_iast (by decide +kernel))
  <| all_c (s_ald_n (q := 0) (by decide +kernel) rfl)
  <| all_c (g_12_14 (by decide +kernel) fl_RX12_13)
  <| all_c (s_sipush (n := 801) (by decide +kernel) (by decide))
  <| all_c (s_ald_n (q := 0) (by decide +kernel) rfl)
  <| all_c (g_12_62 (by decide +kernel) fl_RX12_433)
  <| all_c (s_iast (by decide +kernel))
  <| all_c (s_iconst (n := 0) (by decide +kernel) (by decide))
  <| all_c (s_ist_n (q := 1) (by decide +kernel) rfl)
  <| all_c (s_ild_n (q := 1) (by decide +kernel) rfl)
  <| all_c (s_sipush (n := 240) (by decide +kernel) (by decide))
  <| all_c (s_cmpge (off := 25) (by decide +kernel) (by decide))
  <| all_c (s_ald_n (q := 0) (by decide +kernel) rfl)
  <| all_c (g_12_14 (by decide +kernel) fl_RX12_13)
  <| all_c (s_sipush (n := 810) (by decide +kernel) (by decide))
  <| all_c (s_ild_n (q := 1) (by decide +kernel) rfl)
  <| all_c (s_iadd (by decide +kernel))
  <| all_c (s_ald_n (q := 0) (by decide +kernel) rfl)
  <| all_c (g_12_58 (by decide +kernel) fl_RX12_94)
  <| all_c (s_ild_n (q := 1) (by decide +kernel) rfl)
  <| all_c (s_iald (by decide +kernel))
  <| all_c (s_iast (by decide +kernel))
  <| all_c (s_inc (n := 1) (by decide +kernel) (by decide))
  <| all_c (s_goto (off := (-26)) (by decide +kernel) (by decide))
  <| all_c (s_ald_n (q := 0) (by decide +kernel) rfl)
  <| all_c (g_12_60 (by decide +kernel) fl_RX12_442)
  <| all_c (s_iret (by decide +kernel) rfl)
  <| all_n
theorem t_X12_sentence {l : Launch} {E : En_} (hE : EOK_ E) : Good_ l E yX12_sentence (.code yX12_sentence cX12_sentence 2 (some .int) :: G_) (rm_ 88) (f_X12_sentence E.2.2.2.1) := good_all hE (by decide +kernel) (a_X12_sentence hE)
noncomputable def P_X12_compares (K : Sh_)  : List (Nat × Op_) := [(0, o_ild 1 1),
  (1, o_ic 60 2),
  (3, o_cmpne 19),
  (6, o_ild 0 1),
  (7, o_ild 2 1),
  (8, o_cmpge 15),
  (11, o_ic 1 1),
  (12, o_goto 48),
  (15, o_ic 0 1),
  (16, o_goto 48),
  (19, o_ild 1 1),
  (20, o_ic 61 2),
  (22, o_cmpne 38),
  (25, o_ild 0 1),
  (26, o_ild 2 1),
  (27, o_cmpne 34),
  (30, o_ic 1 1),
  (31, o_goto 48),
  (34, o_ic 0 1),
  (35, o_goto 48),
  (38, o_ild 0 1),
  (39, o_ild 2 1),
  (40, o_cmple 47),
  (43, o_ic 1 1),
  (44, o_goto 48),
  (47, o_ic 0 1),
  (48, o_zret)]
noncomputable def f_X12_compares (K : Sh_) : Fn_ := fn_ (P_X12_compares K) 3
set_option maxRecDepth 100000 in
theorem a_X12_compares {l : Launch} {E : En_} (hE : EOK_ E)   : All_ (Snd_ l E yX12_compares.cls cX12_compares 3 (some .boolean) (.code yX12_compares cX12_compares 3 (some .boolean) :: G_) (rm_ 1)) (P_X12_compares E.2.2.2.1 ) :=
  all_c (s_ild_n (q := 1) (by decide +kernel) rfl)
  <| all_c (s_bipush (n := 60) (by decide +kernel) (by decide))
  <| all_c (s_cmpne (off := 16) (by decide +kernel) (by decide))
  <| all_c (s_ild_n (q := 0) (by decide +kernel) rfl)
  <| all_c (s_ild_n (q := 2) (by decide +kernel) rfl)
  <| all_c (s_cmpge (off := 7) (by decide +kernel) (by decide))
  <| all_c (s_iconst (n := 1) (by decide +kernel) (by decide))
  <| all_c (s_goto (off := 36) (by decide +kernel) (by decide))
  <| all_c (s_iconst (n := 0) (by decide +kernel) (by decide))
  <| all_c (s_goto (off := 32) (by decide +kernel) (by decide))
  <| all_c (s_ild_n (q := 1) (by decide +kernel) rfl)
  <| all_c (s_bipush (n := 61) (by decide +kernel) (by decide))
  <| all_c (s_cmpne (off := 16) (by decide +kernel) (by decide))
  <| all_c (s_ild_n (q := 0) (by decide +kernel) rfl)
  <| all_c (s_ild_n (q := 2) (by decide +kernel) rfl)
  <| all_c (s_cmpne (off := 7) (by decide +kernel) (by decide))
  <| all_c (s_iconst (n := 1) (by decide +kernel) (by decide))
  <| all_c (s_goto (off := 17) (by decide +kernel) (by decide))
  <| all_c (s_iconst (n := 0) (by decide +kernel) (by decide))
  <| all_c (s_goto (off := 13) (by decide +kernel) (by decide))
  <| all_c (s_ild_n (q := 0) (by decide +kernel) rfl)
  <| all_c (s_ild_n (q := 2) (by decide +kernel) rfl)
  <| all_c (s_cmple (off := 7) (by decide +kernel) (by decide))
  <| all_c (s_iconst (n := 1) (by decide +kernel) (by decide))
  <| all_c (s_goto (off := 4) (by decide +kernel) (by decide))
  <| all_c (s_iconst (n := 0) (by decide +kernel) (by decide))
  <| all_c (s_zret (by decide +kernel) rfl)
  <| all_n
theorem t_X12_compares {l : Launch} {E : En_} (hE : EOK_ E) : Good_ l E yX12_compares (.code yX12_compares cX12_compares 3 (some .boolean) :: G_) (rm_ 1) (f_X12_compares E.2.2.2.1) := good_all hE (by decide +kernel) (a_X12_compares hE)
noncomputable def P_X12_isSo (K : Sh_) (r_X12_isSo : Fn_) : List (Nat × Op_) := [(0, o_ic 810 3),
  (3, o_ic 4 1),
  (4, o_ild 1 1),
  (5, o_imul),
  (6, o_iadd),
  (7, o_ist 3 1),
  (8, o_ald 0 1),
  (9, o_gF K 12 14),
  (12, o_ild 3 1),
  (13, o_ic 1 1),
  (14, o_iadd),
  (15, o_iald K),
  (16, o_ist 4 2),
  (18, o_ald 0 1),
  (19, o_gF K 12 14),
  (22, o_ild 3 1),
  (23, o_ic 2 1),
  (24, o_iadd),
  (25, o_iald K),
  (26, o_ist 5 2),
  (28, o_ald 0 1),
  (29, o_gF K 12 14),
  (32, o_ild 3 1),
  (33, o_iald K),
  (34, o_tsw 1 6 194 [72, 88, 114, 140, 152, 164]),
  (72, o_ald 0 1),
  (73, o_ild 4 2),
  (75, o_ild 2 1),
  (76, o_callV K 12 (r_X12_isSo) 2),
  (79, o_ifne 86),
  (82, o_ic 1 1),
  (83, o_goto 87),
  (86, o_ic 0 1),
  (87, o_zret),
  (88, o_ald 0 1),
  (89, o_ild 4 2),
  (91, o_ild 2 1),
  (92, o_callV K 12 (r_X12_isSo) 2),
  (95, o_ifeq 112),
  (98, o_ald 0 1),
  (99, o_ild 5 2),
  (101, o_ild 2 1),
  (102, o_callV K 12 (r_X12_isSo) 2),
  (105, o_ifeq 112),
  (108, o_ic 1 1),
  (109, o_goto 113),
  (112, o_ic 0 1),
  (113, o_zret),
  (114, o_ald 0 1),
  (115, o_ild 4 2),
  (117, o_ild 2 1),
  (118, o_callV K 12 (r_X12_isSo) 2),
  (121, o_ifne 134),
  (124, o_ald 0 1),
  (125, o_ild 5 2),
  (127, o_ild 2 1),
  (128, o_callV K 12 (r_X12_isSo) 2),
  (131, o_ifeq 138),
  (134, o_ic 1 1),
  (135, o_goto 139),
  (138, o_ic 0 1),
  (139, o_zret),
  (140, o_ald 0 1),
  (141, o_gF K 12 27),
  (144, o_ild 2 1),
  (145, o_iald K),
  (146, o_ild 4 2),
  (148, o_callS (f_X12_has K) 2),
  (151, o_zret),
  (152, o_ald 0 1),
  (153, o_gF K 12 28),
  (156, o_ild 2 1),
  (157, o_iald K),
  (158, o_ild 4 2),
  (160, o_callS (f_X12_has K) 2),
  (163, o_zret),
  (164, o_ald 0 1),
  (165, o_gF K 12 25),
  (168, o_ic 16 2),
  (170, o_ild 2 1),
  (171, o_imul),
  (172, o_ild 4 2),
  (174, o_iadd),
  (175, o_iald K),
  (176, o_ic 10000 3),
  (179, o_idiv),
  (180, o_ald 0 1),
  (181, o_gF K 12 14),
  (184, o_ild 3 1),
  (185, o_ic 3 1),
  (186, o_iadd),
  (187, o_iald K),
  (188, o_ild 5 2),
  (190, o_callS (f_X12_compares K) 3),
  (193, o_zret),
  (194, o_ild 4 2),
  (196, o_ic 17 2),
  (198, o_cmpne 209),
  (201, o_ald 0 1),
  (202, o_ild 2 1),
  (203, o_callV K 12 (f_X12_inAll K) 1),
  (206, o_goto 234),
  (209, o_ild 4 2),
  (211, o_ic 18 2),
  (213, o_cmpne 225),
  (216, o_ald 0 1),
  (217, o_gF K 12 26),
  (220, o_ild 2 1),
  (221, o_iald K),
  (222, o_goto 234),
  (225, o_ald 0 1),
  (226, o_gF K 12 27),
  (229, o_ild 2 1),
  (230, o_iald K),
  (231, o_callS (f_X12_bits K) 1),
  (234, o_ald 0 1),
  (235, o_gF K 12 14),
  (238, o_ild 3 1),
  (239, o_ic 3 1),
  (240, o_iadd),
  (241, o_iald K),
  (242, o_ild 5 2),
  (244, o_callS (f_X12_compares K) 3),
  (247, o_zret)]
noncomputable def F_X12_isSo (K : Sh_) : Nat → Fn_
  | 0 => (fun _ _ => none)
  | d + 1 => (fn_ (P_X12_isSo K (F_X12_isSo K d)) 6)
noncomputable def f_X12_isSo (K : Sh_) (d : Nat) : Fn_ := (F_X12_isSo K d)
set_option maxRecDepth 100000 in
theorem a_X12_isSo {l : Launch} {E : En_} (hE : EOK_ E) {d : Nat} {r_X12_isSo : Fn_} (h_X12_isSo : Good_ l E yX12_isSo (.code yX12_isSo cX12_isSo 6 (some .boolean) :: G_) (rm_ (3 + d)) r_X12_isSo) : All_ (Snd_ l E yX12_isSo.cls cX12_isSo 6 (some .boolean) (.code yX12_isSo cX12_isSo 6 (some .boolean) :: G_) (rm_ (3 + (d + 1)))) (P_X12_isSo E.2.2.2.1 r_X12_isSo) :=
  all_c (s_sipush (n := 810) (by decide +kernel) (by decide))
  <| all_c (s_iconst (n := 4) (by decide +kernel) (by decide))
  <| all_c (s_ild_n (q := 1) (by decide +kernel) rfl)
  <| all_c (s_imul (by decide +kernel))
  <| all_c (s_iadd (by decide +kernel))
  <| all_c (s_ist_n (q := 3) (by decide +kernel) rfl)
  <| all_c (s_ald_n (q := 0) (by decide +kernel) rfl)
  <| all_c (g_12_14 (by decide +kernel) fl_RX12_13)
  <| all_c (s_ild_n (q := 3) (by decide +kernel) rfl)
  <| all_c (s_iconst (n := 1) (by decide +kernel) (by decide))
  <| all_c (s_iadd (by decide +kernel))
  <| all_c (s_iald (by decide +kernel))
  <| all_c (s_ist (by decide +kernel))
  <| all_c (s_ald_n (q := 0) (by decide +kernel) rfl)
  <| all_c (g_12_14 (by decide +kernel) fl_RX12_13)
  <| all_c (s_ild_n (q := 3) (by decide +kernel) rfl)
  <| all_c (s_iconst (n := 2) (by decide +kernel) (by decide))
  <| all_c (s_iadd (by decide +kernel))
  <| all_c (s_iald (by decide +kernel))
  <| all_c (s_ist (by decide +kernel))
  <| all_c (s_ald_n (q := 0) (by decide +kernel) rfl)
  <| all_c (g_12_14 (by decide +kernel) fl_RX12_13)
  <| all_c (s_ild_n (q := 3) (by decide +kernel) rfl)
  <| all_c (s_iald (by decide +kernel))
  <| all_c (s_tsw (df := 160) (offs := #[38, 54, 80, 106, 118, 130]) (n := 38) (by decide +kernel) (by decide) (by decide))
  <| all_c (s_ald_n (q := 0) (by decide +kernel) rfl)
  <| all_c (s_ild (by decide +kernel))
  <| all_c (s_ild_n (q := 2) (by decide +kernel) rfl)
  <| all_c (s_callV (by decide +kernel) (h_X12_isSo) cl_X12_isSo ml_RX12_463 im_X12_isSo se_X12_isSo (by decide) rfl (rm_lt (by omega)))
  <| all_c (s_ifne (off := 7) (by decide +kernel) (by decide))
  <| all_c (s_iconst (n := 1) (by decide +kernel) (by decide))
  <| all_c (s_goto (off := 4) (by decide +kernel) (by decide))
  <| all_c (s_iconst (n := 0) (by decide +kernel) (by decide))
  <| all_c (s_zret (by decide +kernel) rfl)
  <| all_c (s_ald_n (q := 0) (by decide +kernel) rfl)
  <| all_c (s_ild (by decide +kernel))
  <| all_c (s_ild_n (q := 2) (by decide +kernel) rfl)
  <| all_c (s_callV (by decide +kernel) (h_X12_isSo) cl_X12_isSo ml_RX12_463 im_X12_isSo se_X12_isSo (by decide) rfl (rm_lt (by omega)))
  <| all_c (s_ifeq (off := 17) (by decide +kernel) (by decide))
  <| all_c (s_ald_n (q := 0) (by decide +kernel) rfl)
  <| all_c (s_ild (by decide +kernel))
  <| all_c (s_ild_n (q := 2) (by decide +kernel) rfl)
  <| all_c (s_callV (by decide +kernel) (h_X12_isSo) cl_X12_isSo ml_RX12_463 im_X12_isSo se_X12_isSo (by decide) rfl (rm_lt (by omega)))
  <| all_c (s_ifeq (off := 7) (by decide +kernel) (by decide))
  <| all_c (s_iconst (n := 1) (by decide +kernel) (by decide))
  <| all_c (s_goto (off := 4) (by decide +kernel) (by decide))
  <| all_c (s_iconst (n := 0) (by decide +kernel) (by decide))
  <| all_c (s_zret (by decide +kernel) rfl)
  <| all_c (s_ald_n (q := 0) (by decide +kernel) rfl)
  <| all_c (s_ild (by decide +kernel))
  <| all_c (s_ild_n (q := 2) (by decide +kernel) rfl)
  <| all_c (s_callV (by decide +kernel) (h_X12_isSo) cl_X12_isSo ml_RX12_463 im_X12_isSo se_X12_isSo (by decide) rfl (rm_lt (by omega)))
  <| all_c (s_ifne (off := 13) (by decide +kernel) (by decide))
  <| all_c (s_ald_n (q := 0) (by decide +kernel) rfl)
  <| all_c (s_ild (by decide +kernel))
  <| all_c (s_ild_n (q := 2) (by decide +kernel) rfl)
  <| all_c (s_callV (by decide +kernel) (h_X12_isSo) cl_X12_isSo ml_RX12_463 im_X12_isSo se_X12_isSo (by decide) rfl (rm_lt (by omega)))
  <| all_c (s_ifeq (off := 7) (by decide +kernel) (by decide))
  <| all_c (s_iconst (n := 1) (by decide +kernel) (by decide))
  <| all_c (s_goto (off := 4) (by decide +kernel) (by decide))
  <| all_c (s_iconst (n := 0) (by decide +kernel) (by decide))
  <| all_c (s_zret (by decide +kernel) rfl)
  <| all_c (s_ald_n (q := 0) (by decide +kernel) rfl)
  <| all_c (g_12_27 (by decide +kernel) fl_RX12_45)
  <| all_c (s_ild_n (q := 2) (by decide +kernel) rfl)
  <| all_c (s_iald (by decide +kernel))
  <| all_c (s_ild (by decide +kernel))
  <| all_c (s_callS (by decide +kernel) (t_X12_has hE) cl_X12_has ml_RX12_223 sm_X12_has (rm_lt (by omega)))
  <| all_c (s_zret (by decide +kernel) rfl)
  <| all_c (s_ald_n (q := 0) (by decide +kernel) rfl)
  <| all_c (g_12_28 (by decide +kernel) fl_RX12_48)
  <| all_c (s_ild_n (q := 2) (by decide +kernel) rfl)
  <| all_c (s_iald (by decide +kernel))
  <| all_c (s_ild (by decide +kernel))
  <| all_c (s_callS (by decide +kernel) (t_X12_has hE) cl_X12_has ml_RX12_223 sm_X12_has (rm_lt (by omega)))
  <| all_c (s_zret (by decide +kernel) rfl)
  <| all_c (s_ald_n (q := 0) (by decide +kernel) rfl)
  <| all_c (g_12_25 (by decide +kernel) fl_RX12_39)
  <| all_c (s_bipush (n := 16) (by decide +kernel) (by decide))
  <| all_c (s_ild_n (q := 2) (by decide +kernel) rfl)
  <| all_c (s_imul (by decide +kernel))
  <| all_c (s_ild (by decide +kernel))
  <| all_c (s_iadd (by decide +kernel))
  <| all_c (s_iald (by decide +kernel))
  <| all_c (s_sipush (n := 10000) (by decide +kernel) (by decide))
  <| all_c (s_idiv (by decide +kernel))
  <| all_c (s_ald_n (q := 0) (by decide +kernel) rfl)
  <| all_c (g_12_14 (by decide +kernel) fl_RX12_13)
  <| all_c (s_ild_n (q := 3) (by decide +kernel) rfl)
  <| all_c (s_iconst (n := 3) (by decide +kernel) (by decide))
  <| all_c (s_iadd (by decide +kernel))
  <| all_c (s_iald (by decide +kernel))
  <| all_c (s_ild (by decide +kernel))
  <| all_c (s_callS (by decide +kernel) (t_X12_compares hE) cl_X12_compares ml_RX12_466 sm_X12_compares (rm_lt (by omega)))
  <| all_c (s_zret (by decide +kernel) rfl)
  <| all_c (s_ild (by decide +kernel))
  <| all_c (s_bipush (n := 17) (by decide +kernel) (by decide))
  <| all_c (s_cmpne (off := 11) (by decide +kernel) (by decide))
  <| all_c (s_ald_n (q := 0) (by decide +kernel) rfl)
  <| all_c (s_ild_n (q := 2) (by decide +kernel) rfl)
  <| all_c (s_callV (by decide +kernel) (t_X12_inAll hE) cl_X12_inAll ml_RX12_316 im_X12_inAll se_X12_inAll (by decide) rfl (rm_lt (by omega)))
  <| all_c (s_goto (off := 28) (by decide +kernel) (by decide))
  <| all_c (s_ild (by decide +kernel))
  <| all_c (s_bipush (n := 18) (by decide +kernel) (by decide))
  <| all_c (s_cmpne (off := 12) (by decide +kernel) (by decide))
  <| all_c (s_ald_n (q := 0) (by decide +kernel) rfl)
  <| all_c (g_12_26 (by decide +kernel) fl_RX12_42)
  <| all_c (s_ild_n (q := 2) (by decide +kernel) rfl)
  <| all_c (s_iald (by decide +kernel))
  <| all_c (s_goto (off := 12) (by decide +kernel) (by decide))
  <| all_c (s_ald_n (q := 0) (by decide +kernel) rfl)
  <| all_c (g_12_27 (by decide +kernel) fl_RX12_45)
  <| all_c (s_ild_n (q := 2) (by decide +kernel) rfl)
  <| all_c (s_iald (by decide +kernel))
  <| all_c (s_callS (by decide +kernel) (t_X12_bits hE) cl_X12_bits ml_RX12_411 sm_X12_bits (rm_lt (by omega)))
  <| all_c (s_ald_n (q := 0) (by decide +kernel) rfl)
  <| all_c (g_12_14 (by decide +kernel) fl_RX12_13)
  <| all_c (s_ild_n (q := 3) (by decide +kernel) rfl)
  <| all_c (s_iconst (n := 3) (by decide +kernel) (by decide))
  <| all_c (s_iadd (by decide +kernel))
  <| all_c (s_iald (by decide +kernel))
  <| all_c (s_ild (by decide +kernel))
  <| all_c (s_callS (by decide +kernel) (t_X12_compares hE) cl_X12_compares ml_RX12_466 sm_X12_compares (rm_lt (by omega)))
  <| all_c (s_zret (by decide +kernel) rfl)
  <| all_n
theorem T_X12_isSo {l : Launch} {E : En_} (hE : EOK_ E) : ∀ d, Good_ l E yX12_isSo (.code yX12_isSo cX12_isSo 6 (some .boolean) :: G_) (rm_ (3 + d)) (f_X12_isSo E.2.2.2.1 d)
  | 0 => good_0
  | d + 1 => by
    have h_X12_isSo := T_X12_isSo (l := l) hE d
    exact good_all hE (by decide +kernel) (a_X12_isSo hE h_X12_isSo)
theorem t_X12_isSo {l : Launch} {E : En_} (hE : EOK_ E) (d : Nat) : Good_ l E yX12_isSo (.code yX12_isSo cX12_isSo 6 (some .boolean) :: G_) (rm_ (3 + d)) (f_X12_isSo E.2.2.2.1 d) := (T_X12_isSo hE d)
