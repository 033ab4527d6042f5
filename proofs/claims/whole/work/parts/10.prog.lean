noncomputable def P_X0_clear (K : Sh_)  : List (Nat × Op_) := [(0, o_ald 0 1),
  (1, o_ic 0 1),
  (2, o_pI K 0 11),
  (5, o_ald 0 1),
  (6, o_ic 0 1),
  (7, o_pI K 0 12),
  (10, o_ald 0 1),
  (11, o_ic 0 1),
  (12, o_pI K 0 13),
  (15, o_ald 0 1),
  (16, o_ic 20 2),
  (18, o_pI K 0 14),
  (21, o_ald 0 1),
  (22, o_ic 8 2),
  (24, o_pI K 0 15),
  (27, o_ald 0 1),
  (28, o_ic 0 1),
  (29, o_pZ K 0 16),
  (32, o_ald 0 1),
  (33, o_ic 0 1),
  (34, o_pZ K 0 17),
  (37, o_vret)]
noncomputable def f_X0_clear (K : Sh_) : Fn_ := fn_ (P_X0_clear K) 1
set_option maxRecDepth 100000 in
theorem a_X0_clear {l : Launch} {E : En_} (hE : EOK_ E)   : All_ (Snd_ l E yX0_clear.cls cX0_clear 1 (none) (.code yX0_clear cX0_clear 1 (none) :: G_) (rm_ 1)) (P_X0_clear E.2.2.2.1 ) :=
  all_c (s_ald_n (q := 0) (by decide +kernel) rfl)
  <| all_c (s_iconst (n := 0) (by decide +kernel) (by decide))
  <| all_c (p_0_11 (by decide +kernel) fl_RX0_50)
  <| all_c (s_ald_n (q := 0) (by decide +kernel) rfl)
  <| all_c (s_iconst (n := 0) (by decide +kernel) (by decide))
  <| all_c (p_0_12 (by decide +kernel) fl_RX0_54)
  <| all_c (s_ald_n (q := 0) (by decide +kernel) rfl)
  <| all_c (s_iconst (n := 0) (by decide +kernel) (by decide))
  <| all_c (p_0_13 (by decide +kernel) fl_RX0_57)
  <| all_c (s_ald_n (q := 0) (by decide +kernel) rfl)
  <| all_c (s_bipush (n := 20) (by decide +kernel) (by decide))
  <| all_c (p_0_14 (by decide +kernel) fl_RX0_60)
  <| all_c (s_ald_n (q := 0) (by decide +kernel) rfl)
  <| all_c (s_bipush (n := 8) (by decide +kernel) (by decide))
  <| all_c (p_0_15 (by decide +kernel) fl_RX0_63)
  <| all_c (s_ald_n (q := 0) (by decide +kernel) rfl)
  <| all_c (s_iconst (n := 0) (by decide +kernel) (by decide))
  <| all_c (p_0_16 (by decide +kernel) fl_RX0_66)
  <| all_c (s_ald_n (q := 0) (by decide +kernel) rfl)
  <| all_c (s_iconst (n := 0) (by decide +kernel) (by decide))
  <| all_c (p_0_17 (by decide +kernel) fl_RX0_70)
  <| all_c (s_vret (by decide +kernel) rfl)
  <| all_n
theorem t_X0_clear {l : Launch} {E : En_} (hE : EOK_ E) : Good_ l E yX0_clear (.code yX0_clear cX0_clear 1 (none) :: G_) (rm_ 1) (f_X0_clear E.2.2.2.1) := good_all hE (by decide +kernel) (a_X0_clear hE)
noncomputable def P_X0_copyRow (K : Sh_)  : List (Nat × Op_) := [(0, o_ild 2 1),
  (1, o_ifle 24),
  (4, o_ild 2 1),
  (5, o_ald 0 1),
  (6, o_alen K),
  (7, o_cmpgt 24),
  (10, o_ild 2 1),
  (11, o_ald 1 1),
  (12, o_alen K),
  (13, o_cmpgt 24),
  (16, o_ald 0 1),
  (17, o_ic 0 1),
  (18, o_ald 1 1),
  (19, o_ic 0 1),
  (20, o_ild 2 1),
  (21, o_copy K),
  (24, o_vret)]
noncomputable def f_X0_copyRow (K : Sh_) : Fn_ := fn_ (P_X0_copyRow K) 3
set_option maxRecDepth 100000 in
theorem a_X0_copyRow {l : Launch} {E : En_} (hE : EOK_ E)   : All_ (Snd_ l E yX0_copyRow.cls cX0_copyRow 3 (none) (.code yX0_copyRow cX0_copyRow 3 (none) :: G_) (rm_ 1)) (P_X0_copyRow E.2.2.2.1 ) :=
  all_c (s_ild_n (q := 2) (by decide +kernel) rfl)
  <| all_c (s_ifle (off := 23) (by decide +kernel) (by decide))
  <| all_c (s_ild_n (q := 2) (by decide +kernel) rfl)
  <| all_c (s_ald_n (q := 0) (by decide +kernel) rfl)
  <| all_c (s_alen (by decide +kernel))
  <| all_c (s_cmpgt (off := 17) (by decide +kernel) (by decide))
  <| all_c (s_ild_n (q := 2) (by decide +kernel) rfl)
  <| all_c (s_ald_n (q := 1) (by decide +kernel) rfl)
  <| all_c (s_alen (by decide +kernel))
  <| all_c (s_cmpgt (off := 11) (by decide +kernel) (by decide))
  <| all_c (s_ald_n (q := 0) (by decide +kernel) rfl)
  <| all_c (s_iconst (n := 0) (by decide +kernel) (by decide))
  <| all_c (s_ald_n (q := 1) (by decide +kernel) rfl)
  <| all_c (s_iconst (n := 0) (by decide +kernel) (by decide))
  <| all_c (s_ild_n (q := 2) (by decide +kernel) rfl)
  <| all_c (s_copy (by decide +kernel) (G_w ml_RX0_77) (G_w ac_native) (G_w ac_static) (G_w ac_ini) (rm_lt (lv := 0) (by decide)))
  <| all_c (s_vret (by decide +kernel) rfl)
  <| all_n
theorem t_X0_copyRow {l : Launch} {E : En_} (hE : EOK_ E) : Good_ l E yX0_copyRow (.code yX0_copyRow cX0_copyRow 3 (none) :: G_) (rm_ 1) (f_X0_copyRow E.2.2.2.1) := good_all hE (by decide +kernel) (a_X0_copyRow hE)
noncomputable def P_X0_copyFrom (K : Sh_)  : List (Nat × Op_) := [(0, o_ald 1 1),
  (1, o_gF K 0 0),
  (4, o_ald 0 1),
  (5, o_gF K 0 0),
  (8, o_ald 1 1),
  (9, o_gI K 0 11),
  (12, o_callS (f_X0_copyRow K) 3),
  (15, o_ald 1 1),
  (16, o_gF K 0 1),
  (19, o_ald 0 1),
  (20, o_gF K 0 1),
  (23, o_ald 1 1),
  (24, o_gI K 0 11),
  (27, o_callS (f_X0_copyRow K) 3),
  (30, o_ald 1 1),
  (31, o_gF K 0 2),
  (34, o_ald 0 1),
  (35, o_gF K 0 2),
  (38, o_ald 1 1),
  (39, o_gI K 0 11),
  (42, o_callS (f_X0_copyRow K) 3),
  (45, o_ald 1 1),
  (46, o_gF K 0 3),
  (49, o_ald 0 1),
  (50, o_gF K 0 3),
  (53, o_ald 1 1),
  (54, o_gI K 0 11),
  (57, o_callS (f_X0_copyRow K) 3),
  (60, o_ic 0 1),
  (61, o_ist 2 1),
  (62, o_ild 2 1),
  (63, o_ald 1 1),
  (64, o_gI K 0 11),
  (67, o_cmpge 93),
  (70, o_ald 1 1),
  (71, o_gF K 0 4),
  (74, o_ild 2 1),
  (75, o_aald K),
  (76, o_ald 0 1),
  (77, o_gF K 0 4),
  (80, o_ild 2 1),
  (81, o_aald K),
  (82, o_ic 16 2),
  (84, o_callS (f_X0_copyRow K) 3),
  (87, o_inc 2 1),
  (90, o_goto 62),
  (93, o_ald 1 1),
  (94, o_gF K 0 5),
  (97, o_ald 0 1),
  (98, o_gF K 0 5),
  (101, o_ald 1 1),
  (102, o_gI K 0 12),
  (105, o_callS (f_X0_copyRow K) 3),
  (108, o_ald 1 1),
  (109, o_gF K 0 6),
  (112, o_ald 0 1),
  (113, o_gF K 0 6),
  (116, o_ald 1 1),
  (117, o_gI K 0 12),
  (120, o_callS (f_X0_copyRow K) 3),
  (123, o_ald 1 1),
  (124, o_gF K 0 7),
  (127, o_ald 0 1),
  (128, o_gF K 0 7),
  (131, o_ald 1 1),
  (132, o_gI K 0 12),
  (135, o_callS (f_X0_copyRow K) 3),
  (138, o_ald 1 1),
  (139, o_gF K 0 8),
  (142, o_ald 0 1),
  (143, o_gF K 0 8),
  (146, o_ald 1 1),
  (147, o_gI K 0 12),
  (150, o_callS (f_X0_copyRow K) 3),
  (153, o_ald 1 1),
  (154, o_gF K 0 9),
  (157, o_ald 0 1),
  (158, o_gF K 0 9),
  (161, o_ald 1 1),
  (162, o_gI K 0 12),
  (165, o_callS (f_X0_copyRow K) 3),
  (168, o_ald 1 1),
  (169, o_gF K 0 10),
  (172, o_ald 0 1),
  (173, o_gF K 0 10),
  (176, o_ald 1 1),
  (177, o_gI K 0 12),
  (180, o_callS (f_X0_copyRow K) 3),
  (183, o_ald 0 1),
  (184, o_ald 1 1),
  (185, o_gI K 0 11),
  (188, o_pI K 0 11),
  (191, o_ald 0 1),
  (192, o_ald 1 1),
  (193, o_gI K 0 12),
  (196, o_pI K 0 12),
  (199, o_ald 0 1),
  (200, o_ald 1 1),
  (201, o_gI K 0 13),
  (204, o_pI K 0 13),
  (207, o_ald 0 1),
  (208, o_ald 1 1),
  (209, o_gI K 0 14),
  (212, o_pI K 0 14),
  (215, o_ald 0 1),
  (216, o_ald 1 1),
  (217, o_gI K 0 15),
  (220, o_pI K 0 15),
  (223, o_vret)]
noncomputable def f_X0_copyFrom (K : Sh_) : Fn_ := fn_ (P_X0_copyFrom K) 3
set_option maxRecDepth 100000 in
theorem a_X0_copyFrom {l : Launch} {E : En_} (hE : EOK_ E)   : All_ (Snd_ l E yX0_copyFrom.cls cX0_copyFrom 3 (none) (.code yX0_copyFrom cX0_copyFrom 3 (none) :: G_) (rm_ 2)) (P_X0_copyFrom E.2.2.2.1 ) :=
  all_c (s_ald_n (q := 1) (by decide +kernel) rfl)
  <| all_c (g_0_0 (by decide +kernel) fl_RX0_9)
  <| all_c (s_ald_n (q := 0) (by decide +kernel) rfl)
  <| all_c (g_0_0 (by decide +kernel) fl_RX0_9)
  <| all_c (s_ald_n (q := 1) (by decide +kernel) rfl)
  <| all_c (g_0_11 (by decide +kernel) fl_RX0_50)
  <| all_c (s_callS (by decide +kernel) (t_X0_copyRow hE) cl_X0_copyRow ml_RX0_73 sm_X0_copyRow (rm_lt (by decide)))
  <| all_c (s_ald_n (q := 1) (by decide +kernel) rfl)
  <| all_c (g_0_1 (by decide +kernel) fl_RX0_15)
  <| all_c (s_ald_n (q := 0) (by decide +kernel) rfl)
  <| all_c (g_0_1 (by decide +kernel) fl_RX0_15)
  <| all_c (s_ald_n (q := 1) (by decide +kernel) rfl)
  <| all_c (g_0_11 (by decide +kernel) fl_RX0_50)
  <| all_c (s_callS (by decide +kernel) (t_X0_copyRow hE) cl_X0_copyRow ml_RX0_73 sm_X0_copyRow (rm_lt (by decide)))
  <| all_c (s_ald_n (q := 1) (by decide +kernel) rfl)
  <| all_c (g_0_2 (by decide +kernel) fl_RX0_18)
  <| all_c (s_ald_n (q := 0) (by decide +kernel) rfl)
  <| all_c (g_0_2 (by decide +kernel) fl_RX0_18)
  <| all_c (s_ald_n (q := 1) (by decide +kernel) rfl)
  <| all_c (g_0_11 (by decide +kernel) fl_RX0_50)
  <| all_c (s_callS (by decide +kernel) (t_X0_copyRow hE) cl_X0_copyRow ml_RX0_73 sm_X0_copyRow (rm_lt (by decide)))
  <| all_c (s_ald_n (q := 1) (by decide +kernel) rfl)
  <| all_c (g_0_3 (by decide +kernel) fl_RX0_21)
  <| all_c (s_ald_n (q := 0) (by decide +kernel) rfl)
  <| all_c (g_0_3 (by decide +kernel) fl_RX0_21)
  <| all_c (s_ald_n (q := 1) (by decide +kernel) rfl)
  <| all_c (g_0_11 (by decide +kernel) fl_RX0_50)
  <| all_c (s_callS (by decide +kernel) (t_X0_copyRow hE) cl_X0_copyRow ml_RX0_73 sm_X0_copyRow (rm_lt (by decide)))
  <| all_c (s_iconst (n := 0) (by decide +kernel) (by decide))
  <| all_c (s_ist_n (q := 2) (by decide +kernel) rfl)
  <| all_c (s_ild_n (q := 2) (by decide +kernel) rfl)
  <| all_c (s_ald_n (q := 1) (by decide +kernel) rfl)
  <| all_c (g_0_11 (by decide +kernel) fl_RX0_50)
  <| all_c (s_cmpge (off := 26) (by decide +kernel) (by decide))
  <| all_c (s_ald_n (q := 1) (by decide +kernel) rfl)
  <| all_c (g_0_4 (by decide +kernel) fl_RX0_26)
  <| all_c (s_ild_n (q := 2) (by decide +kernel) rfl)
  <| all_c (s_aald (by decide +kernel))
  <| all_c (s_ald_n (q := 0) (by decide +kernel) rfl)
  <| all_c (g_0_4 (by decide +kernel) fl_RX0_26)
  <| all_c (s_ild_n (q := 2) (by decide +kernel) rfl)
  <| all_c (s_aald (by decide +kernel))
  <| all_c (s_bipush (n := 16) (by decide +kernel) (by decide))
  <| all_c (s_callS (by decide +kernel) (t_X0_copyRow hE) cl_X0_copyRow ml_RX0_73 sm_X0_copyRow (rm_lt (by decide)))
  <| all_c (s_inc (n := 1) (by decide +kernel) (by decide))
  <| all_c (s_goto (off := (-28)) (by decide +kernel) (by decide))
  <| all_c (s_ald_n (q := 1) (by decide +kernel) rfl)
  <| all_c (g_0_5 (by decide +kernel) fl_RX0_29)
  <| all_c (s_ald_n (q := 0) (by decide +kernel) rfl)
  <| all_c (g_0_5 (by decide +kernel) fl_RX0_29)
  <| all_c (s_ald_n (q := 1) (by decide +kernel) rfl)
  <| all_c (g_0_12 (by decide +kernel) fl_RX0_54)
  <| all_c (s_callS (by decide +kernel) (t_X0_copyRow hE) cl_X0_copyRow ml_RX0_73 sm_X0_copyRow (rm_lt (by decide)))
  <| all_c (s_ald_n (q := 1) (by decide +kernel) rfl)
  <| all_c (g_0_6 (by decide +kernel) fl_RX0_32)
  <| all_c (s_ald_n (q := 0) (by decide +kernel) rfl)
  <| all_c (g_0_6 (by decide +kernel) fl_RX0_32)
  <| all_c (s_ald_n (q := 1) (by decide +kernel) rfl)
  <| all_c (g_0_12 (by decide +kernel) fl_RX0_54)
  <| all_c (s_callS (by decide +kernel) (t_X0_copyRow hE) cl_X0_copyRow ml_RX0_73 sm_X0_copyRow (rm_lt (by decide)))
  <| all_c (s_ald_n (q := 1) (by decide +kernel) rfl)
  <| all_c (g_0_7 (by decide +kernel) fl_RX0_35)
  <| all_c (s_ald_n (q := 0) (by decide +kernel) rfl)
  <| all_c (g_0_7 (by decide +kernel) fl_RX0_35)
  <| all_c (s_ald_n (q := 1) (by decide +kernel) rfl)
  <| all_c (g_0_12 (by decide +kernel) fl_RX0_54)
  <| all_c (s_callS (by decide +kernel) (t_X0_copyRow hE) cl_X0_copyRow ml_RX0_73 sm_X0_copyRow (rm_lt (by decide)))
  <| all_c (s_ald_n (q := 1) (by decide +kernel) rfl)
  <| all_c (g_0_8 (by decide +kernel) fl_RX0_38)
  <| all_c (s_ald_n (q := 0) (by decide +kernel) rfl)
  <| all_c (g_0_8 (by decide +kernel) fl_RX0_38)
  <| all_c (s_ald_n (q := 1) (by decide +kernel) rfl)
  <| all_c (g_0_12 (by decide +kernel) fl_RX0_54)
  <| all_c (s_callS (by decide +kernel) (t_X0_copyRow hE) cl_X0_copyRow ml_RX0_73 sm_X0_copyRow (rm_lt (by decide)))
  <| all_c (s_ald_n (q := 1) (by decide +kernel) rfl)
  <| all_c (g_0_9 (by decide +kernel) fl_RX0_41)
  <| all_c (s_ald_n (q := 0) (by decide +kernel) rfl)
  <| all_c (g_0_9 (by decide +kernel) fl_RX0_41)
  <| all_c (s_ald_n (q := 1) (by decide +kernel) rfl)
  <| all_c (g_0_12 (by decide +kernel) fl_RX0_54)
  <| all_c (s_callS (by decide +kernel) (t_X0_copyRow hE) cl_X0_copyRow ml_RX0_73 sm_X0_copyRow (rm_lt (by decide)))
  <| all_c (s_ald_n (q := 1) (by decide +kernel) rfl)
  <| all_c (g_0_10 (by decide +kernel) fl_RX0_44)
  <| all_c (s_ald_n (q := 0) (by decide +kernel) rfl)
  <| all_c (g_0_10 (by decide +kernel) fl_RX0_44)
  <| all_c (s_ald_n (q := 1) (by decide +kernel) rfl)
  <| all_c (g_0_12 (by decide +kernel) fl_RX0_54)
  <| all_c (s_callS (by decide +kernel) (t_X0_copyRow hE) cl_X0_copyRow ml_RX0_73 sm_X0_copyRow (rm_lt (by decide)))
  <| all_c (s_ald_n (q := 0) (by decide +kernel) rfl)
  <| all_c (s_ald_n (q := 1) (by decide +kernel) rfl)
  <| all_c (g_0_11 (by decide +kernel) fl_RX0_50)
  <| all_c (p_0_11 (by decide +kernel) fl_RX0_50)
  <| all_c (s_ald_n (q := 0) (by decide +kernel) rfl)
  <| all_c (s_ald_n (q := 1) (by decide +kernel) rfl)
  <| all_c (g_0_12 (by decide +kernel) fl_RX0_54)
  <| all_c (p_0_12 (by decide +kernel) fl_RX0_54)
  <| all_c (s_ald_n (q := 0) (by decide +kernel) rfl)
  <| all_c (s_ald_n (q := 1) (by decide +kernel) rfl)
  <| all_c (g_0_13 (by decide +kernel) fl_RX0_57)
  <| all_c (p_0_13 (by decide +kernel) fl_RX0_57)
  <| all_c (s_ald_n (q := 0) (by decide +kernel) rfl)
  <| all_c (s_ald_n (q := 1) (by decide +kernel) rfl)
  <| all_c (g_0_14 (by decide +kernel) fl_RX0_60)
  <| all_c (p_0_14 (by decide +kernel) fl_RX0_60)
  <| all_c (s_ald_n (q := 0) (by decide +kernel) rfl)
  <| all_c (s_ald_n (q := 1) (by decide +kernel) rfl)
  <| all_c (g_0_15 (by decide +kernel) fl_RX0_63)
  <| all_c (p_0_15 (by decide +kernel) fl_RX0_63)
  <| all_c (s_vret (by decide +kernel) rfl)
  <| all_n
theorem t_X0_copyFrom {l : Launch} {E : En_} (hE : EOK_ E) : Good_ l E yX0_copyFrom (.code yX0_copyFrom cX0_copyFrom 3 (none) :: G_) (rm_ 2) (f_X0_copyFrom E.2.2.2.1) := good_all hE (by decide +kernel) (a_X0_copyFrom hE)
noncomputable def P_X0_hasChap (K : Sh_)  : List (Nat × Op_) := [(0, o_ild 1 1),
  (1, o_iflt 16),
  (4, o_ild 1 1),
  (5, o_ald 0 1),
  (6, o_gI K 0 11),
  (9, o_cmpge 16),
  (12, o_ic 1 1),
  (13, o_goto 17),
  (16, o_ic 0 1),
  (17, o_zret)]
noncomputable def f_X0_hasChap (K : Sh_) : Fn_ := fn_ (P_X0_hasChap K) 2
set_option maxRecDepth 100000 in
theorem a_X0_hasChap {l : Launch} {E : En_} (hE : EOK_ E)   : All_ (Snd_ l E yX0_hasChap.cls cX0_hasChap 2 (some .boolean) (.code yX0_hasChap cX0_hasChap 2 (some .boolean) :: G_) (rm_ 1)) (P_X0_hasChap E.2.2.2.1 ) :=
  all_c (s_ild_n (q := 1) (by decide +kernel) rfl)
  <| all_c (s_iflt (off := 15) (by decide +kernel) (by decide))
  <| all_c (s_ild_n (q := 1) (by decide +kernel) rfl)
  <| all_c (s_ald_n (q := 0) (by decide +kernel) rfl)
  <| all_c (g_0_11 (by decide +kernel) fl_RX0_50)
  <| all_c (s_cmpge (off := 7) (by decide +kernel) (by decide))
  <| all_c (s_iconst (n := 1) (by decide +kernel) (by decide))
  <| all_c (s_goto (off := 4) (by decide +kernel) (by decide))
  <| all_c (s_iconst (n := 0) (by decide +kernel) (by decide))
  <| all_c (s_zret (by decide +kernel) rfl)
  <| all_n
theorem t_X0_hasChap {l : Launch} {E : En_} (hE : EOK_ E) : Good_ l E yX0_hasChap (.code yX0_hasChap cX0_hasChap 2 (some .boolean) :: G_) (rm_ 1) (f_X0_hasChap E.2.2.2.1) := good_all hE (by decide +kernel) (a_X0_hasChap hE)
noncomputable def P_X0_hasReader (K : Sh_)  : List (Nat × Op_) := [(0, o_ild 1 1),
  (1, o_iflt 16),
  (4, o_ild 1 1),
  (5, o_ald 0 1),
  (6, o_gI K 0 12),
  (9, o_cmpge 16),
  (12, o_ic 1 1),
  (13, o_goto 17),
  (16, o_ic 0 1),
  (17, o_zret)]
noncomputable def f_X0_hasReader (K : Sh_) : Fn_ := fn_ (P_X0_hasReader K) 2
set_option maxRecDepth 100000 in
theorem a_X0_hasReader {l : Launch} {E : En_} (hE : EOK_ E)   : All_ (Snd_ l E yX0_hasReader.cls cX0_hasReader 2 (some .boolean) (.code yX0_hasReader cX0_hasReader 2 (some .boolean) :: G_) (rm_ 1)) (P_X0_hasReader E.2.2.2.1 ) :=
  all_c (s_ild_n (q := 1) (by decide +kernel) rfl)
  <| all_c (s_iflt (off := 15) (by decide +kernel) (by decide))
  <| all_c (s_ild_n (q := 1) (by decide +kernel) rfl)
  <| all_c (s_ald_n (q := 0) (by decide +kernel) rfl)
  <| all_c (g_0_12 (by decide +kernel) fl_RX0_54)
  <| all_c (s_cmpge (off := 7) (by decide +kernel) (by decide))
  <| all_c (s_iconst (n := 1) (by decide +kernel) (by decide))
  <| all_c (s_goto (off := 4) (by decide +kernel) (by decide))
  <| all_c (s_iconst (n := 0) (by decide +kernel) (by decide))
  <| all_c (s_zret (by decide +kernel) rfl)
  <| all_n
theorem t_X0_hasReader {l : Launch} {E : En_} (hE : EOK_ E) : Good_ l E yX0_hasReader (.code yX0_hasReader cX0_hasReader 2 (some .boolean) :: G_) (rm_ 1) (f_X0_hasReader E.2.2.2.1) := good_all hE (by decide +kernel) (a_X0_hasReader hE)
noncomputable def P_X0_placeOf (K : Sh_)  : List (Nat × Op_) := [(0, o_ic 0 1),
  (1, o_ist 3 1),
  (2, o_ild 3 1),
  (3, o_ild 2 1),
  (4, o_cmpge 28),
  (7, o_ild 3 1),
  (8, o_ald 1 1),
  (9, o_alen K),
  (10, o_cmpge 28),
  (13, o_ald 1 1),
  (14, o_ild 3 1),
  (15, o_iald K),
  (16, o_ild 0 1),
  (17, o_cmpne 22),
  (20, o_ild 3 1),
  (21, o_iret),
  (22, o_inc 3 1),
  (25, o_goto 2),
  (28, o_ic (-1) 1),
  (29, o_iret)]
noncomputable def f_X0_placeOf (K : Sh_) : Fn_ := fn_ (P_X0_placeOf K) 4
set_option maxRecDepth 100000 in
theorem a_X0_placeOf {l : Launch} {E : En_} (hE : EOK_ E)   : All_ (Snd_ l E yX0_placeOf.cls cX0_placeOf 4 (some .int) (.code yX0_placeOf cX0_placeOf 4 (some .int) :: G_) (rm_ 1)) (P_X0_placeOf E.2.2.2.1 ) :=
  all_c (s_iconst (n := 0) (by decide +kernel) (by decide))
  <| all_c (s_ist_n (q := 3) (by decide +kernel) rfl)
  <| all_c (s_ild_n (q := 3) (by decide +kernel) rfl)
  <| all_c (s_ild_n (q := 2) (by decide +kernel) rfl)
  <| all_c (s_cmpge (off := 24) (by decide +kernel) (by decide))
  <| all_c (s_ild_n (q := 3) (by decide +kernel) rfl)
  <| all_c (s_ald_n (q := 1) (by decide +kernel) rfl)
  <| all_c (s_alen (by decide +kernel))
  <| all_c (s_cmpge (off := 18) (by decide +kernel) (by decide))
  <| all_c (s_ald_n (q := 1) (by decide +kernel) rfl)
  <| all_c (s_ild_n (q := 3) (by decide +kernel) rfl)
  <| all_c (s_iald (by decide +kernel))
  <| all_c (s_ild_n (q := 0) (by decide +kernel) rfl)
  <| all_c (s_cmpne (off := 5) (by decide +kernel) (by decide))
  <| all_c (s_ild_n (q := 3) (by decide +kernel) rfl)
  <| all_c (s_iret (by decide +kernel) rfl)
  <| all_c (s_inc (n := 1) (by decide +kernel) (by decide))
  <| all_c (s_goto (off := (-23)) (by decide +kernel) (by decide))
  <| all_c (s_iconst (n := (-1)) (by decide +kernel) (by decide))
  <| all_c (s_iret (by decide +kernel) rfl)
  <| all_n
theorem t_X0_placeOf {l : Launch} {E : En_} (hE : EOK_ E) : Good_ l E yX0_placeOf (.code yX0_placeOf cX0_placeOf 4 (some .int) :: G_) (rm_ 1) (f_X0_placeOf E.2.2.2.1) := good_all hE (by decide +kernel) (a_X0_placeOf hE)
noncomputable def P_X0_chapNamed (K : Sh_)  : List (Nat × Op_) := [(0, o_ild 1 1),
  (1, o_ald 0 1),
  (2, o_gF K 0 0),
  (5, o_ald 0 1),
  (6, o_gI K 0 11),
  (9, o_callS (f_X0_placeOf K) 3),
  (12, o_iret)]
noncomputable def f_X0_chapNamed (K : Sh_) : Fn_ := fn_ (P_X0_chapNamed K) 2
set_option maxRecDepth 100000 in
theorem a_X0_chapNamed {l : Launch} {E : En_} (hE : EOK_ E)   : All_ (Snd_ l E yX0_chapNamed.cls cX0_chapNamed 2 (some .int) (.code yX0_chapNamed cX0_chapNamed 2 (some .int) :: G_) (rm_ 2)) (P_X0_chapNamed E.2.2.2.1 ) :=
  all_c (s_ild_n (q := 1) (by decide +kernel) rfl)
  <| all_c (s_ald_n (q := 0) (by decide +kernel) rfl)
  <| all_c (g_0_0 (by decide +kernel) fl_RX0_9)
  <| all_c (s_ald_n (q := 0) (by decide +kernel) rfl)
  <| all_c (g_0_11 (by decide +kernel) fl_RX0_50)
  <| all_c (s_callS (by decide +kernel) (t_X0_placeOf hE) cl_X0_placeOf ml_RX0_83 sm_X0_placeOf (rm_lt (by decide)))
  <| all_c (s_iret (by decide +kernel) rfl)
  <| all_n
theorem t_X0_chapNamed {l : Launch} {E : En_} (hE : EOK_ E) : Good_ l E yX0_chapNamed (.code yX0_chapNamed cX0_chapNamed 2 (some .int) :: G_) (rm_ 2) (f_X0_chapNamed E.2.2.2.1) := good_all hE (by decide +kernel) (a_X0_chapNamed hE)
noncomputable def P_X0_readerNamed (K : Sh_)  : List (Nat × Op_) := [(0, o_ild 1 1),
  (1, o_ald 0 1),
  (2, o_gF K 0 5),
  (5, o_ald 0 1),
  (6, o_gI K 0 12),
  (9, o_callS (f_X0_placeOf K) 3),
  (12, o_iret)]
noncomputable def f_X0_readerNamed (K : Sh_) : Fn_ := fn_ (P_X0_readerNamed K) 2
set_option maxRecDepth 100000 in
theorem a_X0_readerNamed {l : Launch} {E : En_} (hE : EOK_ E)   : All_ (Snd_ l E yX0_readerNamed.cls cX0_readerNamed 2 (some .int) (.code yX0_readerNamed cX0_readerNamed 2 (some .int) :: G_) (rm_ 2)) (P_X0_readerNamed E.2.2.2.1 ) :=
  all_c (s_ild_n (q := 1) (by decide +kernel) rfl)
  <| all_c (s_ald_n (q := 0) (by decide +kernel) rfl)
  <| all_c (g_0_5 (by decide +kernel) fl_RX0_29)
  <| all_c (s_ald_n (q := 0) (by decide +kernel) rfl)
  <| all_c (g_0_12 (by decide +kernel) fl_RX0_54)
  <| all_c (s_callS (by decide +kernel) (t_X0_placeOf hE) cl_X0_placeOf ml_RX0_83 sm_X0_placeOf (rm_lt (by decide)))
  <| all_c (s_iret (by decide +kernel) rfl)
  <| all_n
theorem t_X0_readerNamed {l : Launch} {E : En_} (hE : EOK_ E) : Good_ l E yX0_readerNamed (.code yX0_readerNamed cX0_readerNamed 2 (some .int) :: G_) (rm_ 2) (f_X0_readerNamed E.2.2.2.1) := good_all hE (by decide +kernel) (a_X0_readerNamed hE)
noncomputable def P_X0_leansOnHowMany (K : Sh_)  : List (Nat × Op_) := [(0, o_ic 0 1),
  (1, o_ist 2 1),
  (2, o_ic 0 1),
  (3, o_ist 3 1),
  (4, o_ild 3 1),
  (5, o_ild 1 1),
  (6, o_cmpge 29),
  (9, o_ald 0 1),
  (10, o_gF K 0 4),
  (13, o_ild 1 1),
  (14, o_aald K),
  (15, o_ild 3 1),
  (16, o_iald K),
  (17, o_ifle 23),
  (20, o_inc 2 1),
  (23, o_inc 3 1),
  (26, o_goto 4),
  (29, o_ild 2 1),
  (30, o_iret)]
noncomputable def f_X0_leansOnHowMany (K : Sh_) : Fn_ := fn_ (P_X0_leansOnHowMany K) 4
set_option maxRecDepth 100000 in
theorem a_X0_leansOnHowMany {l : Launch} {E : En_} (hE : EOK_ E)   : All_ (Snd_ l E yX0_leansOnHowMany.cls cX0_leansOnHowMany 4 (some .int) (.code yX0_leansOnHowMany cX0_leansOnHowMany 4 (some .int) :: G_) (rm_ 1)) (P_X0_leansOnHowMany E.2.2.2.1 ) :=
  all_c (s_iconst (n := 0) (by decide +kernel) (by decide))
  <| all_c (s_ist_n (q := 2) (by decide +kernel) rfl)
  <| all_c (s_iconst (n := 0) (by decide +kernel) (by decide))
  <| all_c (s_ist_n (q := 3) (by decide +kernel) rfl)
  <| all_c (s_ild_n (q := 3) (by decide +kernel) rfl)
  <| all_c (s_ild_n (q := 1) (by decide +kernel) rfl)
  <| all_c (s_cmpge (off := 23) (by decide +kernel) (by decide))
  <| all_c (s_ald_n (q := 0) (by decide +kernel) rfl)
  <| all_c (g_0_4 (by decide +kernel) fl_RX0_26)
  <| all_c (s_ild_n (q := 1) (by decide +kernel) rfl)
  <| all_c (s_aald (by decide +kernel))
  <| all_c (s_ild_n (q := 3) (by decide +kernel) rfl)
  <| all_c (s_iald (by decide +kernel))
  <| all_c (s_ifle (off := 6) (by decide +kernel) (by decide))
  <| all_c (s_inc (n := 1) (by decide +kernel) (by decide))
  <| all_c (s_inc (n := 1) (by decide +kernel) (by decide))
  <| all_c (s_goto (off := (-22)) (by decide +kernel) (by decide))
  <| all_c (s_ild_n (q := 2) (by decide +kernel) rfl)
  <| all_c (s_iret (by decide +kernel) rfl)
  <| all_n
theorem t_X0_leansOnHowMany {l : Launch} {E : En_} (hE : EOK_ E) : Good_ l E yX0_leansOnHowMany (.code yX0_leansOnHowMany cX0_leansOnHowMany 4 (some .int) :: G_) (rm_ 1) (f_X0_leansOnHowMany E.2.2.2.1) := good_all hE (by decide +kernel) (a_X0_leansOnHowMany hE)
noncomputable def P_X8_fail (K : Sh_)  : List (Nat × Op_) := [(0, o_ald 0 1),
  (1, o_ild 1 1),
  (2, o_pI K 8 9),
  (5, o_ald 0 1),
  (6, o_ald 0 1),
  (7, o_gI K 8 5),
  (10, o_pI K 8 10),
  (13, o_ic 0 1),
  (14, o_zret)]
noncomputable def f_X8_fail (K : Sh_) : Fn_ := fn_ (P_X8_fail K) 2
set_option maxRecDepth 100000 in
theorem a_X8_fail {l : Launch} {E : En_} (hE : EOK_ E)   : All_ (Snd_ l E yX8_fail.cls cX8_fail 2 (some .boolean) (.code yX8_fail cX8_fail 2 (some .boolean) :: G_) (rm_ 1)) (P_X8_fail E.2.2.2.1 ) :=
  all_c (s_ald_n (q := 0) (by decide +kernel) rfl)
  <| all_c (s_ild_n (q := 1) (by decide +kernel) rfl)
  <| all_c (p_8_9 (by decide +kernel) fl_RX8_44)
  <| all_c (s_ald_n (q := 0) (by decide +kernel) rfl)
  <| all_c (s_ald_n (q := 0) (by decide +kernel) rfl)
  <| all_c (g_8_5 (by decide +kernel) fl_RX8_53)
  <| all_c (p_8_10 (by decide +kernel) fl_RX8_47)
  <| all_c (s_iconst (n := 0) (by decide +kernel) (by decide))
  <| all_c (s_zret (by decide +kernel) rfl)
  <| all_n
theorem t_X8_fail {l : Launch} {E : En_} (hE : EOK_ E) : Good_ l E yX8_fail (.code yX8_fail cX8_fail 2 (some .boolean) :: G_) (rm_ 1) (f_X8_fail E.2.2.2.1) := good_all hE (by decide +kernel) (a_X8_fail hE)
noncomputable def P_X8_isSign (K : Sh_)  : List (Nat × Op_) := [(0, o_ild 0 1),
  (1, o_ic 59 2),
  (3, o_cmpeq 36),
  (6, o_ild 0 1),
  (7, o_ic 40 2),
  (9, o_cmpeq 36),
  (12, o_ild 0 1),
  (13, o_ic 41 2),
  (15, o_cmpeq 36),
  (18, o_ild 0 1),
  (19, o_ic 60 2),
  (21, o_cmpeq 36),
  (24, o_ild 0 1),
  (25, o_ic 61 2),
  (27, o_cmpeq 36),
  (30, o_ild 0 1),
  (31, o_ic 62 2),
  (33, o_cmpne 40),
  (36, o_ic 1 1),
  (37, o_goto 41),
  (40, o_ic 0 1),
  (41, o_zret)]
noncomputable def f_X8_isSign (K : Sh_) : Fn_ := fn_ (P_X8_isSign K) 1
set_option maxRecDepth 100000 in
theorem a_X8_isSign {l : Launch} {E : En_} (hE : EOK_ E)   : All_ (Snd_ l E yX8_isSign.cls cX8_isSign 1 (some .boolean) (.code yX8_isSign cX8_isSign 1 (some .boolean) :: G_) (rm_ 1)) (P_X8_isSign E.2.2.2.1 ) :=
  all_c (s_ild_n (q := 0) (by decide +kernel) rfl)
  <| all_c (s_bipush (n := 59) (by decide +kernel) (by decide))
  <| all_c (s_cmpeq (off := 33) (by decide +kernel) (by decide))
  <| all_c (s_ild_n (q := 0) (by decide +kernel) rfl)
  <| all_c (s_bipush (n := 40) (by decide +kernel) (by decide))
  <| all_c (s_cmpeq (off := 27) (by decide +kernel) (by decide))
  <| all_c (s_ild_n (q := 0) (by decide +kernel) rfl)
  <| all_c (s_bipush (n := 41) (by decide +kernel) (by decide))
  <| all_c (s_cmpeq (off := 21) (by decide +kernel) (by decide))
  <| all_c (s_ild_n (q := 0) (by decide +kernel) rfl)
  <| all_c (s_bipush (n := 60) (by decide +kernel) (by decide))
  <| all_c (s_cmpeq (off := 15) (by decide +kernel) (by decide))
  <| all_c (s_ild_n (q := 0) (by decide +kernel) rfl)
  <| all_c (s_bipush (n := 61) (by decide +kernel) (by decide))
  <| all_c (s_cmpeq (off := 9) (by decide +kernel) (by decide))
  <| all_c (s_ild_n (q := 0) (by decide +kernel) rfl)
  <| all_c (s_bipush (n := 62) (by decide +kernel) (by decide))
  <| all_c (s_cmpne (off := 7) (by decide +kernel) (by decide))
  <| all_c (s_iconst (n := 1) (by decide +kernel) (by decide))
  <| all_c (s_goto (off := 4) (by decide +kernel) (by decide))
  <| all_c (s_iconst (n := 0) (by decide +kernel) (by decide))
  <| all_c (s_zret (by decide +kernel) rfl)
  <| all_n
theorem t_X8_isSign {l : Launch} {E : En_} (hE : EOK_ E) : Good_ l E yX8_isSign (.code yX8_isSign cX8_isSign 1 (some .boolean) :: G_) (rm_ 1) (f_X8_isSign E.2.2.2.1) := good_all hE (by decide +kernel) (a_X8_isSign hE)
noncomputable def P_X8_nextWordOrNumber (K : Sh_)  : List (Nat × Op_) := [(0, o_ic 0 1),
  (1, o_ist 1 1),
  (2, o_ic 0 1),
  (3, o_ist 2 1),
  (4, o_ald 0 1),
  (5, o_ic 0 1),
  (6, o_aft [3] (o_pI K 8 7)),
  (9, o_ald 0 1),
  (10, o_gI K 8 4),
  (13, o_ald 0 1),
  (14, o_gI K 8 2),
  (17, o_cmpge 109),
  (20, o_ald 0 1),
  (21, o_gF K 8 0),
  (24, o_ald 0 1),
  (25, o_gI K 8 4),
  (28, o_bald K),
  (29, o_ist 3 1),
  (30, o_ild 3 1),
  (31, o_ic 97 2),
  (33, o_cmplt 65),
  (36, o_ild 3 1),
  (37, o_ic 122 2),
  (39, o_cmpgt 65),
  (42, o_inc 1 1),
  (45, o_ald 0 1),
  (46, o_ald 0 1),
  (47, o_gI K 8 7),
  (50, o_ic 5 1),
  (51, o_ishl),
  (52, o_ild 3 1),
  (53, o_ic 97 2),
  (55, o_isub),
  (56, o_ic 1 1),
  (57, o_iadd),
  (58, o_ior),
  (59, o_pI K 8 7),
  (62, o_goto 96),
  (65, o_ild 3 1),
  (66, o_ic 48 2),
  (68, o_cmplt 109),
  (71, o_ild 3 1),
  (72, o_ic 57 2),
  (74, o_cmpgt 109),
  (77, o_inc 2 1),
  (80, o_ald 0 1),
  (81, o_ald 0 1),
  (82, o_gI K 8 7),
  (85, o_ic 10 2),
  (87, o_imul),
  (88, o_ild 3 1),
  (89, o_iadd),
  (90, o_ic 48 2),
  (92, o_isub),
  (93, o_pI K 8 7),
  (96, o_ald 0 1),
  (97, o_dup),
  (98, o_gI K 8 4),
  (101, o_ic 1 1),
  (102, o_iadd),
  (103, o_pI K 8 4),
  (106, o_aft [3] (o_goto 9)),
  (109, o_ald 0 1),
  (110, o_ic 1 1),
  (111, o_pI K 8 6),
  (114, o_ild 2 1),
  (115, o_ifne 171),
  (118, o_ild 1 1),
  (119, o_ic 1 1),
  (120, o_cmplt 171),
  (123, o_ild 1 1),
  (124, o_ic 6 2),
  (126, o_cmpgt 171),
  (129, o_ald 0 1),
  (130, o_ic 2 1),
  (131, o_pI K 8 6),
  (134, o_ic 0 1),
  (135, o_aft [1, 2] (o_ist 3 1)),
  (136, o_ild 3 1),
  (137, o_ic 20 2),
  (139, o_cmpge 168),
  (142, o_ald 0 1),
  (143, o_gF K 8 1),
  (146, o_ild 3 1),
  (147, o_iald K),
  (148, o_ald 0 1),
  (149, o_gI K 8 7),
  (152, o_cmpne 162),
  (155, o_ald 0 1),
  (156, o_ic 4 1),
  (157, o_ild 3 1),
  (158, o_iadd),
  (159, o_pI K 8 6),
  (162, o_inc 3 1),
  (165, o_aft [1, 2] (o_goto 136)),
  (168, o_goto 190),
  (171, o_ild 1 1),
  (172, o_ifne 190),
  (175, o_ild 2 1),
  (176, o_ic 1 1),
  (177, o_cmplt 190),
  (180, o_ild 2 1),
  (181, o_ic 3 1),
  (182, o_cmpgt 190),
  (185, o_ald 0 1),
  (186, o_ic 3 1),
  (187, o_pI K 8 6),
  (190, o_vret)]
noncomputable def f_X8_nextWordOrNumber (K : Sh_) : Fn_ := fn_ (P_X8_nextWordOrNumber K) 4
set_option maxRecDepth 100000 in
theorem a_X8_nextWordOrNumber {l : Launch} {E : En_} (hE : EOK_ E)   : All_ (Snd_ l E yX8_nextWordOrNumber.cls cX8_nextWordOrNumber 4 (none) (.code yX8_nextWordOrNumber cX8_nextWordOrNumber 4 (none) :: G_) (rm_ 1)) (P_X8_nextWordOrNumber E.2.2.2.1 ) :=
  all_c (s_iconst (n := 0) (by decide +kernel) (by decide))
  <| all_c (s_ist_n (q := 1) (by decide +kernel) rfl)
  <| all_c (s_iconst (n := 0) (by decide +kernel) (by decide))
  <| all_c (s_ist_n (q := 2) (by decide +kernel) rfl)
  <| all_c (s_ald_n (q := 0) (by decide +kernel) rfl)
  <| all_c (s_iconst (n := 0) (by decide +kernel) (by decide))
  <| all_c (s_aft (p_8_7 (by decide +kernel) fl_RX8_66))
  <| all_c (s_ald_n (q := 0) (by decide +kernel) rfl)
  <| all_c (g_8_4 (by decide +kernel) fl_RX8_41)
  <| all_c (s_ald_n (q := 0) (by decide +kernel) rfl)
  <| all_c (g_8_2 (by decide +kernel) fl_RX8_31)
  <| all_c (s_cmpge (off := 92) (by decide +kernel) (by decide))
  <| all_c (s_ald_n (q := 0) (by decide +kernel) rfl)
  <| all_c (g_8_0 (by decide +kernel) fl_RX8_11)
  <| all_c (s_ald_n (q := 0) (by decide +kernel) rfl)
  <| all_c (g_8_4 (by decide +kernel) fl_RX8_41)
  <| all_c (s_bald (by decide +kernel))
  <| all_c (s_ist_n (q := 3) (by decide +kernel) rfl)
  <| all_c (s_ild_n (q := 3) (by decide +kernel) rfl)
  <| all_c (s_bipush (n := 97) (by decide +kernel) (by decide))
  <| all_c (s_cmplt (off := 32) (by decide +kernel) (by decide))
  <| all_c (s_ild_n (q := 3) (by decide +kernel) rfl)
  <| all_c (s_bipush (n := 122) (by decide +kernel) (by decide))
  <| all_c (s_cmpgt (off := 26) (by decide +kernel) (by decide))
  <| all_c (s_inc (n := 1) (by decide +kernel) (by decide))
  <| all_c (s_ald_n (q := 0) (by decide +kernel) rfl)
  <| all_c (s_ald_n (q := 0) (by decide +kernel) rfl)
  <| all_c (g_8_7 (by decide +kernel) fl_RX8_66)
  <| all_c (s_iconst (n := 5) (by decide +kernel) (by decide))
  <| all_c (s_ishl (by decide +kernel))
  <| all_c (s_ild_n (q := 3) (by decide +kernel) rfl)
  <| all_c (s_bipush (n := 97) (by decide +kernel) (by decide))
  <| all_c (s_isub (by decide +kernel))
  <| all_c (s_iconst (n := 1) (by decide +kernel) (by decide))
  <| all_c (s_iadd (by decide +kernel))
  <| all_c (s_ior (by decide +kernel))
  <| all_c (p_8_7 (by decide +kernel) fl_RX8_66)
  <| all_c (s_goto (off := 34) (by decide +kernel) (by decide))
  <| all_c (s_ild_n (q := 3) (by decide +kernel) rfl)
  <| all_c (s_bipush (n := 48) (by decide +kernel) (by decide))
  <| all_c (s_cmplt (off := 41) (by decide +kernel) (by decide))
  <| all_c (s_ild_n (q := 3) (by decide +kernel) rfl)
  <| all_c (s_bipush (n := 57) (by decide +kernel) (by decide))
  <| all_c (s_cmpgt (off := 35) (by decide +kernel) (by decide))
  <| all_c (s_inc (n := 1) (by decide +kernel) (by decide))
  <| all_c (s_ald_n (q := 0) (by decide +kernel) rfl)
  <| all_c (s_ald_n (q := 0) (by decide +kernel) rfl)
  <| all_c (g_8_7 (by decide +kernel) fl_RX8_66)
  <| all_c (s_bipush (n := 10) (by decide +kernel) (by decide))
  <| all_c (s_imul (by decide +kernel))
  <| all_c (s_ild_n (q := 3) (by decide +kernel) rfl)
  <| all_c (s_iadd (by decide +kernel))
  <| all_c (s_bipush (n := 48) (by decide +kernel) (by decide))
  <| all_c (s_isub (by decide +kernel))
  <| all_c (p_8_7 (by decide +kernel) fl_RX8_66)
  <| all_c (s_ald_n (q := 0) (by decide +kernel) rfl)
  <| all_c (s_dup (by decide +kernel))
  <| all_c (g_8_4 (by decide +kernel) fl_RX8_41)
  <| all_c (s_iconst (n := 1) (by decide +kernel) (by decide))
  <| all_c (s_iadd (by decide +kernel))
  <| all_c (p_8_4 (by decide +kernel) fl_RX8_41)
  <| all_c (s_aft (s_goto (off := (-97)) (by decide +kernel) (by decide)))
  <| all_c (s_ald_n (q := 0) (by decide +kernel) rfl)
  <| all_c (s_iconst (n := 1) (by decide +kernel) (by decide))
  <| all_c (p_8_6 (by decide +kernel) fl_RX8_56)
  <| all_c (s_ild_n (q := 2) (by decide +kernel) rfl)
  <| all_c (s_ifne (off := 56) (by decide +kernel) (by decide))
  <| all_c (s_ild_n (q := 1) (by decide +kernel) rfl)
  <| all_c (s_iconst (n := 1) (by decide +kernel) (by decide))
  <| all_c (s_cmplt (off := 51) (by decide +kernel) (by decide))
  <| all_c (s_ild_n (q := 1) (by decide +kernel) rfl)
  <| all_c (s_bipush (n := 6) (by decide +kernel) (by decide))
  <| all_c (s_cmpgt (off := 45) (by decide +kernel) (by decide))
  <| all_c (s_ald_n (q := 0) (by decide +kernel) rfl)
  <| all_c (s_iconst (n := 2) (by decide +kernel) (by decide))
  <| all_c (p_8_6 (by decide +kernel) fl_RX8_56)
  <| all_c (s_iconst (n := 0) (by decide +kernel) (by decide))
  <| all_c (s_aft (s_ist_n (q := 3) (by decide +kernel) rfl))
  <| all_c (s_ild_n (q := 3) (by decide +kernel) rfl)
  <| all_c (s_bipush (n := 20) (by decide +kernel) (by decide))
  <| all_c (s_cmpge (off := 29) (by decide +kernel) (by decide))
  <| all_c (s_ald_n (q := 0) (by decide +kernel) rfl)
  <| all_c (g_8_1 (by decide +kernel) fl_RX8_15)
  <| all_c (s_ild_n (q := 3) (by decide +kernel) rfl)
  <| all_c (s_iald (by decide +kernel))
  <| all_c (s_ald_n (q := 0) (by decide +kernel) rfl)
  <| all_c (g_8_7 (by decide +kernel) fl_RX8_66)
  <| all_c (s_cmpne (off := 10) (by decide +kernel) (by decide))
  <| all_c (s_ald_n (q := 0) (by decide +kernel) rfl)
  <| all_c (s_iconst (n := 4) (by decide +kernel) (by decide))
  <| all_c (s_ild_n (q := 3) (by decide +kernel) rfl)
  <| all_c (s_iadd (by decide +kernel))
  <| all_c (p_8_6 (by decide +kernel) fl_RX8_56)
  <| all_c (s_inc (n := 1) (by decide +kernel) (by decide))
  <| all_c (s_aft (s_goto (off := (-29)) (by decide +kernel) (by decide)))
  <| all_c (s_goto (off := 22) (by decide +kernel) (by decide))
  <| all_c (s_ild_n (q := 1) (by decide +kernel) rfl)
  <| all_c (s_ifne (off := 18) (by decide +kernel) (by decide))
  <| all_c (s_ild_n (q := 2) (by decide +kernel) rfl)
  <| all_c (s_iconst (n := 1) (by decide +kernel) (by decide))
  <| all_c (s_cmplt (off := 13) (by decide +kernel) (by decide))
  <| all_c (s_ild_n (q := 2) (by decide +kernel) rfl)
  <| all_c (s_iconst (n := 3) (by decide +kernel) (by decide))
  <| all_c (s_cmpgt (off := 8) (by decide +kernel) (by decide))
  <| all_c (s_ald_n (q := 0) (by decide +kernel) rfl)
  <| all_c (s_iconst (n := 3) (by decide +kernel) (by decide))
  <| all_c (p_8_6 (by decide +kernel) fl_RX8_56)
  <| all_c (s_vret (by decide +kernel) rfl)
  <| all_n
theorem t_X8_nextWordOrNumber {l : Launch} {E : En_} (hE : EOK_ E) : Good_ l E yX8_nextWordOrNumber (.code yX8_nextWordOrNumber cX8_nextWordOrNumber 4 (none) :: G_) (rm_ 1) (f_X8_nextWordOrNumber E.2.2.2.1) := good_all hE (by decide +kernel) (a_X8_nextWordOrNumber hE)
noncomputable def P_X8_next (K : Sh_)  : List (Nat × Op_) := [(0, o_ald 0 1),
  (1, o_gI K 8 4),
  (4, o_ald 0 1),
  (5, o_gI K 8 2),
  (8, o_cmpge 52),
  (11, o_ald 0 1),
  (12, o_gF K 8 0),
  (15, o_ald 0 1),
  (16, o_gI K 8 4),
  (19, o_bald K),
  (20, o_ic 32 2),
  (22, o_cmpeq 39),
  (25, o_ald 0 1),
  (26, o_gF K 8 0),
  (29, o_ald 0 1),
  (30, o_gI K 8 4),
  (33, o_bald K),
  (34, o_ic 10 2),
  (36, o_cmpne 52),
  (39, o_ald 0 1),
  (40, o_dup),
  (41, o_gI K 8 4),
  (44, o_ic 1 1),
  (45, o_iadd),
  (46, o_pI K 8 4),
  (49, o_goto 0),
  (52, o_ald 0 1),
  (53, o_ald 0 1),
  (54, o_gI K 8 4),
  (57, o_pI K 8 5),
  (60, o_ald 0 1),
  (61, o_gI K 8 2),
  (64, o_ald 0 1),
  (65, o_gI K 8 3),
  (68, o_cmple 98),
  (71, o_ald 0 1),
  (72, o_gI K 8 4),
  (75, o_ald 0 1),
  (76, o_gI K 8 3),
  (79, o_cmplt 98),
  (82, o_ald 0 1),
  (83, o_ald 0 1),
  (84, o_gI K 8 3),
  (87, o_pI K 8 5),
  (90, o_ald 0 1),
  (91, o_ic 1 1),
  (92, o_pI K 8 6),
  (95, o_goto 162),
  (98, o_ald 0 1),
  (99, o_gI K 8 4),
  (102, o_ald 0 1),
  (103, o_gI K 8 2),
  (106, o_cmplt 117),
  (109, o_ald 0 1),
  (110, o_ic 0 1),
  (111, o_pI K 8 6),
  (114, o_goto 162),
  (117, o_ald 0 1),
  (118, o_gF K 8 0),
  (121, o_ald 0 1),
  (122, o_gI K 8 4),
  (125, o_bald K),
  (126, o_callS (f_X8_isSign K) 1),
  (129, o_ifeq 158),
  (132, o_ald 0 1),
  (133, o_ald 0 1),
  (134, o_gF K 8 0),
  (137, o_ald 0 1),
  (138, o_gI K 8 4),
  (141, o_bald K),
  (142, o_pI K 8 6),
  (145, o_ald 0 1),
  (146, o_dup),
  (147, o_gI K 8 4),
  (150, o_ic 1 1),
  (151, o_iadd),
  (152, o_pI K 8 4),
  (155, o_goto 162),
  (158, o_ald 0 1),
  (159, o_callV K 8 (f_X8_nextWordOrNumber K) 0),
  (162, o_vret)]
noncomputable def f_X8_next (K : Sh_) : Fn_ := fn_ (P_X8_next K) 1
set_option maxRecDepth 100000 in
theorem a_X8_next {l : Launch} {E : En_} (hE : EOK_ E)   : All_ (Snd_ l E yX8_next.cls cX8_next 1 (none) (.code yX8_next cX8_next 1 (none) :: G_) (rm_ 2)) (P_X8_next E.2.2.2.1 ) :=
  all_c (s_ald_n (q := 0) (by decide +kernel) rfl)
  <| all_c (g_8_4 (by decide +kernel) fl_RX8_41)
  <| all_c (s_ald_n (q := 0) (by decide +kernel) rfl)
  <| all_c (g_8_2 (by decide +kernel) fl_RX8_31)
  <| all_c (s_cmpge (off := 44) (by decide +kernel) (by decide))
  <| all_c (s_ald_n (q := 0) (by decide +kernel) rfl)
  <| all_c (g_8_0 (by decide +kernel) fl_RX8_11)
  <| all_c (s_ald_n (q := 0) (by decide +kernel) rfl)
  <| all_c (g_8_4 (by decide +kernel) fl_RX8_41)
  <| all_c (s_bald (by decide +kernel))
  <| all_c (s_bipush (n := 32) (by decide +kernel) (by decide))
  <| all_c (s_cmpeq (off := 17) (by decide +kernel) (by decide))
  <| all_c (s_ald_n (q := 0) (by decide +kernel) rfl)
  <| all_c (g_8_0 (by decide +kernel) fl_RX8_11)
  <| all_c (s_ald_n (q := 0) (by decide +kernel) rfl)
  <| all_c (g_8_4 (by decide +kernel) fl_RX8_41)
  <| all_c (s_bald (by decide +kernel))
  <| all_c (s_bipush (n := 10) (by decide +kernel) (by decide))
  <| all_c (s_cmpne (off := 16) (by decide +kernel) (by decide))
  <| all_c (s_ald_n (q := 0) (by decide +kernel) rfl)
  <| all_c (s_dup (by decide +kernel))
  <| all_c (g_8_4 (by decide +kernel) fl_RX8_41)
  <| all_c (s_iconst (n := 1) (by decide +kernel) (by decide))
  <| all_c (s_iadd (by decide +kernel))
  <| all_c (p_8_4 (by decide +kernel) fl_RX8_41)
  <| all_c (s_goto (off := (-49)) (by decide +kernel) (by decide))
  <| all_c (s_ald_n (q := 0) (by decide +kernel) rfl)
  <| all_c (s_ald_n (q := 0) (by decide +kernel) rfl)
  <| all_c (g_8_4 (by decide +kernel) fl_RX8_41)
  <| all_c (p_8_5 (by decide +kernel) fl_RX8_53)
  <| all_c (s_ald_n (q := 0) (by decide +kernel) rfl)
  <| all_c (g_8_2 (by decide +kernel) fl_RX8_31)
  <| all_c (s_ald_n (q := 0) (by decide +kernel) rfl)
  <| all_c (g_8_3 (by decide +kernel) fl_RX8_38)
  <| all_c (s_cmple (off := 30) (by decide +kernel) (by decide))
  <| all_c (s_ald_n (q := 0) (by decide +kernel) rfl)
  <| all_c (g_8_4 (by decide +kernel) fl_RX8_41)
  <| all_c (s_ald_n (q := 0) (by decide +kernel) rfl)
  <| all_c (g_8_3 (by decide +kernel) fl_RX8_38)
  <| all_c (s_cmplt (off := 19) (by decide +kernel) (by decide))
  <| all_c (s_ald_n (q := 0) (by decide +kernel) rfl)
  <| all_c (s_ald_n (q := 0) (by decide +kernel) rfl)
  <| all_c (g_8_3 (by decide +kernel) fl_RX8_38)
  <| all_c (p_8_5 (by decide +kernel) fl_RX8_53)
  <| all_c (s_ald_n (q := 0) (by decide +kernel) rfl)
  <| all_c (s_iconst (n := 1) (by decide +kernel) (by decide))
  <| all_c (p_8_6 (by decide +kernel) fl_RX8_56)
  <| all_c (s_goto (off := 67) (by decide +kernel) (by decide))
  <| all_c (s_ald_n (q := 0) (by decide +kernel) rfl)
  <| all_c (g_8_4 (by decide +kernel) fl_RX8_41)
  <| all_c (s_ald_n (q := 0) (by decide +kernel) rfl)
  <| all_c (g_8_2 (by decide +kernel) fl_RX8_31)
  <| all_c (s_cmplt (off := 11) (by decide +kernel) (by decide))
  <| all_c (s_ald_n (q := 0) (by decide +kernel) rfl)
  <| all_c (s_iconst (n := 0) (by decide +kernel) (by decide))
  <| all_c (p_8_6 (by decide +kernel) fl_RX8_56)
  <| all_c (s_goto (off := 48) (by decide +kernel) (by decide))
  <| all_c (s_ald_n (q := 0) (by decide +kernel) rfl)
  <| all_c (g_8_0 (by decide +kernel) fl_RX8_11)
  <| all_c (s_ald_n (q := 0) (by decide +kernel) rfl)
  <| all_c (g_8_4 (by decide +kernel) fl_RX8_41)
  <| all_c (s_bald (by decide +kernel))
  <| all_c (s_callS (by decide +kernel) (t_X8_isSign hE) cl_X8_isSign ml_RX8_59 sm_X8_isSign (rm_lt (by decide)))
  <| all_c (s_ifeq (off := 29) (by decide +kernel) (by decide))
  <| all_c (s_ald_n (q := 0) (by decide +kernel) rfl)
  <| all_c (s_ald_n (q := 0) (by decide +kernel) rfl)
  <| all_c (g_8_0 (by decide +kernel) fl_RX8_11)
  <| all_c (s_ald_n (q := 0) (by decide +kernel) rfl)
  <| all_c (g_8_4 (by decide +kernel) fl_RX8_41)
  <| all_c (s_bald (by decide +kernel))
  <| all_c (p_8_6 (by decide +kernel) fl_RX8_56)
  <| all_c (s_ald_n (q := 0) (by decide +kernel) rfl)
  <| all_c (s_dup (by decide +kernel))
  <| all_c (g_8_4 (by decide +kernel) fl_RX8_41)
  <| all_c (s_iconst (n := 1) (by decide +kernel) (by decide))
  <| all_c (s_iadd (by decide +kernel))
  <| all_c (p_8_4 (by decide +kernel) fl_RX8_41)
  <| all_c (s_goto (off := 7) (by decide +kernel) (by decide))
  <| all_c (s_ald_n (q := 0) (by decide +kernel) rfl)
  <| all_c (s_callV (by decide +kernel) (t_X8_nextWordOrNumber hE) cl_X8_nextWordOrNumber ml_RX8_63 im_X8_nextWordOrNumber se_X8_nextWordOrNumber (by decide) rfl (rm_lt (by decide)))
  <| all_c (s_vret (by decide +kernel) rfl)
  <| all_n
theorem t_X8_next {l : Launch} {E : En_} (hE : EOK_ E) : Good_ l E yX8_next (.code yX8_next cX8_next 1 (none) :: G_) (rm_ 2) (f_X8_next E.2.2.2.1) := good_all hE (by decide +kernel) (a_X8_next hE)
noncomputable def P_X8_takeNumber (K : Sh_)  : List (Nat × Op_) := [(0, o_ald 0 1),
  (1, o_gI K 8 6),
  (4, o_ic 3 1),
  (5, o_cmpeq 14),
  (8, o_ald 0 1),
  (9, o_ic 1 1),
  (10, o_callV K 8 (f_X8_fail K) 1),
  (13, o_zret),
  (14, o_ald 0 1),
  (15, o_gI K 8 7),
  (18, o_ild 1 1),
  (19, o_cmplt 30),
  (22, o_ald 0 1),
  (23, o_gI K 8 7),
  (26, o_ild 2 1),
  (27, o_cmple 36),
  (30, o_ald 0 1),
  (31, o_ic 2 1),
  (32, o_callV K 8 (f_X8_fail K) 1),
  (35, o_zret),
  (36, o_ald 0 1),
  (37, o_ald 0 1),
  (38, o_gI K 8 7),
  (41, o_pI K 8 8),
  (44, o_ald 0 1),
  (45, o_callV K 8 (f_X8_next K) 0),
  (48, o_ic 1 1),
  (49, o_zret)]
noncomputable def f_X8_takeNumber (K : Sh_) : Fn_ := fn_ (P_X8_takeNumber K) 3
set_option maxRecDepth 100000 in
theorem a_X8_takeNumber {l : Launch} {E : En_} (hE : EOK_ E)   : All_ (Snd_ l E yX8_takeNumber.cls cX8_takeNumber 3 (some .boolean) (.code yX8_takeNumber cX8_takeNumber 3 (some .boolean) :: G_) (rm_ 3)) (P_X8_takeNumber E.2.2.2.1 ) :=
  all_c (s_ald_n (q := 0) (by decide +kernel) rfl)
  <| all_c (g_8_6 (by decide +kernel) fl_RX8_56)
  <| all_c (s_iconst (n := 3) (by decide +kernel) (by decide))
  <| all_c (s_cmpeq (off := 9) (by decide +kernel) (by decide))
  <| all_c (s_ald_n (q := 0) (by decide +kernel) rfl)
  <| all_c (s_iconst (n := 1) (by decide +kernel) (by decide))
  <| all_c (s_callV (by decide +kernel) (t_X8_fail hE) cl_X8_fail ml_RX8_69 im_X8_fail se_X8_fail (by decide) rfl (rm_lt (by decide)))
  <| all_c (s_zret (by decide +kernel) rfl)
  <| all_c (s_ald_n (q := 0) (by decide +kernel) rfl)
  <| all_c (g_8_7 (by decide +kernel) fl_RX8_66)
  <| all_c (s_ild_n (q := 1) (by decide +kernel) rfl)
  <| all_c (s_cmplt (off := 11) (by decide +kernel) (by decide))
  <| all_c (s_ald_n (q := 0) (by decide +kernel) rfl)
  <| all_c (g_8_7 (by decide +kernel) fl_RX8_66)
  <| all_c (s_ild_n (q := 2) (by decide +kernel) rfl)
  <| all_c (s_cmple (off := 9) (by decide +kernel) (by decide))
  <| all_c (s_ald_n (q := 0) (by decide +kernel) rfl)
  <| all_c (s_iconst (n := 2) (by decide +kernel) (by decide))
  <| all_c (s_callV (by decide +kernel) (t_X8_fail hE) cl_X8_fail ml_RX8_69 im_X8_fail se_X8_fail (by decide) rfl (rm_lt (by decide)))
  <| all_c (s_zret (by decide +kernel) rfl)
  <| all_c (s_ald_n (q := 0) (by decide +kernel) rfl)
  <| all_c (s_ald_n (q := 0) (by decide +kernel) rfl)
  <| all_c (g_8_7 (by decide +kernel) fl_RX8_66)
  <| all_c (p_8_8 (by decide +kernel) fl_RX8_72)
  <| all_c (s_ald_n (q := 0) (by decide +kernel) rfl)
  <| all_c (s_callV (by decide +kernel) (t_X8_next hE) cl_X8_next ml_RX8_50 im_X8_next se_X8_next (by decide) rfl (rm_lt (by decide)))
  <| all_c (s_iconst (n := 1) (by decide +kernel) (by decide))
  <| all_c (s_zret (by decide +kernel) rfl)
  <| all_n
theorem t_X8_takeNumber {l : Launch} {E : En_} (hE : EOK_ E) : Good_ l E yX8_takeNumber (.code yX8_takeNumber cX8_takeNumber 3 (some .boolean) :: G_) (rm_ 3) (f_X8_takeNumber E.2.2.2.1) := good_all hE (by decide +kernel) (a_X8_takeNumber hE)
noncomputable def P_X0_readAgain (K : Sh_)  : List (Nat × Op_) := [(0, o_ald 0 1),
  (1, o_gI K 0 17),
  (4, o_ifeq 13),
  (7, o_ald 1 1),
  (8, o_ic 3 1),
  (9, o_callV K 8 (f_X8_fail K) 1),
  (12, o_zret),
  (13, o_ald 1 1),
  (14, o_callV K 8 (f_X8_next K) 0),
  (17, o_ald 1 1),
  (18, o_ic 0 1),
  (19, o_ic 10 2),
  (21, o_callV K 8 (f_X8_takeNumber K) 2),
  (24, o_ifne 29),
  (27, o_ic 0 1),
  (28, o_zret),
  (29, o_ald 0 1),
  (30, o_ald 1 1),
  (31, o_gI K 8 8),
  (34, o_pI K 0 15),
  (37, o_ald 0 1),
  (38, o_ic 1 1),
  (39, o_pZ K 0 17),
  (42, o_ic 1 1),
  (43, o_zret)]
noncomputable def f_X0_readAgain (K : Sh_) : Fn_ := fn_ (P_X0_readAgain K) 2
set_option maxRecDepth 100000 in
theorem a_X0_readAgain {l : Launch} {E : En_} (hE : EOK_ E)   : All_ (Snd_ l E yX0_readAgain.cls cX0_readAgain 2 (some .boolean) (.code yX0_readAgain cX0_readAgain 2 (some .boolean) :: G_) (rm_ 4)) (P_X0_readAgain E.2.2.2.1 ) :=
  all_c (s_ald_n (q := 0) (by decide +kernel) rfl)
  <| all_c (g_0_17 (by decide +kernel) fl_RX0_70)
  <| all_c (s_ifeq (off := 9) (by decide +kernel) (by decide))
  <| all_c (s_ald_n (q := 1) (by decide +kernel) rfl)
  <| all_c (s_iconst (n := 3) (by decide +kernel) (by decide))
  <| all_c (s_callV (by decide +kernel) (t_X8_fail hE) cl_X8_fail ml_RX0_105 im_X8_fail se_X8_fail (by decide) rfl (rm_lt (by decide)))
  <| all_c (s_zret (by decide +kernel) rfl)
  <| all_c (s_ald_n (q := 1) (by decide +kernel) rfl)
  <| all_c (s_callV (by decide +kernel) (t_X8_next hE) cl_X8_next ml_RX0_112 im_X8_next se_X8_next (by decide) rfl (rm_lt (by decide)))
  <| all_c (s_ald_n (q := 1) (by decide +kernel) rfl)
  <| all_c (s_iconst (n := 0) (by decide +kernel) (by decide))
  <| all_c (s_bipush (n := 10) (by decide +kernel) (by decide))
  <| all_c (s_callV (by decide +kernel) (t_X8_takeNumber hE) cl_X8_takeNumber ml_RX0_121 im_X8_takeNumber se_X8_takeNumber (by decide) rfl (rm_lt (by decide)))
  <| all_c (s_ifne (off := 5) (by decide +kernel) (by decide))
  <| all_c (s_iconst (n := 0) (by decide +kernel) (by decide))
  <| all_c (s_zret (by decide +kernel) rfl)
  <| all_c (s_ald_n (q := 0) (by decide +kernel) rfl)
  <| all_c (s_ald_n (q := 1) (by decide +kernel) rfl)
  <| all_c (g_8_8 (by decide +kernel) fl_RX0_118)
  <| all_c (p_0_15 (by decide +kernel) fl_RX0_63)
  <| all_c (s_ald_n (q := 0) (by decide +kernel) rfl)
  <| all_c (s_iconst (n := 1) (by decide +kernel) (by decide))
  <| all_c (p_0_17 (by decide +kernel) fl_RX0_70)
  <| all_c (s_iconst (n := 1) (by decide +kernel) (by decide))
  <| all_c (s_zret (by decide +kernel) rfl)
  <| all_n
theorem t_X0_readAgain {l : Launch} {E : En_} (hE : EOK_ E) : Good_ l E yX0_readAgain (.code yX0_readAgain cX0_readAgain 2 (some .boolean) :: G_) (rm_ 4) (f_X0_readAgain E.2.2.2.1) := good_all hE (by decide +kernel) (a_X0_readAgain hE)
noncomputable def P_X8_takeChap (K : Sh_)  : List (Nat × Op_) := [(0, o_ald 0 1),
  (1, o_gI K 8 6),
  (4, o_ic 2 1),
  (5, o_cmpeq 14),
  (8, o_ald 0 1),
  (9, o_ic 1 1),
  (10, o_callV K 8 (f_X8_fail K) 1),
  (13, o_zret),
  (14, o_ald 1 1),
  (15, o_ald 0 1),
  (16, o_gI K 8 7),
  (19, o_callV K 0 (f_X0_chapNamed K) 1),
  (22, o_ist 2 1),
  (23, o_ild 2 1),
  (24, o_ic (-1) 1),
  (25, o_cmpne 34),
  (28, o_ald 0 1),
  (29, o_ic 3 1),
  (30, o_callV K 8 (f_X8_fail K) 1),
  (33, o_zret),
  (34, o_ald 0 1),
  (35, o_callV K 8 (f_X8_next K) 0),
  (38, o_ald 0 1),
  (39, o_ild 2 1),
  (40, o_pI K 8 8),
  (43, o_ic 1 1),
  (44, o_zret)]
noncomputable def f_X8_takeChap (K : Sh_) : Fn_ := fn_ (P_X8_takeChap K) 3
set_option maxRecDepth 100000 in
theorem a_X8_takeChap {l : Launch} {E : En_} (hE : EOK_ E)   : All_ (Snd_ l E yX8_takeChap.cls cX8_takeChap 3 (some .boolean) (.code yX8_takeChap cX8_takeChap 3 (some .boolean) :: G_) (rm_ 3)) (P_X8_takeChap E.2.2.2.1 ) :=
  all_c (s_ald_n (q := 0) (by decide +kernel) rfl)
  <| all_c (g_8_6 (by decide +kernel) fl_RX8_56)
  <| all_c (s_iconst (n := 2) (by decide +kernel) (by decide))
  <| all_c (s_cmpeq (off := 9) (by decide +kernel) (by decide))
  <| all_c (s_ald_n (q := 0) (by decide +kernel) rfl)
  <| all_c (s_iconst (n := 1) (by decide +kernel) (by decide))
  <| all_c (s_callV (by decide +kernel) (t_X8_fail hE) cl_X8_fail ml_RX8_69 im_X8_fail se_X8_fail (by decide) rfl (rm_lt (by decide)))
  <| all_c (s_zret (by decide +kernel) rfl)
  <| all_c (s_ald_n (q := 1) (by decide +kernel) rfl)
  <| all_c (s_ald_n (q := 0) (by decide +kernel) rfl)
  <| all_c (g_8_7 (by decide +kernel) fl_RX8_66)
  <| all_c (s_callV (by decide +kernel) (t_X0_chapNamed hE) cl_X0_chapNamed ml_RX8_75 im_X0_chapNamed se_X0_chapNamed (by decide) rfl (rm_lt (by decide)))
  <| all_c (s_ist_n (q := 2) (by decide +kernel) rfl)
  <| all_c (s_ild_n (q := 2) (by decide +kernel) rfl)
  <| all_c (s_iconst (n := (-1)) (by decide +kernel) (by decide))
  <| all_c (s_cmpne (off := 9) (by decide +kernel) (by decide))
  <| all_c (s_ald_n (q := 0) (by decide +kernel) rfl)
  <| all_c (s_iconst (n := 3) (by decide +kernel) (by decide))
  <| all_c (s_callV (by decide +kernel) (t_X8_fail hE) cl_X8_fail ml_RX8_69 im_X8_fail se_X8_fail (by decide) rfl (rm_lt (by decide)))
  <| all_c (s_zret (by decide +kernel) rfl)
  <| all_c (s_ald_n (q := 0) (by decide +kernel) rfl)
  <| all_c (s_callV (by decide +kernel) (t_X8_next hE) cl_X8_next ml_RX8_50 im_X8_next se_X8_next (by decide) rfl (rm_lt (by decide)))
  <| all_c (s_ald_n (q := 0) (by decide +kernel) rfl)
  <| all_c (s_ild_n (q := 2) (by decide +kernel) rfl)
  <| all_c (p_8_8 (by decide +kernel) fl_RX8_72)
  <| all_c (s_iconst (n := 1) (by decide +kernel) (by decide))
  <| all_c (s_zret (by decide +kernel) rfl)
  <| all_n
theorem t_X8_takeChap {l : Launch} {E : En_} (hE : EOK_ E) : Good_ l E yX8_takeChap (.code yX8_takeChap cX8_takeChap 3 (some .boolean) :: G_) (rm_ 3) (f_X8_takeChap E.2.2.2.1) := good_all hE (by decide +kernel) (a_X8_takeChap hE)
noncomputable def P_X0_readLeanings (K : Sh_)  : List (Nat × Op_) := [(0, o_ic 0 1),
  (1, o_aft [4, 5] (o_ist 3 1)),
  (2, o_ild 3 1),
  (3, o_ic 16 2),
  (5, o_cmpge 23),
  (8, o_ald 0 1),
  (9, o_gF K 0 4),
  (12, o_ild 2 1),
  (13, o_aald K),
  (14, o_ild 3 1),
  (15, o_ic 0 1),
  (16, o_iast K),
  (17, o_inc 3 1),
  (20, o_aft [4, 5] (o_goto 2)),
  (23, o_ic 10 2),
  (25, o_ist 3 1),
  (26, o_ic 0 1),
  (27, o_aft [5] (o_ist 4 2)),
  (29, o_ild 4 2),
  (31, o_ic 16 2),
  (33, o_cmpge 145),
  (36, o_ald 1 1),
  (37, o_gI K 8 6),
  (40, o_ic 5 1),
  (41, o_cmpne 145),
  (44, o_ald 1 1),
  (45, o_callV K 8 (f_X8_next K) 0),
  (48, o_ald 1 1),
  (49, o_gI K 8 6),
  (52, o_ic 2 1),
  (53, o_cmpne 67),
  (56, o_ald 0 1),
  (57, o_ald 1 1),
  (58, o_gI K 8 7),
  (61, o_callV K 0 (f_X0_chapNamed K) 1),
  (64, o_aft [5] (o_goto 68)),
  (67, o_aft [5] (o_ic (-1) 1)),
  (68, o_ist 5 2),
  (70, o_ild 5 2),
  (72, o_ic (-1) 1),
  (73, o_cmpeq 94),
  (76, o_ald 0 1),
  (77, o_gF K 0 4),
  (80, o_ild 2 1),
  (81, o_aald K),
  (82, o_ild 5 2),
  (84, o_iald K),
  (85, o_ifle 94),
  (88, o_ald 1 1),
  (89, o_ic 3 1),
  (90, o_callV K 8 (f_X8_fail K) 1),
  (93, o_zret),
  (94, o_ald 1 1),
  (95, o_ald 0 1),
  (96, o_callV K 8 (f_X8_takeChap K) 1),
  (99, o_ifeq 111),
  (102, o_ald 1 1),
  (103, o_ic 1 1),
  (104, o_ild 3 1),
  (105, o_callV K 8 (f_X8_takeNumber K) 2),
  (108, o_ifne 113),
  (111, o_ic 0 1),
  (112, o_zret),
  (113, o_ild 5 2),
  (115, o_ic (-1) 1),
  (116, o_cmpeq 139),
  (119, o_ald 0 1),
  (120, o_gF K 0 4),
  (123, o_ild 2 1),
  (124, o_aald K),
  (125, o_ild 5 2),
  (127, o_ald 1 1),
  (128, o_gI K 8 8),
  (131, o_iast K),
  (132, o_ild 3 1),
  (133, o_ald 1 1),
  (134, o_gI K 8 8),
  (137, o_isub),
  (138, o_ist 3 1),
  (139, o_inc 4 1),
  (142, o_aft [5] (o_goto 29)),
  (145, o_ic 1 1),
  (146, o_zret)]
noncomputable def f_X0_readLeanings (K : Sh_) : Fn_ := fn_ (P_X0_readLeanings K) 6
set_option maxRecDepth 100000 in
theorem a_X0_readLeanings {l : Launch} {E : En_} (hE : EOK_ E)   : All_ (Snd_ l E yX0_readLeanings.cls cX0_readLeanings 6 (some .boolean) (.code yX0_readLeanings cX0_readLeanings 6 (some .boolean) :: G_) (rm_ 4)) (P_X0_readLeanings E.2.2.2.1 ) :=
  all_c (s_iconst (n := 0) (by decide +kernel) (by decide))
  <| all_c (s_aft (s_ist_n (q := 3) (by decide +kernel) rfl))
  <| all_c (s_ild_n (q := 3) (by decide +kernel) rfl)
  <| all_c (s_bipush (n := 16) (by decide +kernel) (by decide))
  <| all_c (s_cmpge (off := 18) (by decide +kernel) (by decide))
  <| all_c (s_ald_n (q := 0) (by decide +kernel) rfl)
  <| all_c (g_0_4 (by decide +kernel) fl_RX0_26)
  <| all_c (s_ild_n (q := 2) (by decide +kernel) rfl)
  <| all_c (s_aald (by decide +kernel))
  <| all_c (s_ild_n (q := 3) (by decide +kernel) rfl)
  <| all_c (s_iconst (n := 0) (by decide +kernel) (by decide))
  <| all_c (s_iast (by decide +kernel))
  <| all_c (s_inc (n := 1) (by decide +kernel) (by decide))
  <| all_c (s_aft (s_goto (off := (-18)) (by decide +kernel) (by decide)))
  <| all_c (s_bipush (n := 10) (by decide +kernel) (by decide))
  <| all_c (s_ist_n (q := 3) (by decide +kernel) rfl)
  <| all_c (s_iconst (n := 0) (by decide +kernel) (by decide))
  <| all_c (s_aft (s_ist (by decide +kernel)))
  <| all_c (s_ild (by decide +kernel))
  <| all_c (s_bipush (n := 16) (by decide +kernel) (by decide))
  <| all_c (s_cmpge (off := 112) (by decide +kernel) (by decide))
  <| all_c (s_ald_n (q := 1) (by decide +kernel) rfl)
  <| all_c (g_8_6 (by decide +kernel) fl_RX0_89)
  <| all_c (s_iconst (n := 5) (by decide +kernel) (by decide))
  <| all_c (s_cmpne (off := 104) (by decide +kernel) (by decide))
  <| all_c (s_ald_n (q := 1) (by decide +kernel) rfl)
  <| all_c (s_callV (by decide +kernel) (t_X8_next hE) cl_X8_next ml_RX0_112 im_X8_next se_X8_next (by decide) rfl (rm_lt (by decide)))
  <| all_c (s_ald_n (q := 1) (by decide +kernel) rfl)
  <| all_c (g_8_6 (by decide +kernel) fl_RX0_89)
  <| all_c (s_iconst (n := 2) (by decide +kernel) (by decide))
  <| all_c (s_cmpne (off := 14) (by decide +kernel) (by decide))
  <| all_c (s_ald_n (q := 0) (by decide +kernel) rfl)
  <| all_c (s_ald_n (q := 1) (by decide +kernel) rfl)
  <| all_c (g_8_7 (by decide +kernel) fl_RX0_129)
  <| all_c (s_callV (by decide +kernel) (t_X0_chapNamed hE) cl_X0_chapNamed ml_RX0_132 im_X0_chapNamed se_X0_chapNamed (by decide) rfl (rm_lt (by decide)))
  <| all_c (s_aft (s_goto (off := 4) (by decide +kernel) (by decide)))
  <| all_c (s_aft (s_iconst (n := (-1)) (by decide +kernel) (by decide)))
  <| all_c (s_ist (by decide +kernel))
  <| all_c (s_ild (by decide +kernel))
  <| all_c (s_iconst (n := (-1)) (by decide +kernel) (by decide))
  <| all_c (s_cmpeq (off := 21) (by decide +kernel) (by decide))
  <| all_c (s_ald_n (q := 0) (by decide +kernel) rfl)
  <| all_c (g_0_4 (by decide +kernel) fl_RX0_26)
  <| all_c (s_ild_n (q := 2) (by decide +kernel) rfl)
  <| all_c (s_aald (by decide +kernel))
  <| all_c (s_ild (by decide +kernel))
  <| all_c (s_iald (by decide +kernel))
  <| all_c (s_ifle (off := 9) (by decide +kernel) (by decide))
  <| all_c (s_ald_n (q := 1) (by decide +kernel) rfl)
  <| all_c (s_iconst (n := 3) (by decide +kernel) (by decide))
  <| all_c (s_callV (by decide +kernel) (t_X8_fail hE) cl_X8_fail ml_RX0_105 im_X8_fail se_X8_fail (by decide) rfl (rm_lt (by decide)))
  <| all_c (s_zret (by decide +kernel) rfl)
  <| all_c (s_ald_n (q := 1) (by decide +kernel) rfl)
  <| all_c (s_ald_n (q := 0) (by decide +kernel) rfl)
  <| all_c (s_callV (by decide +kernel) (t_X8_takeChap hE) cl_X8_takeChap ml_RX0_136 im_X8_takeChap se_X8_takeChap (by decide) rfl (rm_lt (by decide)))
  <| all_c (s_ifeq (off := 12) (by decide +kernel) (by decide))
  <| all_c (s_ald_n (q := 1) (by decide +kernel) rfl)
  <| all_c (s_iconst (n := 1) (by decide +kernel) (by decide))
  <| all_c (s_ild_n (q := 3) (by decide +kernel) rfl)
  <| all_c (s_callV (by decide +kernel) (t_X8_takeNumber hE) cl_X8_takeNumber ml_RX0_121 im_X8_takeNumber se_X8_takeNumber (by decide) rfl (rm_lt (by decide)))
  <| all_c (s_ifne (off := 5) (by decide +kernel) (by decide))
  <| all_c (s_iconst (n := 0) (by decide +kernel) (by decide))
  <| all_c (s_zret (by decide +kernel) rfl)
  <| all_c (s_ild (by decide +kernel))
  <| all_c (s_iconst (n := (-1)) (by decide +kernel) (by decide))
  <| all_c (s_cmpeq (off := 23) (by decide +kernel) (by decide))
  <| all_c (s_ald_n (q := 0) (by decide +kernel) rfl)
  <| all_c (g_0_4 (by decide +kernel) fl_RX0_26)
  <| all_c (s_ild_n (q := 2) (by decide +kernel) rfl)
  <| all_c (s_aald (by decide +kernel))
  <| all_c (s_ild (by decide +kernel))
  <| all_c (s_ald_n (q := 1) (by decide +kernel) rfl)
  <| all_c (g_8_8 (by decide +kernel) fl_RX0_118)
  <| all_c (s_iast (by decide +kernel))
  <| all_c (s_ild_n (q := 3) (by decide +kernel) rfl)
  <| all_c (s_ald_n (q := 1) (by decide +kernel) rfl)
  <| all_c (g_8_8 (by decide +kernel) fl_RX0_118)
  <| all_c (s_isub (by decide +kernel))
  <| all_c (s_ist_n (q := 3) (by decide +kernel) rfl)
  <| all_c (s_inc (n := 1) (by decide +kernel) (by decide))
  <| all_c (s_aft (s_goto (off := (-113)) (by decide +kernel) (by decide)))
  <| all_c (s_iconst (n := 1) (by decide +kernel) (by decide))
  <| all_c (s_zret (by decide +kernel) rfl)
  <| all_n
theorem t_X0_readLeanings {l : Launch} {E : En_} (hE : EOK_ E) : Good_ l E yX0_readLeanings (.code yX0_readLeanings cX0_readLeanings 6 (some .boolean) :: G_) (rm_ 4) (f_X0_readLeanings E.2.2.2.1) := good_all hE (by decide +kernel) (a_X0_readLeanings hE)
noncomputable def P_X8_take (K : Sh_)  : List (Nat × Op_) := [(0, o_ald 0 1),
  (1, o_gI K 8 6),
  (4, o_ild 1 1),
  (5, o_cmpeq 14),
  (8, o_ald 0 1),
  (9, o_ic 1 1),
  (10, o_callV K 8 (f_X8_fail K) 1),
  (13, o_zret),
  (14, o_ald 0 1),
  (15, o_ald 0 1),
  (16, o_gI K 8 7),
  (19, o_pI K 8 8),
  (22, o_ald 0 1),
  (23, o_callV K 8 (f_X8_next K) 0),
  (26, o_ic 1 1),
  (27, o_zret)]
noncomputable def f_X8_take (K : Sh_) : Fn_ := fn_ (P_X8_take K) 2
set_option maxRecDepth 100000 in
theorem a_X8_take {l : Launch} {E : En_} (hE : EOK_ E)   : All_ (Snd_ l E yX8_take.cls cX8_take 2 (some .boolean) (.code yX8_take cX8_take 2 (some .boolean) :: G_) (rm_ 3)) (P_X8_take E.2.2.2.1 ) :=
  all_c (s_ald_n (q := 0) (by decide +kernel) rfl)
  <| all_c (g_8_6 (by decide +kernel) fl_RX8_56)
  <| all_c (s_ild_n (q := 1) (by decide +kernel) rfl)
  <| all_c (s_cmpeq (off := 9) (by decide +kernel) (by decide))
  <| all_c (s_ald_n (q := 0) (by decide +kernel) rfl)
  <| all_c (s_iconst (n := 1) (by decide +kernel) (by decide))
  <| all_c (s_callV (by decide +kernel) (t_X8_fail hE) cl_X8_fail ml_RX8_69 im_X8_fail se_X8_fail (by decide) rfl (rm_lt (by decide)))
  <| all_c (s_zret (by decide +kernel) rfl)
  <| all_c (s_ald_n (q := 0) (by decide +kernel) rfl)
  <| all_c (s_ald_n (q := 0) (by decide +kernel) rfl)
  <| all_c (g_8_7 (by decide +kernel) fl_RX8_66)
  <| all_c (p_8_8 (by decide +kernel) fl_RX8_72)
  <| all_c (s_ald_n (q := 0) (by decide +kernel) rfl)
  <| all_c (s_callV (by decide +kernel) (t_X8_next hE) cl_X8_next ml_RX8_50 im_X8_next se_X8_next (by decide) rfl (rm_lt (by decide)))
  <| all_c (s_iconst (n := 1) (by decide +kernel) (by decide))
  <| all_c (s_zret (by decide +kernel) rfl)
  <| all_n
theorem t_X8_take {l : Launch} {E : En_} (hE : EOK_ E) : Good_ l E yX8_take (.code yX8_take cX8_take 2 (some .boolean) :: G_) (rm_ 3) (f_X8_take E.2.2.2.1) := good_all hE (by decide +kernel) (a_X8_take hE)
noncomputable def P_X0_takeNewName (K : Sh_)  : List (Nat × Op_) := [(0, o_ald 1 1),
  (1, o_gI K 8 6),
  (4, o_ic 2 1),
  (5, o_cmpeq 14),
  (8, o_ald 1 1),
  (9, o_ic 1 1),
  (10, o_callV K 8 (f_X8_fail K) 1),
  (13, o_zret),
  (14, o_ald 0 1),
  (15, o_ald 1 1),
  (16, o_gI K 8 7),
  (19, o_callV K 0 (f_X0_chapNamed K) 1),
  (22, o_ic (-1) 1),
  (23, o_cmpne 38),
  (26, o_ald 0 1),
  (27, o_ald 1 1),
  (28, o_gI K 8 7),
  (31, o_callV K 0 (f_X0_readerNamed K) 1),
  (34, o_ic (-1) 1),
  (35, o_cmpeq 44),
  (38, o_ald 1 1),
  (39, o_ic 3 1),
  (40, o_callV K 8 (f_X8_fail K) 1),
  (43, o_zret),
  (44, o_ald 1 1),
  (45, o_ic 2 1),
  (46, o_callV K 8 (f_X8_take K) 1),
  (49, o_zret)]
noncomputable def f_X0_takeNewName (K : Sh_) : Fn_ := fn_ (P_X0_takeNewName K) 2
set_option maxRecDepth 100000 in
theorem a_X0_takeNewName {l : Launch} {E : En_} (hE : EOK_ E)   : All_ (Snd_ l E yX0_takeNewName.cls cX0_takeNewName 2 (some .boolean) (.code yX0_takeNewName cX0_takeNewName 2 (some .boolean) :: G_) (rm_ 4)) (P_X0_takeNewName E.2.2.2.1 ) :=
  all_c (s_ald_n (q := 1) (by decide +kernel) rfl)
  <| all_c (g_8_6 (by decide +kernel) fl_RX0_89)
  <| all_c (s_iconst (n := 2) (by decide +kernel) (by decide))
  <| all_c (s_cmpeq (off := 9) (by decide +kernel) (by decide))
  <| all_c (s_ald_n (q := 1) (by decide +kernel) rfl)
  <| all_c (s_iconst (n := 1) (by decide +kernel) (by decide))
  <| all_c (s_callV (by decide +kernel) (t_X8_fail hE) cl_X8_fail ml_RX0_105 im_X8_fail se_X8_fail (by decide) rfl (rm_lt (by decide)))
  <| all_c (s_zret (by decide +kernel) rfl)
  <| all_c (s_ald_n (q := 0) (by decide +kernel) rfl)
  <| all_c (s_ald_n (q := 1) (by decide +kernel) rfl)
  <| all_c (g_8_7 (by decide +kernel) fl_RX0_129)
  <| all_c (s_callV (by decide +kernel) (t_X0_chapNamed hE) cl_X0_chapNamed ml_RX0_132 im_X0_chapNamed se_X0_chapNamed (by decide) rfl (rm_lt (by decide)))
  <| all_c (s_iconst (n := (-1)) (by decide +kernel) (by decide))
  <| all_c (s_cmpne (off := 15) (by decide +kernel) (by decide))
  <| all_c (s_ald_n (q := 0) (by decide +kernel) rfl)
  <| all_c (s_ald_n (q := 1) (by decide +kernel) rfl)
  <| all_c (g_8_7 (by decide +kernel) fl_RX0_129)
  <| all_c (s_callV (by decide +kernel) (t_X0_readerNamed hE) cl_X0_readerNamed ml_RX0_144 im_X0_readerNamed se_X0_readerNamed (by decide) rfl (rm_lt (by decide)))
  <| all_c (s_iconst (n := (-1)) (by decide +kernel) (by decide))
  <| all_c (s_cmpeq (off := 9) (by decide +kernel) (by decide))
  <| all_c (s_ald_n (q := 1) (by decide +kernel) rfl)
  <| all_c (s_iconst (n := 3) (by decide +kernel) (by decide))
  <| all_c (s_callV (by decide +kernel) (t_X8_fail hE) cl_X8_fail ml_RX0_105 im_X8_fail se_X8_fail (by decide) rfl (rm_lt (by decide)))
  <| all_c (s_zret (by decide +kernel) rfl)
  <| all_c (s_ald_n (q := 1) (by decide +kernel) rfl)
  <| all_c (s_iconst (n := 2) (by decide +kernel) (by decide))
  <| all_c (s_callV (by decide +kernel) (t_X8_take hE) cl_X8_take ml_RX0_109 im_X8_take se_X8_take (by decide) rfl (rm_lt (by decide)))
  <| all_c (s_zret (by decide +kernel) rfl)
  <| all_n
theorem t_X0_takeNewName {l : Launch} {E : En_} (hE : EOK_ E) : Good_ l E yX0_takeNewName (.code yX0_takeNewName cX0_takeNewName 2 (some .boolean) :: G_) (rm_ 4) (f_X0_takeNewName E.2.2.2.1) := good_all hE (by decide +kernel) (a_X0_takeNewName hE)
noncomputable def P_X0_readChap (K : Sh_)  : List (Nat × Op_) := [(0, o_ald 0 1),
  (1, o_gI K 0 11),
  (4, o_ist 2 1),
  (5, o_ild 2 1),
  (6, o_ic 16 2),
  (8, o_cmplt 17),
  (11, o_ald 1 1),
  (12, o_ic 4 1),
  (13, o_callV K 8 (f_X8_fail K) 1),
  (16, o_zret),
  (17, o_ald 1 1),
  (18, o_callV K 8 (f_X8_next K) 0),
  (21, o_ald 0 1),
  (22, o_ald 1 1),
  (23, o_callV K 0 (f_X0_takeNewName K) 1),
  (26, o_ifne 31),
  (29, o_ic 0 1),
  (30, o_zret),
  (31, o_ald 0 1),
  (32, o_gF K 0 0),
  (35, o_ild 2 1),
  (36, o_ald 1 1),
  (37, o_gI K 8 8),
  (40, o_iast K),
  (41, o_ald 1 1),
  (42, o_ic 1 1),
  (43, o_ic 999 3),
  (46, o_callV K 8 (f_X8_takeNumber K) 2),
  (49, o_ifne 54),
  (52, o_ic 0 1),
  (53, o_zret),
  (54, o_ald 0 1),
  (55, o_gF K 0 1),
  (58, o_ild 2 1),
  (59, o_ald 1 1),
  (60, o_gI K 8 8),
  (63, o_iast K),
  (64, o_ald 1 1),
  (65, o_ic 0 1),
  (66, o_ic 999 3),
  (69, o_callV K 8 (f_X8_takeNumber K) 2),
  (72, o_ifne 77),
  (75, o_ic 0 1),
  (76, o_zret),
  (77, o_ald 0 1),
  (78, o_gF K 0 2),
  (81, o_ild 2 1),
  (82, o_ald 1 1),
  (83, o_gI K 8 8),
  (86, o_iast K),
  (87, o_ald 0 1),
  (88, o_ald 1 1),
  (89, o_ild 2 1),
  (90, o_callV K 0 (f_X0_readLeanings K) 2),
  (93, o_ifne 98),
  (96, o_ic 0 1),
  (97, o_zret),
  (98, o_ald 0 1),
  (99, o_gF K 0 3),
  (102, o_ild 2 1),
  (103, o_ald 1 1),
  (104, o_gI K 8 6),
  (107, o_ic 6 2),
  (109, o_cmpne 116),
  (112, o_ic 1 1),
  (113, o_goto 117),
  (116, o_ic 0 1),
  (117, o_iast K),
  (118, o_ald 0 1),
  (119, o_gF K 0 3),
  (122, o_ild 2 1),
  (123, o_iald K),
  (124, o_ic 1 1),
  (125, o_cmpne 132),
  (128, o_ald 1 1),
  (129, o_callV K 8 (f_X8_next K) 0),
  (132, o_ald 0 1),
  (133, o_dup),
  (134, o_gI K 0 11),
  (137, o_ic 1 1),
  (138, o_iadd),
  (139, o_pI K 0 11),
  (142, o_ic 1 1),
  (143, o_zret)]
noncomputable def f_X0_readChap (K : Sh_) : Fn_ := fn_ (P_X0_readChap K) 3
set_option maxRecDepth 100000 in
theorem a_X0_readChap {l : Launch} {E : En_} (hE : EOK_ E)   : All_ (Snd_ l E yX0_readChap.cls cX0_readChap 3 (some .boolean) (.code yX0_readChap cX0_readChap 3 (some .boolean) :: G_) (rm_ 5)) (P_X0_readChap E.2.2.2.1 ) :=
  all_c (s_ald_n (q := 0) (by decide +kernel) rfl)
  <| all_c (g_0_11 (by decide +kernel) fl_RX0_50)
  <| all_c (s_ist_n (q := 2) (by decide +kernel) rfl)
  <| all_c (s_ild_n (q := 2) (by decide +kernel) rfl)
  <| all_c (s_bipush (n := 16) (by decide +kernel) (by decide))
  <| all_c (s_cmplt (off := 9) (by decide +kernel) (by decide))
  <| all_c (s_ald_n (q := 1) (by decide +kernel) rfl)
  <| all_c (s_iconst (n := 4) (by decide +kernel) (by decide))
  <| all_c (s_callV (by decide +kernel) (t_X8_fail hE) cl_X8_fail ml_RX0_105 im_X8_fail se_X8_fail (by decide) rfl (rm_lt (by decide)))
  <| all_c (s_zret (by decide +kernel) rfl)
  <| all_c (s_ald_n (q := 1) (by decide +kernel) rfl)
  <| all_c (s_callV (by decide +kernel) (t_X8_next hE) cl_X8_next ml_RX0_112 im_X8_next se_X8_next (by decide) rfl (rm_lt (by decide)))
  <| all_c (s_ald_n (q := 0) (by decide +kernel) rfl)
  <| all_c (s_ald_n (q := 1) (by decide +kernel) rfl)
  <| all_c (s_callV (by decide +kernel) (t_X0_takeNewName hE) cl_X0_takeNewName ml_RX0_115 im_X0_takeNewName se_X0_takeNewName (by decide) rfl (rm_lt (by decide)))
  <| all_c (s_ifne (off := 5) (by decide +kernel) (by decide))
  <| all_c (s_iconst (n := 0) (by decide +kernel) (by decide))
  <| all_c (s_zret (by decide +kernel) rfl)
  <| all_c (s_ald_n (q := 0) (by decide +kernel) rfl)
  <| all_c (g_0_0 (by decide +kernel) fl_RX0_9)
  <| all_c (s_ild_n (q := 2) (by decide +kernel) rfl)
  <| all_c (s_ald_n (q := 1) (by decide +kernel) rfl)
  <| all_c (g_8_8 (by decide +kernel) fl_RX0_118)
  <| all_c (s_iast (by decide +kernel))
  <| all_c (s_ald_n (q := 1) (by decide +kernel) rfl)
  <| all_c (s_iconst (n := 1) (by decide +kernel) (by decide))
  <| all_c (s_sipush (n := 999) (by decide +kernel) (by decide))
  <| all_c (s_callV (by decide +kernel) (t_X8_takeNumber hE) cl_X8_takeNumber ml_RX0_121 im_X8_takeNumber se_X8_takeNumber (by decide) rfl (rm_lt (by decide)))
  <| all_c (s_ifne (off := 5) (by decide +kernel) (by decide))
  <| all_c (s_iconst (n := 0) (by decide +kernel) (by decide))
  <| all_c (s_zret (by decide +kernel) rfl)
  <| all_c (s_ald_n (q := 0) (by decide +kernel) rfl)
  <| all_c (g_0_1 (by decide +kernel) fl_RX0_15)
  <| all_c (s_ild_n (q := 2) (by decide +kernel) rfl)
  <| all_c (s_ald_n (q := 1) (by decide +kernel) rfl)
  <| all_c (g_8_8 (by decide +kernel) fl_RX0_118)
  <| all_c (s_iast (by decide +kernel))
  <| all_c (s_ald_n (q := 1) (by decide +kernel) rfl)
  <| all_c (s_iconst (n := 0) (by decide +kernel) (by decide))
  <| all_c (s_sipush (n := 999) (by decide +kernel) (by decide))
  <| all_c (s_callV (by decide +kernel) (t_X8_takeNumber hE) cl_X8_takeNumber ml_RX0_121 im_X8_takeNumber se_X8_takeNumber (by decide) rfl (rm_lt (by decide)))
  <| all_c (s_ifne (off := 5) (by decide +kernel) (by decide))
  <| all_c (s_iconst (n := 0) (by decide +kernel) (by decide))
  <| all_c (s_zret (by decide +kernel) rfl)
  <| all_c (s_ald_n (q := 0) (by decide +kernel) rfl)
  <| all_c (g_0_2 (by decide +kernel) fl_RX0_18)
  <| all_c (s_ild_n (q := 2) (by decide +kernel) rfl)
  <| all_c (s_ald_n (q := 1) (by decide +kernel) rfl)
  <| all_c (g_8_8 (by decide +kernel) fl_RX0_118)
  <| all_c (s_iast (by decide +kernel))
  <| all_c (s_ald_n (q := 0) (by decide +kernel) rfl)
  <| all_c (s_ald_n (q := 1) (by decide +kernel) rfl)
  <| all_c (s_ild_n (q := 2) (by decide +kernel) rfl)
  <| all_c (s_callV (by decide +kernel) (t_X0_readLeanings hE) cl_X0_readLeanings ml_RX0_125 im_X0_readLeanings se_X0_readLeanings (by decide) rfl (rm_lt (by decide)))
  <| all_c (s_ifne (off := 5) (by decide +kernel) (by decide))
  <| all_c (s_iconst (n := 0) (by decide +kernel) (by decide))
  <| all_c (s_zret (by decide +kernel) rfl)
  <| all_c (s_ald_n (q := 0) (by decide +kernel) rfl)
  <| all_c (g_0_3 (by decide +kernel) fl_RX0_21)
  <| all_c (s_ild_n (q := 2) (by decide +kernel) rfl)
  <| all_c (s_ald_n (q := 1) (by decide +kernel) rfl)
  <| all_c (g_8_6 (by decide +kernel) fl_RX0_89)
  <| all_c (s_bipush (n := 6) (by decide +kernel) (by decide))
  <| all_c (s_cmpne (off := 7) (by decide +kernel) (by decide))
  <| all_c (s_iconst (n := 1) (by decide +kernel) (by decide))
  <| all_c (s_goto (off := 4) (by decide +kernel) (by decide))
  <| all_c (s_iconst (n := 0) (by decide +kernel) (by decide))
  <| all_c (s_iast (by decide +kernel))
  <| all_c (s_ald_n (q := 0) (by decide +kernel) rfl)
  <| all_c (g_0_3 (by decide +kernel) fl_RX0_21)
  <| all_c (s_ild_n (q := 2) (by decide +kernel) rfl)
  <| all_c (s_iald (by decide +kernel))
  <| all_c (s_iconst (n := 1) (by decide +kernel) (by decide))
  <| all_c (s_cmpne (off := 7) (by decide +kernel) (by decide))
  <| all_c (s_ald_n (q := 1) (by decide +kernel) rfl)
  <| all_c (s_callV (by decide +kernel) (t_X8_next hE) cl_X8_next ml_RX0_112 im_X8_next se_X8_next (by decide) rfl (rm_lt (by decide)))
  <| all_c (s_ald_n (q := 0) (by decide +kernel) rfl)
  <| all_c (s_dup (by decide +kernel))
  <| all_c (g_0_11 (by decide +kernel) fl_RX0_50)
  <| all_c (s_iconst (n := 1) (by decide +kernel) (by decide))
  <| all_c (s_iadd (by decide +kernel))
  <| all_c (p_0_11 (by decide +kernel) fl_RX0_50)
  <| all_c (s_iconst (n := 1) (by decide +kernel) (by decide))
  <| all_c (s_zret (by decide +kernel) rfl)
  <| all_n
theorem t_X0_readChap {l : Launch} {E : En_} (hE : EOK_ E) : Good_ l E yX0_readChap (.code yX0_readChap cX0_readChap 3 (some .boolean) :: G_) (rm_ 5) (f_X0_readChap E.2.2.2.1) := good_all hE (by decide +kernel) (a_X0_readChap hE)
noncomputable def P_X0_takeInto (K : Sh_)  : List (Nat × Op_) := [(0, o_ald 0 1),
  (1, o_ild 1 1),
  (2, o_ild 2 1),
  (3, o_callV K 8 (f_X8_takeNumber K) 2),
  (6, o_ifne 11),
  (9, o_ic 0 1),
  (10, o_zret),
  (11, o_ild 4 2),
  (13, o_iflt 31),
  (16, o_ild 4 2),
  (18, o_ald 3 1),
  (19, o_alen K),
  (20, o_cmpge 31),
  (23, o_ald 3 1),
  (24, o_ild 4 2),
  (26, o_ald 0 1),
  (27, o_gI K 8 8),
  (30, o_iast K),
  (31, o_ic 1 1),
  (32, o_zret)]
noncomputable def f_X0_takeInto (K : Sh_) : Fn_ := fn_ (P_X0_takeInto K) 5
set_option maxRecDepth 100000 in
theorem a_X0_takeInto {l : Launch} {E : En_} (hE : EOK_ E)   : All_ (Snd_ l E yX0_takeInto.cls cX0_takeInto 5 (some .boolean) (.code yX0_takeInto cX0_takeInto 5 (some .boolean) :: G_) (rm_ 4)) (P_X0_takeInto E.2.2.2.1 ) :=
  all_c (s_ald_n (q := 0) (by decide +kernel) rfl)
  <| all_c (s_ild_n (q := 1) (by decide +kernel) rfl)
  <| all_c (s_ild_n (q := 2) (by decide +kernel) rfl)
  <| all_c (s_callV (by decide +kernel) (t_X8_takeNumber hE) cl_X8_takeNumber ml_RX0_121 im_X8_takeNumber se_X8_takeNumber (by decide) rfl (rm_lt (by decide)))
  <| all_c (s_ifne (off := 5) (by decide +kernel) (by decide))
  <| all_c (s_iconst (n := 0) (by decide +kernel) (by decide))
  <| all_c (s_zret (by decide +kernel) rfl)
  <| all_c (s_ild (by decide +kernel))
  <| all_c (s_iflt (off := 18) (by decide +kernel) (by decide))
  <| all_c (s_ild (by decide +kernel))
  <| all_c (s_ald_n (q := 3) (by decide +kernel) rfl)
  <| all_c (s_alen (by decide +kernel))
  <| all_c (s_cmpge (off := 11) (by decide +kernel) (by decide))
  <| all_c (s_ald_n (q := 3) (by decide +kernel) rfl)
  <| all_c (s_ild (by decide +kernel))
  <| all_c (s_ald_n (q := 0) (by decide +kernel) rfl)
  <| all_c (g_8_8 (by decide +kernel) fl_RX0_118)
  <| all_c (s_iast (by decide +kernel))
  <| all_c (s_iconst (n := 1) (by decide +kernel) (by decide))
  <| all_c (s_zret (by decide +kernel) rfl)
  <| all_n
theorem t_X0_takeInto {l : Launch} {E : En_} (hE : EOK_ E) : Good_ l E yX0_takeInto (.code yX0_takeInto cX0_takeInto 5 (some .boolean) :: G_) (rm_ 4) (f_X0_takeInto E.2.2.2.1) := good_all hE (by decide +kernel) (a_X0_takeInto hE)
noncomputable def P_X0_readReader (K : Sh_)  : List (Nat × Op_) := [(0, o_ald 0 1),
  (1, o_gI K 0 12),
  (4, o_ist 2 1),
  (5, o_ild 2 1),
  (6, o_ic 9 2),
  (8, o_cmplt 17),
  (11, o_ald 1 1),
  (12, o_ic 4 1),
  (13, o_callV K 8 (f_X8_fail K) 1),
  (16, o_zret),
  (17, o_ald 1 1),
  (18, o_callV K 8 (f_X8_next K) 0),
  (21, o_ald 0 1),
  (22, o_ald 1 1),
  (23, o_callV K 0 (f_X0_takeNewName K) 1),
  (26, o_ifne 31),
  (29, o_ic 0 1),
  (30, o_zret),
  (31, o_ald 0 1),
  (32, o_gF K 0 5),
  (35, o_ild 2 1),
  (36, o_ald 1 1),
  (37, o_gI K 8 8),
  (40, o_iast K),
  (41, o_ald 1 1),
  (42, o_ic 1 1),
  (43, o_ic 99 2),
  (45, o_ald 0 1),
  (46, o_gF K 0 6),
  (49, o_ild 2 1),
  (50, o_callS (f_X0_takeInto K) 5),
  (53, o_ifeq 71),
  (56, o_ald 1 1),
  (57, o_ic 0 1),
  (58, o_ic 10 2),
  (60, o_ald 0 1),
  (61, o_gF K 0 7),
  (64, o_ild 2 1),
  (65, o_callS (f_X0_takeInto K) 5),
  (68, o_ifne 73),
  (71, o_ic 0 1),
  (72, o_zret),
  (73, o_ald 1 1),
  (74, o_ic 0 1),
  (75, o_ic 10 2),
  (77, o_ald 0 1),
  (78, o_gF K 0 8),
  (81, o_ild 2 1),
  (82, o_callS (f_X0_takeInto K) 5),
  (85, o_ifeq 104),
  (88, o_ald 1 1),
  (89, o_ic 0 1),
  (90, o_ic 240 3),
  (93, o_ald 0 1),
  (94, o_gF K 0 9),
  (97, o_ild 2 1),
  (98, o_callS (f_X0_takeInto K) 5),
  (101, o_ifne 106),
  (104, o_ic 0 1),
  (105, o_zret),
  (106, o_ald 0 1),
  (107, o_gF K 0 10),
  (110, o_ild 2 1),
  (111, o_ic 0 1),
  (112, o_iast K),
  (113, o_ald 1 1),
  (114, o_gI K 8 6),
  (117, o_ic 8 2),
  (119, o_cmpne 143),
  (122, o_ald 1 1),
  (123, o_callV K 8 (f_X8_next K) 0),
  (126, o_ald 1 1),
  (127, o_ic 0 1),
  (128, o_ic 10 2),
  (130, o_ald 0 1),
  (131, o_gF K 0 10),
  (134, o_ild 2 1),
  (135, o_callS (f_X0_takeInto K) 5),
  (138, o_ifne 143),
  (141, o_ic 0 1),
  (142, o_zret),
  (143, o_ald 0 1),
  (144, o_dup),
  (145, o_gI K 0 12),
  (148, o_ic 1 1),
  (149, o_iadd),
  (150, o_pI K 0 12),
  (153, o_ic 1 1),
  (154, o_zret)]
noncomputable def f_X0_readReader (K : Sh_) : Fn_ := fn_ (P_X0_readReader K) 3
set_option maxRecDepth 100000 in
theorem a_X0_readReader {l : Launch} {E : En_} (hE : EOK_ E)   : All_ (Snd_ l E yX0_readReader.cls cX0_readReader 3 (some .boolean) (.code yX0_readReader cX0_readReader 3 (some .boolean) :: G_) (rm_ 5)) (P_X0_readReader E.2.2.2.1 ) :=
  all_c (s_ald_n (q := 0) (by decide +kernel) rfl)
  <| all_c (g_0_12 (by decide +kernel) fl_RX0_54)
  <| all_c (s_ist_n (q := 2) (by decide +kernel) rfl)
  <| all_c (s_ild_n (q := 2) (by decide +kernel) rfl)
  <| all_c (s_bipush (n := 9) (by decide +kernel) (by decide))
  <| all_c (s_cmplt (off := 9) (by decide +kernel) (by decide))
  <| all_c (s_ald_n (q := 1) (by decide +kernel) rfl)
  <| all_c (s_iconst (n := 4) (by decide +kernel) (by decide))
  <| all_c (s_callV (by decide +kernel) (t_X8_fail hE) cl_X8_fail ml_RX0_105 im_X8_fail se_X8_fail (by decide) rfl (rm_lt (by decide)))
  <| all_c (s_zret (by decide +kernel) rfl)
  <| all_c (s_ald_n (q := 1) (by decide +kernel) rfl)
  <| all_c (s_callV (by decide +kernel) (t_X8_next hE) cl_X8_next ml_RX0_112 im_X8_next se_X8_next (by decide) rfl (rm_lt (by decide)))
  <| all_c (s_ald_n (q := 0) (by decide +kernel) rfl)
  <| all_c (s_ald_n (q := 1) (by decide +kernel) rfl)
  <| all_c (s_callV (by decide +kernel) (t_X0_takeNewName hE) cl_X0_takeNewName ml_RX0_115 im_X0_takeNewName se_X0_takeNewName (by decide) rfl (rm_lt (by decide)))
  <| all_c (s_ifne (off := 5) (by decide +kernel) (by decide))
  <| all_c (s_iconst (n := 0) (by decide +kernel) (by decide))
  <| all_c (s_zret (by decide +kernel) rfl)
  <| all_c (s_ald_n (q := 0) (by decide +kernel) rfl)
  <| all_c (g_0_5 (by decide +kernel) fl_RX0_29)
  <| all_c (s_ild_n (q := 2) (by decide +kernel) rfl)
  <| all_c (s_ald_n (q := 1) (by decide +kernel) rfl)
  <| all_c (g_8_8 (by decide +kernel) fl_RX0_118)
  <| all_c (s_iast (by decide +kernel))
  <| all_c (s_ald_n (q := 1) (by decide +kernel) rfl)
  <| all_c (s_iconst (n := 1) (by decide +kernel) (by decide))
  <| all_c (s_bipush (n := 99) (by decide +kernel) (by decide))
  <| all_c (s_ald_n (q := 0) (by decide +kernel) rfl)
  <| all_c (g_0_6 (by decide +kernel) fl_RX0_32)
  <| all_c (s_ild_n (q := 2) (by decide +kernel) rfl)
  <| all_c (s_callS (by decide +kernel) (t_X0_takeInto hE) cl_X0_takeInto ml_RX0_140 sm_X0_takeInto (rm_lt (by decide)))
  <| all_c (s_ifeq (off := 18) (by decide +kernel) (by decide))
  <| all_c (s_ald_n (q := 1) (by decide +kernel) rfl)
  <| all_c (s_iconst (n := 0) (by decide +kernel) (by decide))
  <| all_c (s_bipush (n := 10) (by decide +kernel) (by decide))
  <| all_c (s_ald_n (q := 0) (by decide +kernel) rfl)
  <| all_c (g_0_7 (by decide +kernel) fl_RX0_35)
  <| all_c (s_ild_n (q := 2) (by decide +kernel) rfl)
  <| all_c (s_callS (by decide +kernel) (t_X0_takeInto hE) cl_X0_takeInto ml_RX0_140 sm_X0_takeInto (rm_lt (by decide)))
  <| all_c (s_ifne (off := 5) (by decide +kernel) (by decide))
  <| all_c (s_iconst (n := 0) (by decide +kernel) (by decide))
  <| all_c (s_zret (by decide +kernel) rfl)
  <| all_c (s_ald_n (q := 1) (by decide +kernel) rfl)
  <| all_c (s_iconst (n := 0) (by decide +kernel) (by decide))
  <| all_c (s_bipush (n := 10) (by decide +kernel) (by decide))
  <| all_c (s_ald_n (q := 0) (by decide +kernel) rfl)
  <| all_c (g_0_8 (by decide +kernel) fl_RX0_38)
  <| all_c (s_ild_n (q := 2) (by decide +kernel) rfl)
  <| all_c (s_callS (by decide +kernel) (t_X0_takeInto hE) cl_X0_takeInto ml_RX0_140 sm_X0_takeInto (rm_lt (by decide)))
  <| all_c (s_ifeq (off := 19) (by decide +kernel) (by decide))
  <| all_c (s_ald_n (q := 1) (by decide +kernel) rfl)
  <| all_c (s_iconst (n := 0) (by decide +kernel) (by decide))
  <| all_c (s_sipush (n := 240) (by decide +kernel) (by decide))
  <| all_c (s_ald_n (q := 0) (by decide +kernel) rfl)
  <| all_c (g_0_9 (by decide +kernel) fl_RX0_41)
  <| all_c (s_ild_n (q := 2) (by decide +kernel) rfl)
  <| all_c (s_callS (by decide +kernel) (t_X0_takeInto hE) cl_X0_takeInto ml_RX0_140 sm_X0_takeInto (rm_lt (by decide)))
  <| all_c (s_ifne (off := 5) (by decide +kernel) (by decide))
  <| all_c (s_iconst (n := 0) (by decide +kernel) (by decide))
  <| all_c (s_zret (by decide +kernel) rfl)
  <| all_c (s_ald_n (q := 0) (by decide +kernel) rfl)
  <| all_c (g_0_10 (by decide +kernel) fl_RX0_44)
  <| all_c (s_ild_n (q := 2) (by decide +kernel) rfl)
  <| all_c (s_iconst (n := 0) (by decide +kernel) (by decide))
  <| all_c (s_iast (by decide +kernel))
  <| all_c (s_ald_n (q := 1) (by decide +kernel) rfl)
  <| all_c (g_8_6 (by decide +kernel) fl_RX0_89)
  <| all_c (s_bipush (n := 8) (by decide +kernel) (by decide))
  <| all_c (s_cmpne (off := 24) (by decide +kernel) (by decide))
  <| all_c (s_ald_n (q := 1) (by decide +kernel) rfl)
  <| all_c (s_callV (by decide +kernel) (t_X8_next hE) cl_X8_next ml_RX0_112 im_X8_next se_X8_next (by decide) rfl (rm_lt (by decide)))
  <| all_c (s_ald_n (q := 1) (by decide +kernel) rfl)
  <| all_c (s_iconst (n := 0) (by decide +kernel) (by decide))
  <| all_c (s_bipush (n := 10) (by decide +kernel) (by decide))
  <| all_c (s_ald_n (q := 0) (by decide +kernel) rfl)
  <| all_c (g_0_10 (by decide +kernel) fl_RX0_44)
  <| all_c (s_ild_n (q := 2) (by decide +kernel) rfl)
  <| all_c (s_callS (by decide +kernel) (t_X0_takeInto hE) cl_X0_takeInto ml_RX0_140 sm_X0_takeInto (rm_lt (by decide)))
  <| all_c (s_ifne (off := 5) (by decide +kernel) (by decide))
  <| all_c (s_iconst (n := 0) (by decide +kernel) (by decide))
  <| all_c (s_zret (by decide +kernel) rfl)
  <| all_c (s_ald_n (q := 0) (by decide +kernel) rfl)
  <| all_c (s_dup (by decide +kernel))
  <| all_c (g_0_12 (by decide +kernel) fl_RX0_54)
  <| all_c (s_iconst (n := 1) (by decide +kernel) (by decide))
  <| all_c (s_iadd (by decide +kernel))
  <| all_c (p_0_12 (by decide +kernel) fl_RX0_54)
  <| all_c (s_iconst (n := 1) (by decide +kernel) (by decide))
  <| all_c (s_zret (by decide +kernel) rfl)
  <| all_n
theorem t_X0_readReader {l : Launch} {E : En_} (hE : EOK_ E) : Good_ l E yX0_readReader (.code yX0_readReader cX0_readReader 3 (some .boolean) :: G_) (rm_ 5) (f_X0_readReader E.2.2.2.1) := good_all hE (by decide +kernel) (a_X0_readReader hE)
noncomputable def P_X0_readSpeed (K : Sh_)  : List (Nat × Op_) := [(0, o_ald 0 1),
  (1, o_gI K 0 16),
  (4, o_ifeq 13),
  (7, o_ald 1 1),
  (8, o_ic 3 1),
  (9, o_callV K 8 (f_X8_fail K) 1),
  (12, o_zret),
  (13, o_ald 1 1),
  (14, o_callV K 8 (f_X8_next K) 0),
  (17, o_ald 1 1),
  (18, o_ic 1 1),
  (19, o_ic 99 2),
  (21, o_callV K 8 (f_X8_takeNumber K) 2),
  (24, o_ifne 29),
  (27, o_ic 0 1),
  (28, o_zret),
  (29, o_ald 0 1),
  (30, o_ald 1 1),
  (31, o_gI K 8 8),
  (34, o_pI K 0 14),
  (37, o_ald 0 1),
  (38, o_ic 1 1),
  (39, o_pZ K 0 16),
  (42, o_ic 1 1),
  (43, o_zret)]
noncomputable def f_X0_readSpeed (K : Sh_) : Fn_ := fn_ (P_X0_readSpeed K) 2
set_option maxRecDepth 100000 in
theorem a_X0_readSpeed {l : Launch} {E : En_} (hE : EOK_ E)   : All_ (Snd_ l E yX0_readSpeed.cls cX0_readSpeed 2 (some .boolean) (.code yX0_readSpeed cX0_readSpeed 2 (some .boolean) :: G_) (rm_ 4)) (P_X0_readSpeed E.2.2.2.1 ) :=
  all_c (s_ald_n (q := 0) (by decide +kernel) rfl)
  <| all_c (g_0_16 (by decide +kernel) fl_RX0_66)
  <| all_c (s_ifeq (off := 9) (by decide +kernel) (by decide))
  <| all_c (s_ald_n (q := 1) (by decide +kernel) rfl)
  <| all_c (s_iconst (n := 3) (by decide +kernel) (by decide))
  <| all_c (s_callV (by decide +kernel) (t_X8_fail hE) cl_X8_fail ml_RX0_105 im_X8_fail se_X8_fail (by decide) rfl (rm_lt (by decide)))
  <| all_c (s_zret (by decide +kernel) rfl)
  <| all_c (s_ald_n (q := 1) (by decide +kernel) rfl)
  <| all_c (s_callV (by decide +kernel) (t_X8_next hE) cl_X8_next ml_RX0_112 im_X8_next se_X8_next (by decide) rfl (rm_lt (by decide)))
  <| all_c (s_ald_n (q := 1) (by decide +kernel) rfl)
  <| all_c (s_iconst (n := 1) (by decide +kernel) (by decide))
  <| all_c (s_bipush (n := 99) (by decide +kernel) (by decide))
  <| all_c (s_callV (by decide +kernel) (t_X8_takeNumber hE) cl_X8_takeNumber ml_RX0_121 im_X8_takeNumber se_X8_takeNumber (by decide) rfl (rm_lt (by decide)))
  <| all_c (s_ifne (off := 5) (by decide +kernel) (by decide))
  <| all_c (s_iconst (n := 0) (by decide +kernel) (by decide))
  <| all_c (s_zret (by decide +kernel) rfl)
  <| all_c (s_ald_n (q := 0) (by decide +kernel) rfl)
  <| all_c (s_ald_n (q := 1) (by decide +kernel) rfl)
  <| all_c (g_8_8 (by decide +kernel) fl_RX0_118)
  <| all_c (p_0_14 (by decide +kernel) fl_RX0_60)
  <| all_c (s_ald_n (q := 0) (by decide +kernel) rfl)
  <| all_c (s_iconst (n := 1) (by decide +kernel) (by decide))
  <| all_c (p_0_16 (by decide +kernel) fl_RX0_66)
  <| all_c (s_iconst (n := 1) (by decide +kernel) (by decide))
  <| all_c (s_zret (by decide +kernel) rfl)
  <| all_n
theorem t_X0_readSpeed {l : Launch} {E : En_} (hE : EOK_ E) : Good_ l E yX0_readSpeed (.code yX0_readSpeed cX0_readSpeed 2 (some .boolean) :: G_) (rm_ 4) (f_X0_readSpeed E.2.2.2.1) := good_all hE (by decide +kernel) (a_X0_readSpeed hE)
noncomputable def P_X0_readFrom (K : Sh_)  : List (Nat × Op_) := [(0, o_ald 0 1),
  (1, o_callV K 0 (f_X0_clear K) 0),
  (4, o_ic 0 1),
  (5, o_aft [3] (o_ist 2 1)),
  (6, o_ild 2 1),
  (7, o_ic 1040 3),
  (10, o_cmpge 141),
  (13, o_ald 1 1),
  (14, o_gI K 8 6),
  (17, o_ifeq 141),
  (20, o_ald 1 1),
  (21, o_gI K 8 6),
  (24, o_tsw 4 10 104 [68, 104, 104, 77, 104, 86, 95]),
  (68, o_ald 0 1),
  (69, o_ald 1 1),
  (70, o_callV K 0 (f_X0_readChap K) 1),
  (73, o_ist 3 1),
  (74, o_goto 110),
  (77, o_ald 0 1),
  (78, o_ald 1 1),
  (79, o_callV K 0 (f_X0_readReader K) 1),
  (82, o_ist 3 1),
  (83, o_goto 110),
  (86, o_ald 0 1),
  (87, o_ald 1 1),
  (88, o_callV K 0 (f_X0_readSpeed K) 1),
  (91, o_ist 3 1),
  (92, o_goto 110),
  (95, o_ald 0 1),
  (96, o_ald 1 1),
  (97, o_callV K 0 (f_X0_readAgain K) 1),
  (100, o_ist 3 1),
  (101, o_goto 110),
  (104, o_ald 1 1),
  (105, o_ic 1 1),
  (106, o_callV K 8 (f_X8_fail K) 1),
  (109, o_ist 3 1),
  (110, o_ild 3 1),
  (111, o_ifeq 123),
  (114, o_ald 1 1),
  (115, o_ic 59 2),
  (117, o_callV K 8 (f_X8_take K) 1),
  (120, o_ifne 125),
  (123, o_ic 0 1),
  (124, o_zret),
  (125, o_ald 0 1),
  (126, o_dup),
  (127, o_gI K 0 13),
  (130, o_ic 1 1),
  (131, o_iadd),
  (132, o_pI K 0 13),
  (135, o_inc 2 1),
  (138, o_aft [3] (o_goto 6)),
  (141, o_ic 1 1),
  (142, o_zret)]
noncomputable def f_X0_readFrom (K : Sh_) : Fn_ := fn_ (P_X0_readFrom K) 4
set_option maxRecDepth 100000 in
theorem a_X0_readFrom {l : Launch} {E : En_} (hE : EOK_ E)   : All_ (Snd_ l E yX0_readFrom.cls cX0_readFrom 4 (some .boolean) (.code yX0_readFrom cX0_readFrom 4 (some .boolean) :: G_) (rm_ 6)) (P_X0_readFrom E.2.2.2.1 ) :=
  all_c (s_ald_n (q := 0) (by decide +kernel) rfl)
  <| all_c (s_callV (by decide +kernel) (t_X0_clear hE) cl_X0_clear ml_RX0_47 im_X0_clear se_X0_clear (by decide) rfl (rm_lt (by decide)))
  <| all_c (s_iconst (n := 0) (by decide +kernel) (by decide))
  <| all_c (s_aft (s_ist_n (q := 2) (by decide +kernel) rfl))
  <| all_c (s_ild_n (q := 2) (by decide +kernel) rfl)
  <| all_c (s_sipush (n := 1040) (by decide +kernel) (by decide))
  <| all_c (s_cmpge (off := 131) (by decide +kernel) (by decide))
  <| all_c (s_ald_n (q := 1) (by decide +kernel) rfl)
  <| all_c (g_8_6 (by decide +kernel) fl_RX0_89)
  <| all_c (s_ifeq (off := 124) (by decide +kernel) (by decide))
  <| all_c (s_ald_n (q := 1) (by decide +kernel) rfl)
  <| all_c (g_8_6 (by decide +kernel) fl_RX0_89)
  <| all_c (s_tsw (df := 80) (offs := #[44, 80, 80, 53, 80, 62, 71]) (n := 44) (by decide +kernel) (by decide) (by decide))
  <| all_c (s_ald_n (q := 0) (by decide +kernel) rfl)
  <| all_c (s_ald_n (q := 1) (by decide +kernel) rfl)
  <| all_c (s_callV (by decide +kernel) (t_X0_readChap hE) cl_X0_readChap ml_RX0_92 im_X0_readChap se_X0_readChap (by decide) rfl (rm_lt (by decide)))
  <| all_c (s_ist_n (q := 3) (by decide +kernel) rfl)
  <| all_c (s_goto (off := 36) (by decide +kernel) (by decide))
  <| all_c (s_ald_n (q := 0) (by decide +kernel) rfl)
  <| all_c (s_ald_n (q := 1) (by decide +kernel) rfl)
  <| all_c (s_callV (by decide +kernel) (t_X0_readReader hE) cl_X0_readReader ml_RX0_96 im_X0_readReader se_X0_readReader (by decide) rfl (rm_lt (by decide)))
  <| all_c (s_ist_n (q := 3) (by decide +kernel) rfl)
  <| all_c (s_goto (off := 27) (by decide +kernel) (by decide))
  <| all_c (s_ald_n (q := 0) (by decide +kernel) rfl)
  <| all_c (s_ald_n (q := 1) (by decide +kernel) rfl)
  <| all_c (s_callV (by decide +kernel) (t_X0_readSpeed hE) cl_X0_readSpeed ml_RX0_99 im_X0_readSpeed se_X0_readSpeed (by decide) rfl (rm_lt (by decide)))
  <| all_c (s_ist_n (q := 3) (by decide +kernel) rfl)
  <| all_c (s_goto (off := 18) (by decide +kernel) (by decide))
  <| all_c (s_ald_n (q := 0) (by decide +kernel) rfl)
  <| all_c (s_ald_n (q := 1) (by decide +kernel) rfl)
  <| all_c (s_callV (by decide +kernel) (t_X0_readAgain hE) cl_X0_readAgain ml_RX0_102 im_X0_readAgain se_X0_readAgain (by decide) rfl (rm_lt (by decide)))
  <| all_c (s_ist_n (q := 3) (by decide +kernel) rfl)
  <| all_c (s_goto (off := 9) (by decide +kernel) (by decide))
  <| all_c (s_ald_n (q := 1) (by decide +kernel) rfl)
  <| all_c (s_iconst (n := 1) (by decide +kernel) (by decide))
  <| all_c (s_callV (by decide +kernel) (t_X8_fail hE) cl_X8_fail ml_RX0_105 im_X8_fail se_X8_fail (by decide) rfl (rm_lt (by decide)))
  <| all_c (s_ist_n (q := 3) (by decide +kernel) rfl)
  <| all_c (s_ild_n (q := 3) (by decide +kernel) rfl)
  <| all_c (s_ifeq (off := 12) (by decide +kernel) (by decide))
  <| all_c (s_ald_n (q := 1) (by decide +kernel) rfl)
  <| all_c (s_bipush (n := 59) (by decide +kernel) (by decide))
  <| all_c (s_callV (by decide +kernel) (t_X8_take hE) cl_X8_take ml_RX0_109 im_X8_take se_X8_take (by decide) rfl (rm_lt (by decide)))
  <| all_c (s_ifne (off := 5) (by decide +kernel) (by decide))
  <| all_c (s_iconst (n := 0) (by decide +kernel) (by decide))
  <| all_c (s_zret (by decide +kernel) rfl)
  <| all_c (s_ald_n (q := 0) (by decide +kernel) rfl)
  <| all_c (s_dup (by decide +kernel))
  <| all_c (g_0_13 (by decide +kernel) fl_RX0_57)
  <| all_c (s_iconst (n := 1) (by decide +kernel) (by decide))
  <| all_c (s_iadd (by decide +kernel))
  <| all_c (p_0_13 (by decide +kernel) fl_RX0_57)
  <| all_c (s_inc (n := 1) (by decide +kernel) (by decide))
  <| all_c (s_aft (s_goto (off := (-132)) (by decide +kernel) (by decide)))
  <| all_c (s_iconst (n := 1) (by decide +kernel) (by decide))
  <| all_c (s_zret (by decide +kernel) rfl)
  <| all_n
theorem t_X0_readFrom {l : Launch} {E : En_} (hE : EOK_ E) : Good_ l E yX0_readFrom (.code yX0_readFrom cX0_readFrom 4 (some .boolean) :: G_) (rm_ 6) (f_X0_readFrom E.2.2.2.1) := good_all hE (by decide +kernel) (a_X0_readFrom hE)
noncomputable def P_X0_cutUp (K : Sh_)  : List (Nat × Op_) := [(0, o_ild 1 1),
  (1, o_ic 1 1),
  (2, o_cmpge 9),
  (5, o_ic 0 1),
  (6, o_goto 16),
  (9, o_ild 0 1),
  (10, o_ild 1 1),
  (11, o_iadd),
  (12, o_ic 1 1),
  (13, o_isub),
  (14, o_ild 1 1),
  (15, o_idiv),
  (16, o_iret)]
noncomputable def f_X0_cutUp (K : Sh_) : Fn_ := fn_ (P_X0_cutUp K) 2
set_option maxRecDepth 100000 in
theorem a_X0_cutUp {l : Launch} {E : En_} (hE : EOK_ E)   : All_ (Snd_ l E yX0_cutUp.cls cX0_cutUp 2 (some .int) (.code yX0_cutUp cX0_cutUp 2 (some .int) :: G_) (rm_ 1)) (P_X0_cutUp E.2.2.2.1 ) :=
  all_c (s_ild_n (q := 1) (by decide +kernel) rfl)
  <| all_c (s_iconst (n := 1) (by decide +kernel) (by decide))
  <| all_c (s_cmpge (off := 7) (by decide +kernel) (by decide))
  <| all_c (s_iconst (n := 0) (by decide +kernel) (by decide))
  <| all_c (s_goto (off := 10) (by decide +kernel) (by decide))
  <| all_c (s_ild_n (q := 0) (by decide +kernel) rfl)
  <| all_c (s_ild_n (q := 1) (by decide +kernel) rfl)
  <| all_c (s_iadd (by decide +kernel))
  <| all_c (s_iconst (n := 1) (by decide +kernel) (by decide))
  <| all_c (s_isub (by decide +kernel))
  <| all_c (s_ild_n (q := 1) (by decide +kernel) rfl)
  <| all_c (s_idiv (by decide +kernel))
  <| all_c (s_iret (by decide +kernel) rfl)
  <| all_n
theorem t_X0_cutUp {l : Launch} {E : En_} (hE : EOK_ E) : Good_ l E yX0_cutUp (.code yX0_cutUp cX0_cutUp 2 (some .int) :: G_) (rm_ 1) (f_X0_cutUp E.2.2.2.1) := good_all hE (by decide +kernel) (a_X0_cutUp hE)
noncomputable def P_X0_readTime (K : Sh_)  : List (Nat × Op_) := [(0, o_ald 0 1),
  (1, o_gF K 0 1),
  (4, o_ild 2 1),
  (5, o_iald K),
  (6, o_ald 0 1),
  (7, o_gF K 0 6),
  (10, o_ild 1 1),
  (11, o_iald K),
  (12, o_callS (f_X0_cutUp K) 2),
  (15, o_iret)]
noncomputable def f_X0_readTime (K : Sh_) : Fn_ := fn_ (P_X0_readTime K) 3
set_option maxRecDepth 100000 in
theorem a_X0_readTime {l : Launch} {E : En_} (hE : EOK_ E)   : All_ (Snd_ l E yX0_readTime.cls cX0_readTime 3 (some .int) (.code yX0_readTime cX0_readTime 3 (some .int) :: G_) (rm_ 2)) (P_X0_readTime E.2.2.2.1 ) :=
  all_c (s_ald_n (q := 0) (by decide +kernel) rfl)
  <| all_c (g_0_1 (by decide +kernel) fl_RX0_15)
  <| all_c (s_ild_n (q := 2) (by decide +kernel) rfl)
  <| all_c (s_iald (by decide +kernel))
  <| all_c (s_ald_n (q := 0) (by decide +kernel) rfl)
  <| all_c (g_0_6 (by decide +kernel) fl_RX0_32)
  <| all_c (s_ild_n (q := 1) (by decide +kernel) rfl)
  <| all_c (s_iald (by decide +kernel))
  <| all_c (s_callS (by decide +kernel) (t_X0_cutUp hE) cl_X0_cutUp ml_RX0_147 sm_X0_cutUp (rm_lt (by decide)))
  <| all_c (s_iret (by decide +kernel) rfl)
  <| all_n
theorem t_X0_readTime {l : Launch} {E : En_} (hE : EOK_ E) : Good_ l E yX0_readTime (.code yX0_readTime cX0_readTime 3 (some .int) :: G_) (rm_ 2) (f_X0_readTime E.2.2.2.1) := good_all hE (by decide +kernel) (a_X0_readTime hE)
noncomputable def P_X0_tellTime (K : Sh_)  : List (Nat × Op_) := [(0, o_ald 0 1),
  (1, o_gF K 0 1),
  (4, o_ild 1 1),
  (5, o_iald K),
  (6, o_ild 2 1),
  (7, o_imul),
  (8, o_ic 4 1),
  (9, o_ald 0 1),
  (10, o_gI K 0 14),
  (13, o_imul),
  (14, o_callS (f_X0_cutUp K) 2),
  (17, o_iret)]
noncomputable def f_X0_tellTime (K : Sh_) : Fn_ := fn_ (P_X0_tellTime K) 3
set_option maxRecDepth 100000 in
theorem a_X0_tellTime {l : Launch} {E : En_} (hE : EOK_ E)   : All_ (Snd_ l E yX0_tellTime.cls cX0_tellTime 3 (some .int) (.code yX0_tellTime cX0_tellTime 3 (some .int) :: G_) (rm_ 2)) (P_X0_tellTime E.2.2.2.1 ) :=
  all_c (s_ald_n (q := 0) (by decide +kernel) rfl)
  <| all_c (g_0_1 (by decide +kernel) fl_RX0_15)
  <| all_c (s_ild_n (q := 1) (by decide +kernel) rfl)
  <| all_c (s_iald (by decide +kernel))
  <| all_c (s_ild_n (q := 2) (by decide +kernel) rfl)
  <| all_c (s_imul (by decide +kernel))
  <| all_c (s_iconst (n := 4) (by decide +kernel) (by decide))
  <| all_c (s_ald_n (q := 0) (by decide +kernel) rfl)
  <| all_c (g_0_14 (by decide +kernel) fl_RX0_60)
  <| all_c (s_imul (by decide +kernel))
  <| all_c (s_callS (by decide +kernel) (t_X0_cutUp hE) cl_X0_cutUp ml_RX0_147 sm_X0_cutUp (rm_lt (by decide)))
  <| all_c (s_iret (by decide +kernel) rfl)
  <| all_n
theorem t_X0_tellTime {l : Launch} {E : En_} (hE : EOK_ E) : Good_ l E yX0_tellTime (.code yX0_tellTime cX0_tellTime 3 (some .int) :: G_) (rm_ 2) (f_X0_tellTime E.2.2.2.1) := good_all hE (by decide +kernel) (a_X0_tellTime hE)
noncomputable def P_X0_lackAt (K : Sh_)  : List (Nat × Op_) := [(0, o_ic 0 1),
  (1, o_ist 4 2),
  (3, o_ic 0 1),
  (4, o_ist 5 2),
  (6, o_ild 5 2),
  (8, o_ild 1 1),
  (9, o_cmpge 54),
  (12, o_ald 0 1),
  (13, o_gF K 0 4),
  (16, o_ild 1 1),
  (17, o_aald K),
  (18, o_ild 5 2),
  (20, o_iald K),
  (21, o_ifle 48),
  (24, o_ild 4 2),
  (26, o_ald 0 1),
  (27, o_gF K 0 4),
  (30, o_ild 1 1),
  (31, o_aald K),
  (32, o_ild 5 2),
  (34, o_iald K),
  (35, o_ic 1000000 2),
  (37, o_ald 2 1),
  (38, o_ild 3 1),
  (39, o_ild 5 2),
  (41, o_iadd),
  (42, o_iald K),
  (43, o_isub),
  (44, o_imul),
  (45, o_iadd),
  (46, o_ist 4 2),
  (48, o_inc 5 1),
  (51, o_goto 6),
  (54, o_ild 4 2),
  (56, o_ic 10 2),
  (58, o_idiv),
  (59, o_iret)]
noncomputable def f_X0_lackAt (K : Sh_) : Fn_ := fn_ (P_X0_lackAt K) 6
set_option maxRecDepth 100000 in
theorem a_X0_lackAt {l : Launch} {E : En_} (hE : EOK_ E)   : All_ (Snd_ l E yX0_lackAt.cls cX0_lackAt 6 (some .int) (.code yX0_lackAt cX0_lackAt 6 (some .int) :: G_) (rm_ 1)) (P_X0_lackAt E.2.2.2.1 ) :=
  all_c (s_iconst (n := 0) (by decide +kernel) (by decide))
  <| all_c (s_ist (by decide +kernel))
  <| all_c (s_iconst (n := 0) (by decide +kernel) (by decide))
  <| all_c (s_ist (by decide +kernel))
  <| all_c (s_ild (by decide +kernel))
  <| all_c (s_ild_n (q := 1) (by decide +kernel) rfl)
  <| all_c (s_cmpge (off := 45) (by decide +kernel) (by decide))
  <| all_c (s_ald_n (q := 0) (by decide +kernel) rfl)
  <| all_c (g_0_4 (by decide +kernel) fl_RX0_26)
  <| all_c (s_ild_n (q := 1) (by decide +kernel) rfl)
  <| all_c (s_aald (by decide +kernel))
  <| all_c (s_ild (by decide +kernel))
  <| all_c (s_iald (by decide +kernel))
  <| all_c (s_ifle (off := 27) (by decide +kernel) (by decide))
  <| all_c (s_ild (by decide +kernel))
  <| all_c (s_ald_n (q := 0) (by decide +kernel) rfl)
  <| all_c (g_0_4 (by decide +kernel) fl_RX0_26)
  <| all_c (s_ild_n (q := 1) (by decide +kernel) rfl)
  <| all_c (s_aald (by decide +kernel))
  <| all_c (s_ild (by decide +kernel))
  <| all_c (s_iald (by decide +kernel))
  <| all_c (s_ldc (by decide +kernel) (G_w kk_RX0_151))
  <| all_c (s_ald_n (q := 2) (by decide +kernel) rfl)
  <| all_c (s_ild_n (q := 3) (by decide +kernel) rfl)
  <| all_c (s_ild (by decide +kernel))
  <| all_c (s_iadd (by decide +kernel))
  <| all_c (s_iald (by decide +kernel))
  <| all_c (s_isub (by decide +kernel))
  <| all_c (s_imul (by decide +kernel))
  <| all_c (s_iadd (by decide +kernel))
  <| all_c (s_ist (by decide +kernel))
  <| all_c (s_inc (n := 1) (by decide +kernel) (by decide))
  <| all_c (s_goto (off := (-45)) (by decide +kernel) (by decide))
  <| all_c (s_ild (by decide +kernel))
  <| all_c (s_bipush (n := 10) (by decide +kernel) (by decide))
  <| all_c (s_idiv (by decide +kernel))
  <| all_c (s_iret (by decide +kernel) rfl)
  <| all_n
theorem t_X0_lackAt {l : Launch} {E : En_} (hE : EOK_ E) : Good_ l E yX0_lackAt (.code yX0_lackAt cX0_lackAt 6 (some .int) :: G_) (rm_ 1) (f_X0_lackAt E.2.2.2.1) := good_all hE (by decide +kernel) (a_X0_lackAt hE)
noncomputable def P_X0_partsRead (K : Sh_)  : List (Nat × Op_) := [(0, o_ic 1000000 2),
  (2, o_ild 2 1),
  (3, o_ic 2 1),
  (4, o_idiv),
  (5, o_isub),
  (6, o_ic 10 2),
  (8, o_ald 0 1),
  (9, o_gF K 0 10),
  (12, o_ild 1 1),
  (13, o_iald K),
  (14, o_isub),
  (15, o_imul),
  (16, o_ic 10 2),
  (18, o_idiv),
  (19, o_iret)]
noncomputable def f_X0_partsRead (K : Sh_) : Fn_ := fn_ (P_X0_partsRead K) 3
set_option maxRecDepth 100000 in
theorem a_X0_partsRead {l : Launch} {E : En_} (hE : EOK_ E)   : All_ (Snd_ l E yX0_partsRead.cls cX0_partsRead 3 (some .int) (.code yX0_partsRead cX0_partsRead 3 (some .int) :: G_) (rm_ 1)) (P_X0_partsRead E.2.2.2.1 ) :=
  all_c (s_ldc (by decide +kernel) (G_w kk_RX0_151))
  <| all_c (s_ild_n (q := 2) (by decide +kernel) rfl)
  <| all_c (s_iconst (n := 2) (by decide +kernel) (by decide))
  <| all_c (s_idiv (by decide +kernel))
  <| all_c (s_isub (by decide +kernel))
  <| all_c (s_bipush (n := 10) (by decide +kernel) (by decide))
  <| all_c (s_ald_n (q := 0) (by decide +kernel) rfl)
  <| all_c (g_0_10 (by decide +kernel) fl_RX0_44)
  <| all_c (s_ild_n (q := 1) (by decide +kernel) rfl)
  <| all_c (s_iald (by decide +kernel))
  <| all_c (s_isub (by decide +kernel))
  <| all_c (s_imul (by decide +kernel))
  <| all_c (s_bipush (n := 10) (by decide +kernel) (by decide))
  <| all_c (s_idiv (by decide +kernel))
  <| all_c (s_iret (by decide +kernel) rfl)
  <| all_n
theorem t_X0_partsRead {l : Launch} {E : En_} (hE : EOK_ E) : Good_ l E yX0_partsRead (.code yX0_partsRead cX0_partsRead 3 (some .int) :: G_) (rm_ 1) (f_X0_partsRead E.2.2.2.1) := good_all hE (by decide +kernel) (a_X0_partsRead hE)
noncomputable def P_X0_partsTold (K : Sh_)  : List (Nat × Op_) := [(0, o_ild 1 1),
  (1, o_ald 0 1),
  (2, o_gF K 0 7),
  (5, o_ild 2 1),
  (6, o_iald K),
  (7, o_imul),
  (8, o_ic 10 2),
  (10, o_idiv),
  (11, o_ild 3 1),
  (12, o_imul),
  (13, o_ic 4 1),
  (14, o_idiv),
  (15, o_ist 5 2),
  (17, o_ild 5 2),
  (19, o_ald 0 1),
  (20, o_gF K 0 8),
  (23, o_ild 4 2),
  (25, o_iald K),
  (26, o_imul),
  (27, o_ic 10 2),
  (29, o_idiv),
  (30, o_iret)]
noncomputable def f_X0_partsTold (K : Sh_) : Fn_ := fn_ (P_X0_partsTold K) 6
set_option maxRecDepth 100000 in
theorem a_X0_partsTold {l : Launch} {E : En_} (hE : EOK_ E)   : All_ (Snd_ l E yX0_partsTold.cls cX0_partsTold 6 (some .int) (.code yX0_partsTold cX0_partsTold 6 (some .int) :: G_) (rm_ 1)) (P_X0_partsTold E.2.2.2.1 ) :=
  all_c (s_ild_n (q := 1) (by decide +kernel) rfl)
  <| all_c (s_ald_n (q := 0) (by decide +kernel) rfl)
  <| all_c (g_0_7 (by decide +kernel) fl_RX0_35)
  <| all_c (s_ild_n (q := 2) (by decide +kernel) rfl)
  <| all_c (s_iald (by decide +kernel))
  <| all_c (s_imul (by decide +kernel))
  <| all_c (s_bipush (n := 10) (by decide +kernel) (by decide))
  <| all_c (s_idiv (by decide +kernel))
  <| all_c (s_ild_n (q := 3) (by decide +kernel) rfl)
  <| all_c (s_imul (by decide +kernel))
  <| all_c (s_iconst (n := 4) (by decide +kernel) (by decide))
  <| all_c (s_idiv (by decide +kernel))
  <| all_c (s_ist (by decide +kernel))
  <| all_c (s_ild (by decide +kernel))
  <| all_c (s_ald_n (q := 0) (by decide +kernel) rfl)
  <| all_c (g_0_8 (by decide +kernel) fl_RX0_38)
  <| all_c (s_ild (by decide +kernel))
  <| all_c (s_iald (by decide +kernel))
  <| all_c (s_imul (by decide +kernel))
  <| all_c (s_bipush (n := 10) (by decide +kernel) (by decide))
  <| all_c (s_idiv (by decide +kernel))
  <| all_c (s_iret (by decide +kernel) rfl)
  <| all_n
theorem t_X0_partsTold {l : Launch} {E : En_} (hE : EOK_ E) : Good_ l E yX0_partsTold (.code yX0_partsTold cX0_partsTold 6 (some .int) :: G_) (rm_ 1) (f_X0_partsTold E.2.2.2.1) := good_all hE (by decide +kernel) (a_X0_partsTold hE)
noncomputable def P_X0_retold (K : Sh_)  : List (Nat × Op_) := [(0, o_ild 1 1),
  (1, o_ald 0 1),
  (2, o_gI K 0 15),
  (5, o_imul),
  (6, o_ic 10 2),
  (8, o_idiv),
  (9, o_iret)]
noncomputable def f_X0_retold (K : Sh_) : Fn_ := fn_ (P_X0_retold K) 2
set_option maxRecDepth 100000 in
theorem a_X0_retold {l : Launch} {E : En_} (hE : EOK_ E)   : All_ (Snd_ l E yX0_retold.cls cX0_retold 2 (some .int) (.code yX0_retold cX0_retold 2 (some .int) :: G_) (rm_ 1)) (P_X0_retold E.2.2.2.1 ) :=
  all_c (s_ild_n (q := 1) (by decide +kernel) rfl)
  <| all_c (s_ald_n (q := 0) (by decide +kernel) rfl)
  <| all_c (g_0_15 (by decide +kernel) fl_RX0_63)
  <| all_c (s_imul (by decide +kernel))
  <| all_c (s_bipush (n := 10) (by decide +kernel) (by decide))
  <| all_c (s_idiv (by decide +kernel))
  <| all_c (s_iret (by decide +kernel) rfl)
  <| all_n
theorem t_X0_retold {l : Launch} {E : En_} (hE : EOK_ E) : Good_ l E yX0_retold (.code yX0_retold cX0_retold 2 (some .int) :: G_) (rm_ 1) (f_X0_retold E.2.2.2.1) := good_all hE (by decide +kernel) (a_X0_retold hE)
noncomputable def P_X0_ofMillion (K : Sh_)  : List (Nat × Op_) := [(0, o_ild 0 1),
  (1, o_i2l),
  (2, o_ild 1 1),
  (3, o_i2l),
  (4, o_lmul),
  (5, o_lc 1000000 3),
  (8, o_ldiv),
  (9, o_l2i),
  (10, o_iret)]
noncomputable def f_X0_ofMillion (K : Sh_) : Fn_ := fn_ (P_X0_ofMillion K) 2
set_option maxRecDepth 100000 in
theorem a_X0_ofMillion {l : Launch} {E : En_} (hE : EOK_ E)   : All_ (Snd_ l E yX0_ofMillion.cls cX0_ofMillion 2 (some .int) (.code yX0_ofMillion cX0_ofMillion 2 (some .int) :: G_) (rm_ 1)) (P_X0_ofMillion E.2.2.2.1 ) :=
  all_c (s_ild_n (q := 0) (by decide +kernel) rfl)
  <| all_c (s_i2l (by decide +kernel))
  <| all_c (s_ild_n (q := 1) (by decide +kernel) rfl)
  <| all_c (s_i2l (by decide +kernel))
  <| all_c (s_lmul (by decide +kernel))
  <| all_c (s_ldc2 (by decide +kernel) (G_w kk_RX0_152))
  <| all_c (s_ldiv (by decide +kernel))
  <| all_c (s_l2i (by decide +kernel))
  <| all_c (s_iret (by decide +kernel) rfl)
  <| all_n
theorem t_X0_ofMillion {l : Launch} {E : En_} (hE : EOK_ E) : Good_ l E yX0_ofMillion (.code yX0_ofMillion cX0_ofMillion 2 (some .int) :: G_) (rm_ 1) (f_X0_ofMillion E.2.2.2.1) := good_all hE (by decide +kernel) (a_X0_ofMillion hE)
noncomputable def P_X1_readAlone (K : Sh_)  : List (Nat × Op_) := [(0, o_ald 1 1),
  (1, o_gF K 0 9),
  (4, o_ild 2 1),
  (5, o_iald K),
  (6, o_ic 240 3),
  (9, o_min),
  (12, o_ist 3 1),
  (13, o_ic 0 1),
  (14, o_aft [5, 6, 7] (o_ist 4 2)),
  (16, o_ild 4 2),
  (18, o_ild 3 1),
  (19, o_cmpgt 44),
  (22, o_ald 0 1),
  (23, o_gF K 1 3),
  (26, o_ild 4 2),
  (28, o_ic 0 1),
  (29, o_iast K),
  (30, o_ald 0 1),
  (31, o_gF K 1 4),
  (34, o_ild 4 2),
  (36, o_ic 0 1),
  (37, o_iast K),
  (38, o_inc 4 1),
  (41, o_aft [5, 6, 7] (o_goto 16)),
  (44, o_ic 0 1),
  (45, o_aft [5, 6, 7] (o_ist 4 2)),
  (47, o_ild 4 2),
  (49, o_ald 1 1),
  (50, o_gI K 0 11),
  (53, o_cmpge 150),
  (56, o_ald 1 1),
  (57, o_ild 2 1),
  (58, o_ild 4 2),
  (60, o_callV K 0 (f_X0_readTime K) 2),
  (63, o_ist 5 2),
  (65, o_ild 3 1),
  (66, o_aft [7] (o_ist 6 2)),
  (68, o_ild 6 2),
  (70, o_ild 5 2),
  (72, o_cmplt 144),
  (75, o_ald 0 1),
  (76, o_gF K 1 3),
  (79, o_ild 6 2),
  (81, o_ild 5 2),
  (83, o_isub),
  (84, o_iald K),
  (85, o_ald 1 1),
  (86, o_gF K 0 2),
  (89, o_ild 4 2),
  (91, o_iald K),
  (92, o_iadd),
  (93, o_ist 7 2),
  (95, o_ild 7 2),
  (97, o_ald 0 1),
  (98, o_gF K 1 3),
  (101, o_ild 6 2),
  (103, o_iald K),
  (104, o_cmple 138),
  (107, o_ald 0 1),
  (108, o_gF K 1 3),
  (111, o_ild 6 2),
  (113, o_ild 7 2),
  (115, o_iast K),
  (116, o_ald 0 1),
  (117, o_gF K 1 4),
  (120, o_ild 6 2),
  (122, o_ald 0 1),
  (123, o_gF K 1 4),
  (126, o_ild 6 2),
  (128, o_ild 5 2),
  (130, o_isub),
  (131, o_iald K),
  (132, o_ic 1 1),
  (133, o_ild 4 2),
  (135, o_ishl),
  (136, o_ior),
  (137, o_iast K),
  (138, o_inc 6 (-1)),
  (141, o_aft [7] (o_goto 68)),
  (144, o_inc 4 1),
  (147, o_aft [5, 6, 7] (o_goto 47)),
  (150, o_ald 0 1),
  (151, o_ald 0 1),
  (152, o_gF K 1 3),
  (155, o_ild 3 1),
  (156, o_iald K),
  (157, o_pI K 1 0),
  (160, o_ald 0 1),
  (161, o_ald 0 1),
  (162, o_gF K 1 4),
  (165, o_ild 3 1),
  (166, o_iald K),
  (167, o_pI K 1 1),
  (170, o_vret)]
noncomputable def f_X1_readAlone (K : Sh_) : Fn_ := fn_ (P_X1_readAlone K) 8
set_option maxRecDepth 100000 in
theorem a_X1_readAlone {l : Launch} {E : En_} (hE : EOK_ E)   : All_ (Snd_ l E yX1_readAlone.cls cX1_readAlone 8 (none) (.code yX1_readAlone cX1_readAlone 8 (none) :: G_) (rm_ 3)) (P_X1_readAlone E.2.2.2.1 ) :=
  all_c (s_ald_n (q := 1) (by decide +kernel) rfl)
  <| all_c (g_0_9 (by decide +kernel) fl_RX1_35)
  <| all_c (s_ild_n (q := 2) (by decide +kernel) rfl)
  <| all_c (s_iald (by decide +kernel))
  <| all_c (s_sipush (n := 240) (by decide +kernel) (by decide))
  <| all_c (s_min (by decide +kernel) (G_w ml_RX1_40) (G_w mm_min_s) (G_w mm_i) (G_w mm_min_c) (rm_lt (lv := 0) (by decide)))
  <| all_c (s_ist_n (q := 3) (by decide +kernel) rfl)
  <| all_c (s_iconst (n := 0) (by decide +kernel) (by decide))
  <| all_c (s_aft (s_ist (by decide +kernel)))
  <| all_c (s_ild (by decide +kernel))
  <| all_c (s_ild_n (q := 3) (by decide +kernel) rfl)
  <| all_c (s_cmpgt (off := 25) (by decide +kernel) (by decide))
  <| all_c (s_ald_n (q := 0) (by decide +kernel) rfl)
  <| all_c (g_1_3 (by decide +kernel) fl_RX1_15)
  <| all_c (s_ild (by decide +kernel))
  <| all_c (s_iconst (n := 0) (by decide +kernel) (by decide))
  <| all_c (s_iast (by decide +kernel))
  <| all_c (s_ald_n (q := 0) (by decide +kernel) rfl)
  <| all_c (g_1_4 (by decide +kernel) fl_RX1_19)
  <| all_c (s_ild (by decide +kernel))
  <| all_c (s_iconst (n := 0) (by decide +kernel) (by decide))
  <| all_c (s_iast (by decide +kernel))
  <| all_c (s_inc (n := 1) (by decide +kernel) (by decide))
  <| all_c (s_aft (s_goto (off := (-25)) (by decide +kernel) (by decide)))
  <| all_c (s_iconst (n := 0) (by decide +kernel) (by decide))
  <| all_c (s_aft (s_ist (by decide +kernel)))
  <| all_c (s_ild (by decide +kernel))
  <| all_c (s_ald_n (q := 1) (by decide +kernel) rfl)
  <| all_c (g_0_11 (by decide +kernel) fl_RX1_46)
  <| all_c (s_cmpge (off := 97) (by decide +kernel) (by decide))
  <| all_c (s_ald_n (q := 1) (by decide +kernel) rfl)
  <| all_c (s_ild_n (q := 2) (by decide +kernel) rfl)
  <| all_c (s_ild (by decide +kernel))
  <| all_c (s_callV (by decide +kernel) (t_X0_readTime hE) cl_X0_readTime ml_RX1_49 im_X0_readTime se_X0_readTime (by decide) rfl (rm_lt (by decide)))
  <| all_c (s_ist (by decide +kernel))
  <| all_c (s_ild_n (q := 3) (by decide +kernel) rfl)
  <| all_c (s_aft (s_ist (by decide +kernel)))
  <| all_c (s_ild (by decide +kernel))
  <| all_c (s_ild (by decide +kernel))
  <| all_c (s_cmplt (off := 72) (by decide +kernel) (by decide))
  <| all_c (s_ald_n (q := 0) (by decide +kernel) rfl)
  <| all_c (g_1_3 (by decide +kernel) fl_RX1_15)
  <| all_c (s_ild (by decide +kernel))
  <| all_c (s_ild (by decide +kernel))
  <| all_c (s_isub (by decide +kernel))
  <| all_c (s_iald (by decide +kernel))
  <| all_c (s_ald_n (q := 1) (by decide +kernel) rfl)
  <| all_c (g_0_2 (by decide +kernel) fl_RX1_52)
  <| all_c (s_ild (by decide +kernel))
  <| all_c (s_iald (by decide +kernel))
  <| all_c (s_iadd (by decide +kernel))
  <| all_c (s_ist (by decide +kernel))
  <| all_c (s_ild (by decide +kernel))
  <| all_c (s_ald_n (q := 0) (by decide +kernel) rfl)
  <| all_c (g_1_3 (by decide +kernel) fl_RX1_15)
  <| all_c (s_ild (by decide +kernel))
  <| all_c (s_iald (by decide +kernel))
  <| all_c (s_cmple (off := 34) (by decide +kernel) (by decide))
  <| all_c (s_ald_n (q := 0) (by decide +kernel) rfl)
  <| all_c (g_1_3 (by decide +kernel) fl_RX1_15)
  <| all_c (s_ild (by decide +kernel))
  <| all_c (s_ild (by decide +kernel))
  <| all_c (s_iast (by decide +kernel))
  <| all_c (s_ald_n (q := 0) (by decide +kernel) rfl)
  <| all_c (g_1_4 (by decide +kernel) fl_RX1_19)
  <| all_c (s_ild (by decide +kernel))
  <| all_c (s_ald_n (q := 0) (by decide +kernel) rfl)
  <| all_c (g_1_4 (by decide +kernel) fl_RX1_19)
  <| all_c (s_ild (by decide +kernel))
  <| all_c (s_ild (by decide +kernel))
  <| all_c (s_isub (by decide +kernel))
  <| all_c (s_iald (by decide +kernel))
  <| all_c (s_iconst (n := 1) (by decide +kernel) (by decide))
  <| all_c (s_ild (by decide +kernel))
  <| all_c (s_ishl (by decide +kernel))
  <| all_c (s_ior (by decide +kernel))
  <| all_c (s_iast (by decide +kernel))
  <| all_c (s_inc (n := (-1)) (by decide +kernel) (by decide))
  <| all_c (s_aft (s_goto (off := (-73)) (by decide +kernel) (by decide)))
  <| all_c (s_inc (n := 1) (by decide +kernel) (by decide))
  <| all_c (s_aft (s_goto (off := (-100)) (by decide +kernel) (by decide)))
  <| all_c (s_ald_n (q := 0) (by decide +kernel) rfl)
  <| all_c (s_ald_n (q := 0) (by decide +kernel) rfl)
  <| all_c (g_1_3 (by decide +kernel) fl_RX1_15)
  <| all_c (s_ild_n (q := 3) (by decide +kernel) rfl)
  <| all_c (s_iald (by decide +kernel))
  <| all_c (p_1_0 (by decide +kernel) fl_RX1_55)
  <| all_c (s_ald_n (q := 0) (by decide +kernel) rfl)
  <| all_c (s_ald_n (q := 0) (by decide +kernel) rfl)
  <| all_c (g_1_4 (by decide +kernel) fl_RX1_19)
  <| all_c (s_ild_n (q := 3) (by decide +kernel) rfl)
  <| all_c (s_iald (by decide +kernel))
  <| all_c (p_1_1 (by decide +kernel) fl_RX1_57)
  <| all_c (s_vret (by decide +kernel) rfl)
  <| all_n
theorem t_X1_readAlone {l : Launch} {E : En_} (hE : EOK_ E) : Good_ l E yX1_readAlone (.code yX1_readAlone cX1_readAlone 8 (none) :: G_) (rm_ 3) (f_X1_readAlone E.2.2.2.1) := good_all hE (by decide +kernel) (a_X1_readAlone hE)
noncomputable def P_X1_tryLeaving (K : Sh_) (r_X1_tryLeaving : Fn_) : List (Nat × Op_) := [(0, o_ild 5 2),
  (2, o_ald 0 1),
  (3, o_gI K 1 0),
  (6, o_cmplt 10),
  (9, o_vret),
  (10, o_ild 1 1),
  (11, o_ifge 27),
  (14, o_ald 0 1),
  (15, o_ild 5 2),
  (17, o_pI K 1 0),
  (20, o_ald 0 1),
  (21, o_ild 4 2),
  (23, o_pI K 1 1),
  (26, o_vret),
  (27, o_ald 0 1),
  (28, o_gF K 1 6),
  (31, o_ild 1 1),
  (32, o_iald K),
  (33, o_ild 2 1),
  (34, o_cmpgt 64),
  (37, o_ald 0 1),
  (38, o_ild 1 1),
  (39, o_ic 1 1),
  (40, o_isub),
  (41, o_ild 2 1),
  (42, o_ald 0 1),
  (43, o_gF K 1 6),
  (46, o_ild 1 1),
  (47, o_iald K),
  (48, o_isub),
  (49, o_ild 3 1),
  (50, o_ald 0 1),
  (51, o_gF K 1 7),
  (54, o_ild 1 1),
  (55, o_iald K),
  (56, o_ior),
  (57, o_ild 4 2),
  (59, o_ild 5 2),
  (61, o_callV K 1 (r_X1_tryLeaving) 5),
  (64, o_ild 3 1),
  (65, o_ild 1 1),
  (66, o_ishr),
  (67, o_ic 1 1),
  (68, o_iand),
  (69, o_ifne 99),
  (72, o_ald 0 1),
  (73, o_ild 1 1),
  (74, o_ic 1 1),
  (75, o_isub),
  (76, o_ild 2 1),
  (77, o_ild 3 1),
  (78, o_ild 4 2),
  (80, o_ic 1 1),
  (81, o_ild 1 1),
  (82, o_ishl),
  (83, o_ior),
  (84, o_ild 5 2),
  (86, o_ald 0 1),
  (87, o_gR K 1 8),
  (90, o_gF K 0 2),
  (93, o_ild 1 1),
  (94, o_iald K),
  (95, o_iadd),
  (96, o_callV K 1 (r_X1_tryLeaving) 5),
  (99, o_vret)]
noncomputable def F_X1_tryLeaving (K : Sh_) : Nat → Fn_
  | 0 => (fun _ _ => none)
  | d + 1 => (fn_ (P_X1_tryLeaving K (F_X1_tryLeaving K d)) 6)
noncomputable def f_X1_tryLeaving (K : Sh_) (d : Nat) : Fn_ := (F_X1_tryLeaving K d)
set_option maxRecDepth 100000 in
theorem a_X1_tryLeaving {l : Launch} {E : En_} (hE : EOK_ E) {d : Nat} {r_X1_tryLeaving : Fn_} (h_X1_tryLeaving : Good_ l E yX1_tryLeaving (.code yX1_tryLeaving cX1_tryLeaving 6 (none) :: G_) (rm_ (1 + d)) r_X1_tryLeaving) : All_ (Snd_ l E yX1_tryLeaving.cls cX1_tryLeaving 6 (none) (.code yX1_tryLeaving cX1_tryLeaving 6 (none) :: G_) (rm_ (1 + (d + 1)))) (P_X1_tryLeaving E.2.2.2.1 r_X1_tryLeaving) :=
  all_c (s_ild (by decide +kernel))
  <| all_c (s_ald_n (q := 0) (by decide +kernel) rfl)
  <| all_c (g_1_0 (by decide +kernel) fl_RX1_55)
  <| all_c (s_cmplt (off := 4) (by decide +kernel) (by decide))
  <| all_c (s_vret (by decide +kernel) rfl)
  <| all_c (s_ild_n (q := 1) (by decide +kernel) rfl)
  <| all_c (s_ifge (off := 16) (by decide +kernel) (by decide))
  <| all_c (s_ald_n (q := 0) (by decide +kernel) rfl)
  <| all_c (s_ild (by decide +kernel))
  <| all_c (p_1_0 (by decide +kernel) fl_RX1_55)
  <| all_c (s_ald_n (q := 0) (by decide +kernel) rfl)
  <| all_c (s_ild (by decide +kernel))
  <| all_c (p_1_1 (by decide +kernel) fl_RX1_57)
  <| all_c (s_vret (by decide +kernel) rfl)
  <| all_c (s_ald_n (q := 0) (by decide +kernel) rfl)
  <| all_c (g_1_6 (by decide +kernel) fl_RX1_25)
  <| all_c (s_ild_n (q := 1) (by decide +kernel) rfl)
  <| all_c (s_iald (by decide +kernel))
  <| all_c (s_ild_n (q := 2) (by decide +kernel) rfl)
  <| all_c (s_cmpgt (off := 30) (by decide +kernel) (by decide))
  <| all_c (s_ald_n (q := 0) (by decide +kernel) rfl)
  <| all_c (s_ild_n (q := 1) (by decide +kernel) rfl)
  <| all_c (s_iconst (n := 1) (by decide +kernel) (by decide))
  <| all_c (s_isub (by decide +kernel))
  <| all_c (s_ild_n (q := 2) (by decide +kernel) rfl)
  <| all_c (s_ald_n (q := 0) (by decide +kernel) rfl)
  <| all_c (g_1_6 (by decide +kernel) fl_RX1_25)
  <| all_c (s_ild_n (q := 1) (by decide +kernel) rfl)
  <| all_c (s_iald (by decide +kernel))
  <| all_c (s_isub (by decide +kernel))
  <| all_c (s_ild_n (q := 3) (by decide +kernel) rfl)
  <| all_c (s_ald_n (q := 0) (by decide +kernel) rfl)
  <| all_c (g_1_7 (by decide +kernel) fl_RX1_28)
  <| all_c (s_ild_n (q := 1) (by decide +kernel) rfl)
  <| all_c (s_iald (by decide +kernel))
  <| all_c (s_ior (by decide +kernel))
  <| all_c (s_ild (by decide +kernel))
  <| all_c (s_ild (by decide +kernel))
  <| all_c (s_callV (by decide +kernel) (h_X1_tryLeaving) cl_X1_tryLeaving ml_RX1_73 im_X1_tryLeaving se_X1_tryLeaving (by decide) rfl (rm_lt (by omega)))
  <| all_c (s_ild_n (q := 3) (by decide +kernel) rfl)
  <| all_c (s_ild_n (q := 1) (by decide +kernel) rfl)
  <| all_c (s_ishr (by decide +kernel))
  <| all_c (s_iconst (n := 1) (by decide +kernel) (by decide))
  <| all_c (s_iand (by decide +kernel))
  <| all_c (s_ifne (off := 30) (by decide +kernel) (by decide))
  <| all_c (s_ald_n (q := 0) (by decide +kernel) rfl)
  <| all_c (s_ild_n (q := 1) (by decide +kernel) rfl)
  <| all_c (s_iconst (n := 1) (by decide +kernel) (by decide))
  <| all_c (s_isub (by decide +kernel))
  <| all_c (s_ild_n (q := 2) (by decide +kernel) rfl)
  <| all_c (s_ild_n (q := 3) (by decide +kernel) rfl)
  <| all_c (s_ild (by decide +kernel))
  <| all_c (s_iconst (n := 1) (by decide +kernel) (by decide))
  <| all_c (s_ild_n (q := 1) (by decide +kernel) rfl)
  <| all_c (s_ishl (by decide +kernel))
  <| all_c (s_ior (by decide +kernel))
  <| all_c (s_ild (by decide +kernel))
  <| all_c (s_ald_n (q := 0) (by decide +kernel) rfl)
  <| all_c (g_1_8 (by decide +kernel) fl_RX1_31)
  <| all_c (g_0_2 (by decide +kernel) fl_RX1_52)
  <| all_c (s_ild_n (q := 1) (by decide +kernel) rfl)
  <| all_c (s_iald (by decide +kernel))
  <| all_c (s_iadd (by decide +kernel))
  <| all_c (s_callV (by decide +kernel) (h_X1_tryLeaving) cl_X1_tryLeaving ml_RX1_73 im_X1_tryLeaving se_X1_tryLeaving (by decide) rfl (rm_lt (by omega)))
  <| all_c (s_vret (by decide +kernel) rfl)
  <| all_n
theorem T_X1_tryLeaving {l : Launch} {E : En_} (hE : EOK_ E) : ∀ d, Good_ l E yX1_tryLeaving (.code yX1_tryLeaving cX1_tryLeaving 6 (none) :: G_) (rm_ (1 + d)) (f_X1_tryLeaving E.2.2.2.1 d)
  | 0 => good_0
  | d + 1 => by
    have h_X1_tryLeaving := T_X1_tryLeaving (l := l) hE d
    exact good_all hE (by decide +kernel) (a_X1_tryLeaving hE h_X1_tryLeaving)
theorem t_X1_tryLeaving {l : Launch} {E : En_} (hE : EOK_ E) (d : Nat) : Good_ l E yX1_tryLeaving (.code yX1_tryLeaving cX1_tryLeaving 6 (none) :: G_) (rm_ (1 + d)) (f_X1_tryLeaving E.2.2.2.1 d) := (T_X1_tryLeaving hE d)
noncomputable def P_X1_leaveOut (K : Sh_)  : List (Nat × Op_) := [(0, o_ald 0 1),
  (1, o_ald 1 1),
  (2, o_pR K 1 8),
  (5, o_ald 0 1),
  (6, o_ic 0 1),
  (7, o_pI K 1 9),
  (10, o_ic 0 1),
  (11, o_ist 2 1),
  (12, o_ic 0 1),
  (13, o_aft [4] (o_ist 3 1)),
  (14, o_ild 3 1),
  (15, o_ald 0 1),
  (16, o_gR K 1 8),
  (19, o_gI K 0 12),
  (22, o_cmpge 72),
  (25, o_ald 0 1),
  (26, o_dup),
  (27, o_gI K 1 9),
  (30, o_ald 0 1),
  (31, o_gR K 1 8),
  (34, o_gF K 0 9),
  (37, o_ild 3 1),
  (38, o_iald K),
  (39, o_iadd),
  (40, o_pI K 1 9),
  (43, o_ald 0 1),
  (44, o_gR K 1 8),
  (47, o_gF K 0 6),
  (50, o_ild 3 1),
  (51, o_iald K),
  (52, o_ald 0 1),
  (53, o_gR K 1 8),
  (56, o_gF K 0 6),
  (59, o_ild 2 1),
  (60, o_iald K),
  (61, o_cmple 66),
  (64, o_ild 3 1),
  (65, o_ist 2 1),
  (66, o_inc 3 1),
  (69, o_aft [4] (o_goto 14)),
  (72, o_ald 0 1),
  (73, o_ic 0 1),
  (74, o_pI K 1 0),
  (77, o_ic 0 1),
  (78, o_aft [4] (o_ist 3 1)),
  (79, o_ild 3 1),
  (80, o_ald 0 1),
  (81, o_gR K 1 8),
  (84, o_gI K 0 11),
  (87, o_cmpge 180),
  (90, o_ald 0 1),
  (91, o_gF K 1 6),
  (94, o_ild 3 1),
  (95, o_ald 0 1),
  (96, o_gR K 1 8),
  (99, o_ild 2 1),
  (100, o_ild 3 1),
  (101, o_callV K 0 (f_X0_readTime K) 2),
  (104, o_iast K),
  (105, o_ald 0 1),
  (106, o_dup),
  (107, o_gI K 1 0),
  (110, o_ald 0 1),
  (111, o_gR K 1 8),
  (114, o_gF K 0 2),
  (117, o_ild 3 1),
  (118, o_iald K),
  (119, o_iadd),
  (120, o_pI K 1 0),
  (123, o_ald 0 1),
  (124, o_gF K 1 7),
  (127, o_ild 3 1),
  (128, o_ic 0 1),
  (129, o_iast K),
  (130, o_ic 0 1),
  (131, o_ist 4 2),
  (133, o_ild 4 2),
  (135, o_ild 3 1),
  (136, o_cmpge 174),
  (139, o_ald 0 1),
  (140, o_gR K 1 8),
  (143, o_gF K 0 4),
  (146, o_ild 3 1),
  (147, o_aald K),
  (148, o_ild 4 2),
  (150, o_iald K),
  (151, o_ic 5 1),
  (152, o_cmplt 168),
  (155, o_ald 0 1),
  (156, o_gF K 1 7),
  (159, o_ild 3 1),
  (160, o_dup2),
  (161, o_iald K),
  (162, o_ic 1 1),
  (163, o_ild 4 2),
  (165, o_ishl),
  (166, o_ior),
  (167, o_iast K),
  (168, o_inc 4 1),
  (171, o_goto 133),
  (174, o_inc 3 1),
  (177, o_aft [4] (o_goto 79)),
  (180, o_ald 0 1),
  (181, o_dup),
  (182, o_gI K 1 0),
  (185, o_ic 1 1),
  (186, o_iadd),
  (187, o_pI K 1 0),
  (190, o_ald 0 1),
  (191, o_ic 0 1),
  (192, o_pI K 1 1),
  (195, o_ald 0 1),
  (196, o_ald 0 1),
  (197, o_gR K 1 8),
  (200, o_gI K 0 11),
  (203, o_ic 1 1),
  (204, o_isub),
  (205, o_ald 0 1),
  (206, o_gI K 1 9),
  (209, o_ic 0 1),
  (210, o_ic 0 1),
  (211, o_ic 0 1),
  (212, o_callV K 1 (f_X1_tryLeaving K 80) 5),
  (215, o_vret)]
noncomputable def f_X1_leaveOut (K : Sh_) : Fn_ := fn_ (P_X1_leaveOut K) 5
set_option maxRecDepth 100000 in
theorem a_X1_leaveOut {l : Launch} {E : En_} (hE : EOK_ E)   : All_ (Snd_ l E yX1_leaveOut.cls cX1_leaveOut 5 (none) (.code yX1_leaveOut cX1_leaveOut 5 (none) :: G_) (rm_ 82)) (P_X1_leaveOut E.2.2.2.1 ) :=
  all_c (s_ald_n (q := 0) (by decide +kernel) rfl)
  <| all_c (s_ald_n (q := 1) (by decide +kernel) rfl)
  <| all_c (p_1_8 (by decide +kernel) fl_RX1_31)
  <| all_c (s_ald_n (q := 0) (by decide +kernel) rfl)
  <| all_c (s_iconst (n := 0) (by decide +kernel) (by decide))
  <| all_c (p_1_9 (by decide +kernel) fl_RX1_60)
  <| all_c (s_iconst (n := 0) (by decide +kernel) (by decide))
  <| all_c (s_ist_n (q := 2) (by decide +kernel) rfl)
  <| all_c (s_iconst (n := 0) (by decide +kernel) (by decide))
  <| all_c (s_aft (s_ist_n (q := 3) (by decide +kernel) rfl))
  <| all_c (s_ild_n (q := 3) (by decide +kernel) rfl)
  <| all_c (s_ald_n (q := 0) (by decide +kernel) rfl)
  <| all_c (g_1_8 (by decide +kernel) fl_RX1_31)
  <| all_c (g_0_12 (by decide +kernel) fl_RX1_63)
  <| all_c (s_cmpge (off := 50) (by decide +kernel) (by decide))
  <| all_c (s_ald_n (q := 0) (by decide +kernel) rfl)
  <| all_c (s_dup (by decide +kernel))
  <| all_c (g_1_9 (by decide +kernel) fl_RX1_60)
  <| all_c (s_ald_n (q := 0) (by decide +kernel) rfl)
  <| all_c (g_1_8 (by decide +kernel) fl_RX1_31)
  <| all_c (g_0_9 (by decide +kernel) fl_RX1_35)
  <| all_c (s_ild_n (q := 3) (by decide +kernel) rfl)
  <| all_c (s_iald (by decide +kernel))
  <| all_c (s_iadd (by decide +kernel))
  <| all_c (p_1_9 (by decide +kernel) fl_RX1_60)
  <| all_c (s_ald_n (q := 0) (by decide +kernel) rfl)
  <| all_c (g_1_8 (by decide +kernel) fl_RX1_31)
  <| all_c (g_0_6 (by decide +kernel) fl_RX1_66)
  <| all_c (s_ild_n (q := 3) (by decide +kernel) rfl)
  <| all_c (s_iald (by decide +kernel))
  <| all_c (s_ald_n (q := 0) (by decide +kernel) rfl)
  <| all_c (g_1_8 (by decide +kernel) fl_RX1_31)
  <| all_c (g_0_6 (by decide +kernel) fl_RX1_66)
  <| all_c (s_ild_n (q := 2) (by decide +kernel) rfl)
  <| all_c (s_iald (by decide +kernel))
  <| all_c (s_cmple (off := 5) (by decide +kernel) (by decide))
  <| all_c (s_ild_n (q := 3) (by decide +kernel) rfl)
  <| all_c (s_ist_n (q := 2) (by decide +kernel) rfl)
  <| all_c (s_inc (n := 1) (by decide +kernel) (by decide))
  <| all_c (s_aft (s_goto (off := (-55)) (by decide +kernel) (by decide)))
  <| all_c (s_ald_n (q := 0) (by decide +kernel) rfl)
  <| all_c (s_iconst (n := 0) (by decide +kernel) (by decide))
  <| all_c (p_1_0 (by decide +kernel) fl_RX1_55)
  <| all_c (s_iconst (n := 0) (by decide +kernel) (by decide))
  <| all_c (s_aft (s_ist_n (q := 3) (by decide +kernel) rfl))
  <| all_c (s_ild_n (q := 3) (by decide +kernel) rfl)
  <| all_c (s_ald_n (q := 0) (by decide +kernel) rfl)
  <| all_c (g_1_8 (by decide +kernel) fl_RX1_31)
  <| all_c (g_0_11 (by decide +kernel) fl_RX1_46)
  <| all_c (s_cmpge (off := 93) (by decide +kernel) (by decide))
  <| all_c (s_ald_n (q := 0) (by decide +kernel) rfl)
  <| all_c (g_1_6 (by decide +kernel) fl_RX1_25)
  <| all_c (s_ild_n (q := 3) (by decide +kernel) rfl)
  <| all_c (s_ald_n (q := 0) (by decide +kernel) rfl)
  <| all_c (g_1_8 (by decide +kernel) fl_RX1_31)
  <| all_c (s_ild_n (q := 2) (by decide +kernel) rfl)
  <| all_c (s_ild_n (q := 3) (by decide +kernel) rfl)
  <| all_c (s_callV (by decide +kernel) (t_X0_readTime hE) cl_X0_readTime ml_RX1_49 im_X0_readTime se_X0_readTime (by decide) rfl (rm_lt (by decide)))
  <| all_c (s_iast (by decide +kernel))
  <| all_c (s_ald_n (q := 0) (by decide +kernel) rfl)
  <| all_c (s_dup (by decide +kernel))
  <| all_c (g_1_0 (by decide +kernel) fl_RX1_55)
  <| all_c (s_ald_n (q := 0) (by decide +kernel) rfl)
  <| all_c (g_1_8 (by decide +kernel) fl_RX1_31)
  <| all_c (g_0_2 (by decide +kernel) fl_RX1_52)
  <| all_c (s_ild_n (q := 3) (by decide +kernel) rfl)
  <| all_c (s_iald (by decide +kernel))
  <| all_c (s_iadd (by decide +kernel))
  <| all_c (p_1_0 (by decide +kernel) fl_RX1_55)
  <| all_c (s_ald_n (q := 0) (by decide +kernel) rfl)
  <| all_c (g_1_7 (by decide +kernel) fl_RX1_28)
  <| all_c (s_ild_n (q := 3) (by decide +kernel) rfl)
  <| all_c (s_iconst (n := 0) (by decide +kernel) (by decide))
  <| all_c (s_iast (by decide +kernel))
  <| all_c (s_iconst (n := 0) (by decide +kernel) (by decide))
  <| all_c (s_ist (by decide +kernel))
  <| all_c (s_ild (by decide +kernel))
  <| all_c (s_ild_n (q := 3) (by decide +kernel) rfl)
  <| all_c (s_cmpge (off := 38) (by decide +kernel) (by decide))
  <| all_c (s_ald_n (q := 0) (by decide +kernel) rfl)
  <| all_c (g_1_8 (by decide +kernel) fl_RX1_31)
  <| all_c (g_0_4 (by decide +kernel) fl_RX1_69)
  <| all_c (s_ild_n (q := 3) (by decide +kernel) rfl)
  <| all_c (s_aald (by decide +kernel))
  <| all_c (s_ild (by decide +kernel))
  <| all_c (s_iald (by decide +kernel))
  <| all_c (s_iconst (n := 5) (by decide +kernel) (by decide))
  <| all_c (s_cmplt (off := 16) (by decide +kernel) (by decide))
  <| all_c (s_ald_n (q := 0) (by decide +kernel) rfl)
  <| all_c (g_1_7 (by decide +kernel) fl_RX1_28)
  <| all_c (s_ild_n (q := 3) (by decide +kernel) rfl)
  <| all_c (s_dup2 (by decide +kernel))
  <| all_c (s_iald (by decide +kernel))
  <| all_c (s_iconst (n := 1) (by decide +kernel) (by decide))
  <| all_c (s_ild (by decide +kernel))
  <| all_c (s_ishl (by decide +kernel))
  <| all_c (s_ior (by decide +kernel))
  <| all_c (s_iast (by decide +kernel))
  <| all_c (s_inc (n := 1) (by decide +kernel) (by decide))
  <| all_c (s_goto (off := (-38)) (by decide +kernel) (by decide))
  <| all_c (s_inc (n := 1) (by decide +kernel) (by decide))
  <| all_c (s_aft (s_goto (off := (-98)) (by decide +kernel) (by decide)))
  <| all_c (s_ald_n (q := 0) (by decide +kernel) rfl)
  <| all_c (s_dup (by decide +kernel))
  <| all_c (g_1_0 (by decide +kernel) fl_RX1_55)
  <| all_c (s_iconst (n := 1) (by decide +kernel) (by decide))
  <| all_c (s_iadd (by decide +kernel))
  <| all_c (p_1_0 (by decide +kernel) fl_RX1_55)
  <| all_c (s_ald_n (q := 0) (by decide +kernel) rfl)
  <| all_c (s_iconst (n := 0) (by decide +kernel) (by decide))
  <| all_c (p_1_1 (by decide +kernel) fl_RX1_57)
  <| all_c (s_ald_n (q := 0) (by decide +kernel) rfl)
  <| all_c (s_ald_n (q := 0) (by decide +kernel) rfl)
  <| all_c (g_1_8 (by decide +kernel) fl_RX1_31)
  <| all_c (g_0_11 (by decide +kernel) fl_RX1_46)
  <| all_c (s_iconst (n := 1) (by decide +kernel) (by decide))
  <| all_c (s_isub (by decide +kernel))
  <| all_c (s_ald_n (q := 0) (by decide +kernel) rfl)
  <| all_c (g_1_9 (by decide +kernel) fl_RX1_60)
  <| all_c (s_iconst (n := 0) (by decide +kernel) (by decide))
  <| all_c (s_iconst (n := 0) (by decide +kernel) (by decide))
  <| all_c (s_iconst (n := 0) (by decide +kernel) (by decide))
  <| all_c (s_callV (by decide +kernel) (t_X1_tryLeaving hE 80) cl_X1_tryLeaving ml_RX1_73 im_X1_tryLeaving se_X1_tryLeaving (by decide) rfl (rm_lt (by decide)))
  <| all_c (s_vret (by decide +kernel) rfl)
  <| all_n
theorem t_X1_leaveOut {l : Launch} {E : En_} (hE : EOK_ E) : Good_ l E yX1_leaveOut (.code yX1_leaveOut cX1_leaveOut 5 (none) :: G_) (rm_ 82) (f_X1_leaveOut E.2.2.2.1) := good_all hE (by decide +kernel) (a_X1_leaveOut hE)
