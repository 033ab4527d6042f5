set_option maxRecDepth 100000 in
theorem hp_X4_findParts : All_ (fun _ o => Loc_ o) (P_X4_findParts KC) :=
  all_c l_ic <| all_c (l_aft l_ist) <| all_c l_ild <| all_c l_ald <| all_c l_gR <| all_c l_gI <| all_c l_cmpge <| all_c l_ald <| all_c l_gF <| all_c l_ild <| all_c l_ild <| all_c l_iast <| all_c l_ic <| all_c l_ist <| all_c l_ild <| all_c l_ild <| all_c l_cmpge <| all_c l_ald <| all_c l_gR <| all_c l_gF <| all_c l_ild <| all_c l_aald <| all_c l_ild <| all_c l_iald <| all_c l_ild <|
  all_c l_cmplt <| all_c l_ald <| all_c l_ald <| all_c l_gF <| all_c l_ild <| all_c l_iald <| all_c l_ald <| all_c l_gF <| all_c l_ild <| all_c l_iald <| all_c (l_callV hh_X4_join) <| all_c l_inc <| all_c l_goto <| all_c l_inc <| all_c (l_aft l_goto) <| all_c l_vret <| all_n
theorem hh_X4_findParts : RspF_ (f_X4_findParts KC) := rsp_fn hp_X4_findParts
set_option maxRecDepth 100000 in
theorem hp_X4_mostLeft : All_ (fun _ o => Loc_ o) (P_X4_mostLeft KC) :=
  all_c l_ic <| all_c l_ist <| all_c l_ic <| all_c l_ist <| all_c l_ild <| all_c l_ald <| all_c l_gR <| all_c l_gI <| all_c l_cmpge <| all_c l_ild <| all_c l_ild <| all_c l_ishr <| all_c l_ic <| all_c l_iand <| all_c l_ifne <| all_c l_ild <| all_c l_ic <| all_c l_cmpeq <| all_c l_ald <| all_c l_gF <| all_c l_gF <| all_c l_ild <| all_c l_iald <| all_c l_ald <| all_c l_gF <| all_c l_gF <|
  all_c l_ild <| all_c l_iald <| all_c l_cmple <| all_c l_ild <| all_c l_ist <| all_c l_inc <| all_c l_goto <| all_c l_ild <| all_c l_iret <| all_n
theorem hh_X4_mostLeft : RspF_ (f_X4_mostLeft KC) := rsp_fn hp_X4_mostLeft
set_option maxRecDepth 100000 in
theorem hp_X4_readPart : All_ (fun _ o => Loc_ o) (P_X4_readPart KC) :=
  all_c l_ild <| all_c l_ist <| all_c l_ild <| all_c l_ald <| all_c l_gR <| all_c l_gI <| all_c l_cmpge <| all_c l_ald <| all_c l_gF <| all_c l_ild <| all_c l_iald <| all_c l_ild <| all_c l_cmpne <| all_c l_ald <| all_c l_ild <| all_c l_ild <| all_c l_ic <| all_c l_ic <| all_c (l_callV hh_X4_tryAct) <| all_c l_ifne <| all_c l_vret <| all_c l_inc <| all_c l_goto <| all_c l_vret <| all_n
theorem hh_X4_readPart : RspF_ (f_X4_readPart KC) := rsp_fn hp_X4_readPart
set_option maxRecDepth 100000 in
theorem hp_X4_addParts : All_ (fun _ o => Loc_ o) (P_X4_addParts KC) :=
  all_c l_ald <| all_c l_ild <| all_c (l_callV hh_X4_findParts) <| all_c l_ic <| all_c (l_aft l_ist) <| all_c l_ild <| all_c l_ald <| all_c l_gR <| all_c l_gI <| all_c l_cmpge <| all_c l_ald <| all_c l_ic <| all_c (l_callV hh_X4_mostLeft) <| all_c l_ist <| all_c l_ald <| all_c l_gF <| all_c l_ild <| all_c l_iald <| all_c l_ild <| all_c l_cmpne <| all_c l_ild <| all_c l_ic <| all_c l_cmpeq <|
  all_c l_ald <| all_c l_ild <| all_c l_ild <| all_c (l_callV hh_X4_readPart) <| all_c l_inc <| all_c (l_aft l_goto) <| all_c l_vret <| all_n
theorem hh_X4_addParts : RspF_ (f_X4_addParts KC) := rsp_fn hp_X4_addParts
set_option maxRecDepth 100000 in
theorem hp_X4_addRounds : All_ (fun _ o => Loc_ o) (P_X4_addRounds KC) :=
  all_c l_ic <| all_c (l_aft l_ist) <| all_c l_ild <| all_c l_ald <| all_c l_gR <| all_c l_gI <| all_c l_cmpge <| all_c l_ic <| all_c (l_aft l_ist) <| all_c l_ild <| all_c l_ald <| all_c l_gR <| all_c l_gI <| all_c l_cmpge <| all_c l_ald <| all_c l_gF <| all_c l_gF <| all_c l_ild <| all_c l_iald <| all_c l_ild <| all_c l_ishr <| all_c l_ic <| all_c l_iand <| all_c l_ifeq <| all_c l_ald <|
  all_c l_gF <| all_c l_ald <| all_c l_gR <| all_c l_ild <| all_c l_ild <| all_c (l_callV hh_X0_tellTime) <| all_c (l_callV hh_X5_withTime) <| all_c l_ic <| all_c l_ild <| all_c l_ishl <| all_c l_ic <| all_c l_ixor <| all_c l_iand <| all_c l_ist <| all_c l_ild <| all_c l_ifeq <| all_c l_ald <| all_c l_ild <| all_c l_ild <| all_c l_ild <| all_c l_ild <| all_c (l_callV hh_X4_tryAct) <|
  all_c l_pop <| all_c l_inc <| all_c (l_aft l_goto) <| all_c l_inc <| all_c (l_aft l_goto) <| all_c l_vret <| all_n
theorem hh_X4_addRounds : RspF_ (f_X4_addRounds KC) := rsp_fn hp_X4_addRounds
set_option maxRecDepth 100000 in
theorem hp_X4_addRows : All_ (fun _ o => Loc_ o) (P_X4_addRows KC) :=
  all_c l_ic <| all_c l_ist <| all_c l_ic <| all_c l_ist <| all_c l_ild <| all_c l_ald <| all_c l_gR <| all_c l_gI <| all_c l_cmpge <| all_c l_ild <| all_c l_ald <| all_c l_gR <| all_c l_gI <| all_c l_cmpge <| all_c l_ald <| all_c l_ild <| all_c l_ild <| all_c l_ic <| all_c l_ic <| all_c (l_callV hh_X4_tryAct) <| all_c l_ifeq <| all_c l_inc <| all_c l_goto <| all_c l_inc <| all_c l_goto <|
  all_c l_vret <| all_n
theorem hh_X4_addRows : RspF_ (f_X4_addRows KC) := rsp_fn hp_X4_addRows
set_option maxRecDepth 100000 in
theorem hp_X4_mostWorth : All_ (fun _ o => Loc_ o) (P_X4_mostWorth KC) :=
  all_c l_ic <| all_c l_ist <| all_c l_ic <| all_c l_ist <| all_c l_ild <| all_c l_ald <| all_c l_gR <| all_c l_gI <| all_c l_cmpge <| all_c l_ild <| all_c l_ild <| all_c l_ishr <| all_c l_ic <| all_c l_iand <| all_c l_ifne <| all_c l_ild <| all_c l_ic <| all_c l_cmpeq <| all_c l_ald <| all_c l_gR <| all_c l_gF <| all_c l_ild <| all_c l_iald <| all_c l_ald <| all_c l_gR <| all_c l_gF <|
  all_c l_ild <| all_c l_iald <| all_c l_cmple <| all_c l_ild <| all_c l_ist <| all_c l_inc <| all_c l_goto <| all_c l_ild <| all_c l_ic <| all_c l_cmpne <| all_c l_ic <| all_c l_goto <| all_c l_ild <| all_c l_iret <| all_n
theorem hh_X4_mostWorth : RspF_ (f_X4_mostWorth KC) := rsp_fn hp_X4_mostWorth
set_option maxRecDepth 100000 in
theorem hp_X4_readersOf : All_ (fun _ o => Loc_ o) (P_X4_readersOf KC) :=
  all_c l_ic <| all_c l_ist <| all_c l_ic <| all_c l_ist <| all_c l_ild <| all_c l_ald <| all_c l_gR <| all_c l_gI <| all_c l_cmpge <| all_c l_ild <| all_c l_ald <| all_c l_gF <| all_c l_gF <| all_c l_ild <| all_c l_iald <| all_c l_ild <| all_c l_ishr <| all_c l_ic <| all_c l_iand <| all_c l_ild <| all_c l_ishl <| all_c l_ior <| all_c l_ist <| all_c l_inc <| all_c l_goto <| all_c l_ild <|
  all_c l_iret <| all_n
theorem hh_X4_readersOf : RspF_ (f_X4_readersOf KC) := rsp_fn hp_X4_readersOf
set_option maxRecDepth 100000 in
theorem hp_X4_addSecondReadings : All_ (fun _ o => Loc_ o) (P_X4_addSecondReadings KC) :=
  all_c l_ic <| all_c l_ist <| all_c l_ic <| all_c (l_aft l_ist) <| all_c l_ild <| all_c l_ild <| all_c l_cmpge <| all_c l_ild <| all_c l_ald <| all_c l_gR <| all_c l_gI <| all_c l_cmpge <| all_c l_ald <| all_c l_ild <| all_c (l_callV hh_X4_mostWorth) <| all_c l_ist <| all_c l_ild <| all_c l_ic <| all_c l_ild <| all_c l_ishl <| all_c l_ior <| all_c l_ist <| all_c l_ald <| all_c l_ald <|
  all_c l_ild <| all_c (l_callV hh_X4_readersOf) <| all_c (l_callV hh_X4_mostLeft) <| all_c l_ist <| all_c l_ild <| all_c l_ic <| all_c l_cmpeq <| all_c l_ald <| all_c l_ild <| all_c l_ild <| all_c l_ic <| all_c l_ic <| all_c (l_callV hh_X4_tryAct) <| all_c l_pop <| all_c l_inc <| all_c (l_aft l_goto) <| all_c l_vret <| all_n
theorem hh_X4_addSecondReadings : RspF_ (f_X4_addSecondReadings KC) := rsp_fn hp_X4_addSecondReadings
set_option maxRecDepth 100000 in
theorem hp_X4_fill : All_ (fun _ o => Loc_ o) (P_X4_fill KC) :=
  all_c l_ild <| all_c l_ic <| all_c l_cmpne <| all_c l_ald <| all_c l_ild <| all_c (l_callV hh_X4_addParts) <| all_c l_vret <| all_c l_ald <| all_c (l_callV hh_X4_addRows) <| all_c l_ild <| all_c l_tsw <| all_c l_ald <| all_c l_ild <| all_c (l_callV hh_X4_addSecondReadings) <| all_c l_goto <| all_c l_ald <| all_c l_ild <| all_c (l_callV hh_X4_addChains) <| all_c l_goto <| all_c l_ald <|
  all_c l_ild <| all_c (l_callV hh_X4_addRounds) <| all_c l_goto <| all_c l_vret <| all_n
theorem hh_X4_fill : RspF_ (f_X4_fill KC) := rsp_fn hp_X4_fill
set_option maxRecDepth 100000 in
theorem hp_X4_draw : All_ (fun _ o => Loc_ o) (P_X4_draw KC) :=
  all_c l_ald <| all_c l_ald <| all_c l_gI <| all_c l_ic <| all_c l_imul <| all_c l_ic <| all_c l_iadd <| all_c l_pI <| all_c l_ild <| all_c l_ic <| all_c l_cmpge <| all_c l_ic <| all_c l_goto <| all_c l_ald <| all_c l_gI <| all_c l_ic <| all_c l_iushr <| all_c l_ild <| all_c l_irem <| all_c l_iret <| all_n
theorem hh_X4_draw : RspF_ (f_X4_draw KC) := rsp_fn hp_X4_draw
set_option maxRecDepth 100000 in
theorem hp_X4_drawActs : All_ (fun _ o => Loc_ o) (P_X4_drawActs KC) :=
  all_c l_ald <| all_c l_ild <| all_c l_pI <| all_c l_ic <| all_c (l_aft l_ist) <| all_c l_ild <| all_c l_ild <| all_c l_cmpge <| all_c l_ild <| all_c l_ic <| all_c l_cmpge <| all_c l_ald <| all_c l_ald <| all_c l_gR <| all_c l_gI <| all_c (l_callV hh_X4_draw) <| all_c l_ist <| all_c l_ald <| all_c l_ald <| all_c l_gR <| all_c l_gI <| all_c (l_callV hh_X4_draw) <| all_c l_ist <| all_c l_ald <|
  all_c l_ic <| all_c (l_callV hh_X4_draw) <| all_c l_ifne <| all_c l_ald <| all_c l_gR <| all_c l_ild <| all_c l_ild <| all_c l_ic <| all_c l_ald <| all_c l_ic <| all_c (l_callV hh_X4_draw) <| all_c l_iadd <| all_c l_ic <| all_c l_ald <| all_c l_gR <| all_c l_gI <| all_c l_ishl <| all_c l_ic <| all_c l_isub <| all_c l_ic <| all_c l_ild <| all_c l_ishl <| all_c l_ic <| all_c l_ixor <|
  all_c l_iand <| all_c (l_callV hh_X6_add) <| all_c l_goto <| all_c l_ald <| all_c l_gR <| all_c l_ild <| all_c l_ild <| all_c l_ic <| all_c l_ic <| all_c (l_callV hh_X6_add) <| all_c l_inc <| all_c (l_aft l_goto) <| all_c l_vret <| all_n
theorem hh_X4_drawActs : RspF_ (f_X4_drawActs KC) := rsp_fn hp_X4_drawActs
set_option maxRecDepth 100000 in
theorem hp_X5_follow : All_ (fun _ o => Loc_ o) (P_X5_follow KC) :=
  all_c l_ic <| all_c l_ist <| all_c l_ild <| all_c l_ald <| all_c l_gI <| all_c l_cmpge <| all_c l_ild <| all_c l_ic <| all_c l_cmpge <| all_c l_ald <| all_c l_ald <| all_c l_ald <| all_c l_gF <| all_c l_ild <| all_c l_iald <| all_c l_ald <| all_c l_gF <| all_c l_ild <| all_c l_iald <| all_c l_ald <| all_c l_gF <| all_c l_ild <| all_c l_iald <| all_c l_ald <| all_c l_gF <| all_c l_ild <|
  all_c l_iald <| all_c (l_callV hh_X5_wrongOf) <| all_c l_pI <| all_c l_ald <| all_c l_gI <| all_c l_ifeq <| all_c l_ald <| all_c l_ild <| all_c l_pI <| all_c l_vret <| all_c l_ald <| all_c l_ald <| all_c l_gF <| all_c l_ild <| all_c l_iald <| all_c l_ald <| all_c l_gF <| all_c l_ild <| all_c l_iald <| all_c l_ald <| all_c l_gF <| all_c l_ild <| all_c l_iald <| all_c l_ald <| all_c l_gF <|
  all_c l_ild <| all_c l_iald <| all_c (l_callV hh_X5_perform) <| all_c l_inc <| all_c l_goto <| all_c l_vret <| all_n
theorem hh_X5_follow : RspF_ (f_X5_follow KC) := rsp_fn hp_X5_follow
set_option maxRecDepth 100000 in
theorem hp_X5_sent : All_ (fun _ o => Loc_ o) (P_X5_sent KC) :=
  all_c l_ic <| all_c l_ist <| all_c l_ic <| all_c l_ist <| all_c l_ic <| all_c (l_aft l_ist) <| all_c l_ild <| all_c l_ald <| all_c l_gR <| all_c l_gI <| all_c l_cmpge <| all_c l_ald <| all_c l_ild <| all_c (l_callV hh_X5_inAll) <| all_c l_ist <| all_c l_ild <| all_c l_ild <| all_c l_cmple <| all_c l_ild <| all_c l_ist <| all_c l_ild <| all_c l_ist <| all_c l_inc <| all_c (l_aft l_goto) <|
  all_c l_ild <| all_c l_iret <| all_n
theorem hh_X5_sent : RspF_ (f_X5_sent KC) := rsp_fn hp_X5_sent
set_option maxRecDepth 100000 in
theorem hp_X5_unreadMusts : All_ (fun _ o => Loc_ o) (P_X5_unreadMusts KC) :=
  all_c l_ic <| all_c l_ist <| all_c l_ic <| all_c (l_aft l_ist) <| all_c l_ild <| all_c l_ald <| all_c l_gR <| all_c l_gI <| all_c l_cmpge <| all_c l_ic <| all_c l_ist <| all_c l_ild <| all_c l_ald <| all_c l_gR <| all_c l_gI <| all_c l_cmpge <| all_c l_ald <| all_c l_gR <| all_c l_gF <| all_c l_ild <| all_c l_iald <| all_c l_ic <| all_c l_cmpne <| all_c l_ald <| all_c l_gF <| all_c l_ild <|
  all_c l_iald <| all_c l_ild <| all_c l_ishr <| all_c l_ic <| all_c l_iand <| all_c l_ifne <| all_c l_inc <| all_c l_inc <| all_c l_goto <| all_c l_inc <| all_c (l_aft l_goto) <| all_c l_ild <| all_c l_iret <| all_n
theorem hh_X5_unreadMusts : RspF_ (f_X5_unreadMusts KC) := rsp_fn hp_X5_unreadMusts
set_option maxRecDepth 100000 in
theorem hp_X5_lacking : All_ (fun _ o => Loc_ o) (P_X5_lacking KC) :=
  all_c l_ic <| all_c l_ist <| all_c l_ic <| all_c (l_aft l_ist) <| all_c l_ild <| all_c l_ald <| all_c l_gR <| all_c l_gI <| all_c l_cmpge <| all_c l_ic <| all_c l_ist <| all_c l_ic <| all_c l_ist <| all_c l_ild <| all_c l_ald <| all_c l_gR <| all_c l_gI <| all_c l_cmpge <| all_c l_ild <| all_c l_ifne <| all_c l_ald <| all_c l_gF <| all_c l_ild <| all_c l_ic <| all_c l_imul <| all_c l_ild <|
  all_c l_iadd <| all_c l_iald <| all_c l_ic <| all_c l_cmplt <| all_c l_ic <| all_c l_goto <| all_c l_ic <| all_c l_ist <| all_c l_inc <| all_c l_goto <| all_c l_ild <| all_c l_ifne <| all_c l_ild <| all_c l_ic <| all_c l_ild <| all_c l_ishl <| all_c l_ior <| all_c l_ist <| all_c l_inc <| all_c (l_aft l_goto) <| all_c l_ild <| all_c l_iret <| all_n
theorem hh_X5_lacking : RspF_ (f_X5_lacking KC) := rsp_fn hp_X5_lacking
set_option maxRecDepth 100000 in
theorem hp_X5_offerExtra : All_ (fun _ o => Loc_ o) (P_X5_offerExtra KC) :=
  all_c l_ald <| all_c l_gR <| all_c l_gF <| all_c l_ild <| all_c l_iald <| all_c l_ald <| all_c l_gF <| all_c l_ild <| all_c l_ic <| all_c l_imul <| all_c l_ild <| all_c l_iadd <| all_c l_iald <| all_c (l_callS hh_X0_ofMillion) <| all_c l_ist <| all_c l_ald <| all_c l_gR <| all_c l_gF <| all_c l_ild <| all_c l_iald <| all_c l_ald <| all_c l_ild <| all_c l_ild <|
  all_c (l_callV hh_X5_partsIfRead) <| all_c (l_callS hh_X0_ofMillion) <| all_c l_ild <| all_c l_isub <| all_c l_ist <| all_c l_ild <| all_c l_ald <| all_c l_gI <| all_c l_cmple <| all_c l_ald <| all_c l_ild <| all_c l_pI <| all_c l_ald <| all_c l_ild <| all_c l_pI <| all_c l_ald <| all_c l_ild <| all_c l_pI <| all_c l_vret <| all_n
theorem hh_X5_offerExtra : RspF_ (f_X5_offerExtra KC) := rsp_fn hp_X5_offerExtra
set_option maxRecDepth 100000 in
theorem hp_X5_findExtra : All_ (fun _ o => Loc_ o) (P_X5_findExtra KC) :=
  all_c l_ald <| all_c l_ic <| all_c l_pI <| all_c l_ald <| all_c l_ic <| all_c l_pI <| all_c l_ald <| all_c l_ic <| all_c l_pI <| all_c l_ic <| all_c (l_aft l_ist) <| all_c l_ild <| all_c l_ald <| all_c l_gR <| all_c l_gI <| all_c l_cmpge <| all_c l_ic <| all_c l_ist <| all_c l_ild <| all_c l_ald <| all_c l_gR <| all_c l_gI <| all_c l_cmpge <| all_c l_ald <| all_c l_gF <| all_c l_ild <|
  all_c l_iald <| all_c l_ild <| all_c l_ishr <| all_c l_ic <| all_c l_iand <| all_c l_ifne <| all_c l_ald <| all_c l_gF <| all_c l_ild <| all_c l_iald <| all_c l_ald <| all_c l_gR <| all_c l_ild <| all_c l_ild <| all_c (l_callV hh_X0_readTime) <| all_c l_cmplt <| all_c l_ald <| all_c l_ild <| all_c l_ild <| all_c (l_callV hh_X5_offerExtra) <| all_c l_inc <| all_c l_goto <| all_c l_inc <|
  all_c (l_aft l_goto) <| all_c l_vret <| all_n
theorem hh_X5_findExtra : RspF_ (f_X5_findExtra KC) := rsp_fn hp_X5_findExtra
set_option maxRecDepth 100000 in
theorem hp_X6_copyFrom : All_ (fun _ o => Loc_ o) (P_X6_copyFrom KC) :=
  all_c l_ald <| all_c l_gF <| all_c l_ald <| all_c l_gF <| all_c l_ald <| all_c l_gI <| all_c (l_callS hh_X0_copyRow) <| all_c l_ald <| all_c l_gF <| all_c l_ald <| all_c l_gF <| all_c l_ald <| all_c l_gI <| all_c (l_callS hh_X0_copyRow) <| all_c l_ald <| all_c l_gF <| all_c l_ald <| all_c l_gF <| all_c l_ald <| all_c l_gI <| all_c (l_callS hh_X0_copyRow) <| all_c l_ald <| all_c l_gF <|
  all_c l_ald <| all_c l_gF <| all_c l_ald <| all_c l_gI <| all_c (l_callS hh_X0_copyRow) <| all_c l_ald <| all_c l_ald <| all_c l_gI <| all_c l_pI <| all_c l_vret <| all_n
theorem hh_X6_copyFrom : RspF_ (f_X6_copyFrom KC) := rsp_fn hp_X6_copyFrom
set_option maxRecDepth 100000 in
theorem hp_X6_readReading : All_ (fun _ o => Loc_ o) (P_X6_readReading KC) :=
  all_c l_ald <| all_c l_ic <| all_c (l_callV hh_X8_take) <| all_c l_ifeq <| all_c l_ald <| all_c l_ald <| all_c (l_callV hh_X8_takeChap) <| all_c l_ifne <| all_c l_ic <| all_c l_zret <| all_c l_ald <| all_c l_ild <| all_c l_ald <| all_c l_gI <| all_c l_ic <| all_c l_ic <| all_c (l_callV hh_X6_add) <| all_c l_ic <| all_c l_zret <| all_n
theorem hh_X6_readReading : RspF_ (f_X6_readReading KC) := rsp_fn hp_X6_readReading
set_option maxRecDepth 100000 in
theorem hp_X6_readListeners : All_ (fun _ o => Loc_ o) (P_X6_readListeners KC) :=
  all_c l_ald <| all_c l_gI <| all_c l_ic <| all_c l_cmpne <| all_c l_ald <| all_c l_gI <| all_c l_ic <| all_c l_cmple <| all_c l_ald <| all_c (l_callV hh_X8_next) <| all_c l_ald <| all_c l_ic <| all_c l_ald <| all_c l_gI <| all_c l_ishl <| all_c l_ic <| all_c l_isub <| all_c l_ic <| all_c l_ild <| all_c l_ishl <| all_c l_ic <| all_c l_ixor <| all_c l_iand <| all_c l_pI <| all_c l_ic <|
  all_c l_zret <| all_c l_ald <| all_c l_gI <| all_c l_ic <| all_c l_cmpeq <| all_c l_ald <| all_c l_ic <| all_c (l_callV hh_X8_fail) <| all_c l_zret <| all_c l_ic <| all_c l_ist <| all_c l_ic <| all_c (l_aft l_ist) <| all_c l_ild <| all_c l_ic <| all_c l_cmpge <| all_c l_ald <| all_c l_gI <| all_c l_ic <| all_c l_cmpne <| all_c l_ald <| all_c l_ald <| all_c l_gI <|
  all_c (l_callV hh_X0_readerNamed) <| all_c l_ist <| all_c l_ild <| all_c l_ic <| all_c l_cmpeq <| all_c l_ild <| all_c l_ild <| all_c l_cmpeq <| all_c l_ild <| all_c l_ild <| all_c l_ishr <| all_c l_ic <| all_c l_iand <| all_c l_ifeq <| all_c l_ald <| all_c l_ic <| all_c (l_callV hh_X8_fail) <| all_c l_zret <| all_c l_ild <| all_c l_ic <| all_c l_ild <| all_c l_ishl <| all_c l_ior <|
  all_c l_ist <| all_c l_ald <| all_c (l_callV hh_X8_next) <| all_c l_inc <| all_c (l_aft l_goto) <| all_c l_ald <| all_c l_ild <| all_c l_pI <| all_c l_ic <| all_c l_zret <| all_n
theorem hh_X6_readListeners : RspF_ (f_X6_readListeners KC) := rsp_fn hp_X6_readListeners
set_option maxRecDepth 100000 in
theorem hp_X6_readTelling : All_ (fun _ o => Loc_ o) (P_X6_readTelling KC) :=
  all_c l_ald <| all_c l_ic <| all_c (l_callV hh_X8_take) <| all_c l_ifeq <| all_c l_ald <| all_c l_ald <| all_c (l_callV hh_X8_takeChap) <| all_c l_ifne <| all_c l_ic <| all_c l_zret <| all_c l_ald <| all_c l_gI <| all_c l_ist <| all_c l_ald <| all_c l_ic <| all_c l_ic <| all_c (l_callV hh_X8_takeNumber) <| all_c l_ifne <| all_c l_ic <| all_c l_zret <| all_c l_ald <| all_c l_gI <| all_c l_ist <|
  all_c l_ald <| all_c l_ic <| all_c (l_callV hh_X8_take) <| all_c l_ifeq <| all_c l_ald <| all_c l_ald <| all_c l_ild <| all_c (l_callS hh_X6_readListeners) <| all_c l_ifne <| all_c l_ic <| all_c l_zret <| all_c l_ald <| all_c l_ild <| all_c l_ild <| all_c l_ild <| all_c l_ald <| all_c l_gI <| all_c (l_callV hh_X6_add) <| all_c l_ic <| all_c l_zret <| all_n
theorem hh_X6_readTelling : RspF_ (f_X6_readTelling KC) := rsp_fn hp_X6_readTelling
set_option maxRecDepth 100000 in
theorem hp_X6_readAct : All_ (fun _ o => Loc_ o) (P_X6_readAct KC) :=
  all_c l_ald <| all_c l_gI <| all_c l_ic <| all_c l_cmpeq <| all_c l_ald <| all_c l_ic <| all_c (l_callV hh_X8_fail) <| all_c l_zret <| all_c l_ald <| all_c l_ald <| all_c l_gI <| all_c (l_callV hh_X0_readerNamed) <| all_c l_ist <| all_c l_ild <| all_c l_ic <| all_c l_cmpne <| all_c l_ald <| all_c l_ic <| all_c (l_callV hh_X8_fail) <| all_c l_zret <| all_c l_ald <| all_c l_gI <| all_c l_ic <|
  all_c l_cmplt <| all_c l_ald <| all_c l_ic <| all_c (l_callV hh_X8_fail) <| all_c l_zret <| all_c l_ald <| all_c (l_callV hh_X8_next) <| all_c l_ald <| all_c l_gI <| all_c l_ic <| all_c l_cmpne <| all_c l_ald <| all_c l_ald <| all_c l_ald <| all_c l_ild <| all_c (l_callV hh_X6_readReading) <| all_c l_zret <| all_c l_ald <| all_c l_ald <| all_c l_ald <| all_c l_ild <|
  all_c (l_callV hh_X6_readTelling) <| all_c l_zret <| all_n
theorem hh_X6_readAct : RspF_ (f_X6_readAct KC) := rsp_fn hp_X6_readAct
set_option maxRecDepth 100000 in
theorem hp_X6_readFrom : All_ (fun _ o => Loc_ o) (P_X6_readFrom KC) :=
  all_c l_ald <| all_c (l_callV hh_X6_clear) <| all_c l_ic <| all_c l_ist <| all_c l_ild <| all_c l_ic <| all_c l_cmpgt <| all_c l_ald <| all_c l_gI <| all_c l_ifeq <| all_c l_ald <| all_c l_ald <| all_c l_ald <| all_c (l_callV hh_X6_readAct) <| all_c l_ifeq <| all_c l_ald <| all_c l_ic <| all_c (l_callV hh_X8_take) <| all_c l_ifne <| all_c l_ic <| all_c l_zret <| all_c l_inc <| all_c l_goto <|
  all_c l_ic <| all_c l_zret <| all_n
theorem hh_X6_readFrom : RspF_ (f_X6_readFrom KC) := rsp_fn hp_X6_readFrom
set_option maxRecDepth 100000 in
theorem hp_X7_tryFrom {r_X7_tryFrom : Fn_} (h_X7_tryFrom : RspF_ r_X7_tryFrom) : All_ (fun _ o => Loc_ o) (P_X7_tryFrom KC r_X7_tryFrom) :=
  all_c l_ild <| all_c l_ald <| all_c l_gI <| all_c l_cmplt <| all_c l_ild <| all_c l_ald <| all_c l_gI <| all_c l_cmple <| all_c l_ald <| all_c l_ild <| all_c l_pI <| all_c l_ald <| all_c l_gF <| all_c l_ald <| all_c l_gF <| all_c l_ald <| all_c l_gI <| all_c (l_callS hh_X0_copyRow) <| all_c l_vret <| all_c l_ic <| all_c (l_aft l_ist) <| all_c l_ild <| all_c l_ald <| all_c l_gI <|
  all_c l_cmpge <| all_c l_ild <| all_c l_ild <| all_c l_ishr <| all_c l_ic <| all_c l_iand <| all_c l_ifne <| all_c l_ald <| all_c l_gR <| all_c l_ild <| all_c l_ald <| all_c l_gF <| all_c l_ild <| all_c l_ic <| all_c l_isub <| all_c l_iald <| all_c l_ic <| all_c l_ald <| all_c l_gF <| all_c l_ild <| all_c l_iald <| all_c (l_callV hh_X0_partsTold) <| all_c l_ist <| all_c l_ild <| all_c l_ic <|
  all_c l_cmple <| all_c l_ald <| all_c l_gR <| all_c l_ild <| all_c (l_callV hh_X0_retold) <| all_c l_ist <| all_c l_ald <| all_c l_gF <| all_c l_ild <| all_c l_ald <| all_c l_gF <| all_c l_ild <| all_c l_iald <| all_c l_iast <| all_c l_ald <| all_c l_ild <| all_c l_ic <| all_c l_iadd <| all_c l_ild <| all_c l_ic <| all_c l_ild <| all_c l_ishl <| all_c l_ior <| all_c l_ild <| all_c l_ild <|
  all_c l_ild <| all_c l_iadd <| all_c (l_callV h_X7_tryFrom) <| all_c l_inc <| all_c (l_aft l_goto) <| all_c l_vret <| all_n
theorem hF_X7_tryFrom : ∀ d, RspF_ (F_X7_tryFrom KC d)
  | 0 => rsp_0
  | d + 1 => rsp_fn (hp_X7_tryFrom (hF_X7_tryFrom d))
theorem hh_X7_tryFrom (d : Nat) : RspF_ (f_X7_tryFrom KC d) := (hF_X7_tryFrom d)
set_option maxRecDepth 100000 in
theorem hp_X7_search : All_ (fun _ o => Loc_ o) (P_X7_search KC) :=
  all_c l_ald <| all_c l_ald <| all_c l_pR <| all_c l_ald <| all_c l_ild <| all_c l_pI <| all_c l_ald <| all_c l_ild <| all_c l_pI <| all_c l_ald <| all_c l_ic <| all_c l_pI <| all_c l_ic <| all_c l_ist <| all_c l_ild <| all_c l_ald <| all_c l_gI <| all_c l_cmpge <| all_c l_ald <| all_c l_gF <| all_c l_ild <| all_c l_ald <| all_c l_ild <| all_c (l_callV hh_X8_byteAt) <| all_c l_iast <|
  all_c l_inc <| all_c l_goto <| all_c l_ald <| all_c l_gF <| all_c l_ic <| all_c l_ald <| all_c l_gF <| all_c l_ic <| all_c l_iald <| all_c l_iast <| all_c l_ald <| all_c l_ic <| all_c l_ic <| all_c l_ic <| all_c l_ic <| all_c (l_callV (hh_X7_tryFrom 80)) <| all_c l_ald <| all_c l_gI <| all_c l_iret <| all_n
theorem hh_X7_search : RspF_ (f_X7_search KC) := rsp_fn hp_X7_search
set_option maxRecDepth 100000 in
theorem hp_X8_hasRoom : All_ (fun _ o => Loc_ o) (P_X8_hasRoom KC) :=
  all_c l_ald <| all_c l_gI <| all_c l_ild <| all_c l_iadd <| all_c l_ic <| all_c l_cmpgt <| all_c l_ic <| all_c l_goto <| all_c l_ic <| all_c l_zret <| all_n
theorem hh_X8_hasRoom : RspF_ (f_X8_hasRoom KC) := rsp_fn hp_X8_hasRoom
set_option maxRecDepth 100000 in
theorem hp_X8_append : All_ (fun _ o => Loc_ o) (P_X8_append KC) :=
  all_c l_ic <| all_c l_ist <| all_c l_ild <| all_c l_iflt <| all_c l_ald <| all_c l_gI <| all_c l_ic <| all_c l_cmpge <| all_c l_ald <| all_c l_gF <| all_c l_ald <| all_c l_gI <| all_c l_ild <| all_c l_ild <| all_c l_iushr <| all_c l_i2b <| all_c l_bast <| all_c l_ald <| all_c l_dup <| all_c l_gI <| all_c l_ic <| all_c l_iadd <| all_c l_pI <| all_c l_inc <| all_c l_goto <| all_c l_vret <| all_n
theorem hh_X8_append : RspF_ (f_X8_append KC) := rsp_fn hp_X8_append
set_option maxRecDepth 100000 in
theorem hp_X8_areUnlike : All_ (fun _ o => Loc_ o) (P_X8_areUnlike KC) :=
  all_c l_ild <| all_c l_ic <| all_c l_cmplt <| all_c l_ild <| all_c l_ild <| all_c l_cmple <| all_c l_ic <| all_c l_zret <| all_c l_ic <| all_c l_ist <| all_c l_ic <| all_c (l_aft l_ist) <| all_c l_ild <| all_c l_ild <| all_c l_cmpge <| all_c l_ald <| all_c l_ild <| all_c (l_callV hh_X8_byteAt) <| all_c l_ist <| all_c l_ild <| all_c l_ild <| all_c l_cmpge <| all_c l_ild <| all_c l_ild <|
  all_c l_ishr <| all_c l_ic <| all_c l_iand <| all_c l_ifeq <| all_c l_ic <| all_c l_zret <| all_c l_ild <| all_c l_ic <| all_c l_ild <| all_c l_ishl <| all_c l_ior <| all_c l_ist <| all_c l_inc <| all_c (l_aft l_goto) <| all_c l_ic <| all_c l_zret <| all_n
theorem hh_X8_areUnlike : RspF_ (f_X8_areUnlike KC) := rsp_fn hp_X8_areUnlike
set_option maxRecDepth 100000 in
theorem hp_X8_start : All_ (fun _ o => Loc_ o) (P_X8_start KC) :=
  all_c l_ald <| all_c l_ild <| all_c l_pI <| all_c l_ald <| all_c l_ic <| all_c l_pI <| all_c l_ald <| all_c l_ic <| all_c l_pI <| all_c l_ald <| all_c l_ic <| all_c l_pI <| all_c l_ald <| all_c (l_callV hh_X8_next) <| all_c l_vret <| all_n
theorem hh_X8_start : RspF_ (f_X8_start KC) := rsp_fn hp_X8_start
set_option maxRecDepth 100000 in
theorem hp_X8_isComparison : All_ (fun _ o => Loc_ o) (P_X8_isComparison KC) :=
  all_c l_ild <| all_c l_ic <| all_c l_cmpeq <| all_c l_ild <| all_c l_ic <| all_c l_cmpeq <| all_c l_ild <| all_c l_ic <| all_c l_cmpne <| all_c l_ic <| all_c l_goto <| all_c l_ic <| all_c l_zret <| all_n
theorem hh_X8_isComparison : RspF_ (f_X8_isComparison KC) := rsp_fn hp_X8_isComparison
set_option maxRecDepth 100000 in
theorem hp_X8_faultAnswer : All_ (fun _ o => Loc_ o) (P_X8_faultAnswer KC) :=
  all_c l_ic <| all_c l_ald <| all_c l_gI <| all_c l_isub <| all_c l_iret <| all_n
theorem hh_X8_faultAnswer : RspF_ (f_X8_faultAnswer KC) := rsp_fn hp_X8_faultAnswer
set_option maxRecDepth 100000 in
theorem hp_X9_clear : All_ (fun _ o => Loc_ o) (P_X9_clear KC) :=
  all_c l_ald <| all_c l_ic <| all_c l_pI <| all_c l_ald <| all_c l_ic <| all_c l_pI <| all_c l_vret <| all_n
theorem hh_X9_clear : RspF_ (f_X9_clear KC) := rsp_fn hp_X9_clear
set_option maxRecDepth 100000 in
theorem hp_X9_copyFrom : All_ (fun _ o => Loc_ o) (P_X9_copyFrom KC) :=
  all_c l_ald <| all_c l_gF <| all_c l_ald <| all_c l_gF <| all_c l_ald <| all_c l_gI <| all_c (l_callS hh_X0_copyRow) <| all_c l_ald <| all_c l_gF <| all_c l_ald <| all_c l_gF <| all_c l_ald <| all_c l_gI <| all_c (l_callS hh_X0_copyRow) <| all_c l_ald <| all_c l_gF <| all_c l_ald <| all_c l_gF <| all_c l_ald <| all_c l_gI <| all_c (l_callS hh_X0_copyRow) <| all_c l_ald <| all_c l_gF <|
  all_c l_ald <| all_c l_gF <| all_c l_ald <| all_c l_gI <| all_c (l_callS hh_X0_copyRow) <| all_c l_ald <| all_c l_ald <| all_c l_gI <| all_c l_pI <| all_c l_ald <| all_c l_ald <| all_c l_gI <| all_c l_pI <| all_c l_vret <| all_n
theorem hh_X9_copyFrom : RspF_ (f_X9_copyFrom KC) := rsp_fn hp_X9_copyFrom
set_option maxRecDepth 100000 in
theorem hp_X9_add : All_ (fun _ o => Loc_ o) (P_X9_add KC) :=
  all_c l_ald <| all_c l_gI <| all_c l_ic <| all_c l_cmpge <| all_c l_ald <| all_c l_gF <| all_c l_ald <| all_c l_gI <| all_c l_ild <| all_c l_iast <| all_c l_ald <| all_c l_gF <| all_c l_ald <| all_c l_gI <| all_c l_ild <| all_c l_iast <| all_c l_ald <| all_c l_gF <| all_c l_ald <| all_c l_gI <| all_c l_ild <| all_c l_iast <| all_c l_ald <| all_c l_gF <| all_c l_ald <| all_c l_gI <|
  all_c l_ild <| all_c l_iast <| all_c l_ald <| all_c l_dup <| all_c l_gI <| all_c l_ic <| all_c l_iadd <| all_c l_pI <| all_c l_vret <| all_n
theorem hh_X9_add : RspF_ (f_X9_add KC) := rsp_fn hp_X9_add
set_option maxRecDepth 100000 in
theorem hp_X9_readAsking : All_ (fun _ o => Loc_ o) (P_X9_readAsking KC) :=
  all_c l_ic <| all_c l_ist <| all_c l_ild <| all_c l_ic <| all_c (l_aft l_cmpgt) <| all_c l_ald <| all_c l_ald <| all_c (l_callV hh_X8_takeChap) <| all_c l_ifne <| all_c l_ic <| all_c l_zret <| all_c l_ald <| all_c l_gI <| all_c (l_aft l_ist) <| all_c l_ild <| all_c l_ic <| all_c l_cmpge <| all_c l_ald <| all_c l_ild <| all_c l_ild <| all_c l_ic <| all_c l_ic <| all_c (l_callV hh_X9_add) <|
  all_c l_ic <| all_c l_zret <| all_c l_ald <| all_c l_gI <| all_c l_ist <| all_c l_ild <| all_c (l_callS hh_X8_isComparison) <| all_c l_ifne <| all_c l_ald <| all_c l_ic <| all_c (l_callV hh_X8_fail) <| all_c l_zret <| all_c l_ald <| all_c (l_callV hh_X8_next) <| all_c l_ald <| all_c l_ic <| all_c l_ic <| all_c (l_callV hh_X8_takeNumber) <| all_c l_ifne <| all_c l_ic <| all_c l_zret <|
  all_c l_ald <| all_c l_ild <| all_c l_ild <| all_c l_ild <| all_c l_ald <| all_c l_gI <| all_c (l_callV hh_X9_add) <| all_c l_ic <| all_c l_zret <| all_n
theorem hh_X9_readAsking : RspF_ (f_X9_readAsking KC) := rsp_fn hp_X9_readAsking
set_option maxRecDepth 100000 in
theorem hp_X9_readCond {r_X9_readCond : Fn_} (h_X9_readCond : RspF_ r_X9_readCond) {r_X9_readOne : Fn_} (h_X9_readOne : RspF_ r_X9_readOne) : All_ (fun _ o => Loc_ o) (P_X9_readCond KC r_X9_readCond r_X9_readOne) :=
  all_c l_ic <| all_c l_ist <| all_c l_ic <| all_c l_ist <| all_c l_ic <| all_c l_ist <| all_c l_ild <| all_c l_ic <| all_c l_cmpgt <| all_c l_ald <| all_c l_ald <| all_c l_ald <| all_c l_ild <| all_c (l_callV h_X9_readOne) <| all_c l_ifne <| all_c l_ic <| all_c l_zret <| all_c l_ild <| all_c (l_aft l_ifeq) <| all_c l_ald <| all_c l_ic <| all_c l_ic <| all_c l_ic <| all_c l_ic <|
  all_c (l_aft (l_callV hh_X9_add)) <| all_c l_ald <| all_c l_gI <| all_c l_ic <| all_c l_cmpne <| all_c l_ic <| all_c l_goto <| all_c l_ic <| all_c l_ist <| all_c l_ild <| all_c l_ifne <| all_c l_ild <| all_c l_ifeq <| all_c l_ald <| all_c l_ic <| all_c l_ic <| all_c l_ic <| all_c l_ic <| all_c (l_callV hh_X9_add) <| all_c l_ild <| all_c l_ifne <| all_c l_ald <| all_c l_gI <| all_c l_ic <|
  all_c l_cmpeq <| all_c l_ic <| all_c l_zret <| all_c l_ild <| all_c l_ifne <| all_c l_ild <| all_c l_ifne <| all_c l_ic <| all_c l_goto <| all_c l_ic <| all_c l_ist <| all_c l_ald <| all_c (l_callV hh_X8_next) <| all_c l_inc <| all_c l_goto <| all_c l_ic <| all_c l_zret <| all_n
set_option maxRecDepth 100000 in
theorem hp_X9_readOne {r_X9_readCond : Fn_} (h_X9_readCond : RspF_ r_X9_readCond) {r_X9_readOne : Fn_} (h_X9_readOne : RspF_ r_X9_readOne) : All_ (fun _ o => Loc_ o) (P_X9_readOne KC r_X9_readCond r_X9_readOne) :=
  all_c l_ald <| all_c l_gI <| all_c l_ist <| all_c l_ild <| all_c l_ic <| all_c l_cmpeq <| all_c l_ild <| all_c l_ic <| all_c l_cmplt <| all_c l_ild <| all_c l_ic <| all_c l_cmple <| all_c l_ald <| all_c l_ic <| all_c (l_callV hh_X8_fail) <| all_c l_zret <| all_c l_ald <| all_c l_gI <| all_c l_ic <| all_c l_cmpge <| all_c l_ild <| all_c l_ic <| all_c l_cmple <| all_c l_ald <| all_c l_ic <|
  all_c (l_callV hh_X8_fail) <| all_c l_zret <| all_c l_ald <| all_c l_dup <| all_c l_gI <| all_c l_ic <| all_c l_iadd <| all_c l_pI <| all_c l_ald <| all_c (l_callV hh_X8_next) <| all_c l_ild <| all_c l_ic <| all_c l_cmpne <| all_c l_ald <| all_c l_ald <| all_c l_ald <| all_c l_ild <| all_c l_ic <| all_c l_iadd <| all_c (l_callV h_X9_readCond) <| all_c l_ifeq <| all_c l_ald <| all_c l_ic <|
  all_c (l_callV hh_X8_take) <| all_c l_ifeq <| all_c l_ic <| all_c l_goto <| all_c l_ic <| all_c l_zret <| all_c l_ild <| all_c l_ic <| all_c l_cmpne <| all_c l_ald <| all_c l_ald <| all_c l_ald <| all_c l_ild <| all_c l_ic <| all_c l_iadd <| all_c (l_callV h_X9_readOne) <| all_c l_ifne <| all_c l_ic <| all_c l_zret <| all_c l_ald <| all_c l_ic <| all_c l_ic <| all_c l_ic <| all_c l_ic <|
  all_c (l_callV hh_X9_add) <| all_c l_ic <| all_c l_zret <| all_c l_ald <| all_c l_ald <| all_c l_ald <| all_c l_ild <| all_c (l_callV hh_X9_readAsking) <| all_c l_zret <| all_n
theorem hF_X9_readCond : ∀ d, RspF_ (F_X9_readCond KC d).1 ∧ RspF_ (F_X9_readCond KC d).2
  | 0 => ⟨rsp_0, rsp_0⟩
  | d + 1 => ⟨rsp_fn (hp_X9_readCond (hF_X9_readCond d).1 (hF_X9_readCond d).2), rsp_fn (hp_X9_readOne (hF_X9_readCond d).1 (hF_X9_readCond d).2)⟩
theorem hh_X9_readCond (d : Nat) : RspF_ (f_X9_readCond KC d) := (hF_X9_readCond d).1
theorem hh_X9_readOne (d : Nat) : RspF_ (f_X9_readOne KC d) := (hF_X9_readCond d).2
