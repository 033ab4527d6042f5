set_option maxRecDepth 100000 in
theorem hp_J6_bitCount_0f7a4 : All_ (fun _ o => Loc_ o) (P_J6_bitCount_0f7a4 KC) :=
  all_c l_ild <| all_c l_ild <| all_c l_ic <| all_c l_iushr <| all_c l_ic <| all_c l_iand <| all_c l_isub <| all_c l_ist <| all_c l_ild <| all_c l_ic <| all_c l_iand <| all_c l_ild <| all_c l_ic <| all_c l_iushr <| all_c l_ic <| all_c l_iand <| all_c l_iadd <| all_c l_ist <| all_c l_ild <| all_c l_ild <| all_c l_ic <| all_c l_iushr <| all_c l_iadd <| all_c l_ic <| all_c l_iand <| all_c l_ist <|
  all_c l_ild <| all_c l_ild <| all_c l_ic <| all_c l_iushr <| all_c l_iadd <| all_c l_ist <| all_c l_ild <| all_c l_ild <| all_c l_ic <| all_c l_iushr <| all_c l_iadd <| all_c l_ist <| all_c l_ild <| all_c l_ic <| all_c l_iand <| all_c l_iret <| all_n
theorem hh_J6_bitCount_0f7a4 : RspF_ (f_J6_bitCount_0f7a4 KC) := rsp_fn hp_J6_bitCount_0f7a4
set_option maxRecDepth 100000 in
theorem hp_X8_byteAt : All_ (fun _ o => Loc_ o) (P_X8_byteAt KC) :=
  all_c l_ild <| all_c l_iflt <| all_c l_ild <| all_c l_ic <| all_c l_cmplt <| all_c l_ic <| all_c l_goto <| all_c l_ald <| all_c l_gF <| all_c l_ild <| all_c l_bald <| all_c l_ic <| all_c l_iand <| all_c l_iret <| all_n
theorem hh_X8_byteAt : RspF_ (f_X8_byteAt KC) := rsp_fn hp_X8_byteAt
set_option maxRecDepth 100000 in
theorem hp_X1_readQuestions : All_ (fun _ o => Loc_ o) (P_X1_readQuestions KC) :=
  all_c l_ild <| all_c l_ic <| all_c l_cmplt <| all_c l_ild <| all_c l_ic <| all_c l_cmple <| all_c l_ic <| all_c l_zret <| all_c l_ic <| all_c (l_aft l_ist) <| all_c l_ild <| all_c l_ild <| all_c l_cmpge <| all_c l_ald <| all_c l_ic <| all_c l_ild <| all_c l_imul <| all_c (l_callV hh_X8_byteAt) <| all_c l_ic <| all_c l_ishl <| all_c l_ald <| all_c l_ic <| all_c l_ild <| all_c l_imul <|
  all_c l_ic <| all_c l_iadd <| all_c (l_callV hh_X8_byteAt) <| all_c l_ior <| all_c l_ist <| all_c l_ild <| all_c l_ild <| all_c l_ishr <| all_c l_ifeq <| all_c l_ic <| all_c l_zret <| all_c l_ald <| all_c l_gF <| all_c l_ic <| all_c l_ild <| all_c l_ishl <| all_c l_ild <| all_c l_iast <| all_c l_inc <| all_c (l_aft l_goto) <| all_c l_ic <| all_c l_zret <| all_n
theorem hh_X1_readQuestions : RspF_ (f_X1_readQuestions KC) := rsp_fn hp_X1_readQuestions
set_option maxRecDepth 100000 in
theorem hp_X1_askFewest : All_ (fun _ o => Loc_ o) (P_X1_askFewest KC) :=
  all_c l_ald <| all_c l_ald <| all_c l_ild <| all_c l_ild <| all_c (l_callV hh_X1_readQuestions) <| all_c l_ifne <| all_c l_ic <| all_c l_iret <| all_c l_ic <| all_c l_ist <| all_c l_ic <| all_c l_ist <| all_c l_ald <| all_c l_gF <| all_c l_ic <| all_c l_ic <| all_c l_iast <| all_c l_ic <| all_c l_ist <| all_c l_ild <| all_c l_ic <| all_c l_ild <| all_c l_ishl <| all_c l_cmpge <| all_c l_ild <|
  all_c l_ifeq <| all_c l_ald <| all_c l_gF <| all_c l_ild <| all_c l_ald <| all_c l_gF <| all_c l_ild <| all_c l_ild <| all_c l_ic <| all_c l_isub <| all_c l_iand <| all_c l_iald <| all_c l_ald <| all_c l_gF <| all_c l_ild <| all_c l_ild <| all_c l_ineg <| all_c l_iand <| all_c l_iald <| all_c l_ior <| all_c l_iast <| all_c l_ild <| all_c l_ald <| all_c l_gF <| all_c l_ild <| all_c l_iald <|
  all_c l_ic <| all_c l_ixor <| all_c l_iand <| all_c l_ifne <| all_c l_ild <| all_c (l_callS hh_J6_bitCount_0f7a4) <| all_c l_ild <| all_c l_cmpge <| all_c l_ild <| all_c (l_callS hh_J6_bitCount_0f7a4) <| all_c l_ist <| all_c l_ild <| all_c l_ist <| all_c l_inc <| all_c l_goto <| all_c l_ild <| all_c l_ic <| all_c l_cmpne <| all_c l_ic <| all_c l_iret <| all_c l_ald <| all_c l_ild <|
  all_c l_pI <| all_c l_ild <| all_c l_iret <| all_n
theorem hh_X1_askFewest : RspF_ (f_X1_askFewest KC) := rsp_fn hp_X1_askFewest
set_option maxRecDepth 100000 in
theorem hp_X2_chooseEnds : All_ (fun _ o => Loc_ o) (P_X2_chooseEnds KC) :=
  all_c l_ic <| all_c (l_aft l_ist) <| all_c l_ild <| all_c l_ild <| all_c l_cmpgt <| all_c l_ald <| all_c l_gF <| all_c l_ild <| all_c l_aald <| all_c l_ild <| all_c l_ic <| all_c l_iast <| all_c l_inc <| all_c (l_aft l_goto) <| all_c l_ic <| all_c l_ist <| all_c l_ic <| all_c l_ist <| all_c l_ild <| all_c (l_aft l_ist) <| all_c l_ild <| all_c l_ald <| all_c l_gI <| all_c l_cmpge <|
  all_c l_ild <| all_c l_ald <| all_c l_gF <| all_c l_ild <| all_c l_iald <| all_c l_iadd <| all_c l_ist <| all_c l_ild <| all_c l_ild <| all_c l_cmple <| all_c l_vret <| all_c l_ic <| all_c (l_aft l_ist) <| all_c l_ild <| all_c l_ild <| all_c l_cmpge <| all_c l_ild <| all_c l_ald <| all_c l_gF <| all_c l_ild <| all_c l_aald <| all_c l_ild <| all_c l_iald <| all_c l_iadd <| all_c l_ist <|
  all_c l_inc <| all_c (l_aft l_goto) <| all_c l_ic <| all_c (l_aft l_ist) <| all_c l_ild <| all_c l_ild <| all_c l_cmpgt <| all_c l_ild <| all_c l_ald <| all_c l_gF <| all_c l_ild <| all_c l_ic <| all_c l_isub <| all_c l_aald <| all_c l_ild <| all_c l_ic <| all_c l_iadd <| all_c l_iald <| all_c l_iadd <| all_c l_ist <| all_c l_ild <| all_c l_ald <| all_c l_gF <| all_c l_ild <| all_c l_aald <|
  all_c l_ild <| all_c l_iald <| all_c l_cmpge <| all_c l_ald <| all_c l_gF <| all_c l_ild <| all_c l_aald <| all_c l_ild <| all_c l_ild <| all_c l_iast <| all_c l_ald <| all_c l_gF <| all_c l_ild <| all_c l_aald <| all_c l_ild <| all_c l_ild <| all_c l_iast <| all_c l_inc <| all_c (l_aft l_goto) <| all_c l_inc <| all_c (l_aft l_goto) <| all_c l_vret <| all_n
theorem hh_X2_chooseEnds : RspF_ (f_X2_chooseEnds KC) := rsp_fn hp_X2_chooseEnds
set_option maxRecDepth 100000 in
theorem hp_X2_stretch : All_ (fun _ o => Loc_ o) (P_X2_stretch KC) :=
  all_c l_ic <| all_c (l_aft l_ist) <| all_c l_ild <| all_c l_ild <| all_c l_cmpgt <| all_c l_ald <| all_c l_gF <| all_c l_ild <| all_c l_aald <| all_c l_ald <| all_c l_gI <| all_c l_ild <| all_c l_ifne <| all_c l_ic <| all_c l_goto <| all_c l_ic <| all_c l_iast <| all_c l_inc <| all_c (l_aft l_goto) <| all_c l_ald <| all_c l_gI <| all_c l_ic <| all_c l_isub <| all_c (l_aft l_ist) <|
  all_c l_ild <| all_c l_iflt <| all_c l_ald <| all_c l_ald <| all_c l_ild <| all_c l_ild <| all_c l_ild <| all_c (l_callV hh_X2_chooseEnds) <| all_c l_inc <| all_c (l_aft l_goto) <| all_c l_ald <| all_c l_gF <| all_c l_ild <| all_c l_aald <| all_c l_ic <| all_c l_iald <| all_c l_ic <| all_c l_cmplt <| all_c l_ic <| all_c l_iret <| all_c l_ald <| all_c l_ild <| all_c l_pI <| all_c l_ic <|
  all_c l_ist <| all_c l_ild <| all_c (l_aft l_ist) <| all_c l_ild <| all_c l_ic <| all_c l_cmplt <| all_c l_ald <| all_c l_gF <| all_c l_ild <| all_c l_aald <| all_c l_ild <| all_c l_iald <| all_c l_ist <| all_c l_ald <| all_c l_gF <| all_c l_ild <| all_c l_ild <| all_c l_isub <| all_c l_ild <| all_c l_iast <| all_c l_ild <| all_c l_ic <| all_c l_iadd <| all_c l_ist <| all_c l_inc <|
  all_c (l_aft l_goto) <| all_c l_ald <| all_c l_gF <| all_c l_ild <| all_c l_aald <| all_c l_ic <| all_c l_iald <| all_c l_iret <| all_n
theorem hh_X2_stretch : RspF_ (f_X2_stretch KC) := rsp_fn hp_X2_stretch
set_option maxRecDepth 100000 in
theorem hp_X2_overSides : All_ (fun _ o => Loc_ o) (P_X2_overSides KC) :=
  all_c l_ic <| all_c l_ist <| all_c l_ic <| all_c (l_aft l_ist) <| all_c l_ild <| all_c l_ild <| all_c l_cmpge <| all_c l_ald <| all_c l_gF <| all_c l_ald <| all_c l_ild <| all_c (l_callV hh_X8_byteAt) <| all_c l_aald <| all_c l_ast <| all_c l_ic <| all_c l_ist <| all_c l_ild <| all_c l_ild <| all_c l_cmpge <| all_c l_ild <| all_c l_ild <| all_c l_ishr <| all_c l_ic <| all_c l_iand <|
  all_c l_ild <| all_c l_ild <| all_c l_ishr <| all_c l_ic <| all_c l_iand <| all_c l_cmpeq <| all_c l_ild <| all_c l_ald <| all_c l_ald <| all_c l_ild <| all_c (l_callV hh_X8_byteAt) <| all_c l_iald <| all_c l_iadd <| all_c l_ist <| all_c l_inc <| all_c l_goto <| all_c l_inc <| all_c (l_aft l_goto) <| all_c l_ild <| all_c l_iret <| all_n
theorem hh_X2_overSides : RspF_ (f_X2_overSides KC) := rsp_fn hp_X2_overSides
set_option maxRecDepth 100000 in
theorem hp_X2_sidesFit : All_ (fun _ o => Loc_ o) (P_X2_sidesFit KC) :=
  all_c l_ic <| all_c l_ist <| all_c l_ic <| all_c l_ist <| all_c l_ic <| all_c (l_aft l_ist) <| all_c l_ild <| all_c l_ild <| all_c l_cmpge <| all_c l_ald <| all_c l_gF <| all_c l_ald <| all_c l_ild <| all_c (l_callV hh_X8_byteAt) <| all_c l_iald <| all_c l_ist <| all_c l_ild <| all_c l_ild <| all_c l_ishr <| all_c l_ic <| all_c l_iand <| all_c l_ifeq <| all_c l_ild <| all_c l_ild <|
  all_c l_iadd <| all_c l_ist <| all_c l_goto <| all_c l_ild <| all_c l_ild <| all_c l_iadd <| all_c l_ist <| all_c l_inc <| all_c (l_aft l_goto) <| all_c l_ild <| all_c l_ild <| all_c l_cmpgt <| all_c l_ild <| all_c l_ild <| all_c l_cmpgt <| all_c l_ic <| all_c l_goto <| all_c l_ic <| all_c l_zret <| all_n
theorem hh_X2_sidesFit : RspF_ (f_X2_sidesFit KC) := rsp_fn hp_X2_sidesFit
set_option maxRecDepth 100000 in
theorem hp_X2_divide : All_ (fun _ o => Loc_ o) (P_X2_divide KC) :=
  all_c l_ic <| all_c l_ist <| all_c l_ic <| all_c l_ist <| all_c l_ic <| all_c (l_aft l_ist) <| all_c l_ild <| all_c l_ic <| all_c l_ild <| all_c l_ic <| all_c l_isub <| all_c l_ishl <| all_c l_cmpge <| all_c l_ald <| all_c l_ald <| all_c l_ild <| all_c l_ild <| all_c l_ild <| all_c (l_callS hh_X2_sidesFit) <| all_c l_ifeq <| all_c l_ald <| all_c l_ald <| all_c l_ild <| all_c l_ild <|
  all_c (l_callS hh_X2_overSides) <| all_c l_ist <| all_c l_ild <| all_c l_ild <| all_c l_cmpge <| all_c l_ild <| all_c l_ist <| all_c l_ild <| all_c l_ist <| all_c l_inc <| all_c (l_aft l_goto) <| all_c l_ild <| all_c l_ic <| all_c l_cmpne <| all_c l_ic <| all_c l_iret <| all_c l_ald <| all_c l_ild <| all_c l_pI <| all_c l_ild <| all_c l_iret <| all_n
theorem hh_X2_divide : RspF_ (f_X2_divide KC) := rsp_fn hp_X2_divide
set_option maxRecDepth 100000 in
theorem hp_X5_hear : All_ (fun _ o => Loc_ o) (P_X5_hear KC) :=
  all_c l_ald <| all_c l_gR <| all_c l_ald <| all_c l_gF <| all_c l_ild <| all_c l_ic <| all_c l_imul <| all_c l_ild <| all_c l_iadd <| all_c l_iald <| all_c l_ild <| all_c l_ild <| all_c l_ild <| all_c (l_callV hh_X0_partsTold) <| all_c l_ist <| all_c l_ald <| all_c l_gF <| all_c l_ild <| all_c l_iald <| all_c l_ild <| all_c l_ishr <| all_c l_ic <| all_c l_iand <| all_c (l_aft l_ifne) <|
  all_c l_ald <| all_c l_gR <| all_c l_ild <| all_c (l_callV hh_X0_retold) <| all_c (l_aft l_ist) <| all_c l_ild <| all_c l_ic <| all_c l_imul <| all_c l_ist <| all_c l_ild <| all_c l_ic <| all_c l_ald <| all_c l_gR <| all_c l_ild <| all_c l_ald <| all_c l_gF <| all_c l_ild <| all_c (l_callV hh_X0_lackAt) <| all_c l_isub <| all_c (l_callS hh_X0_ofMillion) <| all_c l_ist <| all_c l_ald <|
  all_c l_gF <| all_c l_ild <| all_c l_ild <| all_c l_iadd <| all_c l_iald <| all_c l_ist <| all_c l_ald <| all_c l_gF <| all_c l_ild <| all_c l_ild <| all_c l_iadd <| all_c l_ild <| all_c l_ic <| all_c l_ild <| all_c l_isub <| all_c l_ild <| all_c (l_callS hh_X0_ofMillion) <| all_c l_iadd <| all_c l_iast <| all_c l_ald <| all_c l_gF <| all_c l_ild <| all_c l_dup2 <| all_c l_iald <| all_c l_ic <|
  all_c l_ild <| all_c l_ishl <| all_c l_ior <| all_c l_iast <| all_c l_vret <| all_n
theorem hh_X5_hear : RspF_ (f_X5_hear KC) := rsp_fn hp_X5_hear
set_option maxRecDepth 100000 in
theorem hp_X5_partsIfRead : All_ (fun _ o => Loc_ o) (P_X5_partsIfRead KC) :=
  all_c l_ild <| all_c l_ic <| all_c l_imul <| all_c l_ist <| all_c l_ald <| all_c l_gF <| all_c l_ild <| all_c l_ild <| all_c l_iadd <| all_c l_iald <| all_c l_ald <| all_c l_gR <| all_c l_ild <| all_c l_ald <| all_c l_gR <| all_c l_ild <| all_c l_ald <| all_c l_gF <| all_c l_ild <| all_c (l_callV hh_X0_lackAt) <| all_c (l_callV hh_X0_partsRead) <| all_c l_max <| all_c l_iret <| all_n
theorem hh_X5_partsIfRead : RspF_ (f_X5_partsIfRead KC) := rsp_fn hp_X5_partsIfRead
set_option maxRecDepth 100000 in
theorem hp_X5_perform : All_ (fun _ o => Loc_ o) (P_X5_perform KC) :=
  all_c l_ild <| all_c l_ifne <| all_c l_ald <| all_c l_gF <| all_c l_ild <| all_c l_dup2 <| all_c l_iald <| all_c l_ald <| all_c l_gR <| all_c l_ild <| all_c l_ild <| all_c (l_callV hh_X0_readTime) <| all_c l_isub <| all_c l_iast <| all_c l_ald <| all_c l_gF <| all_c l_ild <| all_c l_ic <| all_c l_imul <| all_c l_ild <| all_c l_iadd <| all_c l_ald <| all_c l_ild <| all_c l_ild <|
  all_c (l_callV hh_X5_partsIfRead) <| all_c l_iast <| all_c l_ald <| all_c l_gF <| all_c l_ild <| all_c l_dup2 <| all_c l_iald <| all_c l_ic <| all_c l_ild <| all_c l_ishl <| all_c l_ior <| all_c l_iast <| all_c l_vret <| all_c l_ald <| all_c l_gR <| all_c l_ild <| all_c l_ild <| all_c (l_callV hh_X0_tellTime) <| all_c l_ist <| all_c l_ald <| all_c l_gF <| all_c l_ild <| all_c l_dup2 <|
  all_c l_iald <| all_c l_ild <| all_c l_isub <| all_c l_iast <| all_c l_ic <| all_c l_ist <| all_c l_ild <| all_c l_ald <| all_c l_gR <| all_c l_gI <| all_c l_cmpge <| all_c l_ild <| all_c l_ild <| all_c l_ishr <| all_c l_ic <| all_c l_iand <| all_c l_ifeq <| all_c l_ald <| all_c l_gF <| all_c l_ild <| all_c l_dup2 <| all_c l_iald <| all_c l_ild <| all_c l_isub <| all_c l_iast <| all_c l_ald <|
  all_c l_ild <| all_c l_ild <| all_c l_ild <| all_c l_ild <| all_c (l_callV hh_X5_hear) <| all_c l_inc <| all_c l_goto <| all_c l_vret <| all_n
theorem hh_X5_perform : RspF_ (f_X5_perform KC) := rsp_fn hp_X5_perform
set_option maxRecDepth 100000 in
theorem hp_X5_withTime : All_ (fun _ o => Loc_ o) (P_X5_withTime KC) :=
  all_c l_ic <| all_c l_ist <| all_c l_ic <| all_c l_ist <| all_c l_ild <| all_c l_ald <| all_c l_gR <| all_c l_gI <| all_c l_cmpge <| all_c l_ald <| all_c l_gF <| all_c l_ild <| all_c l_iald <| all_c l_ild <| all_c l_cmplt <| all_c l_ild <| all_c l_ic <| all_c l_ild <| all_c l_ishl <| all_c l_ior <| all_c l_ist <| all_c l_inc <| all_c l_goto <| all_c l_ild <| all_c l_iret <| all_n
theorem hh_X5_withTime : RspF_ (f_X5_withTime KC) := rsp_fn hp_X5_withTime
set_option maxRecDepth 100000 in
theorem hp_X5_wrongOf : All_ (fun _ o => Loc_ o) (P_X5_wrongOf KC) :=
  all_c l_ild <| all_c l_ifne <| all_c l_ald <| all_c l_gF <| all_c l_ild <| all_c l_iald <| all_c l_ald <| all_c l_gR <| all_c l_ild <| all_c l_ild <| all_c (l_callV hh_X0_readTime) <| all_c l_cmpge <| all_c l_ic <| all_c l_goto <| all_c l_ic <| all_c l_iret <| all_c l_ald <| all_c l_gR <| all_c l_ild <| all_c l_ild <| all_c (l_callV hh_X0_tellTime) <| all_c l_ist <| all_c l_ald <| all_c l_gF <|
  all_c l_ild <| all_c l_iald <| all_c l_ild <| all_c l_cmplt <| all_c l_ild <| all_c l_ald <| all_c l_ild <| all_c (l_callV hh_X5_withTime) <| all_c l_ic <| all_c l_ixor <| all_c l_iand <| all_c l_ifeq <| all_c l_ic <| all_c l_iret <| all_c l_ald <| all_c l_gF <| all_c l_ild <| all_c l_ic <| all_c l_imul <| all_c l_ild <| all_c l_iadd <| all_c l_iald <| all_c l_ifne <| all_c l_ic <|
  all_c l_goto <| all_c l_ic <| all_c l_iret <| all_n
theorem hh_X5_wrongOf : RspF_ (f_X5_wrongOf KC) := rsp_fn hp_X5_wrongOf
set_option maxRecDepth 100000 in
theorem hp_X3_readMissed : All_ (fun _ o => Loc_ o) (P_X3_readMissed KC) :=
  all_c l_ic <| all_c (l_aft l_ist) <| all_c l_ild <| all_c l_ald <| all_c l_gI <| all_c l_cmpge <| all_c l_ald <| all_c l_gF <| all_c l_ild <| all_c l_iald <| all_c l_ist <| all_c l_ald <| all_c l_gF <| all_c l_gF <| all_c l_ild <| all_c l_iald <| all_c l_ild <| all_c l_ishr <| all_c l_ic <| all_c l_iand <| all_c l_ifne <| all_c l_ald <| all_c l_gF <| all_c l_ild <| all_c l_ild <| all_c l_ic <|
  all_c l_ic <| all_c (l_callV hh_X5_wrongOf) <| all_c l_ifeq <| all_c l_vret <| all_c l_ald <| all_c l_gF <| all_c l_ild <| all_c l_ild <| all_c l_ic <| all_c l_ic <| all_c (l_callV hh_X5_perform) <| all_c l_inc <| all_c (l_aft l_goto) <| all_c l_vret <| all_n
theorem hh_X3_readMissed : RspF_ (f_X3_readMissed KC) := rsp_fn hp_X3_readMissed
set_option maxRecDepth 100000 in
theorem hp_X5_inAll : All_ (fun _ o => Loc_ o) (P_X5_inAll KC) :=
  all_c l_ic <| all_c l_ist <| all_c l_ic <| all_c l_ist <| all_c l_ild <| all_c l_ald <| all_c l_gR <| all_c l_gI <| all_c l_cmpge <| all_c l_ild <| all_c l_ald <| all_c l_gR <| all_c l_gF <| all_c l_ild <| all_c l_iald <| all_c l_ald <| all_c l_gF <| all_c l_ild <| all_c l_ic <| all_c l_imul <| all_c l_ild <| all_c l_iadd <| all_c l_iald <| all_c (l_callS hh_X0_ofMillion) <| all_c l_iadd <|
  all_c l_ist <| all_c l_inc <| all_c l_goto <| all_c l_ild <| all_c l_iret <| all_n
theorem hh_X5_inAll : RspF_ (f_X5_inAll KC) := rsp_fn hp_X5_inAll
set_option maxRecDepth 100000 in
theorem hp_X3_offerHelp : All_ (fun _ o => Loc_ o) (P_X3_offerHelp KC) :=
  all_c l_ald <| all_c l_gI <| all_c l_ald <| all_c l_gF <| all_c l_ild <| all_c (l_callV hh_X5_inAll) <| all_c l_isub <| all_c l_ist <| all_c l_ald <| all_c l_ild <| all_c (l_callV hh_X3_readMissed) <| all_c l_ild <| all_c l_ald <| all_c l_gF <| all_c l_ild <| all_c (l_callV hh_X5_inAll) <| all_c l_iadd <| all_c l_ist <| all_c l_ild <| all_c l_ald <| all_c l_gI <| all_c l_cmple <| all_c l_ald <|
  all_c l_ild <| all_c l_pI <| all_c l_ald <| all_c l_ild <| all_c l_pI <| all_c l_vret <| all_n
theorem hh_X3_offerHelp : RspF_ (f_X3_offerHelp KC) := rsp_fn hp_X3_offerHelp
set_option maxRecDepth 100000 in
theorem hp_X3_tryAct : All_ (fun _ o => Loc_ o) (P_X3_tryAct KC) :=
  all_c l_ald <| all_c l_gF <| all_c l_ild <| all_c l_iald <| all_c l_ist <| all_c l_ild <| all_c l_ic <| all_c l_cmpeq <| all_c l_ild <| all_c l_ic <| all_c l_ild <| all_c l_ishl <| all_c l_ic <| all_c l_ixor <| all_c l_iand <| all_c l_ist <| all_c l_ald <| all_c l_gF <| all_c l_ild <| all_c l_iald <| all_c l_ild <| all_c l_cmpeq <| all_c l_ald <| all_c l_gF <| all_c l_ild <| all_c l_iald <|
  all_c l_ifeq <| all_c l_ild <| all_c l_ifne <| all_c l_ic <| all_c l_zret <| all_c l_ald <| all_c l_gF <| all_c l_ald <| all_c l_gF <| all_c l_ild <| all_c l_iald <| all_c l_ald <| all_c l_gF <| all_c l_ild <| all_c l_iald <| all_c l_ald <| all_c l_gF <| all_c l_ild <| all_c l_iald <| all_c l_ild <| all_c (l_callV hh_X5_wrongOf) <| all_c l_ifeq <| all_c l_ic <| all_c l_zret <| all_c l_ald <|
  all_c l_gF <| all_c l_ald <| all_c l_gF <| all_c l_ild <| all_c l_iald <| all_c l_ald <| all_c l_gF <| all_c l_ild <| all_c l_iald <| all_c l_ald <| all_c l_gF <| all_c l_ild <| all_c l_iald <| all_c l_ild <| all_c (l_callV hh_X5_perform) <| all_c l_ic <| all_c l_zret <| all_n
theorem hh_X3_tryAct : RspF_ (f_X3_tryAct KC) := rsp_fn hp_X3_tryAct
set_option maxRecDepth 100000 in
theorem hp_X5_begin : All_ (fun _ o => Loc_ o) (P_X5_begin KC) :=
  all_c l_ald <| all_c l_ald <| all_c l_pR <| all_c l_ic <| all_c l_ist <| all_c l_ild <| all_c l_ald <| all_c l_gR <| all_c l_gI <| all_c l_cmpge <| all_c l_ald <| all_c l_gF <| all_c l_ild <| all_c l_ald <| all_c l_gR <| all_c l_gF <| all_c l_ild <| all_c l_iald <| all_c l_iast <| all_c l_ald <| all_c l_gF <| all_c l_ild <| all_c l_ic <| all_c l_iast <| all_c l_ald <| all_c l_gF <|
  all_c l_ild <| all_c l_ic <| all_c l_iast <| all_c l_inc <| all_c l_goto <| all_c l_ic <| all_c l_ist <| all_c l_ild <| all_c l_ald <| all_c l_gF <| all_c l_alen <| all_c l_cmpge <| all_c l_ald <| all_c l_gF <| all_c l_ild <| all_c l_ic <| all_c l_iast <| all_c l_inc <| all_c l_goto <| all_c l_ald <| all_c l_ic <| all_c l_pI <| all_c l_ald <| all_c l_ic <| all_c l_pI <| all_c l_vret <| all_n
theorem hh_X5_begin : RspF_ (f_X5_begin KC) := rsp_fn hp_X5_begin
set_option maxRecDepth 100000 in
theorem hp_X5_sum : All_ (fun _ o => Loc_ o) (P_X5_sum KC) :=
  all_c l_ic <| all_c l_ist <| all_c l_ic <| all_c l_ist <| all_c l_ild <| all_c l_ald <| all_c l_gR <| all_c l_gI <| all_c l_cmpge <| all_c l_ild <| all_c l_ald <| all_c l_ild <| all_c (l_callV hh_X5_inAll) <| all_c l_iadd <| all_c l_ist <| all_c l_inc <| all_c l_goto <| all_c l_ild <| all_c l_iret <| all_n
theorem hh_X5_sum : RspF_ (f_X5_sum KC) := rsp_fn hp_X5_sum
set_option maxRecDepth 100000 in
theorem hp_X3_fall : All_ (fun _ o => Loc_ o) (P_X3_fall KC) :=
  all_c l_ald <| all_c l_gF <| all_c l_ald <| all_c (l_callV hh_X5_begin) <| all_c l_ald <| all_c l_ic <| all_c l_pI <| all_c l_ald <| all_c l_ic <| all_c l_pI <| all_c l_ic <| all_c (l_aft l_ist) <| all_c l_ild <| all_c l_ald <| all_c l_gI <| all_c l_cmpge <| all_c l_ild <| all_c l_ic <| all_c l_cmpge <| all_c l_ild <| all_c l_ild <| all_c l_cmplt <| all_c l_ild <| all_c (l_aft l_goto) <|
  all_c (l_aft l_ic) <| all_c l_ist <| all_c l_ald <| all_c l_gF <| all_c l_ild <| all_c l_iald <| all_c l_ild <| all_c l_cmpne <| all_c l_ald <| all_c l_gF <| all_c l_ild <| all_c l_iald <| all_c l_ifne <| all_c l_ald <| all_c l_gF <| all_c l_ald <| all_c l_gI <| all_c l_ald <| all_c l_gF <| all_c l_ild <| all_c l_iald <| all_c l_iast <| all_c l_ald <| all_c l_dup <| all_c l_gI <| all_c l_ic <|
  all_c l_iadd <| all_c l_pI <| all_c l_ald <| all_c l_ald <| all_c l_ild <| all_c l_ild <| all_c (l_callV hh_X3_tryAct) <| all_c l_ifne <| all_c l_ald <| all_c l_dup <| all_c l_gI <| all_c l_ic <| all_c l_iadd <| all_c l_pI <| all_c l_inc <| all_c (l_aft l_goto) <| all_c l_ald <| all_c l_ald <| all_c l_gF <| all_c (l_callV hh_X5_sum) <| all_c l_pI <| all_c l_ald <| all_c l_ic <| all_c l_pI <|
  all_c l_ald <| all_c l_ic <| all_c l_pI <| all_c l_ic <| all_c (l_aft l_ist) <| all_c l_ild <| all_c l_ald <| all_c l_gI <| all_c l_cmpge <| all_c l_ild <| all_c l_ild <| all_c l_cmpeq <| all_c l_ald <| all_c l_ild <| all_c (l_callV hh_X3_offerHelp) <| all_c l_inc <| all_c (l_aft l_goto) <| all_c l_vret <| all_n
theorem hh_X3_fall : RspF_ (f_X3_fall KC) := rsp_fn hp_X3_fall
set_option maxRecDepth 100000 in
theorem hp_X4_isKind : All_ (fun _ o => Loc_ o) (P_X4_isKind KC) :=
  all_c l_ild <| all_c l_tsw <| all_c l_ic <| all_c l_zret <| all_c l_ild <| all_c l_ic <| all_c l_cmplt <| all_c l_ild <| all_c l_ic <| all_c l_cmpgt <| all_c l_ic <| all_c l_goto <| all_c l_ic <| all_c l_zret <| all_c l_ild <| all_c l_ic <| all_c l_cmplt <| all_c l_ild <| all_c l_ic <| all_c l_cmpgt <| all_c l_ic <| all_c l_goto <| all_c l_ic <| all_c l_zret <| all_c l_ild <| all_c l_ic <|
  all_c l_cmplt <| all_c l_ild <| all_c l_ic <| all_c l_cmpgt <| all_c l_ic <| all_c l_goto <| all_c l_ic <| all_c l_zret <| all_c l_ic <| all_c l_zret <| all_n
theorem hh_X4_isKind : RspF_ (f_X4_isKind KC) := rsp_fn hp_X4_isKind
set_option maxRecDepth 100000 in
theorem hp_X6_clear : All_ (fun _ o => Loc_ o) (P_X6_clear KC) :=
  all_c l_ald <| all_c l_ic <| all_c l_pI <| all_c l_vret <| all_n
theorem hh_X6_clear : RspF_ (f_X6_clear KC) := rsp_fn hp_X6_clear
set_option maxRecDepth 100000 in
theorem hp_X4_begin : All_ (fun _ o => Loc_ o) (P_X4_begin KC) :=
  all_c l_ald <| all_c l_ald <| all_c l_pR <| all_c l_ald <| all_c l_ald <| all_c l_pR <| all_c l_ald <| all_c l_gR <| all_c (l_callV hh_X6_clear) <| all_c l_ald <| all_c l_gF <| all_c l_ald <| all_c l_gR <| all_c (l_callV hh_X5_begin) <| all_c l_vret <| all_n
theorem hh_X4_begin : RspF_ (f_X4_begin KC) := rsp_fn hp_X4_begin
set_option maxRecDepth 100000 in
theorem hp_X4_readerOf : All_ (fun _ o => Loc_ o) (P_X4_readerOf KC) :=
  all_c l_ic <| all_c l_ist <| all_c l_ild <| all_c l_ald <| all_c l_gR <| all_c l_gI <| all_c l_cmpge <| all_c l_ald <| all_c l_gF <| all_c l_gF <| all_c l_ild <| all_c l_iald <| all_c l_ild <| all_c l_ishr <| all_c l_ic <| all_c l_iand <| all_c l_ifeq <| all_c l_ild <| all_c l_iret <| all_c l_inc <| all_c l_goto <| all_c l_ic <| all_c l_iret <| all_n
theorem hh_X4_readerOf : RspF_ (f_X4_readerOf KC) := rsp_fn hp_X4_readerOf
set_option maxRecDepth 100000 in
theorem hp_X6_isFull : All_ (fun _ o => Loc_ o) (P_X6_isFull KC) :=
  all_c l_ald <| all_c l_gI <| all_c l_ic <| all_c l_cmplt <| all_c l_ic <| all_c l_goto <| all_c l_ic <| all_c l_zret <| all_n
theorem hh_X6_isFull : RspF_ (f_X6_isFull KC) := rsp_fn hp_X6_isFull
set_option maxRecDepth 100000 in
theorem hp_X6_add : All_ (fun _ o => Loc_ o) (P_X6_add KC) :=
  all_c l_ald <| all_c (l_callV hh_X6_isFull) <| all_c l_ifne <| all_c l_ald <| all_c l_gF <| all_c l_ald <| all_c l_gI <| all_c l_ild <| all_c l_iast <| all_c l_ald <| all_c l_gF <| all_c l_ald <| all_c l_gI <| all_c l_ild <| all_c l_iast <| all_c l_ald <| all_c l_gF <| all_c l_ald <| all_c l_gI <| all_c l_ild <| all_c l_iast <| all_c l_ald <| all_c l_gF <| all_c l_ald <| all_c l_gI <|
  all_c l_ild <| all_c l_iast <| all_c l_ald <| all_c l_dup <| all_c l_gI <| all_c l_ic <| all_c l_iadd <| all_c l_pI <| all_c l_vret <| all_n
theorem hh_X6_add : RspF_ (f_X6_add KC) := rsp_fn hp_X6_add
set_option maxRecDepth 100000 in
theorem hp_X4_tryAct : All_ (fun _ o => Loc_ o) (P_X4_tryAct KC) :=
  all_c l_ald <| all_c l_gR <| all_c (l_callV hh_X6_isFull) <| all_c l_ifne <| all_c l_ald <| all_c l_gF <| all_c l_ild <| all_c l_ild <| all_c l_ild <| all_c l_ild <| all_c (l_callV hh_X5_wrongOf) <| all_c l_ifeq <| all_c l_ic <| all_c l_zret <| all_c l_ald <| all_c l_gF <| all_c l_ild <| all_c l_ild <| all_c l_ild <| all_c l_ild <| all_c (l_callV hh_X5_perform) <| all_c l_ald <| all_c l_gR <|
  all_c l_ild <| all_c l_ild <| all_c l_ild <| all_c l_ild <| all_c (l_callV hh_X6_add) <| all_c l_ic <| all_c l_zret <| all_n
theorem hh_X4_tryAct : RspF_ (f_X4_tryAct KC) := rsp_fn hp_X4_tryAct
set_option maxRecDepth 100000 in
theorem hp_X4_addChains : All_ (fun _ o => Loc_ o) (P_X4_addChains KC) :=
  all_c l_ic <| all_c (l_aft l_ist) <| all_c l_ild <| all_c l_ald <| all_c l_gR <| all_c l_gI <| all_c l_cmpge <| all_c l_ald <| all_c l_ild <| all_c (l_callV hh_X4_readerOf) <| all_c l_ist <| all_c l_ic <| all_c (l_aft l_ist) <| all_c l_ild <| all_c l_ald <| all_c l_gR <| all_c l_gI <| all_c l_cmpge <| all_c l_ild <| all_c l_ic <| all_c l_cmpeq <| all_c l_ild <| all_c l_ic <| all_c l_iadd <|
  all_c l_ald <| all_c l_gR <| all_c l_gI <| all_c l_cmpge <| all_c l_ild <| all_c l_ic <| all_c l_iadd <| all_c (l_aft l_goto) <| all_c (l_aft l_ic) <| all_c l_ist <| all_c l_ald <| all_c l_ild <| all_c l_ild <| all_c l_ild <| all_c l_ic <| all_c l_ild <| all_c l_ishl <| all_c (l_callV hh_X4_tryAct) <| all_c l_ifeq <| all_c l_ild <| all_c l_goto <| all_c l_ic <| all_c l_ist <| all_c l_inc <|
  all_c (l_aft l_goto) <| all_c l_inc <| all_c (l_aft l_goto) <| all_c l_vret <| all_n
theorem hh_X4_addChains : RspF_ (f_X4_addChains KC) := rsp_fn hp_X4_addChains
set_option maxRecDepth 100000 in
theorem hp_X4_join : All_ (fun _ o => Loc_ o) (P_X4_join KC) :=
  all_c l_ild <| all_c l_ild <| all_c l_min <| all_c l_ist <| all_c l_ic <| all_c l_ist <| all_c l_ild <| all_c l_ald <| all_c l_gR <| all_c l_gI <| all_c l_cmpge <| all_c l_ald <| all_c l_gF <| all_c l_ild <| all_c l_iald <| all_c l_ild <| all_c l_cmpeq <| all_c l_ald <| all_c l_gF <| all_c l_ild <| all_c l_iald <| all_c l_ild <| all_c l_cmpne <| all_c l_ald <| all_c l_gF <| all_c l_ild <|
  all_c l_ild <| all_c l_iast <| all_c l_inc <| all_c l_goto <| all_c l_vret <| all_n
theorem hh_X4_join : RspF_ (f_X4_join KC) := rsp_fn hp_X4_join
