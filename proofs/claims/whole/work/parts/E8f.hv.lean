set_option maxRecDepth 100000 in
theorem hp_X12_book : All_ (fun _ o => Loc_ o) (P_X12_book KC) :=
  all_c l_ald <| all_c l_ic <| all_c (l_callV hh_X12_begin) <| all_c l_ald <| all_c l_gF <| all_c l_ic <| all_c l_ic <| all_c l_iast <| all_c l_ald <| all_c l_gF <| all_c l_ic <| all_c l_ic <| all_c l_iast <| all_c l_ald <| all_c l_gF <| all_c l_ic <| all_c l_ic <| all_c l_iast <| all_c l_ald <| all_c l_gF <| all_c l_ic <| all_c l_ic <| all_c l_iast <| all_c l_ald <| all_c l_ic <| all_c l_pI <|
  all_c l_ic <| all_c (l_aft l_ist) <| all_c l_ald <| all_c l_gI <| all_c l_ifeq <| all_c l_ald <| all_c (l_callV hh_X12_readLine) <| all_c l_ifne <| all_c l_ic <| all_c l_ald <| all_c l_gI <| all_c l_isub <| all_c l_iret <| all_c l_inc <| all_c (l_aft l_goto) <| all_c l_ic <| all_c l_ist <| all_c l_ild <| all_c l_ic <| all_c l_cmpge <| all_c l_ald <| all_c l_gF <| all_c l_ild <| all_c l_ald <|
  all_c l_gF <| all_c l_ild <| all_c l_iald <| all_c l_iast <| all_c l_inc <| all_c l_goto <| all_c l_ic <| all_c l_ist <| all_c l_ild <| all_c l_ic <| all_c l_cmpge <| all_c l_ald <| all_c l_gF <| all_c l_ild <| all_c l_ald <| all_c l_gF <| all_c l_ild <| all_c l_lald <| all_c l_last <| all_c l_inc <| all_c l_goto <| all_c l_ald <| all_c l_gF <| all_c l_ic <| all_c l_ic <| all_c l_iast <|
  all_c l_ald <| all_c l_gF <| all_c l_ic <| all_c l_ic <| all_c l_iast <| all_c l_ild <| all_c l_iret <| all_n
theorem hh_X12_book : RspF_ (f_X12_book KC) := rsp_fn hp_X12_book
set_option maxRecDepth 100000 in
theorem hp_X12_fault : All_ (fun _ o => Loc_ o) (P_X12_fault KC) :=
  all_c l_ald <| all_c l_ic <| all_c l_pI <| all_c l_ald <| all_c l_gI <| all_c l_iret <| all_n
theorem hh_X12_fault : RspF_ (f_X12_fault KC) := rsp_fn hp_X12_fault
set_option maxRecDepth 100000 in
theorem hp_X12_chap : All_ (fun _ o => Loc_ o) (P_X12_chap KC) :=
  all_c l_ald <| all_c (l_callV hh_X12_lay) <| all_c l_ald <| all_c l_ild <| all_c (l_callV hh_X12_isChap) <| all_c l_ifeq <| all_c l_ild <| all_c l_ic <| all_c l_ic <| all_c (l_callS hh_X12_isIn) <| all_c l_ifne <| all_c l_ald <| all_c (l_callV hh_X12_refuse) <| all_c l_iret <| all_c l_ald <| all_c l_ic <| all_c l_pI <| all_c l_ild <| all_c l_ic <| all_c l_cmpge <| all_c l_ald <| all_c l_ild <|
  all_c l_ild <| all_c (l_callV hh_X12_chapOf) <| all_c l_iret <| all_c l_ic <| all_c l_ist <| all_c l_ic <| all_c l_ist <| all_c l_ild <| all_c l_ild <| all_c l_cmpge <| all_c l_ald <| all_c l_ild <| all_c l_ild <| all_c (l_callV hh_X12_leanOf) <| all_c l_ifle <| all_c l_inc <| all_c l_inc <| all_c l_goto <| all_c l_ild <| all_c l_iret <| all_n
theorem hh_X12_chap : RspF_ (f_X12_chap KC) := rsp_fn hp_X12_chap
set_option maxRecDepth 100000 in
theorem hp_X12_leans : All_ (fun _ o => Loc_ o) (P_X12_leans KC) :=
  all_c l_ald <| all_c l_ic <| all_c l_pI <| all_c l_ald <| all_c (l_callV hh_X12_lay) <| all_c l_ald <| all_c l_ild <| all_c (l_callV hh_X12_isChap) <| all_c l_ifeq <| all_c l_ald <| all_c l_ild <| all_c (l_callV hh_X12_isChap) <| all_c l_ifne <| all_c l_ic <| all_c l_goto <| all_c l_ild <| all_c l_ild <| all_c l_cmpge <| all_c l_ald <| all_c l_ild <| all_c l_ild <|
  all_c (l_callV hh_X12_leanOf) <| all_c l_goto <| all_c l_ic <| all_c l_iret <| all_n
theorem hh_X12_leans : RspF_ (f_X12_leans KC) := rsp_fn hp_X12_leans
set_option maxRecDepth 100000 in
theorem hp_X12_reader : All_ (fun _ o => Loc_ o) (P_X12_reader KC) :=
  all_c l_ald <| all_c (l_callV hh_X12_lay) <| all_c l_ald <| all_c l_ild <| all_c (l_callV hh_X12_isReader) <| all_c l_ifeq <| all_c l_ild <| all_c l_ic <| all_c l_ic <| all_c (l_callS hh_X12_isIn) <| all_c l_ifne <| all_c l_ald <| all_c (l_callV hh_X12_refuse) <| all_c l_iret <| all_c l_ald <| all_c l_ic <| all_c l_pI <| all_c l_ald <| all_c l_ild <| all_c l_ild <|
  all_c (l_callV hh_X12_readerOf) <| all_c l_iret <| all_n
theorem hh_X12_reader : RspF_ (f_X12_reader KC) := rsp_fn hp_X12_reader
set_option maxRecDepth 100000 in
theorem hp_X12_addAct : All_ (fun _ o => Loc_ o) (P_X12_addAct KC) :=
  all_c l_ald <| all_c l_gI <| all_c l_ic <| all_c l_cmpne <| all_c l_ic <| all_c l_zret <| all_c l_ald <| all_c l_gF <| all_c l_ic <| all_c l_ald <| all_c l_gI <| all_c l_imul <| all_c l_ic <| all_c l_iadd <| all_c l_ild <| all_c l_iast <| all_c l_ald <| all_c l_gF <| all_c l_ic <| all_c l_ald <| all_c l_gI <| all_c l_imul <| all_c l_ic <| all_c l_iadd <| all_c l_ild <| all_c l_iast <|
  all_c l_ald <| all_c l_gF <| all_c l_ic <| all_c l_ald <| all_c l_gI <| all_c l_imul <| all_c l_ic <| all_c l_iadd <| all_c l_ild <| all_c l_iast <| all_c l_ald <| all_c l_gF <| all_c l_ic <| all_c l_ald <| all_c l_gI <| all_c l_imul <| all_c l_ic <| all_c l_iadd <| all_c l_ild <| all_c l_iast <| all_c l_ald <| all_c l_dup <| all_c l_gI <| all_c l_ic <| all_c l_iadd <| all_c l_pI <|
  all_c l_ic <| all_c l_zret <| all_n
theorem hh_X12_addAct : RspF_ (f_X12_addAct KC) := rsp_fn hp_X12_addAct
set_option maxRecDepth 100000 in
theorem hp_X12_plans : All_ (fun _ o => Loc_ o) (P_X12_plans KC) :=
  all_c l_ic <| all_c l_ist <| all_c l_ild <| all_c l_ic <| all_c l_ald <| all_c l_gI <| all_c l_imul <| all_c l_cmpge <| all_c l_ald <| all_c l_gF <| all_c l_ic <| all_c l_ild <| all_c l_iadd <| all_c l_ald <| all_c l_gF <| all_c l_ild <| all_c l_iald <| all_c l_iast <| all_c l_inc <| all_c l_goto <| all_c l_ald <| all_c l_gF <| all_c l_ic <| all_c l_ald <| all_c l_gI <| all_c l_iast <|
  all_c l_ald <| all_c l_gI <| all_c l_iret <| all_n
theorem hh_X12_plans : RspF_ (f_X12_plans KC) := rsp_fn hp_X12_plans
set_option maxRecDepth 100000 in
theorem hp_X12_named : All_ (fun _ o => Loc_ o) (P_X12_named KC) :=
  all_c l_ald <| all_c (l_callV hh_X12_isName) <| all_c l_ifne <| all_c l_ic <| all_c l_iret <| all_c l_ic <| all_c l_ist <| all_c l_ild <| all_c l_ild <| all_c l_cmpge <| all_c l_ald <| all_c l_gF <| all_c l_ild <| all_c l_ild <| all_c l_iadd <| all_c l_lald <| all_c l_ald <| all_c l_gJ <| all_c l_lcmp <| all_c l_ifne <| all_c l_ild <| all_c l_iret <| all_c l_inc <| all_c l_goto <| all_c l_ic <|
  all_c l_iret <| all_n
theorem hh_X12_named : RspF_ (f_X12_named KC) := rsp_fn hp_X12_named
set_option maxRecDepth 100000 in
theorem hp_X12_readNamed : All_ (fun _ o => Loc_ o) (P_X12_readNamed KC) :=
  all_c l_ald <| all_c l_ild <| all_c l_ild <| all_c (l_callV hh_X12_named) <| all_c l_ist <| all_c l_ild <| all_c l_ifge <| all_c l_ald <| all_c l_ild <| all_c l_ic <| all_c l_cmpne <| all_c l_ic <| all_c l_goto <| all_c l_ic <| all_c (l_callV hh_X12_bad) <| all_c l_zret <| all_c l_ald <| all_c l_ild <| all_c l_pI <| all_c l_ald <| all_c (l_callV hh_X12_go) <| all_c l_ic <| all_c l_zret <| all_n
theorem hh_X12_readNamed : RspF_ (f_X12_readNamed KC) := rsp_fn hp_X12_readNamed
set_option maxRecDepth 100000 in
theorem hp_X12_readListeners : All_ (fun _ o => Loc_ o) (P_X12_readListeners KC) :=
  all_c l_ic <| all_c l_ist <| all_c l_ald <| all_c l_ic <| all_c (l_callV hh_X12_isWord) <| all_c (l_aft l_ifeq) <| all_c l_ic <| all_c l_ald <| all_c (l_callV hh_X12_readers) <| all_c l_ishl <| all_c l_ic <| all_c l_isub <| all_c l_ic <| all_c l_ild <| all_c l_ishl <| all_c l_ic <| all_c l_ixor <| all_c l_iand <| all_c l_ist <| all_c l_ild <| all_c l_ifne <| all_c l_ald <| all_c l_ic <|
  all_c (l_callV hh_X12_bad) <| all_c l_zret <| all_c l_ald <| all_c (l_callV hh_X12_go) <| all_c l_ald <| all_c l_ild <| all_c l_pI <| all_c l_ic <| all_c l_zret <| all_c l_ald <| all_c l_ic <| all_c l_ald <| all_c (l_callV hh_X12_readers) <| all_c (l_callV hh_X12_named) <| all_c l_ist <| all_c l_ild <| all_c l_iflt <| all_c l_ild <| all_c l_ild <| all_c l_cmpeq <| all_c l_ild <| all_c l_ild <|
  all_c (l_callS hh_X12_has) <| all_c l_ifeq <| all_c l_ald <| all_c l_ild <| all_c l_ic <| all_c l_cmpne <| all_c l_ic <| all_c l_goto <| all_c l_ic <| all_c (l_callV hh_X12_bad) <| all_c l_zret <| all_c l_ild <| all_c l_ic <| all_c l_ild <| all_c l_ishl <| all_c l_ior <| all_c l_ist <| all_c l_ald <| all_c (l_callV hh_X12_go) <| all_c l_ald <| all_c l_gI <| all_c l_ic <|
  all_c (l_aft l_cmpeq) <| all_c l_ald <| all_c l_ild <| all_c l_pI <| all_c l_ic <| all_c l_zret <| all_n
theorem hh_X12_readListeners : RspF_ (f_X12_readListeners KC) := rsp_fn hp_X12_readListeners
set_option maxRecDepth 100000 in
theorem hp_X12_readAct : All_ (fun _ o => Loc_ o) (P_X12_readAct KC) :=
  all_c l_ald <| all_c l_ic <| all_c l_ald <| all_c (l_callV hh_X12_readers) <| all_c (l_callV hh_X12_named) <| all_c l_ist <| all_c l_ild <| all_c l_ifge <| all_c l_ald <| all_c l_ild <| all_c l_ic <| all_c l_cmpne <| all_c l_ic <| all_c l_goto <| all_c l_ic <| all_c (l_callV hh_X12_bad) <| all_c l_zret <| all_c l_ald <| all_c l_gI <| all_c l_ic <| all_c l_cmpne <| all_c l_ald <| all_c l_ic <|
  all_c (l_callV hh_X12_bad) <| all_c l_zret <| all_c l_ald <| all_c (l_callV hh_X12_go) <| all_c l_ald <| all_c l_ic <| all_c (l_callV hh_X12_isWord) <| all_c l_ist <| all_c l_ild <| all_c (l_aft l_ifne) <| all_c l_ald <| all_c l_ic <| all_c (l_callV hh_X12_isWord) <| all_c (l_aft l_ifne) <| all_c l_ald <| all_c l_ic <| all_c (l_callV hh_X12_bad) <| all_c l_zret <| all_c l_ald <|
  all_c (l_callV hh_X12_go) <| all_c l_ald <| all_c l_ic <| all_c l_ald <| all_c (l_callV hh_X12_chaps) <| all_c (l_callV hh_X12_readNamed) <| all_c l_ifne <| all_c l_ic <| all_c l_zret <| all_c l_ald <| all_c l_gI <| all_c l_ist <| all_c l_ild <| all_c l_ifne <| all_c l_ald <| all_c l_ild <| all_c l_ild <| all_c l_ic <| all_c l_ic <| all_c (l_callV hh_X12_addAct) <| all_c l_pop <| all_c l_ald <|
  all_c (l_callV hh_X12_readEnd) <| all_c l_zret <| all_c l_ald <| all_c l_ic <| all_c l_ic <| all_c (l_callV hh_X12_readNumber) <| all_c l_ifne <| all_c l_ic <| all_c l_zret <| all_c l_ald <| all_c l_gI <| all_c l_ist <| all_c l_ald <| all_c l_ic <| all_c (l_callV hh_X12_isWord) <| all_c l_ifne <| all_c l_ald <| all_c l_ic <| all_c (l_callV hh_X12_bad) <| all_c l_zret <| all_c l_ald <|
  all_c (l_callV hh_X12_go) <| all_c l_ald <| all_c l_ild <| all_c (l_callV hh_X12_readListeners) <| all_c l_ifne <| all_c l_ic <| all_c l_zret <| all_c l_ald <| all_c l_ild <| all_c l_ild <| all_c l_ild <| all_c l_ald <| all_c l_gI <| all_c (l_callV hh_X12_addAct) <| all_c l_pop <| all_c l_ald <| all_c (l_callV hh_X12_readEnd) <| all_c l_zret <| all_n
theorem hh_X12_readAct : RspF_ (f_X12_readAct KC) := rsp_fn hp_X12_readAct
set_option maxRecDepth 100000 in
theorem hp_X12_plan : All_ (fun _ o => Loc_ o) (P_X12_plan KC) :=
  all_c l_ald <| all_c l_ic <| all_c (l_callV hh_X12_begin) <| all_c l_ald <| all_c l_ic <| all_c l_pI <| all_c l_ald <| all_c l_gI <| all_c l_ifeq <| all_c l_ald <| all_c (l_callV hh_X12_readAct) <| all_c l_ifne <| all_c l_ic <| all_c l_ald <| all_c l_gI <| all_c l_isub <| all_c l_iret <| all_c l_ald <| all_c (l_callV hh_X12_plans) <| all_c l_iret <| all_n
theorem hh_X12_plan : RspF_ (f_X12_plan KC) := rsp_fn hp_X12_plan
set_option maxRecDepth 100000 in
theorem hp_X12_act : All_ (fun _ o => Loc_ o) (P_X12_act KC) :=
  all_c l_ald <| all_c (l_callV hh_X12_lay) <| all_c l_ild <| all_c l_iflt <| all_c l_ild <| all_c l_ald <| all_c l_gF <| all_c l_ic <| all_c l_iald <| all_c l_cmpge <| all_c l_ild <| all_c l_ic <| all_c l_ic <| all_c (l_callS hh_X12_isIn) <| all_c l_ifne <| all_c l_ald <| all_c (l_callV hh_X12_refuse) <| all_c l_iret <| all_c l_ald <| all_c l_ic <| all_c l_pI <| all_c l_ald <| all_c l_gF <|
  all_c l_ic <| all_c l_ic <| all_c l_ild <| all_c l_imul <| all_c l_iadd <| all_c l_ild <| all_c l_iadd <| all_c l_iald <| all_c l_iret <| all_n
theorem hh_X12_act : RspF_ (f_X12_act KC) := rsp_fn hp_X12_act
set_option maxRecDepth 100000 in
theorem hp_X12_dawn : All_ (fun _ o => Loc_ o) (P_X12_dawn KC) :=
  all_c l_ic <| all_c l_ist <| all_c l_ild <| all_c l_ic <| all_c l_cmpge <| all_c l_ald <| all_c l_gF <| all_c l_ild <| all_c l_ic <| all_c l_iast <| all_c l_inc <| all_c l_goto <| all_c l_ic <| all_c l_ist <| all_c l_ild <| all_c l_ald <| all_c (l_callV hh_X12_readers) <| all_c l_cmpge <| all_c l_ald <| all_c l_gF <| all_c l_ild <| all_c l_ald <| all_c l_ild <| all_c l_ic <|
  all_c (l_callV hh_X12_readerOf) <| all_c l_iast <| all_c l_ald <| all_c l_gF <| all_c l_ild <| all_c l_ic <| all_c l_iast <| all_c l_ald <| all_c l_gF <| all_c l_ild <| all_c l_ic <| all_c l_iast <| all_c l_inc <| all_c l_goto <| all_c l_vret <| all_n
theorem hh_X12_dawn : RspF_ (f_X12_dawn KC) := rsp_fn hp_X12_dawn
set_option maxRecDepth 100000 in
theorem hp_X12_lackOf : All_ (fun _ o => Loc_ o) (P_X12_lackOf KC) :=
  all_c l_ic <| all_c l_ist <| all_c l_ic <| all_c l_ist <| all_c l_ild <| all_c l_ild <| all_c l_cmpge <| all_c l_ild <| all_c l_ald <| all_c l_ild <| all_c l_ild <| all_c (l_callV hh_X12_leanOf) <| all_c l_ic <| all_c l_ald <| all_c l_gF <| all_c l_ic <| all_c l_ild <| all_c l_imul <| all_c l_ild <| all_c l_iadd <| all_c l_iald <| all_c l_isub <| all_c l_imul <| all_c l_iadd <| all_c l_ist <|
  all_c l_inc <| all_c l_goto <| all_c l_ild <| all_c l_ic <| all_c l_idiv <| all_c l_iret <| all_n
theorem hh_X12_lackOf : RspF_ (f_X12_lackOf KC) := rsp_fn hp_X12_lackOf
set_option maxRecDepth 100000 in
theorem hp_X12_up : All_ (fun _ o => Loc_ o) (P_X12_up KC) :=
  all_c l_ild <| all_c l_ild <| all_c l_iadd <| all_c l_ic <| all_c l_isub <| all_c l_ild <| all_c l_idiv <| all_c l_iret <| all_n
theorem hh_X12_up : RspF_ (f_X12_up KC) := rsp_fn hp_X12_up
set_option maxRecDepth 100000 in
theorem hp_X12_timeToRead : All_ (fun _ o => Loc_ o) (P_X12_timeToRead KC) :=
  all_c l_ald <| all_c l_ild <| all_c l_ic <| all_c (l_callV hh_X12_chapOf) <| all_c l_ald <| all_c l_ild <| all_c l_ic <| all_c (l_callV hh_X12_readerOf) <| all_c (l_callS hh_X12_up) <| all_c l_iret <| all_n
theorem hh_X12_timeToRead : RspF_ (f_X12_timeToRead KC) := rsp_fn hp_X12_timeToRead
set_option maxRecDepth 100000 in
theorem hp_X12_timeToTell : All_ (fun _ o => Loc_ o) (P_X12_timeToTell KC) :=
  all_c l_ald <| all_c l_ild <| all_c l_ic <| all_c (l_callV hh_X12_chapOf) <| all_c l_ild <| all_c l_imul <| all_c l_ic <| all_c l_ald <| all_c l_gF <| all_c l_ic <| all_c l_iald <| all_c l_imul <| all_c (l_callS hh_X12_up) <| all_c l_iret <| all_n
theorem hh_X12_timeToTell : RspF_ (f_X12_timeToTell KC) := rsp_fn hp_X12_timeToTell
set_option maxRecDepth 100000 in
theorem hp_X12_reads : All_ (fun _ o => Loc_ o) (P_X12_reads KC) :=
  all_c l_ald <| all_c l_gF <| all_c l_ild <| all_c l_dup2 <| all_c l_iald <| all_c l_ald <| all_c l_ild <| all_c l_ild <| all_c (l_callV hh_X12_timeToRead) <| all_c l_isub <| all_c l_iast <| all_c l_ic <| all_c l_ald <| all_c l_ild <| all_c l_ild <| all_c (l_callV hh_X12_lackOf) <| all_c l_ic <| all_c l_idiv <| all_c l_isub <| all_c l_ic <| all_c l_ald <| all_c l_ild <| all_c l_ic <|
  all_c (l_callV hh_X12_readerOf) <| all_c l_isub <| all_c l_imul <| all_c l_ic <| all_c l_idiv <| all_c l_ist <| all_c l_ild <| all_c l_ald <| all_c l_gF <| all_c l_ic <| all_c l_ild <| all_c l_imul <| all_c l_ild <| all_c l_iadd <| all_c l_iald <| all_c l_cmple <| all_c l_ald <| all_c l_gF <| all_c l_ic <| all_c l_ild <| all_c l_imul <| all_c l_ild <| all_c l_iadd <| all_c l_ild <|
  all_c l_iast <| all_c l_ald <| all_c l_gF <| all_c l_ild <| all_c l_dup2 <| all_c l_iald <| all_c l_ic <| all_c l_ild <| all_c l_ishl <| all_c l_ior <| all_c l_iast <| all_c l_vret <| all_n
theorem hh_X12_reads : RspF_ (f_X12_reads KC) := rsp_fn hp_X12_reads
set_option maxRecDepth 100000 in
theorem hp_X12_given : All_ (fun _ o => Loc_ o) (P_X12_given KC) :=
  all_c l_ild <| all_c l_ald <| all_c l_ild <| all_c l_ic <| all_c (l_callV hh_X12_readerOf) <| all_c l_imul <| all_c l_ic <| all_c l_idiv <| all_c l_ild <| all_c l_imul <| all_c l_ic <| all_c l_idiv <| all_c l_ald <| all_c l_ild <| all_c l_ic <| all_c (l_callV hh_X12_readerOf) <| all_c l_imul <| all_c l_ic <| all_c l_idiv <| all_c l_ist <| all_c l_ild <| all_c l_ifeq <| all_c l_ild <|
  all_c l_goto <| all_c l_ild <| all_c l_ald <| all_c l_gF <| all_c l_ic <| all_c l_iald <| all_c l_imul <| all_c l_ic <| all_c l_idiv <| all_c l_iret <| all_n
theorem hh_X12_given : RspF_ (f_X12_given KC) := rsp_fn hp_X12_given
set_option maxRecDepth 100000 in
theorem hp_X12_gets : All_ (fun _ o => Loc_ o) (P_X12_gets KC) :=
  all_c l_ald <| all_c l_ild <| all_c l_ald <| all_c l_gF <| all_c l_ic <| all_c l_ild <| all_c l_imul <| all_c l_ild <| all_c l_iadd <| all_c l_iald <| all_c l_ald <| all_c l_gF <| all_c l_ild <| all_c l_iald <| all_c l_ild <| all_c (l_callS hh_X12_has) <| all_c l_ild <| all_c l_ild <| all_c (l_callV hh_X12_given) <| all_c l_ist <| all_c l_ild <| all_c l_i2l <| all_c l_ic <| all_c l_ald <|
  all_c l_ild <| all_c l_ild <| all_c (l_callV hh_X12_lackOf) <| all_c l_isub <| all_c l_i2l <| all_c l_lmul <| all_c l_lc <| all_c l_ldiv <| all_c l_l2i <| all_c l_ist <| all_c l_ald <| all_c l_gF <| all_c l_ic <| all_c l_ild <| all_c l_imul <| all_c l_ild <| all_c l_iadd <| all_c l_iald <| all_c l_ist <| all_c l_ald <| all_c l_gF <| all_c l_ic <| all_c l_ild <| all_c l_imul <| all_c l_ild <|
  all_c l_iadd <| all_c l_ild <| all_c l_ic <| all_c l_ild <| all_c l_isub <| all_c l_i2l <| all_c l_ild <| all_c l_i2l <| all_c l_lmul <| all_c l_lc <| all_c l_ldiv <| all_c l_l2i <| all_c l_iadd <| all_c l_iast <| all_c l_ald <| all_c l_gF <| all_c l_ild <| all_c l_dup2 <| all_c l_iald <| all_c l_ic <| all_c l_ild <| all_c l_ishl <| all_c l_ior <| all_c l_iast <| all_c l_vret <| all_n
theorem hh_X12_gets : RspF_ (f_X12_gets KC) := rsp_fn hp_X12_gets
set_option maxRecDepth 100000 in
theorem hp_X12_wrong : All_ (fun _ o => Loc_ o) (P_X12_wrong KC) :=
  all_c l_ild <| all_c l_ifne <| all_c l_ald <| all_c l_gF <| all_c l_ild <| all_c l_iald <| all_c l_ald <| all_c l_ild <| all_c l_ild <| all_c (l_callV hh_X12_timeToRead) <| all_c l_cmpge <| all_c l_ic <| all_c l_goto <| all_c l_ic <| all_c l_iret <| all_c l_ald <| all_c l_ild <| all_c l_ild <| all_c (l_callV hh_X12_timeToTell) <| all_c l_ist <| all_c l_ald <| all_c l_gF <| all_c l_ild <|
  all_c l_iald <| all_c l_ild <| all_c l_cmpge <| all_c l_ic <| all_c l_iret <| all_c l_ic <| all_c l_ist <| all_c l_ild <| all_c l_ald <| all_c (l_callV hh_X12_readers) <| all_c l_cmpge <| all_c l_ild <| all_c l_ild <| all_c (l_callS hh_X12_has) <| all_c l_ifeq <| all_c l_ald <| all_c l_gF <| all_c l_ild <| all_c l_iald <| all_c l_ild <| all_c l_cmpge <| all_c l_ic <| all_c l_iret <|
  all_c l_inc <| all_c l_goto <| all_c l_ald <| all_c l_gF <| all_c l_ic <| all_c l_ild <| all_c l_imul <| all_c l_ild <| all_c l_iadd <| all_c l_iald <| all_c l_ifne <| all_c l_ic <| all_c l_goto <| all_c l_ic <| all_c l_iret <| all_n
theorem hh_X12_wrong : RspF_ (f_X12_wrong KC) := rsp_fn hp_X12_wrong
set_option maxRecDepth 100000 in
theorem hp_X12_does : All_ (fun _ o => Loc_ o) (P_X12_does KC) :=
  all_c l_ild <| all_c l_ifne <| all_c l_ald <| all_c l_ild <| all_c l_ild <| all_c (l_callV hh_X12_reads) <| all_c l_vret <| all_c l_ald <| all_c l_ild <| all_c l_ild <| all_c (l_callV hh_X12_timeToTell) <| all_c l_ist <| all_c l_ald <| all_c l_gF <| all_c l_ild <| all_c l_dup2 <| all_c l_iald <| all_c l_ild <| all_c l_isub <| all_c l_iast <| all_c l_ic <| all_c l_ist <| all_c l_ild <|
  all_c l_ald <| all_c (l_callV hh_X12_readers) <| all_c l_cmpge <| all_c l_ild <| all_c l_ild <| all_c (l_callS hh_X12_has) <| all_c l_ifne <| all_c l_goto <| all_c l_ald <| all_c l_gF <| all_c l_ild <| all_c l_dup2 <| all_c l_iald <| all_c l_ild <| all_c l_isub <| all_c l_iast <| all_c l_ald <| all_c l_ild <| all_c l_ild <| all_c l_ild <| all_c l_ild <| all_c (l_callV hh_X12_gets) <|
  all_c l_inc <| all_c l_goto <| all_c l_vret <| all_n
theorem hh_X12_does : RspF_ (f_X12_does KC) := rsp_fn hp_X12_does
set_option maxRecDepth 100000 in
theorem hp_X12_night : All_ (fun _ o => Loc_ o) (P_X12_night KC) :=
  all_c l_ald <| all_c (l_callV hh_X12_lay) <| all_c l_ald <| all_c (l_callV hh_X12_dawn) <| all_c l_ald <| all_c l_ic <| all_c l_pI <| all_c l_ald <| all_c l_ic <| all_c l_pI <| all_c l_ic <| all_c (l_aft l_ist) <| all_c l_ild <| all_c l_ald <| all_c l_gF <| all_c l_ic <| all_c l_iald <| all_c l_cmpge <| all_c l_ic <| all_c l_ic <| all_c l_ild <| all_c l_imul <| all_c l_iadd <| all_c l_ist <|
  all_c l_ald <| all_c l_ald <| all_c l_ald <| all_c l_gF <| all_c l_ild <| all_c l_iald <| all_c l_ald <| all_c l_gF <| all_c l_ild <| all_c l_ic <| all_c l_iadd <| all_c l_iald <| all_c l_ald <| all_c l_gF <| all_c l_ild <| all_c l_ic <| all_c l_iadd <| all_c l_iald <| all_c l_ald <| all_c l_gF <| all_c l_ild <| all_c l_ic <| all_c l_iadd <| all_c l_iald <| all_c (l_callV hh_X12_wrong) <|
  all_c l_pI <| all_c l_ald <| all_c l_gI <| all_c l_ifeq <| all_c l_ald <| all_c l_ild <| all_c l_pI <| all_c l_vret <| all_c l_ald <| all_c l_ald <| all_c l_gF <| all_c l_ild <| all_c l_iald <| all_c l_ald <| all_c l_gF <| all_c l_ild <| all_c l_ic <| all_c l_iadd <| all_c l_iald <| all_c l_ald <| all_c l_gF <| all_c l_ild <| all_c l_ic <| all_c l_iadd <| all_c l_iald <| all_c l_ald <|
  all_c l_gF <| all_c l_ild <| all_c l_ic <| all_c l_iadd <| all_c l_iald <| all_c (l_callV hh_X12_does) <| all_c l_inc <| all_c (l_aft l_goto) <| all_c l_vret <| all_n
theorem hh_X12_night : RspF_ (f_X12_night KC) := rsp_fn hp_X12_night
set_option maxRecDepth 100000 in
theorem hp_X12_inAll : All_ (fun _ o => Loc_ o) (P_X12_inAll KC) :=
  all_c l_ic <| all_c l_ist <| all_c l_ic <| all_c l_ist <| all_c l_ild <| all_c l_ald <| all_c (l_callV hh_X12_chaps) <| all_c l_cmpge <| all_c l_ild <| all_c l_ald <| all_c l_ild <| all_c l_ic <| all_c (l_callV hh_X12_chapOf) <| all_c l_i2l <| all_c l_ald <| all_c l_gF <| all_c l_ic <| all_c l_ild <| all_c l_imul <| all_c l_ild <| all_c l_iadd <| all_c l_iald <| all_c l_i2l <| all_c l_lmul <|
  all_c l_lc <| all_c l_ldiv <| all_c l_l2i <| all_c l_iadd <| all_c l_ist <| all_c l_inc <| all_c l_goto <| all_c l_ild <| all_c l_iret <| all_n
theorem hh_X12_inAll : RspF_ (f_X12_inAll KC) := rsp_fn hp_X12_inAll
set_option maxRecDepth 100000 in
theorem hp_X12_sum : All_ (fun _ o => Loc_ o) (P_X12_sum KC) :=
  all_c l_ic <| all_c l_ist <| all_c l_ic <| all_c l_ist <| all_c l_ild <| all_c l_ild <| all_c l_cmpge <| all_c l_ild <| all_c l_ald <| all_c l_ild <| all_c (l_callV hh_X12_inAll) <| all_c l_iadd <| all_c l_ist <| all_c l_inc <| all_c l_goto <| all_c l_ild <| all_c l_iret <| all_n
theorem hh_X12_sum : RspF_ (f_X12_sum KC) := rsp_fn hp_X12_sum
set_option maxRecDepth 100000 in
theorem hp_X12_run : All_ (fun _ o => Loc_ o) (P_X12_run KC) :=
  all_c l_ald <| all_c l_ic <| all_c l_pI <| all_c l_ald <| all_c (l_callV hh_X12_night) <| all_c l_ald <| all_c l_ald <| all_c l_gI <| all_c l_pI <| all_c l_ald <| all_c l_gI <| all_c l_iret <| all_n
theorem hh_X12_run : RspF_ (f_X12_run KC) := rsp_fn hp_X12_run
set_option maxRecDepth 100000 in
theorem hp_X12_why : All_ (fun _ o => Loc_ o) (P_X12_why KC) :=
  all_c l_ald <| all_c l_ic <| all_c l_pI <| all_c l_ald <| all_c l_gI <| all_c l_iret <| all_n
theorem hh_X12_why : RspF_ (f_X12_why KC) := rsp_fn hp_X12_why
set_option maxRecDepth 100000 in
theorem hp_X12_known : All_ (fun _ o => Loc_ o) (P_X12_known KC) :=
  all_c l_ald <| all_c l_ic <| all_c l_pI <| all_c l_ald <| all_c (l_callV hh_X12_night) <| all_c l_ald <| all_c l_ild <| all_c (l_callV hh_X12_isReader) <| all_c l_ifeq <| all_c l_ald <| all_c l_ild <| all_c (l_callV hh_X12_isChap) <| all_c l_ifeq <| all_c l_ald <| all_c l_gF <| all_c l_ic <| all_c l_ild <| all_c l_imul <| all_c l_ild <| all_c l_iadd <| all_c l_iald <| all_c l_goto <|
  all_c l_ic <| all_c l_iret <| all_n
theorem hh_X12_known : RspF_ (f_X12_known KC) := rsp_fn hp_X12_known
set_option maxRecDepth 100000 in
theorem hp_X12_after : All_ (fun _ o => Loc_ o) (P_X12_after KC) :=
  all_c l_ald <| all_c l_ic <| all_c l_pI <| all_c l_ald <| all_c (l_callV hh_X12_night) <| all_c l_ald <| all_c l_ild <| all_c (l_callV hh_X12_isReader) <| all_c l_ifeq <| all_c l_ild <| all_c l_ic <| all_c l_ic <| all_c (l_callS hh_X12_isIn) <| all_c l_ifne <| all_c l_ic <| all_c l_iret <| all_c l_ild <| all_c l_ifne <| all_c l_ald <| all_c l_gF <| all_c l_ild <| all_c l_iald <| all_c l_goto <|
  all_c l_ild <| all_c l_ic <| all_c l_cmpne <| all_c l_ald <| all_c l_ild <| all_c (l_callV hh_X12_inAll) <| all_c l_goto <| all_c l_ild <| all_c l_ic <| all_c l_cmpne <| all_c l_ald <| all_c l_gF <| all_c l_ild <| all_c l_iald <| all_c l_goto <| all_c l_ald <| all_c l_gF <| all_c l_ild <| all_c l_iald <| all_c l_iret <| all_n
theorem hh_X12_after : RspF_ (f_X12_after KC) := rsp_fn hp_X12_after
set_option maxRecDepth 100000 in
theorem hp_X12_lacking : All_ (fun _ o => Loc_ o) (P_X12_lacking KC) :=
  all_c l_ic <| all_c l_ist <| all_c l_ic <| all_c (l_aft l_ist) <| all_c l_ild <| all_c l_ald <| all_c (l_callV hh_X12_chaps) <| all_c l_cmpge <| all_c l_ic <| all_c l_ist <| all_c l_ic <| all_c l_ist <| all_c l_ild <| all_c l_ald <| all_c (l_callV hh_X12_readers) <| all_c l_cmpge <| all_c l_ild <| all_c l_ifne <| all_c l_ic <| all_c l_ald <| all_c l_gF <| all_c l_ic <| all_c l_ild <|
  all_c l_imul <| all_c l_ild <| all_c l_iadd <| all_c l_iald <| all_c l_imul <| all_c l_ic <| all_c l_cmplt <| all_c l_ic <| all_c l_goto <| all_c l_ic <| all_c l_ist <| all_c l_inc <| all_c l_goto <| all_c l_ild <| all_c l_ifne <| all_c l_ild <| all_c l_ic <| all_c l_ild <| all_c l_ishl <| all_c l_ior <| all_c l_ist <| all_c l_inc <| all_c (l_aft l_goto) <| all_c l_ild <| all_c l_iret <| all_n
theorem hh_X12_lacking : RspF_ (f_X12_lacking KC) := rsp_fn hp_X12_lacking
set_option maxRecDepth 100000 in
theorem hp_X12_all : All_ (fun _ o => Loc_ o) (P_X12_all KC) :=
  all_c l_ald <| all_c l_ic <| all_c l_pI <| all_c l_ald <| all_c (l_callV hh_X12_night) <| all_c l_ild <| all_c l_ifne <| all_c l_ald <| all_c l_ald <| all_c (l_callV hh_X12_readers) <| all_c (l_callV hh_X12_sum) <| all_c l_iret <| all_c l_ild <| all_c l_ic <| all_c l_cmpne <| all_c l_ald <| all_c (l_callV hh_X12_lacking) <| all_c l_iret <| all_c l_ild <| all_c l_ic <| all_c l_cmpne <|
  all_c l_ald <| all_c (l_callV hh_X12_readers) <| all_c l_ifne <| all_c l_ic <| all_c l_goto <| all_c l_ic <| all_c l_ist <| all_c l_ic <| all_c (l_aft l_ist) <| all_c l_ild <| all_c l_ald <| all_c (l_callV hh_X12_readers) <| all_c l_cmpge <| all_c l_ald <| all_c l_ild <| all_c (l_callV hh_X12_inAll) <| all_c l_ald <| all_c l_ild <| all_c (l_callV hh_X12_inAll) <| all_c l_cmple <| all_c l_ild <|
  all_c l_ist <| all_c l_inc <| all_c (l_aft l_goto) <| all_c l_ild <| all_c l_iret <| all_c l_ild <| all_c l_ic <| all_c l_cmpeq <| all_c l_ic <| all_c l_iret <| all_c l_ic <| all_c l_ist <| all_c l_ic <| all_c (l_aft l_ist) <| all_c l_ild <| all_c l_ald <| all_c (l_callV hh_X12_readers) <| all_c l_cmpge <| all_c l_ic <| all_c l_ist <| all_c l_ild <| all_c l_ald <|
  all_c (l_callV hh_X12_chaps) <| all_c l_cmpge <| all_c l_ald <| all_c l_ild <| all_c l_ic <| all_c (l_callV hh_X12_chapOf) <| all_c l_ic <| all_c l_cmpne <| all_c l_ald <| all_c l_gF <| all_c l_ild <| all_c l_iald <| all_c l_ild <| all_c (l_callS hh_X12_has) <| all_c l_ifne <| all_c l_inc <| all_c l_inc <| all_c l_goto <| all_c l_inc <| all_c (l_aft l_goto) <| all_c l_ild <| all_c l_iret <| all_n
theorem hh_X12_all : RspF_ (f_X12_all KC) := rsp_fn hp_X12_all
set_option maxRecDepth 100000 in
theorem hp_X12_tries : All_ (fun _ o => Loc_ o) (P_X12_tries KC) :=
  all_c l_ald <| all_c l_ild <| all_c l_ild <| all_c l_ild <| all_c l_ild <| all_c (l_callV hh_X12_wrong) <| all_c l_ifne <| all_c l_ald <| all_c l_ild <| all_c l_ild <| all_c l_ild <| all_c l_ild <| all_c (l_callV hh_X12_addAct) <| all_c l_ifne <| all_c l_ic <| all_c l_zret <| all_c l_ald <| all_c l_ild <| all_c l_ild <| all_c l_ild <| all_c l_ild <| all_c (l_callV hh_X12_does) <| all_c l_ic <|
  all_c l_zret <| all_n
theorem hh_X12_tries : RspF_ (f_X12_tries KC) := rsp_fn hp_X12_tries
set_option maxRecDepth 100000 in
theorem hp_X12_makeRows : All_ (fun _ o => Loc_ o) (P_X12_makeRows KC) :=
  all_c l_ic <| all_c l_ist <| all_c l_ic <| all_c l_ist <| all_c l_ild <| all_c l_ald <| all_c (l_callV hh_X12_chaps) <| all_c l_cmpge <| all_c l_ild <| all_c l_ald <| all_c (l_callV hh_X12_readers) <| all_c l_cmpge <| all_c l_ald <| all_c l_gF <| all_c l_ild <| all_c l_iald <| all_c l_ald <| all_c l_ild <| all_c l_ild <| all_c (l_callV hh_X12_timeToRead) <| all_c l_cmpge <| all_c l_inc <|
  all_c l_goto <| all_c l_ild <| all_c l_ald <| all_c (l_callV hh_X12_readers) <| all_c l_cmpne <| all_c l_vret <| all_c l_ald <| all_c l_ild <| all_c l_ild <| all_c l_ic <| all_c l_ic <| all_c (l_callV hh_X12_tries) <| all_c l_pop <| all_c l_inc <| all_c l_goto <| all_c l_vret <| all_n
theorem hh_X12_makeRows : RspF_ (f_X12_makeRows KC) := rsp_fn hp_X12_makeRows
