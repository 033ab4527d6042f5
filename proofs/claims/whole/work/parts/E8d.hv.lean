set_option maxRecDepth 100000 in
theorem hp_X9_readFrom : All_ (fun _ o => Loc_ o) (P_X9_readFrom KC) :=
  all_c l_ald <| all_c (l_callV hh_X9_clear) <| all_c l_ald <| all_c l_ald <| all_c l_ald <| all_c l_ic <| all_c (l_callV (hh_X9_readCond 80)) <| all_c l_ifne <| all_c l_ic <| all_c l_zret <| all_c l_ald <| all_c l_gI <| all_c l_ifeq <| all_c l_ald <| all_c l_ic <| all_c (l_callV hh_X8_fail) <| all_c l_ifeq <| all_c l_ic <| all_c l_goto <| all_c l_ic <| all_c l_zret <| all_n
theorem hh_X9_readFrom : RspF_ (f_X9_readFrom KC) := rsp_fn hp_X9_readFrom
set_option maxRecDepth 100000 in
theorem hp_X9_compares : All_ (fun _ o => Loc_ o) (P_X9_compares KC) :=
  all_c l_ald <| all_c l_gF <| all_c l_ild <| all_c l_iald <| all_c l_lsw <| all_c l_ild <| all_c l_ald <| all_c l_gF <| all_c l_ild <| all_c l_iald <| all_c l_cmpge <| all_c l_ic <| all_c l_goto <| all_c l_ic <| all_c l_zret <| all_c l_ild <| all_c l_ald <| all_c l_gF <| all_c l_ild <| all_c l_iald <| all_c l_cmple <| all_c l_ic <| all_c l_goto <| all_c l_ic <| all_c l_zret <| all_c l_ild <|
  all_c l_ald <| all_c l_gF <| all_c l_ild <| all_c l_iald <| all_c l_cmpne <| all_c l_ic <| all_c l_goto <| all_c l_ic <| all_c l_zret <| all_n
theorem hh_X9_compares : RspF_ (f_X9_compares KC) := rsp_fn hp_X9_compares
set_option maxRecDepth 100000 in
theorem hp_X9_isSo : All_ (fun _ o => Loc_ o) (P_X9_isSo KC) :=
  all_c l_ald <| all_c l_gF <| all_c l_ild <| all_c l_iald <| all_c l_tsw <| all_c l_ald <| all_c l_gF <| all_c l_ild <| all_c l_iald <| all_c l_ald <| all_c l_gF <| all_c l_ild <| all_c l_iald <| all_c l_ishr <| all_c l_ic <| all_c l_iand <| all_c l_ifeq <| all_c l_ic <| all_c l_goto <| all_c l_ic <| all_c l_zret <| all_c l_ald <| all_c l_gF <| all_c l_ild <| all_c l_iald <| all_c l_ald <|
  all_c l_gF <| all_c l_ild <| all_c l_iald <| all_c l_ishr <| all_c l_ic <| all_c l_iand <| all_c l_ifeq <| all_c l_ic <| all_c l_goto <| all_c l_ic <| all_c l_zret <| all_c l_ald <| all_c l_ald <| all_c l_gF <| all_c l_ild <| all_c l_ic <| all_c l_imul <| all_c l_ald <| all_c l_gF <| all_c l_ild <| all_c l_iald <| all_c l_iadd <| all_c l_iald <| all_c l_ic <| all_c l_idiv <| all_c l_ild <|
  all_c (l_callV hh_X9_compares) <| all_c l_zret <| all_c l_ald <| all_c l_ald <| all_c l_ild <| all_c (l_callV hh_X5_inAll) <| all_c l_ild <| all_c (l_callV hh_X9_compares) <| all_c l_zret <| all_c l_ald <| all_c l_ald <| all_c l_gF <| all_c l_ild <| all_c l_iald <| all_c l_ild <| all_c (l_callV hh_X9_compares) <| all_c l_zret <| all_c l_ald <| all_c l_ald <| all_c l_gF <| all_c l_ild <|
  all_c l_iald <| all_c (l_callS hh_J6_bitCount_0f7a4) <| all_c l_ild <| all_c (l_callV hh_X9_compares) <| all_c l_zret <| all_n
theorem hh_X9_isSo : RspF_ (f_X9_isSo KC) := rsp_fn hp_X9_isSo
set_option maxRecDepth 100000 in
theorem hp_X9_holds : All_ (fun _ o => Loc_ o) (P_X9_holds KC) :=
  all_c l_ic <| all_c l_ist <| all_c l_ic <| all_c (l_aft l_ist) <| all_c l_ild <| all_c l_ald <| all_c l_gI <| all_c l_cmpge <| all_c l_ild <| all_c l_ic <| all_c l_iand <| all_c l_ist <| all_c l_ald <| all_c l_gF <| all_c l_ild <| all_c l_iald <| all_c l_tsw <| all_c l_ild <| all_c l_ic <| all_c l_ixor <| all_c l_ist <| all_c l_goto <| all_c l_ild <| all_c l_ic <| all_c l_ishr <| all_c l_ild <|
  all_c l_ic <| all_c l_ior <| all_c l_iand <| all_c l_ist <| all_c l_goto <| all_c l_ild <| all_c l_ic <| all_c l_ishr <| all_c l_ild <| all_c l_ior <| all_c l_ist <| all_c l_goto <| all_c l_ild <| all_c l_ic <| all_c l_ishl <| all_c l_ald <| all_c l_ald <| all_c l_ild <| all_c l_ild <| all_c (l_callV hh_X9_isSo) <| all_c l_ifeq <| all_c l_ic <| all_c l_goto <| all_c l_ic <| all_c l_ior <|
  all_c l_ist <| all_c l_inc <| all_c (l_aft l_goto) <| all_c l_ild <| all_c l_ic <| all_c l_iand <| all_c l_ifeq <| all_c l_ic <| all_c l_goto <| all_c l_ic <| all_c l_zret <| all_n
theorem hh_X9_holds : RspF_ (f_X9_holds KC) := rsp_fn hp_X9_holds
set_option maxRecDepth 100000 in
theorem hp_X10_mostOfRest : All_ (fun _ o => Loc_ o) (P_X10_mostOfRest KC) :=
  all_c l_ic <| all_c l_ist <| all_c l_ild <| all_c l_ist <| all_c l_ild <| all_c l_ald <| all_c l_gI <| all_c l_cmpge <| all_c l_ild <| all_c l_ald <| all_c l_gR <| all_c l_gF <| all_c l_ild <| all_c l_iald <| all_c l_iadd <| all_c l_ist <| all_c l_inc <| all_c l_goto <| all_c l_ild <| all_c l_ald <| all_c l_gI <| all_c l_imul <| all_c l_iret <| all_n
theorem hh_X10_mostOfRest : RspF_ (f_X10_mostOfRest KC) := rsp_fn hp_X10_mostOfRest
set_option maxRecDepth 100000 in
theorem hp_X10_worthIfReadBy : All_ (fun _ o => Loc_ o) (P_X10_worthIfReadBy KC) :=
  all_c l_ald <| all_c l_gR <| all_c l_ild <| all_c l_ald <| all_c l_gR <| all_c l_ild <| all_c l_ald <| all_c l_gF <| all_c l_ild <| all_c l_ic <| all_c l_imul <| all_c (l_callV hh_X0_lackAt) <| all_c (l_callV hh_X0_partsRead) <| all_c l_ist <| all_c l_ic <| all_c l_ist <| all_c l_ic <| all_c (l_aft l_ist) <| all_c l_ild <| all_c l_ald <| all_c l_gI <| all_c l_cmpge <| all_c l_ild <|
  all_c l_ic <| all_c l_imul <| all_c l_ist <| all_c l_ild <| all_c l_ild <| all_c l_cmpne <| all_c l_ald <| all_c l_gF <| all_c l_ild <| all_c l_ild <| all_c l_iadd <| all_c l_ild <| all_c l_iast <| all_c l_ald <| all_c l_gF <| all_c l_ild <| all_c l_ild <| all_c l_iadd <| all_c l_ild <| all_c l_iast <| all_c (l_aft l_goto) <| all_c l_ald <| all_c l_gR <| all_c l_ild <| all_c l_ald <|
  all_c l_gF <| all_c l_ild <| all_c (l_callV hh_X0_lackAt) <| all_c l_ist <| all_c l_ald <| all_c l_gF <| all_c l_ild <| all_c l_ild <| all_c l_iadd <| all_c l_ic <| all_c l_iast <| all_c l_ald <| all_c l_gF <| all_c l_ild <| all_c l_ild <| all_c l_iadd <| all_c l_ald <| all_c l_gR <| all_c l_ild <| all_c l_ild <| all_c l_ic <| all_c l_ild <| all_c (l_callV hh_X0_partsTold) <| all_c l_ic <|
  all_c l_ild <| all_c l_isub <| all_c (l_callS hh_X0_ofMillion) <| all_c (l_aft l_iast) <| all_c l_ild <| all_c l_ald <| all_c l_gR <| all_c l_gF <| all_c l_ild <| all_c l_iald <| all_c l_ald <| all_c l_gF <| all_c l_ild <| all_c l_ild <| all_c l_iadd <| all_c l_iald <| all_c (l_callS hh_X0_ofMillion) <| all_c l_iadd <| all_c l_ist <| all_c l_inc <| all_c (l_aft l_goto) <| all_c l_ild <|
  all_c l_iret <| all_n
theorem hh_X10_worthIfReadBy : RspF_ (f_X10_worthIfReadBy KC) := rsp_fn hp_X10_worthIfReadBy
set_option maxRecDepth 100000 in
theorem hp_X10_tryFrom {r_X10_tryFrom : Fn_} (h_X10_tryFrom : RspF_ r_X10_tryFrom) : All_ (fun _ o => Loc_ o) (P_X10_tryFrom KC r_X10_tryFrom) :=
  all_c l_ild <| all_c l_ald <| all_c l_gI <| all_c l_cmplt <| all_c l_ild <| all_c l_ald <| all_c l_gI <| all_c l_cmple <| all_c l_ald <| all_c l_ild <| all_c l_pI <| all_c l_ald <| all_c l_gF <| all_c l_ald <| all_c l_gF <| all_c l_ald <| all_c l_gI <| all_c (l_callS hh_X0_copyRow) <| all_c l_vret <| all_c l_ild <| all_c l_ald <| all_c l_ild <| all_c (l_callV hh_X10_mostOfRest) <|
  all_c l_iadd <| all_c l_ald <| all_c l_gI <| all_c l_cmpgt <| all_c l_vret <| all_c l_ic <| all_c (l_aft l_ist) <| all_c l_ild <| all_c l_ald <| all_c l_gI <| all_c l_cmpge <| all_c l_ald <| all_c l_gR <| all_c l_ild <| all_c l_ild <| all_c (l_callV hh_X0_readTime) <| all_c l_ist <| all_c l_ald <| all_c l_gF <| all_c l_ild <| all_c l_iald <| all_c l_ild <| all_c l_cmplt <| all_c l_ald <|
  all_c l_gF <| all_c l_ild <| all_c l_dup2 <| all_c l_iald <| all_c l_ild <| all_c l_isub <| all_c l_iast <| all_c l_ald <| all_c l_gF <| all_c l_ild <| all_c l_ild <| all_c l_iast <| all_c l_ald <| all_c l_ild <| all_c l_ic <| all_c l_iadd <| all_c l_ild <| all_c l_ald <| all_c l_ild <| all_c l_ild <| all_c (l_callV hh_X10_worthIfReadBy) <| all_c l_iadd <| all_c (l_callV h_X10_tryFrom) <|
  all_c l_ald <| all_c l_gF <| all_c l_ild <| all_c l_dup2 <| all_c l_iald <| all_c l_ild <| all_c l_iadd <| all_c l_iast <| all_c l_inc <| all_c (l_aft l_goto) <| all_c l_ald <| all_c l_gF <| all_c l_ild <| all_c l_ic <| all_c l_iast <| all_c l_ic <| all_c (l_aft l_ist) <| all_c l_ild <| all_c l_ald <| all_c l_gI <| all_c l_cmpge <| all_c l_ald <| all_c l_gF <| all_c l_ild <| all_c l_ic <|
  all_c l_imul <| all_c l_ild <| all_c l_iadd <| all_c l_ic <| all_c l_iast <| all_c l_ald <| all_c l_gF <| all_c l_ild <| all_c l_ic <| all_c l_imul <| all_c l_ild <| all_c l_iadd <| all_c l_ic <| all_c l_iast <| all_c l_inc <| all_c (l_aft l_goto) <| all_c l_ald <| all_c l_ild <| all_c l_ic <| all_c l_iadd <| all_c l_ild <| all_c (l_callV h_X10_tryFrom) <| all_c l_vret <| all_n
theorem hF_X10_tryFrom : ∀ d, RspF_ (F_X10_tryFrom KC d)
  | 0 => rsp_0
  | d + 1 => rsp_fn (hp_X10_tryFrom (hF_X10_tryFrom d))
theorem hh_X10_tryFrom (d : Nat) : RspF_ (f_X10_tryFrom KC d) := (hF_X10_tryFrom d)
set_option maxRecDepth 100000 in
theorem hp_X10_search : All_ (fun _ o => Loc_ o) (P_X10_search KC) :=
  all_c l_ald <| all_c l_ald <| all_c l_pR <| all_c l_ald <| all_c l_ild <| all_c l_pI <| all_c l_ald <| all_c l_ild <| all_c l_pI <| all_c l_ald <| all_c l_ald <| all_c l_gI <| all_c l_pI <| all_c l_ald <| all_c l_ic <| all_c l_pI <| all_c l_ic <| all_c l_ist <| all_c l_ild <| all_c l_ald <| all_c l_gI <| all_c l_cmpge <| all_c l_ald <| all_c l_gF <| all_c l_ild <| all_c l_ald <| all_c l_gR <|
  all_c l_gF <| all_c l_ild <| all_c l_iald <| all_c l_iast <| all_c l_inc <| all_c l_goto <| all_c l_ald <| all_c l_ic <| all_c l_ic <| all_c (l_callV (hh_X10_tryFrom 80)) <| all_c l_ald <| all_c l_gI <| all_c l_iret <| all_n
theorem hh_X10_search : RspF_ (f_X10_search KC) := rsp_fn hp_X10_search
set_option maxRecDepth 100000 in
theorem hp_X11_feed : All_ (fun _ o => Loc_ o) (P_X11_feed KC) :=
  all_c l_ald <| all_c l_gF <| all_c l_ic <| all_c (l_callV hh_X8_hasRoom) <| all_c l_ifne <| all_c l_ic <| all_c l_iret <| all_c l_ald <| all_c l_gF <| all_c l_ild <| all_c (l_callV hh_X8_append) <| all_c l_ald <| all_c l_gF <| all_c l_ild <| all_c (l_callV hh_X8_append) <| all_c l_ald <| all_c l_gF <| all_c l_ild <| all_c (l_callV hh_X8_append) <| all_c l_ald <| all_c l_gF <| all_c l_ild <|
  all_c (l_callV hh_X8_append) <| all_c l_ald <| all_c l_gF <| all_c l_ild <| all_c (l_callV hh_X8_append) <| all_c l_ald <| all_c l_gF <| all_c l_gI <| all_c l_iret <| all_n
theorem hh_X11_feed : RspF_ (f_X11_feed KC) := rsp_fn hp_X11_feed
set_option maxRecDepth 100000 in
theorem hp_X11_end : All_ (fun _ o => Loc_ o) (P_X11_end KC) :=
  all_c l_ild <| all_c l_iflt <| all_c l_ild <| all_c l_ald <| all_c l_gF <| all_c l_gI <| all_c l_cmple <| all_c l_ic <| all_c l_zret <| all_c l_ald <| all_c l_gF <| all_c l_ild <| all_c l_pI <| all_c l_ic <| all_c l_zret <| all_n
theorem hh_X11_end : RspF_ (f_X11_end KC) := rsp_fn hp_X11_end
set_option maxRecDepth 100000 in
theorem hp_X11_book : All_ (fun _ o => Loc_ o) (P_X11_book KC) :=
  all_c l_ald <| all_c l_gF <| all_c l_ic <| all_c (l_callV hh_X8_start) <| all_c l_ald <| all_c l_gR <| all_c l_ald <| all_c l_gF <| all_c (l_callV hh_X0_readFrom) <| all_c l_ist <| all_c l_ald <| all_c l_gF <| all_c l_ic <| all_c l_pI <| all_c l_ild <| all_c l_ifne <| all_c l_ald <| all_c l_gF <| all_c (l_callV hh_X8_faultAnswer) <| all_c l_iret <| all_c l_ald <| all_c l_gR <| all_c l_ast <|
  all_c l_ald <| all_c l_ald <| all_c l_gR <| all_c l_pR <| all_c l_ald <| all_c l_ald <| all_c l_pR <| all_c l_ald <| all_c l_gR <| all_c (l_callV hh_X6_clear) <| all_c l_ald <| all_c l_gR <| all_c (l_callV hh_X9_clear) <| all_c l_ald <| all_c l_ic <| all_c l_pZ <| all_c l_ald <| all_c l_gR <| all_c l_gI <| all_c l_iret <| all_n
theorem hh_X11_book : RspF_ (f_X11_book KC) := rsp_fn hp_X11_book
set_option maxRecDepth 100000 in
theorem hp_X11_fault : All_ (fun _ o => Loc_ o) (P_X11_fault KC) :=
  all_c l_ald <| all_c l_gF <| all_c l_gI <| all_c l_iret <| all_n
theorem hh_X11_fault : RspF_ (f_X11_fault KC) := rsp_fn hp_X11_fault
set_option maxRecDepth 100000 in
theorem hp_X11_chap : All_ (fun _ o => Loc_ o) (P_X11_chap KC) :=
  all_c l_ald <| all_c l_gR <| all_c l_ild <| all_c (l_callV hh_X0_hasChap) <| all_c l_ifeq <| all_c l_ild <| all_c l_iflt <| all_c l_ild <| all_c l_ic <| all_c l_cmple <| all_c l_x <| all_c l_dup <| all_c l_x <| all_c l_x <| all_c l_ild <| all_c l_tsw <| all_c l_ald <| all_c l_gR <| all_c l_gF <| all_c l_ild <| all_c l_iald <| all_c l_iret <| all_c l_ald <| all_c l_gR <| all_c l_gF <|
  all_c l_ild <| all_c l_iald <| all_c l_iret <| all_c l_ald <| all_c l_gR <| all_c l_gF <| all_c l_ild <| all_c l_iald <| all_c l_iret <| all_c l_ald <| all_c l_gR <| all_c l_ild <| all_c (l_callV hh_X0_leansOnHowMany) <| all_c l_iret <| all_n
theorem hh_X11_chap : RspF_ (f_X11_chap KC) := rsp_fn hp_X11_chap
set_option maxRecDepth 100000 in
theorem hp_X11_leans : All_ (fun _ o => Loc_ o) (P_X11_leans KC) :=
  all_c l_ald <| all_c l_gR <| all_c l_ild <| all_c (l_callV hh_X0_hasChap) <| all_c l_ifeq <| all_c l_ald <| all_c l_gR <| all_c l_ild <| all_c (l_callV hh_X0_hasChap) <| all_c l_ifne <| all_c l_ic <| all_c l_iret <| all_c l_ald <| all_c l_gR <| all_c l_gF <| all_c l_ild <| all_c l_aald <| all_c l_ild <| all_c l_iald <| all_c l_iret <| all_n
theorem hh_X11_leans : RspF_ (f_X11_leans KC) := rsp_fn hp_X11_leans
set_option maxRecDepth 100000 in
theorem hp_X11_reader : All_ (fun _ o => Loc_ o) (P_X11_reader KC) :=
  all_c l_ald <| all_c l_gR <| all_c l_ild <| all_c (l_callV hh_X0_hasReader) <| all_c l_ifeq <| all_c l_ild <| all_c l_iflt <| all_c l_ild <| all_c l_ic <| all_c l_cmple <| all_c l_x <| all_c l_dup <| all_c l_x <| all_c l_x <| all_c l_ild <| all_c l_tsw <| all_c l_ald <| all_c l_gR <| all_c l_gF <| all_c l_ild <| all_c l_iald <| all_c l_iret <| all_c l_ald <| all_c l_gR <| all_c l_gF <|
  all_c l_ild <| all_c l_iald <| all_c l_iret <| all_c l_ald <| all_c l_gR <| all_c l_gF <| all_c l_ild <| all_c l_iald <| all_c l_iret <| all_c l_ald <| all_c l_gR <| all_c l_gF <| all_c l_ild <| all_c l_iald <| all_c l_iret <| all_c l_ald <| all_c l_gR <| all_c l_gF <| all_c l_ild <| all_c l_iald <| all_c l_iret <| all_n
theorem hh_X11_reader : RspF_ (f_X11_reader KC) := rsp_fn hp_X11_reader
set_option maxRecDepth 100000 in
theorem hp_X11_plan : All_ (fun _ o => Loc_ o) (P_X11_plan KC) :=
  all_c l_ald <| all_c l_gF <| all_c l_ic <| all_c (l_callV hh_X8_start) <| all_c l_ald <| all_c l_gR <| all_c l_ald <| all_c l_gF <| all_c l_ald <| all_c l_gR <| all_c (l_callV hh_X6_readFrom) <| all_c l_ist <| all_c l_ald <| all_c l_gF <| all_c l_ic <| all_c l_pI <| all_c l_ild <| all_c l_ifne <| all_c l_ald <| all_c l_gF <| all_c (l_callV hh_X8_faultAnswer) <| all_c l_iret <| all_c l_ald <|
  all_c l_gR <| all_c l_ast <| all_c l_ald <| all_c l_ald <| all_c l_gR <| all_c l_pR <| all_c l_ald <| all_c l_ald <| all_c l_pR <| all_c l_ald <| all_c l_ic <| all_c l_pZ <| all_c l_ald <| all_c l_gR <| all_c l_gI <| all_c l_iret <| all_n
theorem hh_X11_plan : RspF_ (f_X11_plan KC) := rsp_fn hp_X11_plan
set_option maxRecDepth 100000 in
theorem hp_X11_make : All_ (fun _ o => Loc_ o) (P_X11_make KC) :=
  all_c l_ild <| all_c l_ild <| all_c (l_callS hh_X4_isKind) <| all_c l_ifne <| all_c l_ic <| all_c l_iret <| all_c l_ald <| all_c l_gF <| all_c l_ald <| all_c l_gR <| all_c l_ald <| all_c l_gR <| all_c (l_callV hh_X4_begin) <| all_c l_ald <| all_c l_gF <| all_c l_ild <| all_c l_ild <| all_c (l_callV hh_X4_fill) <| all_c l_ald <| all_c l_ic <| all_c l_pZ <| all_c l_ald <| all_c l_gR <|
  all_c l_gI <| all_c l_iret <| all_n
theorem hh_X11_make : RspF_ (f_X11_make KC) := rsp_fn hp_X11_make
set_option maxRecDepth 100000 in
theorem hp_X11_drawn : All_ (fun _ o => Loc_ o) (P_X11_drawn KC) :=
  all_c l_ild <| all_c l_ic <| all_c l_cmplt <| all_c l_ild <| all_c l_ic <| all_c l_cmpgt <| all_c l_ald <| all_c l_gR <| all_c l_gI <| all_c l_ic <| all_c l_cmplt <| all_c l_ald <| all_c l_gR <| all_c l_gI <| all_c l_ic <| all_c l_cmpge <| all_c l_ic <| all_c l_iret <| all_c l_ald <| all_c l_gF <| all_c l_ald <| all_c l_gR <| all_c l_ald <| all_c l_gR <| all_c (l_callV hh_X4_begin) <|
  all_c l_ald <| all_c l_gF <| all_c l_ild <| all_c l_ild <| all_c (l_callV hh_X4_drawActs) <| all_c l_ald <| all_c l_ic <| all_c l_pZ <| all_c l_ald <| all_c l_gR <| all_c l_gI <| all_c l_iret <| all_n
theorem hh_X11_drawn : RspF_ (f_X11_drawn KC) := rsp_fn hp_X11_drawn
set_option maxRecDepth 100000 in
theorem hp_X11_act : All_ (fun _ o => Loc_ o) (P_X11_act KC) :=
  all_c l_ild <| all_c l_iflt <| all_c l_ild <| all_c l_ald <| all_c l_gR <| all_c l_gI <| all_c l_cmpge <| all_c l_ild <| all_c l_iflt <| all_c l_ild <| all_c l_ic <| all_c l_cmple <| all_c l_x <| all_c l_dup <| all_c l_x <| all_c l_x <| all_c l_ild <| all_c l_tsw <| all_c l_ald <| all_c l_gR <| all_c l_gF <| all_c l_ild <| all_c l_iald <| all_c l_iret <| all_c l_ald <| all_c l_gR <|
  all_c l_gF <| all_c l_ild <| all_c l_iald <| all_c l_iret <| all_c l_ald <| all_c l_gR <| all_c l_gF <| all_c l_ild <| all_c l_iald <| all_c l_iret <| all_c l_ald <| all_c l_gR <| all_c l_gF <| all_c l_ild <| all_c l_iald <| all_c l_iret <| all_n
theorem hh_X11_act : RspF_ (f_X11_act KC) := rsp_fn hp_X11_act
set_option maxRecDepth 100000 in
theorem hp_X11_runOnce : All_ (fun _ o => Loc_ o) (P_X11_runOnce KC) :=
  all_c l_ald <| all_c l_gI <| all_c l_ifne <| all_c l_ald <| all_c l_gF <| all_c l_ald <| all_c l_gR <| all_c (l_callV hh_X5_begin) <| all_c l_ald <| all_c l_gF <| all_c l_ald <| all_c l_gR <| all_c (l_callV hh_X5_follow) <| all_c l_ald <| all_c l_ic <| all_c l_pZ <| all_c l_vret <| all_n
theorem hh_X11_runOnce : RspF_ (f_X11_runOnce KC) := rsp_fn hp_X11_runOnce
set_option maxRecDepth 100000 in
theorem hp_X11_run : All_ (fun _ o => Loc_ o) (P_X11_run KC) :=
  all_c l_ald <| all_c (l_callV hh_X11_runOnce) <| all_c l_ald <| all_c l_ald <| all_c l_gF <| all_c l_gI <| all_c l_pI <| all_c l_ald <| all_c l_gF <| all_c l_gI <| all_c l_iret <| all_n
theorem hh_X11_run : RspF_ (f_X11_run KC) := rsp_fn hp_X11_run
set_option maxRecDepth 100000 in
theorem hp_X11_why : All_ (fun _ o => Loc_ o) (P_X11_why KC) :=
  all_c l_ald <| all_c l_gI <| all_c l_iret <| all_n
theorem hh_X11_why : RspF_ (f_X11_why KC) := rsp_fn hp_X11_why
set_option maxRecDepth 100000 in
theorem hp_X11_known : All_ (fun _ o => Loc_ o) (P_X11_known KC) :=
  all_c l_ald <| all_c l_gR <| all_c l_ild <| all_c (l_callV hh_X0_hasReader) <| all_c l_ifeq <| all_c l_ald <| all_c l_gR <| all_c l_ild <| all_c (l_callV hh_X0_hasChap) <| all_c l_ifne <| all_c l_ic <| all_c l_iret <| all_c l_ald <| all_c (l_callV hh_X11_runOnce) <| all_c l_ald <| all_c l_gF <| all_c l_gF <| all_c l_ild <| all_c l_ic <| all_c l_imul <| all_c l_ild <| all_c l_iadd <|
  all_c l_iald <| all_c l_iret <| all_n
theorem hh_X11_known : RspF_ (f_X11_known KC) := rsp_fn hp_X11_known
set_option maxRecDepth 100000 in
theorem hp_X11_after : All_ (fun _ o => Loc_ o) (P_X11_after KC) :=
  all_c l_ald <| all_c l_gR <| all_c l_ild <| all_c (l_callV hh_X0_hasReader) <| all_c l_ifne <| all_c l_ic <| all_c l_iret <| all_c l_ald <| all_c (l_callV hh_X11_runOnce) <| all_c l_ild <| all_c l_tsw <| all_c l_ald <| all_c l_gF <| all_c l_gF <| all_c l_ild <| all_c l_iald <| all_c l_iret <| all_c l_ald <| all_c l_gF <| all_c l_ild <| all_c (l_callV hh_X5_inAll) <| all_c l_iret <|
  all_c l_ald <| all_c l_gF <| all_c l_gF <| all_c l_ild <| all_c l_iald <| all_c l_iret <| all_c l_ald <| all_c l_gF <| all_c l_gF <| all_c l_ild <| all_c l_iald <| all_c l_iret <| all_c l_ic <| all_c l_iret <| all_n
theorem hh_X11_after : RspF_ (f_X11_after KC) := rsp_fn hp_X11_after
set_option maxRecDepth 100000 in
theorem hp_X11_all : All_ (fun _ o => Loc_ o) (P_X11_all KC) :=
  all_c l_ald <| all_c (l_callV hh_X11_runOnce) <| all_c l_ild <| all_c l_tsw <| all_c l_ald <| all_c l_gF <| all_c (l_callV hh_X5_sum) <| all_c l_iret <| all_c l_ald <| all_c l_gF <| all_c (l_callV hh_X5_sent) <| all_c l_iret <| all_c l_ald <| all_c l_gF <| all_c (l_callV hh_X5_unreadMusts) <| all_c l_iret <| all_c l_ald <| all_c l_gF <| all_c (l_callV hh_X5_lacking) <| all_c l_iret <|
  all_c l_ic <| all_c l_iret <| all_n
theorem hh_X11_all : RspF_ (f_X11_all KC) := rsp_fn hp_X11_all
set_option maxRecDepth 100000 in
theorem hp_X11_best : All_ (fun _ o => Loc_ o) (P_X11_best KC) :=
  all_c l_ild <| all_c l_ic <| all_c l_cmplt <| all_c l_ild <| all_c l_ic <| all_c l_cmpgt <| all_c l_ild <| all_c l_ald <| all_c l_gR <| all_c l_gI <| all_c l_cmple <| all_c l_ic <| all_c l_iret <| all_c l_ild <| all_c l_ic <| all_c l_cmplt <| all_c l_ild <| all_c l_ic <| all_c l_cmpgt <| all_c l_ild <| all_c l_ald <| all_c l_gR <| all_c l_gI <| all_c l_cmple <| all_c l_ic <| all_c l_iret <|
  all_c l_ald <| all_c l_gF <| all_c l_ald <| all_c l_gR <| all_c l_ild <| all_c l_ild <| all_c (l_callV hh_X10_search) <| all_c l_iret <| all_n
theorem hh_X11_best : RspF_ (f_X11_best KC) := rsp_fn hp_X11_best
set_option maxRecDepth 100000 in
theorem hp_X11_bestOf : All_ (fun _ o => Loc_ o) (P_X11_bestOf KC) :=
  all_c l_ild <| all_c l_iflt <| all_c l_ild <| all_c l_ald <| all_c l_gF <| all_c l_gI <| all_c l_cmplt <| all_c l_ic <| all_c l_goto <| all_c l_ald <| all_c l_gF <| all_c l_gF <| all_c l_ild <| all_c l_iald <| all_c l_iret <| all_n
theorem hh_X11_bestOf : RspF_ (f_X11_bestOf KC) := rsp_fn hp_X11_bestOf
set_option maxRecDepth 100000 in
theorem hp_X11_cut : All_ (fun _ o => Loc_ o) (P_X11_cut KC) :=
  all_c l_ild <| all_c l_ic <| all_c l_cmplt <| all_c l_ild <| all_c l_ic <| all_c l_cmpgt <| all_c l_ild <| all_c l_ic <| all_c l_cmplt <| all_c l_ild <| all_c l_ic <| all_c l_cmple <| all_c l_ic <| all_c l_iret <| all_c l_ald <| all_c l_gF <| all_c l_ald <| all_c l_gR <| all_c l_ild <| all_c l_ild <| all_c (l_callV hh_X2_stretch) <| all_c l_iret <| all_n
theorem hh_X11_cut : RspF_ (f_X11_cut KC) := rsp_fn hp_X11_cut
set_option maxRecDepth 100000 in
theorem hp_X11_cutAt : All_ (fun _ o => Loc_ o) (P_X11_cutAt KC) :=
  all_c l_ild <| all_c l_iflt <| all_c l_ild <| all_c l_ald <| all_c l_gF <| all_c l_gI <| all_c l_cmplt <| all_c l_ic <| all_c l_goto <| all_c l_ald <| all_c l_gF <| all_c l_gF <| all_c l_ild <| all_c l_iald <| all_c l_iret <| all_n
theorem hh_X11_cutAt : RspF_ (f_X11_cutAt KC) := rsp_fn hp_X11_cutAt
set_option maxRecDepth 100000 in
theorem hp_X11_net : All_ (fun _ o => Loc_ o) (P_X11_net KC) :=
  all_c l_ald <| all_c l_gF <| all_c l_gI <| all_c l_ist <| all_c l_ald <| all_c l_gF <| all_c l_ic <| all_c l_pI <| all_c l_ild <| all_c l_ic <| all_c l_cmplt <| all_c l_ild <| all_c l_ic <| all_c l_cmpgt <| all_c l_ald <| all_c l_gF <| all_c l_ild <| all_c l_ic <| all_c l_ald <| all_c l_gR <| all_c l_gI <| all_c (l_callV hh_X8_areUnlike) <| all_c l_ifne <| all_c l_ic <| all_c l_iret <|
  all_c l_ald <| all_c l_gF <| all_c l_ald <| all_c l_gR <| all_c l_ald <| all_c l_gF <| all_c l_ild <| all_c l_ild <| all_c (l_callV hh_X2_divide) <| all_c l_iret <| all_n
theorem hh_X11_net : RspF_ (f_X11_net KC) := rsp_fn hp_X11_net
set_option maxRecDepth 100000 in
theorem hp_X11_netSide : All_ (fun _ o => Loc_ o) (P_X11_netSide KC) :=
  all_c l_ald <| all_c l_gF <| all_c l_gI <| all_c l_iret <| all_n
theorem hh_X11_netSide : RspF_ (f_X11_netSide KC) := rsp_fn hp_X11_netSide
set_option maxRecDepth 100000 in
theorem hp_X11_chain : All_ (fun _ o => Loc_ o) (P_X11_chain KC) :=
  all_c l_ald <| all_c l_gF <| all_c l_gI <| all_c l_ist <| all_c l_ald <| all_c l_gF <| all_c l_ic <| all_c l_pI <| all_c l_ald <| all_c l_gF <| all_c l_ild <| all_c l_ic <| all_c l_ald <| all_c l_gR <| all_c l_gI <| all_c (l_callV hh_X8_areUnlike) <| all_c l_ifne <| all_c l_ic <| all_c l_iret <| all_c l_ald <| all_c l_gF <| all_c l_ald <| all_c l_gR <| all_c l_ald <| all_c l_gF <|
  all_c l_ild <| all_c (l_callV hh_X7_search) <| all_c l_iret <| all_n
theorem hh_X11_chain : RspF_ (f_X11_chain KC) := rsp_fn hp_X11_chain
set_option maxRecDepth 100000 in
theorem hp_X11_chainAt : All_ (fun _ o => Loc_ o) (P_X11_chainAt KC) :=
  all_c l_ild <| all_c l_iflt <| all_c l_ild <| all_c l_ald <| all_c l_gF <| all_c l_gI <| all_c l_cmplt <| all_c l_ic <| all_c l_goto <| all_c l_ald <| all_c l_gF <| all_c l_gF <| all_c l_ild <| all_c l_iald <| all_c l_iret <| all_n
theorem hh_X11_chainAt : RspF_ (f_X11_chainAt KC) := rsp_fn hp_X11_chainAt
set_option maxRecDepth 100000 in
theorem hp_X11_alone : All_ (fun _ o => Loc_ o) (P_X11_alone KC) :=
  all_c l_ald <| all_c l_gR <| all_c l_ild <| all_c (l_callV hh_X0_hasReader) <| all_c l_ifeq <| all_c l_ild <| all_c l_iflt <| all_c l_ild <| all_c l_ic <| all_c l_cmple <| all_c l_ic <| all_c l_iret <| all_c l_ald <| all_c l_gF <| all_c l_ald <| all_c l_gR <| all_c l_ild <| all_c (l_callV hh_X1_readAlone) <| all_c l_ild <| all_c l_ifne <| all_c l_ald <| all_c l_gF <| all_c l_gI <|
  all_c l_goto <| all_c l_ald <| all_c l_gF <| all_c l_gI <| all_c l_iret <| all_n
theorem hh_X11_alone : RspF_ (f_X11_alone KC) := rsp_fn hp_X11_alone
set_option maxRecDepth 100000 in
theorem hp_X11_leave : All_ (fun _ o => Loc_ o) (P_X11_leave KC) :=
  all_c l_ald <| all_c l_gR <| all_c l_gI <| all_c l_ic <| all_c l_cmplt <| all_c l_ild <| all_c l_iflt <| all_c l_ild <| all_c l_ic <| all_c l_cmple <| all_c l_ic <| all_c l_iret <| all_c l_ald <| all_c l_gF <| all_c l_ald <| all_c l_gR <| all_c (l_callV hh_X1_leaveOut) <| all_c l_ild <| all_c l_ifne <| all_c l_ald <| all_c l_gF <| all_c l_gI <| all_c l_goto <| all_c l_ald <| all_c l_gF <|
  all_c l_gI <| all_c l_iret <| all_n
theorem hh_X11_leave : RspF_ (f_X11_leave KC) := rsp_fn hp_X11_leave
set_option maxRecDepth 100000 in
theorem hp_X11_extra : All_ (fun _ o => Loc_ o) (P_X11_extra KC) :=
  all_c l_ild <| all_c l_iflt <| all_c l_ild <| all_c l_ic <| all_c l_cmple <| all_c l_ic <| all_c l_iret <| all_c l_ald <| all_c (l_callV hh_X11_runOnce) <| all_c l_ald <| all_c l_gF <| all_c (l_callV hh_X5_findExtra) <| all_c l_ild <| all_c l_lsw <| all_c l_ald <| all_c l_gF <| all_c l_gI <| all_c l_iret <| all_c l_ald <| all_c l_gF <| all_c l_gI <| all_c l_iret <| all_c l_ald <| all_c l_gF <|
  all_c l_gI <| all_c l_iret <| all_n
theorem hh_X11_extra : RspF_ (f_X11_extra KC) := rsp_fn hp_X11_extra
set_option maxRecDepth 100000 in
theorem hp_X11_ask : All_ (fun _ o => Loc_ o) (P_X11_ask KC) :=
  all_c l_ald <| all_c l_gF <| all_c l_gI <| all_c l_ist <| all_c l_ald <| all_c l_gF <| all_c l_ic <| all_c l_pI <| all_c l_ild <| all_c l_ic <| all_c l_cmplt <| all_c l_ild <| all_c l_ic <| all_c l_cmpgt <| all_c l_ild <| all_c l_ic <| all_c l_irem <| all_c l_ifeq <| all_c l_ic <| all_c l_iret <| all_c l_ald <| all_c (l_callV hh_X11_runOnce) <| all_c l_ald <| all_c l_gF <| all_c l_ald <|
  all_c l_gF <| all_c l_ild <| all_c l_ic <| all_c l_idiv <| all_c l_ald <| all_c l_gR <| all_c l_gI <| all_c l_ald <| all_c l_gF <| all_c (l_callV hh_X5_lacking) <| all_c (l_callV hh_X1_askFewest) <| all_c l_iret <| all_n
theorem hh_X11_ask : RspF_ (f_X11_ask KC) := rsp_fn hp_X11_ask
set_option maxRecDepth 100000 in
theorem hp_X11_asked : All_ (fun _ o => Loc_ o) (P_X11_asked KC) :=
  all_c l_ald <| all_c l_gF <| all_c l_gI <| all_c l_iret <| all_n
theorem hh_X11_asked : RspF_ (f_X11_asked KC) := rsp_fn hp_X11_asked
set_option maxRecDepth 100000 in
theorem hp_X11_seen : All_ (fun _ o => Loc_ o) (P_X11_seen KC) :=
  all_c l_ald <| all_c l_gR <| all_c l_ild <| all_c (l_callV hh_X0_hasReader) <| all_c l_ifeq <| all_c l_ild <| all_c l_ic <| all_c l_cmplt <| all_c l_ild <| all_c l_ic <| all_c l_cmple <| all_c l_ic <| all_c l_iret <| all_c l_lc <| all_c l_lst <| all_c l_lld <| all_c l_ild <| all_c l_i2l <| all_c l_ldiv <| all_c l_lst <| all_c l_ic <| all_c l_ald <| all_c l_gR <| all_c l_gF <| all_c l_ild <|
  all_c l_iald <| all_c l_isub <| all_c l_ist <| all_c l_ic <| all_c (l_aft l_ist) <| all_c l_ild <| all_c l_ic <| all_c l_cmpgt <| all_c l_lld <| all_c l_lld <| all_c l_lcmp <| all_c l_ifgt <| all_c l_ild <| all_c l_iret <| all_c l_lld <| all_c l_ild <| all_c l_i2l <| all_c l_lmul <| all_c l_lc <| all_c l_ldiv <| all_c l_lst <| all_c l_inc <| all_c (l_aft l_goto) <| all_c l_ic <| all_c l_iret <| all_n
theorem hh_X11_seen : RspF_ (f_X11_seen KC) := rsp_fn hp_X11_seen
set_option maxRecDepth 100000 in
theorem hp_X11_ill : All_ (fun _ o => Loc_ o) (P_X11_ill KC) :=
  all_c l_ald <| all_c l_gR <| all_c l_ild <| all_c (l_callV hh_X0_hasReader) <| all_c l_ifeq <| all_c l_ild <| all_c l_iflt <| all_c l_ild <| all_c l_ald <| all_c l_gR <| all_c l_gI <| all_c l_cmpgt <| all_c l_ild <| all_c l_iflt <| all_c l_ild <| all_c l_ic <| all_c l_cmple <| all_c l_ic <| all_c l_iret <| all_c l_ald <| all_c l_gF <| all_c l_ald <| all_c l_gR <| all_c l_ald <| all_c l_gR <|
  all_c l_ild <| all_c l_ild <| all_c (l_callV hh_X3_fall) <| all_c l_ild <| all_c l_tsw <| all_c l_ald <| all_c l_gF <| all_c l_gI <| all_c l_iret <| all_c l_ald <| all_c l_gF <| all_c l_gI <| all_c l_iret <| all_c l_ald <| all_c l_gF <| all_c l_gI <| all_c l_iret <| all_c l_ald <| all_c l_gF <| all_c l_gI <| all_c l_iret <| all_n
theorem hh_X11_ill : RspF_ (f_X11_ill KC) := rsp_fn hp_X11_ill
