set_option maxRecDepth 100000 in
theorem hp_X11_sentence : All_ (fun _ o => Loc_ o) (P_X11_sentence KC) :=
  all_c l_ald <| all_c l_gF <| all_c l_ic <| all_c (l_callV hh_X8_start) <| all_c l_ald <| all_c l_gR <| all_c l_ald <| all_c l_gF <| all_c l_ald <| all_c l_gR <| all_c (l_callV hh_X9_readFrom) <| all_c l_ist <| all_c l_ald <| all_c l_gF <| all_c l_ic <| all_c l_pI <| all_c l_ild <| all_c l_ifne <| all_c l_ald <| all_c l_gF <| all_c (l_callV hh_X8_faultAnswer) <| all_c l_iret <| all_c l_ald <|
  all_c l_gR <| all_c l_ast <| all_c l_ald <| all_c l_ald <| all_c l_gR <| all_c l_pR <| all_c l_ald <| all_c l_ald <| all_c l_pR <| all_c l_ald <| all_c l_gR <| all_c l_gI <| all_c l_iret <| all_n
theorem hh_X11_sentence : RspF_ (f_X11_sentence KC) := rsp_fn hp_X11_sentence
set_option maxRecDepth 100000 in
theorem hp_X11_said : All_ (fun _ o => Loc_ o) (P_X11_said KC) :=
  all_c l_ald <| all_c l_gR <| all_c l_gI <| all_c l_ifne <| all_c l_ic <| all_c l_iret <| all_c l_ald <| all_c (l_callV hh_X11_runOnce) <| all_c l_ic <| all_c l_ist <| all_c l_ic <| all_c l_ist <| all_c l_ild <| all_c l_ald <| all_c l_gR <| all_c l_gI <| all_c l_cmpge <| all_c l_ald <| all_c l_gR <| all_c l_ald <| all_c l_gF <| all_c l_ild <| all_c (l_callV hh_X9_holds) <| all_c l_ifeq <|
  all_c l_ild <| all_c l_ic <| all_c l_ild <| all_c l_ishl <| all_c l_ior <| all_c l_ist <| all_c l_inc <| all_c l_goto <| all_c l_ild <| all_c l_iret <| all_n
theorem hh_X11_said : RspF_ (f_X11_said KC) := rsp_fn hp_X11_said
set_option maxRecDepth 100000 in
theorem hp_X11_image : All_ (fun _ o => Loc_ o) (P_X11_image KC) :=
  all_c l_ild <| all_c l_iflt <| all_c l_ild <| all_c l_ic <| all_c l_cmplt <| all_c l_ic <| all_c l_zret <| all_c l_ald <| all_c l_gF <| all_c l_ild <| all_c l_aald <| all_c l_ald <| all_c l_gR <| all_c (l_callV hh_X0_copyFrom) <| all_c l_ald <| all_c l_gF <| all_c l_ild <| all_c l_aald <| all_c l_ald <| all_c l_gR <| all_c (l_callV hh_X6_copyFrom) <| all_c l_ald <| all_c l_gF <| all_c l_ild <|
  all_c l_aald <| all_c l_ald <| all_c l_gR <| all_c (l_callV hh_X9_copyFrom) <| all_c l_ald <| all_c l_gF <| all_c l_ild <| all_c l_ic <| all_c l_zast <| all_c l_ic <| all_c l_zret <| all_n
theorem hh_X11_image : RspF_ (f_X11_image KC) := rsp_fn hp_X11_image
set_option maxRecDepth 100000 in
theorem hp_X11_restore : All_ (fun _ o => Loc_ o) (P_X11_restore KC) :=
  all_c l_ild <| all_c l_iflt <| all_c l_ild <| all_c l_ic <| all_c l_cmpge <| all_c l_ald <| all_c l_gF <| all_c l_ild <| all_c l_zald <| all_c l_ifne <| all_c l_ic <| all_c l_zret <| all_c l_ald <| all_c l_gR <| all_c l_ald <| all_c l_gF <| all_c l_ild <| all_c l_aald <| all_c (l_callV hh_X0_copyFrom) <| all_c l_ald <| all_c l_gR <| all_c l_ald <| all_c l_gF <| all_c l_ild <| all_c l_aald <|
  all_c (l_callV hh_X6_copyFrom) <| all_c l_ald <| all_c l_gR <| all_c l_ald <| all_c l_gF <| all_c l_ild <| all_c l_aald <| all_c (l_callV hh_X9_copyFrom) <| all_c l_ald <| all_c l_ic <| all_c l_pZ <| all_c l_ic <| all_c l_zret <| all_n
theorem hh_X11_restore : RspF_ (f_X11_restore KC) := rsp_fn hp_X11_restore
set_option maxRecDepth 100000 in
theorem hp_X11_count : All_ (fun _ o => Loc_ o) (P_X11_count KC) :=
  all_c l_ild <| all_c l_tsw <| all_c l_ald <| all_c l_gR <| all_c l_gI <| all_c l_iret <| all_c l_ald <| all_c l_gR <| all_c l_gI <| all_c l_iret <| all_c l_ald <| all_c l_gR <| all_c l_gI <| all_c l_iret <| all_c l_ald <| all_c l_gR <| all_c l_gI <| all_c l_iret <| all_c l_ald <| all_c l_gR <| all_c l_gI <| all_c l_iret <| all_c l_ald <| all_c l_gF <| all_c l_gI <| all_c l_iret <| all_c l_ic <|
  all_c l_iret <| all_n
theorem hh_X11_count : RspF_ (f_X11_count KC) := rsp_fn hp_X11_count
set_option maxRecDepth 100000 in
theorem hp_X12_thrown : All_ (fun _ o => Loc_ o) (P_X12_thrown KC) :=
  all_c l_ald <| all_c l_gI <| all_c l_iret <| all_n
theorem hh_X12_thrown : RspF_ (f_X12_thrown KC) := rsp_fn hp_X12_thrown
set_option maxRecDepth 100000 in
theorem hp_X12_refuse : All_ (fun _ o => Loc_ o) (P_X12_refuse KC) :=
  all_c l_ald <| all_c l_ic <| all_c l_pI <| all_c l_ic <| all_c l_iret <| all_n
theorem hh_X12_refuse : RspF_ (f_X12_refuse KC) := rsp_fn hp_X12_refuse
set_option maxRecDepth 100000 in
theorem hp_X12_come : All_ (fun _ o => Loc_ o) (P_X12_come KC) :=
  all_c l_ic <| all_c l_ist <| all_c l_ild <| all_c l_iflt <| all_c l_ald <| all_c l_gF <| all_c l_ald <| all_c l_gI <| all_c l_ild <| all_c l_ild <| all_c l_iushr <| all_c l_ic <| all_c l_iand <| all_c l_iast <| all_c l_ald <| all_c l_dup <| all_c l_gI <| all_c l_ic <| all_c l_iadd <| all_c l_pI <| all_c l_inc <| all_c l_goto <| all_c l_vret <| all_n
theorem hh_X12_come : RspF_ (f_X12_come KC) := rsp_fn hp_X12_come
set_option maxRecDepth 100000 in
theorem hp_X12_feed : All_ (fun _ o => Loc_ o) (P_X12_feed KC) :=
  all_c l_ald <| all_c l_ic <| all_c l_pI <| all_c l_ald <| all_c l_gI <| all_c l_ic <| all_c l_iadd <| all_c l_ic <| all_c l_cmple <| all_c l_ic <| all_c l_iret <| all_c l_ald <| all_c l_ild <| all_c (l_callV hh_X12_come) <| all_c l_ald <| all_c l_ild <| all_c (l_callV hh_X12_come) <| all_c l_ald <| all_c l_ild <| all_c (l_callV hh_X12_come) <| all_c l_ald <| all_c l_ild <|
  all_c (l_callV hh_X12_come) <| all_c l_ald <| all_c l_ild <| all_c (l_callV hh_X12_come) <| all_c l_ald <| all_c l_gI <| all_c l_iret <| all_n
theorem hh_X12_feed : RspF_ (f_X12_feed KC) := rsp_fn hp_X12_feed
set_option maxRecDepth 100000 in
theorem hp_X12_end : All_ (fun _ o => Loc_ o) (P_X12_end KC) :=
  all_c l_ald <| all_c l_ic <| all_c l_pI <| all_c l_ild <| all_c l_iflt <| all_c l_ild <| all_c l_ald <| all_c l_gI <| all_c l_cmple <| all_c l_ic <| all_c l_zret <| all_c l_ald <| all_c l_ild <| all_c l_pI <| all_c l_ic <| all_c l_zret <| all_n
theorem hh_X12_end : RspF_ (f_X12_end KC) := rsp_fn hp_X12_end
set_option maxRecDepth 100000 in
theorem hp_X12_take : All_ (fun _ o => Loc_ o) (P_X12_take KC) :=
  all_c l_ald <| all_c l_gI <| all_c l_ist <| all_c l_ald <| all_c l_ic <| all_c l_pI <| all_c l_ild <| all_c l_iret <| all_n
theorem hh_X12_take : RspF_ (f_X12_take KC) := rsp_fn hp_X12_take
set_option maxRecDepth 100000 in
theorem hp_X12_isIn : All_ (fun _ o => Loc_ o) (P_X12_isIn KC) :=
  all_c l_ild <| all_c l_ild <| all_c l_cmplt <| all_c l_ild <| all_c l_ild <| all_c l_cmpgt <| all_c l_ic <| all_c l_goto <| all_c l_ic <| all_c l_zret <| all_n
theorem hh_X12_isIn : RspF_ (f_X12_isIn KC) := rsp_fn hp_X12_isIn
set_option maxRecDepth 100000 in
theorem hp_X12_has : All_ (fun _ o => Loc_ o) (P_X12_has KC) :=
  all_c l_ild <| all_c l_ild <| all_c l_ishr <| all_c l_ic <| all_c l_iand <| all_c l_ic <| all_c l_cmpne <| all_c l_ic <| all_c l_goto <| all_c l_ic <| all_c l_zret <| all_n
theorem hh_X12_has : RspF_ (f_X12_has KC) := rsp_fn hp_X12_has
set_option maxRecDepth 100000 in
theorem hp_X12_bits : All_ (fun _ o => Loc_ o) (P_X12_bits KC) :=
  all_c l_ic <| all_c l_ist <| all_c l_ild <| all_c l_ist <| all_c l_ild <| all_c l_ifeq <| all_c l_inc <| all_c l_ild <| all_c l_ild <| all_c l_ic <| all_c l_isub <| all_c l_iand <| all_c l_ist <| all_c l_goto <| all_c l_ild <| all_c l_iret <| all_n
theorem hh_X12_bits : RspF_ (f_X12_bits KC) := rsp_fn hp_X12_bits
set_option maxRecDepth 100000 in
theorem hp_X12_byteAt : All_ (fun _ o => Loc_ o) (P_X12_byteAt KC) :=
  all_c l_ild <| all_c l_ald <| all_c l_gI <| all_c l_cmpge <| all_c l_ald <| all_c l_gF <| all_c l_ild <| all_c l_iald <| all_c l_goto <| all_c l_ic <| all_c l_iret <| all_n
theorem hh_X12_byteAt : RspF_ (f_X12_byteAt KC) := rsp_fn hp_X12_byteAt
set_option maxRecDepth 100000 in
theorem hp_X12_isDigit : All_ (fun _ o => Loc_ o) (P_X12_isDigit KC) :=
  all_c l_ild <| all_c l_ic <| all_c l_cmplt <| all_c l_ild <| all_c l_ic <| all_c l_cmpgt <| all_c l_ic <| all_c l_goto <| all_c l_ic <| all_c l_zret <| all_n
theorem hh_X12_isDigit : RspF_ (f_X12_isDigit KC) := rsp_fn hp_X12_isDigit
set_option maxRecDepth 100000 in
theorem hp_X12_isLetter : All_ (fun _ o => Loc_ o) (P_X12_isLetter KC) :=
  all_c l_ild <| all_c l_ic <| all_c l_cmplt <| all_c l_ild <| all_c l_ic <| all_c l_cmpgt <| all_c l_ic <| all_c l_goto <| all_c l_ic <| all_c l_zret <| all_n
theorem hh_X12_isLetter : RspF_ (f_X12_isLetter KC) := rsp_fn hp_X12_isLetter
set_option maxRecDepth 100000 in
theorem hp_X12_go : All_ (fun _ o => Loc_ o) (P_X12_go KC) :=
  all_c l_ald <| all_c l_gI <| all_c l_ald <| all_c l_gI <| all_c (l_aft l_cmpge) <| all_c l_ald <| all_c l_gF <| all_c l_ald <| all_c l_gI <| all_c l_iald <| all_c l_ic <| all_c l_cmpeq <| all_c l_ald <| all_c l_gF <| all_c l_ald <| all_c l_gI <| all_c l_iald <| all_c l_ic <| all_c (l_aft l_cmpne) <| all_c l_ald <| all_c l_dup <| all_c l_gI <| all_c l_ic <| all_c l_iadd <| all_c l_pI <|
  all_c (l_aft l_goto) <| all_c l_ald <| all_c l_ald <| all_c l_gI <| all_c l_pI <| all_c l_ald <| all_c l_gI <| all_c l_ald <| all_c l_gI <| all_c (l_aft l_cmple) <| all_c l_ald <| all_c l_gI <| all_c l_ald <| all_c l_gI <| all_c (l_aft l_cmplt) <| all_c l_ald <| all_c l_ald <| all_c l_gI <| all_c l_pI <| all_c l_ald <| all_c l_ic <| all_c l_pI <| all_c l_vret <| all_c l_ald <| all_c l_gI <|
  all_c l_ald <| all_c l_gI <| all_c l_cmplt <| all_c l_ald <| all_c l_ic <| all_c l_pI <| all_c l_vret <| all_c l_ald <| all_c l_gF <| all_c l_ald <| all_c l_gI <| all_c l_iald <| all_c l_ist <| all_c l_ild <| all_c (l_callS hh_X12_isLetter) <| all_c l_ifne <| all_c l_ild <| all_c (l_callS hh_X12_isDigit) <| all_c l_ifne <| all_c l_ald <| all_c l_ild <| all_c l_ic <| all_c l_cmpeq <|
  all_c l_ild <| all_c l_ic <| all_c l_cmpeq <| all_c l_ild <| all_c l_ic <| all_c l_cmpeq <| all_c l_ild <| all_c l_ic <| all_c l_cmpeq <| all_c l_ild <| all_c l_ic <| all_c l_cmpeq <| all_c l_ild <| all_c l_ic <| all_c l_cmpne <| all_c l_ic <| all_c l_goto <| all_c l_ic <| all_c l_pI <| all_c l_ald <| all_c l_ild <| all_c l_pI <| all_c l_ald <| all_c l_dup <| all_c l_gI <| all_c l_ic <|
  all_c l_iadd <| all_c l_pI <| all_c l_vret <| all_c l_ild <| all_c (l_callS hh_X12_isLetter) <| all_c l_ist <| all_c l_ic <| all_c l_ist <| all_c l_ald <| all_c l_lc <| all_c l_pJ <| all_c l_ald <| all_c l_ic <| all_c (l_aft l_pI) <| all_c l_ald <| all_c l_ald <| all_c l_gI <| all_c (l_callV hh_X12_byteAt) <| all_c (l_callS hh_X12_isLetter) <| all_c (l_aft l_ifne) <| all_c l_ald <|
  all_c l_ald <| all_c l_gI <| all_c (l_callV hh_X12_byteAt) <| all_c (l_callS hh_X12_isDigit) <| all_c (l_aft l_ifeq) <| all_c l_ald <| all_c l_gF <| all_c l_ald <| all_c l_gI <| all_c l_iald <| all_c l_ist <| all_c l_ild <| all_c l_ifeq <| all_c l_ild <| all_c (l_callS hh_X12_isLetter) <| all_c l_ild <| all_c l_cmpne <| all_c l_ic <| all_c (l_aft l_goto) <| all_c (l_aft l_ic) <| all_c l_ist <|
  all_c l_ald <| all_c l_gI <| all_c l_ald <| all_c l_gI <| all_c l_isub <| all_c l_ic <| all_c (l_aft l_cmpge) <| all_c l_ald <| all_c l_lc <| all_c l_ald <| all_c l_gJ <| all_c l_lmul <| all_c l_ild <| all_c l_i2l <| all_c l_ladd <| all_c l_lc <| all_c l_lsub <| all_c (l_aft l_pJ) <| all_c l_ald <| all_c l_gI <| all_c l_ald <| all_c l_gI <| all_c l_isub <| all_c l_ic <| all_c l_cmpge <|
  all_c l_ald <| all_c l_ic <| all_c l_ald <| all_c l_gI <| all_c l_imul <| all_c l_ild <| all_c l_iadd <| all_c l_ic <| all_c l_isub <| all_c l_pI <| all_c l_ald <| all_c l_dup <| all_c l_gI <| all_c l_ic <| all_c l_iadd <| all_c l_pI <| all_c (l_aft l_goto) <| all_c l_ald <| all_c l_ild <| all_c l_ifeq <| all_c l_ald <| all_c l_gI <| all_c l_ald <| all_c l_gI <| all_c l_isub <| all_c l_ild <|
  all_c l_ifeq <| all_c l_ic <| all_c l_goto <| all_c l_ic <| all_c l_cmple <| all_c l_ic <| all_c l_goto <| all_c l_ild <| all_c l_ifeq <| all_c l_ic <| all_c l_goto <| all_c l_ic <| all_c l_pI <| all_c l_vret <| all_n
theorem hh_X12_go : RspF_ (f_X12_go KC) := rsp_fn hp_X12_go
set_option maxRecDepth 100000 in
theorem hp_X12_spelt : All_ (fun _ o => Loc_ o) (P_X12_spelt KC) :=
  all_c l_lc <| all_c l_ild <| all_c l_i2l <| all_c l_lc <| all_c l_lsub <| all_c l_lmul <| all_c l_ild <| all_c l_i2l <| all_c l_ladd <| all_c l_lc <| all_c l_lsub <| all_c l_lst <| all_c l_ild <| all_c (l_aft l_ifle) <| all_c l_lc <| all_c l_lld <| all_c l_lmul <| all_c l_ild <| all_c l_i2l <| all_c l_ladd <| all_c l_lc <| all_c l_lsub <| all_c (l_aft l_lst) <| all_c l_ild <| all_c l_ifle <|
  all_c l_lc <| all_c l_lld <| all_c l_lmul <| all_c l_ild <| all_c l_i2l <| all_c l_ladd <| all_c l_lc <| all_c l_lsub <| all_c l_lst <| all_c l_ild <| all_c l_ifle <| all_c l_lc <| all_c l_lld <| all_c l_lmul <| all_c l_ild <| all_c l_i2l <| all_c l_ladd <| all_c l_lc <| all_c l_lsub <| all_c l_goto <| all_c l_lld <| all_c l_lret <| all_n
theorem hh_X12_spelt : RspF_ (f_X12_spelt KC) := rsp_fn hp_X12_spelt
set_option maxRecDepth 100000 in
theorem hp_X12_wordOf : All_ (fun _ o => Loc_ o) (P_X12_wordOf KC) :=
  all_c l_ild <| all_c l_tsw <| all_c l_ic <| all_c l_ic <| all_c l_ic <| all_c l_ic <| all_c l_ic <| all_c (l_callS hh_X12_spelt) <| all_c l_lret <| all_c l_ic <| all_c l_ic <| all_c l_ic <| all_c l_ic <| all_c l_ic <| all_c (l_callS hh_X12_spelt) <| all_c l_lret <| all_c l_ic <| all_c l_ic <| all_c l_ic <| all_c l_ic <| all_c l_ic <| all_c (l_callS hh_X12_spelt) <| all_c l_lret <| all_c l_ic <|
  all_c l_ic <| all_c l_ic <| all_c l_ic <| all_c l_ic <| all_c (l_callS hh_X12_spelt) <| all_c l_lret <| all_c l_ic <| all_c l_ic <| all_c l_ic <| all_c l_ic <| all_c l_ic <| all_c (l_callS hh_X12_spelt) <| all_c l_lret <| all_c l_ic <| all_c l_ic <| all_c l_ic <| all_c l_ic <| all_c l_ic <| all_c (l_callS hh_X12_spelt) <| all_c l_lret <| all_c l_ic <| all_c l_ic <| all_c l_ic <| all_c l_ic <|
  all_c l_ic <| all_c (l_callS hh_X12_spelt) <| all_c l_lret <| all_c l_ic <| all_c l_ic <| all_c l_ic <| all_c l_ic <| all_c l_ic <| all_c (l_callS hh_X12_spelt) <| all_c l_lret <| all_c l_ic <| all_c l_ic <| all_c l_ic <| all_c l_ic <| all_c l_ic <| all_c (l_callS hh_X12_spelt) <| all_c l_lret <| all_c l_ic <| all_c l_ic <| all_c l_ic <| all_c l_ic <| all_c l_ic <|
  all_c (l_callS hh_X12_spelt) <| all_c l_lret <| all_c l_ic <| all_c l_ic <| all_c l_ic <| all_c l_ic <| all_c l_ic <| all_c (l_callS hh_X12_spelt) <| all_c l_lret <| all_c l_ic <| all_c l_ic <| all_c l_ic <| all_c l_ic <| all_c l_ic <| all_c (l_callS hh_X12_spelt) <| all_c l_lret <| all_c l_ic <| all_c l_ic <| all_c l_ic <| all_c l_ic <| all_c l_ic <| all_c (l_callS hh_X12_spelt) <|
  all_c l_lret <| all_c l_ic <| all_c l_ic <| all_c l_ic <| all_c l_ic <| all_c l_ic <| all_c (l_callS hh_X12_spelt) <| all_c l_lret <| all_c l_ic <| all_c l_ic <| all_c l_ic <| all_c l_ic <| all_c l_ic <| all_c (l_callS hh_X12_spelt) <| all_c l_lret <| all_c l_ic <| all_c l_ic <| all_c l_ic <| all_c l_ic <| all_c l_ic <| all_c (l_callS hh_X12_spelt) <| all_c l_lret <| all_c l_ic <| all_c l_ic <|
  all_c l_ic <| all_c l_ic <| all_c l_ic <| all_c (l_callS hh_X12_spelt) <| all_c l_lret <| all_c l_ic <| all_c l_ic <| all_c l_ic <| all_c l_ic <| all_c l_ic <| all_c (l_callS hh_X12_spelt) <| all_c l_lret <| all_c l_ic <| all_c l_ic <| all_c l_ic <| all_c l_ic <| all_c l_ic <| all_c (l_callS hh_X12_spelt) <| all_c l_lret <| all_c l_ic <| all_c l_ic <| all_c l_ic <| all_c l_ic <| all_c l_ic <|
  all_c (l_callS hh_X12_spelt) <| all_c l_lret <| all_n
theorem hh_X12_wordOf : RspF_ (f_X12_wordOf KC) := rsp_fn hp_X12_wordOf
set_option maxRecDepth 100000 in
theorem hp_X12_isWord : All_ (fun _ o => Loc_ o) (P_X12_isWord KC) :=
  all_c l_ald <| all_c l_gI <| all_c l_ic <| all_c l_cmpne <| all_c l_ald <| all_c l_gJ <| all_c l_ild <| all_c (l_callS hh_X12_wordOf) <| all_c l_lcmp <| all_c l_ifne <| all_c l_ic <| all_c l_goto <| all_c l_ic <| all_c l_zret <| all_n
theorem hh_X12_isWord : RspF_ (f_X12_isWord KC) := rsp_fn hp_X12_isWord
set_option maxRecDepth 100000 in
theorem hp_X12_isSign : All_ (fun _ o => Loc_ o) (P_X12_isSign KC) :=
  all_c l_ald <| all_c l_gI <| all_c l_ic <| all_c l_cmpne <| all_c l_ald <| all_c l_gI <| all_c l_ild <| all_c l_cmpne <| all_c l_ic <| all_c l_goto <| all_c l_ic <| all_c l_zret <| all_n
theorem hh_X12_isSign : RspF_ (f_X12_isSign KC) := rsp_fn hp_X12_isSign
set_option maxRecDepth 100000 in
theorem hp_X12_isName : All_ (fun _ o => Loc_ o) (P_X12_isName KC) :=
  all_c l_ald <| all_c l_gI <| all_c l_ic <| all_c l_cmpeq <| all_c l_ic <| all_c l_zret <| all_c l_ic <| all_c l_ist <| all_c l_ild <| all_c l_ic <| all_c l_cmpgt <| all_c l_ald <| all_c l_gJ <| all_c l_ild <| all_c (l_callS hh_X12_wordOf) <| all_c l_lcmp <| all_c l_ifne <| all_c l_ic <| all_c l_zret <| all_c l_inc <| all_c l_goto <| all_c l_ic <| all_c l_zret <| all_n
theorem hh_X12_isName : RspF_ (f_X12_isName KC) := rsp_fn hp_X12_isName
set_option maxRecDepth 100000 in
theorem hp_X12_bad : All_ (fun _ o => Loc_ o) (P_X12_bad KC) :=
  all_c l_ald <| all_c l_ald <| all_c l_gI <| all_c l_ic <| all_c l_cmpne <| all_c l_ic <| all_c l_goto <| all_c l_ild <| all_c l_pI <| all_c l_ald <| all_c l_ald <| all_c l_gI <| all_c l_pI <| all_c l_ic <| all_c l_zret <| all_n
theorem hh_X12_bad : RspF_ (f_X12_bad KC) := rsp_fn hp_X12_bad
set_option maxRecDepth 100000 in
theorem hp_X12_readNumber : All_ (fun _ o => Loc_ o) (P_X12_readNumber KC) :=
  all_c l_ald <| all_c l_gI <| all_c l_ic <| all_c l_cmpeq <| all_c l_ald <| all_c l_ic <| all_c (l_callV hh_X12_bad) <| all_c l_zret <| all_c l_ald <| all_c l_gI <| all_c l_ild <| all_c l_ild <| all_c (l_callS hh_X12_isIn) <| all_c l_ifne <| all_c l_ald <| all_c l_ic <| all_c (l_callV hh_X12_bad) <| all_c l_zret <| all_c l_ald <| all_c l_ald <| all_c l_gI <| all_c l_pI <| all_c l_ald <|
  all_c (l_callV hh_X12_go) <| all_c l_ic <| all_c l_zret <| all_n
theorem hh_X12_readNumber : RspF_ (f_X12_readNumber KC) := rsp_fn hp_X12_readNumber
set_option maxRecDepth 100000 in
theorem hp_X12_readEnd : All_ (fun _ o => Loc_ o) (P_X12_readEnd KC) :=
  all_c l_ald <| all_c l_ic <| all_c (l_callV hh_X12_isSign) <| all_c l_ifne <| all_c l_ald <| all_c l_ic <| all_c (l_callV hh_X12_bad) <| all_c l_zret <| all_c l_ald <| all_c (l_callV hh_X12_go) <| all_c l_ic <| all_c l_zret <| all_n
theorem hh_X12_readEnd : RspF_ (f_X12_readEnd KC) := rsp_fn hp_X12_readEnd
set_option maxRecDepth 100000 in
theorem hp_X12_lay : All_ (fun _ o => Loc_ o) (P_X12_lay KC) :=
  all_c l_ald <| all_c l_gI <| all_c l_ifeq <| all_c l_vret <| all_c l_ald <| all_c l_ic <| all_c l_pZ <| all_c l_ald <| all_c l_gF <| all_c l_ic <| all_c l_ic <| all_c l_iast <| all_c l_ald <| all_c l_gF <| all_c l_ic <| all_c l_ic <| all_c l_iast <| all_c l_vret <| all_n
theorem hh_X12_lay : RspF_ (f_X12_lay KC) := rsp_fn hp_X12_lay
set_option maxRecDepth 100000 in
theorem hp_X12_begin : All_ (fun _ o => Loc_ o) (P_X12_begin KC) :=
  all_c l_ald <| all_c l_ic <| all_c l_pI <| all_c l_ald <| all_c (l_callV hh_X12_lay) <| all_c l_ald <| all_c l_ald <| all_c (l_callV hh_X12_take) <| all_c l_pI <| all_c l_ald <| all_c l_ild <| all_c l_pI <| all_c l_ald <| all_c l_ic <| all_c l_pI <| all_c l_ald <| all_c l_ic <| all_c l_pI <| all_c l_ald <| all_c (l_callV hh_X12_go) <| all_c l_vret <| all_n
theorem hh_X12_begin : RspF_ (f_X12_begin KC) := rsp_fn hp_X12_begin
set_option maxRecDepth 100000 in
theorem hp_X12_chaps : All_ (fun _ o => Loc_ o) (P_X12_chaps KC) :=
  all_c l_ald <| all_c l_gF <| all_c l_ic <| all_c l_iald <| all_c l_iret <| all_n
theorem hh_X12_chaps : RspF_ (f_X12_chaps KC) := rsp_fn hp_X12_chaps
set_option maxRecDepth 100000 in
theorem hp_X12_readers : All_ (fun _ o => Loc_ o) (P_X12_readers KC) :=
  all_c l_ald <| all_c l_gF <| all_c l_ic <| all_c l_iald <| all_c l_iret <| all_n
theorem hh_X12_readers : RspF_ (f_X12_readers KC) := rsp_fn hp_X12_readers
set_option maxRecDepth 100000 in
theorem hp_X12_isChap : All_ (fun _ o => Loc_ o) (P_X12_isChap KC) :=
  all_c l_ild <| all_c l_iflt <| all_c l_ild <| all_c l_ald <| all_c (l_callV hh_X12_chaps) <| all_c l_cmpge <| all_c l_ic <| all_c l_goto <| all_c l_ic <| all_c l_zret <| all_n
theorem hh_X12_isChap : RspF_ (f_X12_isChap KC) := rsp_fn hp_X12_isChap
set_option maxRecDepth 100000 in
theorem hp_X12_isReader : All_ (fun _ o => Loc_ o) (P_X12_isReader KC) :=
  all_c l_ild <| all_c l_iflt <| all_c l_ild <| all_c l_ald <| all_c (l_callV hh_X12_readers) <| all_c l_cmpge <| all_c l_ic <| all_c l_goto <| all_c l_ic <| all_c l_zret <| all_n
theorem hh_X12_isReader : RspF_ (f_X12_isReader KC) := rsp_fn hp_X12_isReader
set_option maxRecDepth 100000 in
theorem hp_X12_chapOf : All_ (fun _ o => Loc_ o) (P_X12_chapOf KC) :=
  all_c l_ald <| all_c l_gF <| all_c l_ic <| all_c l_ic <| all_c l_ild <| all_c l_imul <| all_c l_iadd <| all_c l_ild <| all_c l_iadd <| all_c l_iald <| all_c l_iret <| all_n
theorem hh_X12_chapOf : RspF_ (f_X12_chapOf KC) := rsp_fn hp_X12_chapOf
set_option maxRecDepth 100000 in
theorem hp_X12_readerOf : All_ (fun _ o => Loc_ o) (P_X12_readerOf KC) :=
  all_c l_ald <| all_c l_gF <| all_c l_ic <| all_c l_ic <| all_c l_ild <| all_c l_imul <| all_c l_iadd <| all_c l_ild <| all_c l_iadd <| all_c l_iald <| all_c l_iret <| all_n
theorem hh_X12_readerOf : RspF_ (f_X12_readerOf KC) := rsp_fn hp_X12_readerOf
set_option maxRecDepth 100000 in
theorem hp_X12_leanOf : All_ (fun _ o => Loc_ o) (P_X12_leanOf KC) :=
  all_c l_ald <| all_c l_gF <| all_c l_ic <| all_c l_ic <| all_c l_ild <| all_c l_imul <| all_c l_iadd <| all_c l_ild <| all_c l_iadd <| all_c l_iald <| all_c l_iret <| all_n
theorem hh_X12_leanOf : RspF_ (f_X12_leanOf KC) := rsp_fn hp_X12_leanOf
set_option maxRecDepth 100000 in
theorem hp_X12_findRead : All_ (fun _ o => Loc_ o) (P_X12_findRead KC) :=
  all_c l_ic <| all_c l_ist <| all_c l_ild <| all_c l_ald <| all_c l_gF <| all_c l_ic <| all_c l_iald <| all_c l_cmpge <| all_c l_ald <| all_c l_gF <| all_c l_ild <| all_c l_lald <| all_c l_ald <| all_c l_gJ <| all_c l_lcmp <| all_c l_ifne <| all_c l_ild <| all_c l_iret <| all_c l_inc <| all_c l_goto <| all_c l_ic <| all_c l_ist <| all_c l_ild <| all_c l_ald <| all_c l_gF <| all_c l_ic <|
  all_c l_iald <| all_c l_cmpge <| all_c l_ald <| all_c l_gF <| all_c l_ic <| all_c l_ild <| all_c l_iadd <| all_c l_lald <| all_c l_ald <| all_c l_gJ <| all_c l_lcmp <| all_c l_ifne <| all_c l_ic <| all_c l_ild <| all_c l_iadd <| all_c l_iret <| all_c l_inc <| all_c l_goto <| all_c l_ic <| all_c l_iret <| all_n
theorem hh_X12_findRead : RspF_ (f_X12_findRead KC) := rsp_fn hp_X12_findRead
set_option maxRecDepth 100000 in
theorem hp_X12_readNew : All_ (fun _ o => Loc_ o) (P_X12_readNew KC) :=
  all_c l_ald <| all_c (l_callV hh_X12_isName) <| all_c l_ifne <| all_c l_ald <| all_c l_ic <| all_c (l_callV hh_X12_bad) <| all_c l_zret <| all_c l_ald <| all_c (l_callV hh_X12_findRead) <| all_c l_ic <| all_c l_cmpeq <| all_c l_ald <| all_c l_ic <| all_c (l_callV hh_X12_bad) <| all_c l_zret <| all_c l_ald <| all_c l_gF <| all_c l_ild <| all_c l_ald <| all_c l_gJ <| all_c l_last <|
  all_c l_ald <| all_c (l_callV hh_X12_go) <| all_c l_ic <| all_c l_zret <| all_n
theorem hh_X12_readNew : RspF_ (f_X12_readNew KC) := rsp_fn hp_X12_readNew
set_option maxRecDepth 100000 in
theorem hp_X12_readChap : All_ (fun _ o => Loc_ o) (P_X12_readChap KC) :=
  all_c l_ald <| all_c l_gF <| all_c l_ic <| all_c l_iald <| all_c l_ist <| all_c l_ild <| all_c l_ic <| all_c l_cmpne <| all_c l_ald <| all_c l_ic <| all_c (l_callV hh_X12_bad) <| all_c l_zret <| all_c l_ald <| all_c (l_callV hh_X12_go) <| all_c l_ald <| all_c l_ild <| all_c (l_callV hh_X12_readNew) <| all_c l_ifeq <| all_c l_ald <| all_c l_ic <| all_c l_ic <|
  all_c (l_callV hh_X12_readNumber) <| all_c l_ifne <| all_c l_ic <| all_c l_zret <| all_c l_ald <| all_c l_gF <| all_c l_ic <| all_c l_ic <| all_c l_ild <| all_c l_imul <| all_c l_iadd <| all_c l_ic <| all_c l_iadd <| all_c l_ald <| all_c l_gI <| all_c l_iast <| all_c l_ald <| all_c l_ic <| all_c l_ic <| all_c (l_callV hh_X12_readNumber) <| all_c l_ifne <| all_c l_ic <| all_c l_zret <|
  all_c l_ald <| all_c l_gF <| all_c l_ic <| all_c l_ic <| all_c l_ild <| all_c l_imul <| all_c l_iadd <| all_c l_ic <| all_c l_iadd <| all_c l_ald <| all_c l_gI <| all_c l_iast <| all_c l_ald <| all_c l_gF <| all_c l_ic <| all_c l_ic <| all_c l_ild <| all_c l_imul <| all_c l_iadd <| all_c l_ic <| all_c l_iadd <| all_c l_ic <| all_c l_iast <| all_c l_ic <| all_c (l_aft l_ist) <| all_c l_ild <|
  all_c l_ic <| all_c l_cmpge <| all_c l_ald <| all_c l_gF <| all_c l_ic <| all_c l_ic <| all_c l_ild <| all_c l_imul <| all_c l_iadd <| all_c l_ild <| all_c l_iadd <| all_c l_ic <| all_c l_iast <| all_c l_inc <| all_c (l_aft l_goto) <| all_c l_ic <| all_c (l_aft l_ist) <| all_c l_ald <| all_c l_ic <| all_c (l_callV hh_X12_isWord) <| all_c l_ifeq <| all_c l_ald <| all_c (l_callV hh_X12_go) <|
  all_c l_ald <| all_c (l_callV hh_X12_isName) <| all_c l_ifne <| all_c l_ald <| all_c l_ic <| all_c (l_callV hh_X12_bad) <| all_c l_zret <| all_c l_ald <| all_c (l_callV hh_X12_findRead) <| all_c l_ist <| all_c l_ild <| all_c l_ic <| all_c l_cmpeq <| all_c l_ild <| all_c l_ic <| all_c l_cmpge <| all_c l_ald <| all_c l_gF <| all_c l_ic <| all_c l_ic <| all_c l_ild <| all_c l_imul <|
  all_c l_iadd <| all_c l_ild <| all_c l_iadd <| all_c l_iald <| all_c l_ifle <| all_c l_ald <| all_c l_ic <| all_c (l_callV hh_X12_bad) <| all_c l_zret <| all_c l_ald <| all_c (l_callV hh_X12_go) <| all_c l_ald <| all_c l_ic <| all_c l_ild <| all_c (l_callV hh_X12_readNumber) <| all_c l_ifne <| all_c l_ic <| all_c l_zret <| all_c l_ald <| all_c l_gF <| all_c l_ic <| all_c l_ic <| all_c l_ild <|
  all_c l_imul <| all_c l_iadd <| all_c l_ild <| all_c l_iadd <| all_c l_ald <| all_c l_gI <| all_c l_iast <| all_c l_ild <| all_c l_ald <| all_c l_gI <| all_c l_isub <| all_c l_ist <| all_c (l_aft l_goto) <| all_c l_ald <| all_c l_ic <| all_c (l_callV hh_X12_isWord) <| all_c l_ifeq <| all_c l_ald <| all_c l_gF <| all_c l_ic <| all_c l_ic <| all_c l_ild <| all_c l_imul <| all_c l_iadd <|
  all_c l_ic <| all_c l_iadd <| all_c l_ic <| all_c l_iast <| all_c l_ald <| all_c (l_callV hh_X12_go) <| all_c l_ald <| all_c l_gF <| all_c l_ic <| all_c l_dup2 <| all_c l_iald <| all_c l_ic <| all_c l_iadd <| all_c l_iast <| all_c l_ic <| all_c l_zret <| all_n
theorem hh_X12_readChap : RspF_ (f_X12_readChap KC) := rsp_fn hp_X12_readChap
set_option maxRecDepth 100000 in
theorem hp_X12_readWho : All_ (fun _ o => Loc_ o) (P_X12_readWho KC) :=
  all_c l_ald <| all_c l_gF <| all_c l_ic <| all_c l_iald <| all_c l_ist <| all_c l_ild <| all_c l_ic <| all_c l_cmpne <| all_c l_ald <| all_c l_ic <| all_c (l_callV hh_X12_bad) <| all_c l_zret <| all_c l_ald <| all_c (l_callV hh_X12_go) <| all_c l_ic <| all_c l_ic <| all_c l_ild <| all_c l_imul <| all_c l_iadd <| all_c l_ist <| all_c l_ald <| all_c l_ic <| all_c l_ild <| all_c l_iadd <|
  all_c (l_callV hh_X12_readNew) <| all_c l_ifeq <| all_c l_ald <| all_c l_ic <| all_c l_ic <| all_c (l_callV hh_X12_readNumber) <| all_c l_ifne <| all_c l_ic <| all_c l_zret <| all_c l_ald <| all_c l_gF <| all_c l_ild <| all_c l_ic <| all_c l_iadd <| all_c l_ald <| all_c l_gI <| all_c l_iast <| all_c l_ald <| all_c l_ic <| all_c l_ic <| all_c (l_callV hh_X12_readNumber) <| all_c l_ifne <|
  all_c l_ic <| all_c l_zret <| all_c l_ald <| all_c l_gF <| all_c l_ild <| all_c l_ic <| all_c l_iadd <| all_c l_ald <| all_c l_gI <| all_c l_iast <| all_c l_ald <| all_c l_ic <| all_c l_ic <| all_c (l_callV hh_X12_readNumber) <| all_c l_ifne <| all_c l_ic <| all_c l_zret <| all_c l_ald <| all_c l_gF <| all_c l_ild <| all_c l_ic <| all_c l_iadd <| all_c l_ald <| all_c l_gI <| all_c l_iast <|
  all_c l_ald <| all_c l_ic <| all_c l_ic <| all_c (l_callV hh_X12_readNumber) <| all_c l_ifne <| all_c l_ic <| all_c l_zret <| all_c l_ald <| all_c l_gF <| all_c l_ild <| all_c l_ic <| all_c l_iadd <| all_c l_ald <| all_c l_gI <| all_c l_iast <| all_c l_ald <| all_c l_gF <| all_c l_ild <| all_c l_ic <| all_c l_iadd <| all_c l_ic <| all_c l_iast <| all_c l_ald <| all_c l_ic <|
  all_c (l_callV hh_X12_isWord) <| all_c l_ifeq <| all_c l_ald <| all_c (l_callV hh_X12_go) <| all_c l_ald <| all_c l_ic <| all_c l_ic <| all_c (l_callV hh_X12_readNumber) <| all_c l_ifne <| all_c l_ic <| all_c l_zret <| all_c l_ald <| all_c l_gF <| all_c l_ild <| all_c l_ic <| all_c l_iadd <| all_c l_ald <| all_c l_gI <| all_c l_iast <| all_c l_ald <| all_c l_gF <| all_c l_ic <| all_c l_dup2 <|
  all_c l_iald <| all_c l_ic <| all_c l_iadd <| all_c l_iast <| all_c l_ic <| all_c l_zret <| all_n
theorem hh_X12_readWho : RspF_ (f_X12_readWho KC) := rsp_fn hp_X12_readWho
set_option maxRecDepth 100000 in
theorem hp_X12_readLine : All_ (fun _ o => Loc_ o) (P_X12_readLine KC) :=
  all_c l_ic <| all_c l_ist <| all_c l_ild <| all_c l_ic <| all_c l_cmpgt <| all_c l_ald <| all_c l_ild <| all_c (l_callV hh_X12_isWord) <| all_c l_ifne <| all_c l_inc <| all_c l_goto <| all_c l_ild <| all_c l_ic <| all_c l_cmple <| all_c l_ald <| all_c l_ic <| all_c (l_callV hh_X12_bad) <| all_c l_zret <| all_c l_ild <| all_c l_ic <| all_c l_cmpge <| all_c l_ild <| all_c l_ifne <| all_c l_ald <|
  all_c (l_callV hh_X12_readChap) <| all_c l_ifeq <| all_c l_goto <| all_c l_ald <| all_c (l_callV hh_X12_readWho) <| all_c l_ifeq <| all_c l_ald <| all_c (l_callV hh_X12_readEnd) <| all_c l_ifeq <| all_c l_ic <| all_c l_goto <| all_c l_ic <| all_c l_zret <| all_c l_ald <| all_c l_gI <| all_c l_ild <| all_c (l_callS hh_X12_has) <| all_c l_ifeq <| all_c l_ald <| all_c l_ic <|
  all_c (l_callV hh_X12_bad) <| all_c l_zret <| all_c l_ald <| all_c l_dup <| all_c l_gI <| all_c l_ic <| all_c l_ild <| all_c l_ishl <| all_c l_ior <| all_c l_pI <| all_c l_ald <| all_c (l_callV hh_X12_go) <| all_c l_ald <| all_c l_ild <| all_c l_ic <| all_c l_cmpne <| all_c l_ic <| all_c l_goto <| all_c l_ic <| all_c l_ild <| all_c l_ic <| all_c l_cmpne <| all_c l_ic <| all_c l_goto <|
  all_c l_ic <| all_c (l_callV hh_X12_readNumber) <| all_c l_ifne <| all_c l_ic <| all_c l_zret <| all_c l_ald <| all_c l_gF <| all_c l_ild <| all_c l_ic <| all_c l_cmpne <| all_c l_ic <| all_c l_goto <| all_c l_ic <| all_c l_ald <| all_c l_gI <| all_c l_iast <| all_c l_ald <| all_c (l_callV hh_X12_readEnd) <| all_c l_zret <| all_n
theorem hh_X12_readLine : RspF_ (f_X12_readLine KC) := rsp_fn hp_X12_readLine
