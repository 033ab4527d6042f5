set_option maxRecDepth 100000 in
theorem hp_X12_idlest : All_ (fun _ o => Loc_ o) (P_X12_idlest KC) :=
  all_c l_ic <| all_c l_ist <| all_c l_ic <| all_c l_ist <| all_c l_ild <| all_c l_ald <| all_c (l_callV hh_X12_readers) <| all_c l_cmpge <| all_c l_ild <| all_c l_ic <| all_c l_cmpeq <| all_c l_ald <| all_c l_gF <| all_c l_ild <| all_c l_iald <| all_c l_ild <| all_c (l_callS hh_X12_has) <| all_c l_ifne <| all_c l_ild <| all_c l_ic <| all_c l_cmpeq <| all_c l_ald <| all_c l_gF <| all_c l_ild <|
  all_c l_iald <| all_c l_ald <| all_c l_gF <| all_c l_ild <| all_c l_iald <| all_c l_cmple <| all_c l_ild <| all_c l_ist <| all_c l_inc <| all_c l_goto <| all_c l_ild <| all_c l_iret <| all_n
theorem hh_X12_idlest : RspF_ (f_X12_idlest KC) := rsp_fn hp_X12_idlest
set_option maxRecDepth 100000 in
theorem hp_X12_makeLean : All_ (fun _ o => Loc_ o) (P_X12_makeLean KC) :=
  all_c l_ic <| all_c (l_aft l_ist) <| all_c l_ild <| all_c l_ald <| all_c (l_callV hh_X12_chaps) <| all_c l_cmpge <| all_c l_ald <| all_c l_gF <| all_c l_ild <| all_c l_ild <| all_c l_iast <| all_c l_inc <| all_c (l_aft l_goto) <| all_c l_ic <| all_c (l_aft l_ist) <| all_c l_ild <| all_c l_ifeq <| all_c l_ic <| all_c l_ist <| all_c l_ic <| all_c (l_aft l_ist) <| all_c l_ild <| all_c l_ald <|
  all_c (l_callV hh_X12_chaps) <| all_c l_cmpge <| all_c l_ic <| all_c (l_aft l_ist) <| all_c l_ild <| all_c l_ild <| all_c l_cmpge <| all_c l_ald <| all_c l_ild <| all_c l_ild <| all_c (l_callV hh_X12_leanOf) <| all_c l_ild <| all_c l_cmplt <| all_c l_ald <| all_c l_gF <| all_c l_ild <| all_c l_iald <| all_c l_ald <| all_c l_gF <| all_c l_ild <| all_c l_iald <| all_c l_cmpne <| all_c l_goto <|
  all_c l_ald <| all_c l_gF <| all_c l_ild <| all_c l_iald <| all_c l_ald <| all_c l_gF <| all_c l_ild <| all_c l_iald <| all_c l_cmpge <| all_c l_ald <| all_c l_gF <| all_c l_ild <| all_c l_iald <| all_c (l_aft l_goto) <| all_c l_ald <| all_c l_gF <| all_c l_ild <| all_c (l_aft l_iald) <| all_c l_ist <| all_c l_ald <| all_c l_gF <| all_c l_ild <| all_c l_ild <| all_c l_iast <| all_c l_ald <|
  all_c l_gF <| all_c l_ild <| all_c l_ild <| all_c l_iast <| all_c l_ic <| all_c l_ist <| all_c l_inc <| all_c (l_aft l_goto) <| all_c l_inc <| all_c (l_aft l_goto) <| all_c (l_aft l_goto) <| all_c l_ic <| all_c (l_aft l_ist) <| all_c l_ild <| all_c l_ald <| all_c (l_callV hh_X12_chaps) <| all_c l_cmpge <| all_c l_ald <| all_c (l_callV hh_X12_readers) <| all_c l_ifle <| all_c l_ald <|
  all_c l_gF <| all_c l_ild <| all_c l_iald <| all_c l_ild <| all_c l_cmpeq <| all_c l_goto <| all_c l_ald <| all_c l_ic <| all_c (l_callV hh_X12_idlest) <| all_c l_ist <| all_c l_ic <| all_c l_ist <| all_c l_ild <| all_c (l_aft l_ist) <| all_c l_ild <| all_c l_ald <| all_c (l_callV hh_X12_chaps) <| all_c l_cmpge <| all_c l_ild <| all_c l_ifeq <| all_c l_ald <| all_c l_gF <| all_c l_ild <|
  all_c l_iald <| all_c l_ild <| all_c l_cmpne <| all_c l_ald <| all_c l_ild <| all_c l_ild <| all_c l_ic <| all_c l_ic <| all_c (l_callV hh_X12_tries) <| all_c l_ist <| all_c l_inc <| all_c (l_aft l_goto) <| all_c l_inc <| all_c (l_aft l_goto) <| all_c l_vret <| all_n
theorem hh_X12_makeLean : RspF_ (f_X12_makeLean KC) := rsp_fn hp_X12_makeLean
set_option maxRecDepth 100000 in
theorem hp_X12_makeTwice : All_ (fun _ o => Loc_ o) (P_X12_makeTwice KC) :=
  all_c l_ic <| all_c l_ist <| all_c l_ic <| all_c (l_aft l_ist) <| all_c l_ild <| all_c l_ild <| all_c l_cmpge <| all_c l_ild <| all_c l_ald <| all_c (l_callV hh_X12_chaps) <| all_c l_cmpge <| all_c l_ic <| all_c l_ist <| all_c l_ic <| all_c l_ist <| all_c l_ild <| all_c l_ald <| all_c (l_callV hh_X12_chaps) <| all_c l_cmpge <| all_c l_ild <| all_c l_ild <| all_c (l_callS hh_X12_has) <|
  all_c l_ifne <| all_c l_ild <| all_c l_ic <| all_c l_cmpeq <| all_c l_ald <| all_c l_ild <| all_c l_ic <| all_c (l_callV hh_X12_chapOf) <| all_c l_ald <| all_c l_ild <| all_c l_ic <| all_c (l_callV hh_X12_chapOf) <| all_c l_cmple <| all_c l_ild <| all_c l_ist <| all_c l_inc <| all_c l_goto <| all_c l_ild <| all_c l_ic <| all_c l_ild <| all_c l_ishl <| all_c l_ior <| all_c l_ist <|
  all_c l_ald <| all_c l_ild <| all_c (l_callV hh_X12_idlest) <| all_c l_ist <| all_c l_ild <| all_c l_ic <| all_c l_cmpeq <| all_c l_ald <| all_c l_ild <| all_c l_ild <| all_c l_ic <| all_c l_ic <| all_c (l_callV hh_X12_tries) <| all_c l_pop <| all_c l_inc <| all_c (l_aft l_goto) <| all_c l_vret <| all_n
theorem hh_X12_makeTwice : RspF_ (f_X12_makeTwice KC) := rsp_fn hp_X12_makeTwice
set_option maxRecDepth 100000 in
theorem hp_X12_makeChain : All_ (fun _ o => Loc_ o) (P_X12_makeChain KC) :=
  all_c l_ic <| all_c (l_aft l_ist) <| all_c l_ild <| all_c l_ald <| all_c (l_callV hh_X12_chaps) <| all_c l_cmpge <| all_c l_ic <| all_c (l_aft l_ist) <| all_c l_ild <| all_c l_ald <| all_c (l_callV hh_X12_readers) <| all_c l_cmpge <| all_c l_ald <| all_c l_gF <| all_c l_ild <| all_c l_iald <| all_c l_ild <| all_c (l_callS hh_X12_has) <| all_c l_ifne <| all_c l_inc <| all_c (l_aft l_goto) <|
  all_c l_ild <| all_c l_ald <| all_c (l_callV hh_X12_readers) <| all_c l_cmpge <| all_c l_ic <| all_c l_goto <| all_c l_ic <| all_c (l_aft l_ist) <| all_c l_ild <| all_c l_ifeq <| all_c l_ild <| all_c l_ic <| all_c l_iadd <| all_c l_ald <| all_c (l_callV hh_X12_readers) <| all_c l_irem <| all_c l_ist <| all_c l_ald <| all_c l_gF <| all_c l_ild <| all_c l_iald <| all_c l_ild <|
  all_c (l_callS hh_X12_has) <| all_c l_ifne <| all_c l_ald <| all_c l_ild <| all_c l_ild <| all_c l_ild <| all_c l_ic <| all_c l_ild <| all_c l_ishl <| all_c (l_callV hh_X12_tries) <| all_c l_ifeq <| all_c l_ic <| all_c l_goto <| all_c l_ic <| all_c l_ist <| all_c l_ild <| all_c l_ist <| all_c (l_aft l_goto) <| all_c l_inc <| all_c (l_aft l_goto) <| all_c l_vret <| all_n
theorem hh_X12_makeChain : RspF_ (f_X12_makeChain KC) := rsp_fn hp_X12_makeChain
set_option maxRecDepth 100000 in
theorem hp_X12_makeRound : All_ (fun _ o => Loc_ o) (P_X12_makeRound KC) :=
  all_c l_ic <| all_c (l_aft l_ist) <| all_c l_ild <| all_c l_ald <| all_c (l_callV hh_X12_readers) <| all_c l_cmpge <| all_c l_ic <| all_c (l_aft l_ist) <| all_c l_ild <| all_c l_ald <| all_c (l_callV hh_X12_chaps) <| all_c l_cmpge <| all_c l_ald <| all_c l_gF <| all_c l_ild <| all_c l_iald <| all_c l_ild <| all_c (l_callS hh_X12_has) <| all_c l_ifne <| all_c l_goto <| all_c l_ic <|
  all_c l_ist <| all_c l_ic <| all_c l_ist <| all_c l_ild <| all_c l_ald <| all_c (l_callV hh_X12_readers) <| all_c l_cmpge <| all_c l_ild <| all_c l_ild <| all_c l_cmpeq <| all_c l_ald <| all_c l_gF <| all_c l_ild <| all_c l_iald <| all_c l_ald <| all_c l_ild <| all_c l_ild <| all_c (l_callV hh_X12_timeToTell) <| all_c l_cmplt <| all_c l_ild <| all_c l_ic <| all_c l_ild <| all_c l_ishl <|
  all_c l_ior <| all_c l_ist <| all_c l_inc <| all_c l_goto <| all_c l_ild <| all_c l_ifeq <| all_c l_ald <| all_c l_ild <| all_c l_ild <| all_c l_ild <| all_c l_ild <| all_c (l_callV hh_X12_tries) <| all_c l_pop <| all_c l_inc <| all_c (l_aft l_goto) <| all_c l_inc <| all_c (l_aft l_goto) <| all_c l_vret <| all_n
theorem hh_X12_makeRound : RspF_ (f_X12_makeRound KC) := rsp_fn hp_X12_makeRound
set_option maxRecDepth 100000 in
theorem hp_X12_make : All_ (fun _ o => Loc_ o) (P_X12_make KC) :=
  all_c l_ald <| all_c l_ic <| all_c l_pI <| all_c l_ald <| all_c (l_callV hh_X12_lay) <| all_c l_ild <| all_c l_ic <| all_c l_ic <| all_c (l_callS hh_X12_isIn) <| all_c l_ifeq <| all_c l_ild <| all_c l_ic <| all_c l_cmpne <| all_c l_ild <| all_c l_ic <| all_c l_ic <| all_c (l_callS hh_X12_isIn) <| all_c l_ifeq <| all_c l_ild <| all_c l_ic <| all_c l_cmpne <| all_c l_ild <| all_c l_ic <|
  all_c l_ic <| all_c (l_callS hh_X12_isIn) <| all_c l_ifeq <| all_c l_ild <| all_c l_ic <| all_c l_cmple <| all_c l_ild <| all_c l_ic <| all_c l_ic <| all_c (l_callS hh_X12_isIn) <| all_c l_ifne <| all_c l_ic <| all_c l_iret <| all_c l_ald <| all_c l_ic <| all_c l_pI <| all_c l_ald <| all_c (l_callV hh_X12_dawn) <| all_c l_ild <| all_c l_ic <| all_c l_cmpne <| all_c l_ald <| all_c l_ild <|
  all_c (l_callV hh_X12_makeLean) <| all_c l_goto <| all_c l_ald <| all_c (l_callV hh_X12_makeRows) <| all_c l_ild <| all_c l_ic <| all_c l_cmpne <| all_c l_ald <| all_c l_ild <| all_c (l_callV hh_X12_makeTwice) <| all_c l_ild <| all_c l_ic <| all_c l_cmpne <| all_c l_ald <| all_c l_ild <| all_c (l_callV hh_X12_makeChain) <| all_c l_ild <| all_c l_ic <| all_c l_cmpne <| all_c l_ald <|
  all_c l_ild <| all_c (l_callV hh_X12_makeRound) <| all_c l_ald <| all_c (l_callV hh_X12_plans) <| all_c l_iret <| all_n
theorem hh_X12_make : RspF_ (f_X12_make KC) := rsp_fn hp_X12_make
set_option maxRecDepth 100000 in
theorem hp_X12_draw : All_ (fun _ o => Loc_ o) (P_X12_draw KC) :=
  all_c l_ald <| all_c l_ald <| all_c l_gI <| all_c l_ic <| all_c l_imul <| all_c l_ic <| all_c l_iadd <| all_c l_pI <| all_c l_ald <| all_c l_gI <| all_c l_ic <| all_c l_iushr <| all_c l_ild <| all_c l_irem <| all_c l_iret <| all_n
theorem hh_X12_draw : RspF_ (f_X12_draw KC) := rsp_fn hp_X12_draw
set_option maxRecDepth 100000 in
theorem hp_X12_drawn : All_ (fun _ o => Loc_ o) (P_X12_drawn KC) :=
  all_c l_ald <| all_c l_ic <| all_c l_pI <| all_c l_ald <| all_c (l_callV hh_X12_lay) <| all_c l_ild <| all_c l_ic <| all_c l_ic <| all_c (l_callS hh_X12_isIn) <| all_c l_ifeq <| all_c l_ald <| all_c (l_callV hh_X12_readers) <| all_c l_ic <| all_c l_cmplt <| all_c l_ald <| all_c (l_callV hh_X12_chaps) <| all_c l_ifne <| all_c l_ic <| all_c l_iret <| all_c l_ald <| all_c l_ild <| all_c l_pI <|
  all_c l_ald <| all_c l_ic <| all_c l_pI <| all_c l_ic <| all_c (l_aft l_ist) <| all_c l_ild <| all_c l_ild <| all_c l_cmpge <| all_c l_ald <| all_c l_ald <| all_c (l_callV hh_X12_readers) <| all_c (l_callV hh_X12_draw) <| all_c l_ist <| all_c l_ald <| all_c l_ald <| all_c (l_callV hh_X12_chaps) <| all_c (l_callV hh_X12_draw) <| all_c l_ist <| all_c l_ald <| all_c l_ic <|
  all_c (l_callV hh_X12_draw) <| all_c l_ifne <| all_c l_ald <| all_c l_ild <| all_c l_ild <| all_c l_ic <| all_c l_ald <| all_c l_ic <| all_c (l_callV hh_X12_draw) <| all_c l_iadd <| all_c l_ic <| all_c l_ald <| all_c (l_callV hh_X12_readers) <| all_c l_ishl <| all_c l_ic <| all_c l_isub <| all_c l_ic <| all_c l_ild <| all_c l_ishl <| all_c l_ic <| all_c l_ixor <| all_c l_iand <|
  all_c (l_callV hh_X12_addAct) <| all_c l_pop <| all_c l_goto <| all_c l_ald <| all_c l_ild <| all_c l_ild <| all_c l_ic <| all_c l_ic <| all_c (l_callV hh_X12_addAct) <| all_c l_pop <| all_c l_inc <| all_c (l_aft l_goto) <| all_c l_ald <| all_c (l_callV hh_X12_plans) <| all_c l_iret <| all_n
theorem hh_X12_drawn : RspF_ (f_X12_drawn KC) := rsp_fn hp_X12_drawn
set_option maxRecDepth 100000 in
theorem hp_X12_tryReaders {r_X12_tryReaders : Fn_} (h_X12_tryReaders : RspF_ r_X12_tryReaders) : All_ (fun _ o => Loc_ o) (P_X12_tryReaders KC r_X12_tryReaders) :=
  all_c l_ild <| all_c l_ald <| all_c l_gI <| all_c l_cmpge <| all_c l_ic <| all_c (l_aft l_ist) <| all_c l_ild <| all_c l_ald <| all_c l_gI <| all_c l_cmpgt <| all_c l_ald <| all_c l_gF <| all_c l_ild <| all_c l_ild <| all_c l_iast <| all_c l_ald <| all_c l_ild <| all_c l_ic <| all_c l_iadd <| all_c (l_callV h_X12_tryReaders) <| all_c l_inc <| all_c (l_aft l_goto) <| all_c l_vret <|
  all_c l_ald <| all_c (l_callV hh_X12_dawn) <| all_c l_ic <| all_c (l_aft l_ist) <| all_c l_ild <| all_c l_ald <| all_c l_gI <| all_c l_cmpge <| all_c l_ald <| all_c l_gF <| all_c l_ild <| all_c l_iald <| all_c l_ist <| all_c l_ild <| all_c l_ald <| all_c l_gI <| all_c l_cmpne <| all_c l_goto <| all_c l_ald <| all_c l_gF <| all_c l_ild <| all_c l_iald <| all_c l_ald <| all_c l_ild <|
  all_c l_ild <| all_c (l_callV hh_X12_timeToRead) <| all_c l_cmpge <| all_c l_vret <| all_c l_ald <| all_c l_ild <| all_c l_ild <| all_c (l_callV hh_X12_reads) <| all_c l_inc <| all_c (l_aft l_goto) <| all_c l_ic <| all_c (l_aft l_ist) <| all_c l_ild <| all_c l_ald <| all_c l_gI <| all_c l_cmpge <| all_c l_ald <| all_c l_gF <| all_c l_ild <| all_c l_iald <| all_c l_ist <| all_c l_ild <|
  all_c l_ald <| all_c l_gI <| all_c l_cmpeq <| all_c l_ald <| all_c l_gF <| all_c l_ic <| all_c l_ild <| all_c l_imul <| all_c l_ild <| all_c l_iadd <| all_c l_iald <| all_c l_ifne <| all_c l_goto <| all_c l_ic <| all_c l_ist <| all_c l_ild <| all_c l_ald <| all_c l_gI <| all_c l_cmpge <| all_c l_ild <| all_c l_ild <| all_c l_cmpeq <| all_c l_ald <| all_c l_ild <| all_c l_ild <| all_c l_ild <|
  all_c l_ic <| all_c (l_callV hh_X12_gets) <| all_c l_inc <| all_c l_goto <| all_c l_inc <| all_c (l_aft l_goto) <| all_c l_ald <| all_c l_ald <| all_c l_gI <| all_c (l_callV hh_X12_sum) <| all_c l_ist <| all_c l_ild <| all_c l_ald <| all_c l_gI <| all_c l_cmpgt <| all_c l_vret <| all_c l_ald <| all_c l_ild <| all_c l_pI <| all_c l_ic <| all_c (l_aft l_ist) <| all_c l_ild <| all_c l_ald <|
  all_c l_gI <| all_c l_cmpge <| all_c l_ald <| all_c l_gF <| all_c l_ild <| all_c l_ald <| all_c l_gF <| all_c l_ild <| all_c l_iald <| all_c l_iast <| all_c l_inc <| all_c (l_aft l_goto) <| all_c l_vret <| all_n
theorem hF_X12_tryReaders : ∀ d, RspF_ (F_X12_tryReaders KC d)
  | 0 => rsp_0
  | d + 1 => rsp_fn (hp_X12_tryReaders (hF_X12_tryReaders d))
theorem hh_X12_tryReaders (d : Nat) : RspF_ (f_X12_tryReaders KC d) := (hF_X12_tryReaders d)
set_option maxRecDepth 100000 in
theorem hp_X12_best : All_ (fun _ o => Loc_ o) (P_X12_best KC) :=
  all_c l_ald <| all_c l_ic <| all_c l_pI <| all_c l_ald <| all_c (l_callV hh_X12_lay) <| all_c l_ild <| all_c l_ic <| all_c l_ic <| all_c (l_callS hh_X12_isIn) <| all_c l_ifeq <| all_c l_ild <| all_c l_ic <| all_c l_ic <| all_c (l_callS hh_X12_isIn) <| all_c l_ifeq <| all_c l_ild <| all_c l_ald <| all_c (l_callV hh_X12_chaps) <| all_c l_cmpgt <| all_c l_ild <| all_c l_ald <|
  all_c (l_callV hh_X12_readers) <| all_c l_cmple <| all_c l_ic <| all_c l_iret <| all_c l_ald <| all_c l_ild <| all_c l_pI <| all_c l_ald <| all_c l_ild <| all_c l_pI <| all_c l_ald <| all_c l_ic <| all_c l_pI <| all_c l_ald <| all_c l_ic <| all_c (l_callV (hh_X12_tryReaders 80)) <| all_c l_ald <| all_c l_ild <| all_c l_pI <| all_c l_ic <| all_c l_ist <| all_c l_ild <| all_c l_ild <|
  all_c l_cmpge <| all_c l_ald <| all_c l_gF <| all_c l_ild <| all_c l_ald <| all_c l_gF <| all_c l_ild <| all_c l_iald <| all_c l_ild <| all_c l_cmpne <| all_c l_ic <| all_c l_goto <| all_c l_ald <| all_c l_gF <| all_c l_ild <| all_c l_iald <| all_c l_iast <| all_c l_inc <| all_c l_goto <| all_c l_ald <| all_c l_gI <| all_c l_iret <| all_n
theorem hh_X12_best : RspF_ (f_X12_best KC) := rsp_fn hp_X12_best
set_option maxRecDepth 100000 in
theorem hp_X12_bestOf : All_ (fun _ o => Loc_ o) (P_X12_bestOf KC) :=
  all_c l_ald <| all_c l_ic <| all_c l_pI <| all_c l_ild <| all_c l_iflt <| all_c l_ild <| all_c l_ald <| all_c l_gI <| all_c l_cmpge <| all_c l_ald <| all_c l_gF <| all_c l_ild <| all_c l_iald <| all_c l_goto <| all_c l_ic <| all_c l_iret <| all_n
theorem hh_X12_bestOf : RspF_ (f_X12_bestOf KC) := rsp_fn hp_X12_bestOf
set_option maxRecDepth 100000 in
theorem hp_X12_stretch : All_ (fun _ o => Loc_ o) (P_X12_stretch KC) :=
  all_c l_ic <| all_c l_ist <| all_c l_ild <| all_c l_ild <| all_c l_ic <| all_c l_isub <| all_c l_cmpge <| all_c l_ald <| all_c l_gF <| all_c l_ild <| all_c l_iald <| all_c l_ild <| all_c l_cmpge <| all_c l_inc <| all_c l_goto <| all_c l_ild <| all_c l_iret <| all_n
theorem hh_X12_stretch : RspF_ (f_X12_stretch KC) := rsp_fn hp_X12_stretch
set_option maxRecDepth 100000 in
theorem hp_X12_over : All_ (fun _ o => Loc_ o) (P_X12_over KC) :=
  all_c l_ic <| all_c l_ist <| all_c l_ic <| all_c (l_aft l_ist) <| all_c l_ild <| all_c l_ald <| all_c (l_callV hh_X12_chaps) <| all_c l_cmpge <| all_c l_ic <| all_c l_ist <| all_c l_ild <| all_c l_ild <| all_c l_cmpge <| all_c l_ald <| all_c l_ild <| all_c l_ild <| all_c (l_callV hh_X12_stretch) <| all_c l_ald <| all_c l_ild <| all_c l_ild <| all_c (l_callV hh_X12_stretch) <| all_c l_cmpeq <|
  all_c l_ild <| all_c l_ald <| all_c l_ild <| all_c l_ild <| all_c (l_callV hh_X12_leanOf) <| all_c l_iadd <| all_c l_ist <| all_c l_inc <| all_c l_goto <| all_c l_inc <| all_c (l_aft l_goto) <| all_c l_ild <| all_c l_iret <| all_n
theorem hh_X12_over : RspF_ (f_X12_over KC) := rsp_fn hp_X12_over
set_option maxRecDepth 100000 in
theorem hp_X12_tryEnds {r_X12_tryEnds : Fn_} (h_X12_tryEnds : RspF_ r_X12_tryEnds) : All_ (fun _ o => Loc_ o) (P_X12_tryEnds KC r_X12_tryEnds) :=
  all_c l_ic <| all_c l_ist <| all_c l_ild <| all_c (l_aft l_ist) <| all_c l_ild <| all_c l_ald <| all_c (l_callV hh_X12_chaps) <| all_c l_cmpge <| all_c l_ild <| all_c l_ald <| all_c l_ild <| all_c l_ic <| all_c (l_callV hh_X12_chapOf) <| all_c l_iadd <| all_c l_ist <| all_c l_ild <| all_c l_ald <| all_c l_gI <| all_c l_cmple <| all_c l_vret <| all_c l_ild <| all_c l_ild <| all_c l_ic <|
  all_c l_isub <| all_c l_cmpne <| all_c l_ild <| all_c l_ald <| all_c (l_callV hh_X12_chaps) <| all_c l_ic <| all_c l_isub <| all_c (l_aft l_cmpge) <| all_c l_goto <| all_c l_ald <| all_c (l_callV hh_X12_chaps) <| all_c l_ic <| all_c l_isub <| all_c l_ild <| all_c l_isub <| all_c l_ild <| all_c l_ic <| all_c l_isub <| all_c l_ild <| all_c l_isub <| all_c (l_aft l_cmpge) <| all_c l_goto <|
  all_c l_ald <| all_c l_gF <| all_c l_ild <| all_c l_ild <| all_c l_iast <| all_c l_ild <| all_c l_ild <| all_c l_ic <| all_c l_isub <| all_c l_cmpge <| all_c l_ald <| all_c l_ild <| all_c l_ic <| all_c l_iadd <| all_c l_ild <| all_c l_ild <| all_c l_ic <| all_c l_iadd <| all_c (l_callV h_X12_tryEnds) <| all_c l_goto <| all_c l_ald <| all_c l_ild <| all_c (l_callV hh_X12_over) <| all_c l_ist <|
  all_c l_ald <| all_c l_gI <| all_c l_ic <| all_c l_cmpeq <| all_c l_ild <| all_c l_ald <| all_c l_gI <| all_c l_cmplt <| all_c l_goto <| all_c l_ald <| all_c l_ild <| all_c l_pI <| all_c l_ic <| all_c (l_aft l_ist) <| all_c l_ild <| all_c l_ild <| all_c l_cmpge <| all_c l_ald <| all_c l_gF <| all_c l_ild <| all_c l_ald <| all_c l_gF <| all_c l_ild <| all_c l_iald <| all_c l_iast <|
  all_c l_inc <| all_c (l_aft l_goto) <| all_c l_inc <| all_c (l_aft l_goto) <| all_c l_vret <| all_n
theorem hF_X12_tryEnds : ∀ d, RspF_ (F_X12_tryEnds KC d)
  | 0 => rsp_0
  | d + 1 => rsp_fn (hp_X12_tryEnds (hF_X12_tryEnds d))
theorem hh_X12_tryEnds (d : Nat) : RspF_ (f_X12_tryEnds KC d) := (hF_X12_tryEnds d)
set_option maxRecDepth 100000 in
theorem hp_X12_cut : All_ (fun _ o => Loc_ o) (P_X12_cut KC) :=
  all_c l_ald <| all_c l_ic <| all_c l_pI <| all_c l_ald <| all_c (l_callV hh_X12_lay) <| all_c l_ild <| all_c l_ic <| all_c l_ic <| all_c (l_callS hh_X12_isIn) <| all_c l_ifeq <| all_c l_ild <| all_c l_ic <| all_c l_ic <| all_c (l_callS hh_X12_isIn) <| all_c l_ifne <| all_c l_ic <| all_c l_iret <| all_c l_ald <| all_c l_ic <| all_c l_pI <| all_c l_ald <| all_c l_ild <| all_c l_pI <|
  all_c l_ald <| all_c l_ic <| all_c l_ild <| all_c l_ic <| all_c (l_callV (hh_X12_tryEnds 80)) <| all_c l_ald <| all_c l_gI <| all_c l_ic <| all_c l_cmpne <| all_c l_ic <| all_c l_iret <| all_c l_ald <| all_c l_ild <| all_c l_pI <| all_c l_ic <| all_c l_ist <| all_c l_ild <| all_c l_ild <| all_c l_cmpge <| all_c l_ald <| all_c l_gF <| all_c l_ild <| all_c l_ald <| all_c l_gF <| all_c l_ild <|
  all_c l_iald <| all_c l_iast <| all_c l_inc <| all_c l_goto <| all_c l_ald <| all_c l_gI <| all_c l_iret <| all_n
theorem hh_X12_cut : RspF_ (f_X12_cut KC) := rsp_fn hp_X12_cut
set_option maxRecDepth 100000 in
theorem hp_X12_cutAt : All_ (fun _ o => Loc_ o) (P_X12_cutAt KC) :=
  all_c l_ald <| all_c l_ic <| all_c l_pI <| all_c l_ild <| all_c l_iflt <| all_c l_ild <| all_c l_ald <| all_c l_gI <| all_c l_cmpge <| all_c l_ald <| all_c l_gF <| all_c l_ild <| all_c l_iald <| all_c l_goto <| all_c l_ic <| all_c l_iret <| all_n
theorem hh_X12_cutAt : RspF_ (f_X12_cutAt KC) := rsp_fn hp_X12_cutAt
set_option maxRecDepth 100000 in
theorem hp_X12_net : All_ (fun _ o => Loc_ o) (P_X12_net KC) :=
  all_c l_ald <| all_c l_ic <| all_c l_pI <| all_c l_ald <| all_c (l_callV hh_X12_lay) <| all_c l_ald <| all_c (l_callV hh_X12_take) <| all_c l_ist <| all_c l_ild <| all_c l_ic <| all_c l_ic <| all_c (l_callS hh_X12_isIn) <| all_c l_ifeq <| all_c l_ild <| all_c l_ic <| all_c l_ic <| all_c (l_callS hh_X12_isIn) <| all_c l_ifne <| all_c l_ic <| all_c l_iret <| all_c l_ic <| all_c l_ist <|
  all_c l_ic <| all_c (l_aft l_ist) <| all_c l_ild <| all_c l_ild <| all_c l_cmpge <| all_c l_ald <| all_c l_ald <| all_c l_gF <| all_c l_ild <| all_c l_iald <| all_c (l_callV hh_X12_isChap) <| all_c l_ifeq <| all_c l_ild <| all_c l_ald <| all_c l_gF <| all_c l_ild <| all_c l_iald <| all_c (l_callS hh_X12_has) <| all_c l_ifeq <| all_c l_ic <| all_c l_iret <| all_c l_ild <| all_c l_ic <|
  all_c l_ald <| all_c l_gF <| all_c l_ild <| all_c l_iald <| all_c l_ishl <| all_c l_ior <| all_c l_ist <| all_c l_inc <| all_c (l_aft l_goto) <| all_c l_ic <| all_c l_ist <| all_c l_ic <| all_c l_ist <| all_c l_ic <| all_c (l_aft l_ist) <| all_c l_ild <| all_c l_ic <| all_c l_ild <| all_c l_ic <| all_c l_isub <| all_c l_ishl <| all_c l_cmpge <| all_c l_ic <| all_c l_ist <| all_c l_ic <|
  all_c l_ist <| all_c l_ic <| all_c l_ist <| all_c l_ic <| all_c (l_aft l_ist) <| all_c l_ild <| all_c l_ild <| all_c l_cmpge <| all_c l_ild <| all_c l_ild <| all_c (l_callS hh_X12_has) <| all_c l_ifeq <| all_c l_ild <| all_c l_ald <| all_c l_ald <| all_c l_gF <| all_c l_ild <| all_c l_iald <| all_c l_ic <| all_c (l_callV hh_X12_chapOf) <| all_c l_iadd <| all_c l_ist <| all_c l_goto <|
  all_c l_ild <| all_c l_ald <| all_c l_ald <| all_c l_gF <| all_c l_ild <| all_c l_iald <| all_c l_ic <| all_c (l_callV hh_X12_chapOf) <| all_c l_iadd <| all_c l_ist <| all_c l_ic <| all_c (l_aft l_ist) <| all_c l_ild <| all_c l_ild <| all_c l_cmpge <| all_c l_ild <| all_c l_ild <| all_c (l_callS hh_X12_has) <| all_c l_ild <| all_c l_ild <| all_c (l_callS hh_X12_has) <| all_c l_cmpeq <|
  all_c l_ald <| all_c l_gF <| all_c l_ild <| all_c l_iald <| all_c l_ald <| all_c l_gF <| all_c l_ild <| all_c l_iald <| all_c l_cmpge <| all_c l_ild <| all_c l_ald <| all_c l_ald <| all_c l_gF <| all_c l_ild <| all_c l_iald <| all_c l_ald <| all_c l_gF <| all_c l_ild <| all_c l_iald <| all_c (l_callV hh_X12_leanOf) <| all_c l_iadd <| all_c l_ist <| all_c l_inc <| all_c (l_aft l_goto) <|
  all_c l_inc <| all_c (l_aft l_goto) <| all_c l_ild <| all_c l_ild <| all_c l_cmpgt <| all_c l_ild <| all_c l_ild <| all_c l_cmpgt <| all_c l_ild <| all_c l_ic <| all_c l_cmpeq <| all_c l_ild <| all_c l_ild <| all_c l_cmplt <| all_c l_goto <| all_c l_ild <| all_c l_ist <| all_c l_ild <| all_c l_ist <| all_c l_inc <| all_c (l_aft l_goto) <| all_c l_ild <| all_c l_ic <| all_c l_cmpeq <|
  all_c l_ald <| all_c l_ild <| all_c l_pI <| all_c l_ild <| all_c l_iret <| all_n
theorem hh_X12_net : RspF_ (f_X12_net KC) := rsp_fn hp_X12_net
set_option maxRecDepth 100000 in
theorem hp_X12_netSide : All_ (fun _ o => Loc_ o) (P_X12_netSide KC) :=
  all_c l_ald <| all_c l_ic <| all_c l_pI <| all_c l_ald <| all_c l_gI <| all_c l_iret <| all_n
theorem hh_X12_netSide : RspF_ (f_X12_netSide KC) := rsp_fn hp_X12_netSide
set_option maxRecDepth 100000 in
theorem hp_X12_tryChain {r_X12_tryChain : Fn_} (h_X12_tryChain : RspF_ r_X12_tryChain) : All_ (fun _ o => Loc_ o) (P_X12_tryChain KC r_X12_tryChain) :=
  all_c l_ild <| all_c l_ald <| all_c l_gI <| all_c l_cmpne <| all_c l_ild <| all_c l_ald <| all_c l_gI <| all_c l_cmpgt <| all_c l_vret <| all_c l_ald <| all_c l_ild <| all_c l_pI <| all_c l_ic <| all_c (l_aft l_ist) <| all_c l_ild <| all_c l_ild <| all_c l_cmpge <| all_c l_ald <| all_c l_gF <| all_c l_ild <| all_c l_ald <| all_c l_gF <| all_c l_ild <| all_c l_iald <| all_c l_iast <|
  all_c l_inc <| all_c (l_aft l_goto) <| all_c l_vret <| all_c l_ic <| all_c (l_aft l_ist) <| all_c l_ild <| all_c l_ald <| all_c l_gI <| all_c l_cmpge <| all_c l_ild <| all_c l_ild <| all_c (l_callS hh_X12_has) <| all_c l_ifne <| all_c l_ild <| all_c (l_aft l_ifne) <| all_c l_ild <| all_c (l_aft l_ifle) <| all_c l_goto <| all_c l_ald <| all_c l_gF <| all_c l_ild <| all_c l_ald <| all_c l_gF <|
  all_c l_ild <| all_c l_iald <| all_c l_iast <| all_c l_ild <| all_c l_ifne <| all_c l_ic <| all_c (l_aft l_goto) <| all_c l_ald <| all_c l_ald <| all_c l_gF <| all_c l_ild <| all_c l_ic <| all_c l_isub <| all_c l_iald <| all_c l_ild <| all_c l_ild <| all_c l_ic <| all_c l_cmpne <| all_c l_ic <| all_c l_goto <| all_c l_ic <| all_c l_ald <| all_c l_gF <| all_c l_ild <| all_c l_iald <|
  all_c l_ic <| all_c (l_aft (l_callV hh_X12_given)) <| all_c l_ist <| all_c l_ald <| all_c l_ild <| all_c l_ic <| all_c l_iadd <| all_c l_ild <| all_c l_ic <| all_c l_ild <| all_c l_ishl <| all_c l_ior <| all_c l_ild <| all_c l_ild <| all_c l_ild <| all_c l_iadd <| all_c (l_callV h_X12_tryChain) <| all_c l_inc <| all_c (l_aft l_goto) <| all_c l_vret <| all_n
theorem hF_X12_tryChain : ∀ d, RspF_ (F_X12_tryChain KC d)
  | 0 => rsp_0
  | d + 1 => rsp_fn (hp_X12_tryChain (hF_X12_tryChain d))
theorem hh_X12_tryChain (d : Nat) : RspF_ (f_X12_tryChain KC d) := (hF_X12_tryChain d)
set_option maxRecDepth 100000 in
theorem hp_X12_chain : All_ (fun _ o => Loc_ o) (P_X12_chain KC) :=
  all_c l_ald <| all_c l_ic <| all_c l_pI <| all_c l_ald <| all_c (l_callV hh_X12_lay) <| all_c l_ald <| all_c l_ald <| all_c (l_callV hh_X12_take) <| all_c l_pI <| all_c l_ald <| all_c l_gI <| all_c l_ic <| all_c l_ic <| all_c (l_callS hh_X12_isIn) <| all_c l_ifne <| all_c l_ic <| all_c l_iret <| all_c l_ic <| all_c l_ist <| all_c l_ic <| all_c l_ist <| all_c l_ild <| all_c l_ald <|
  all_c l_gI <| all_c l_cmpge <| all_c l_ald <| all_c l_ald <| all_c l_gF <| all_c l_ild <| all_c l_iald <| all_c (l_callV hh_X12_isReader) <| all_c l_ifeq <| all_c l_ild <| all_c l_ald <| all_c l_gF <| all_c l_ild <| all_c l_iald <| all_c (l_callS hh_X12_has) <| all_c l_ifeq <| all_c l_ic <| all_c l_iret <| all_c l_ild <| all_c l_ic <| all_c l_ald <| all_c l_gF <| all_c l_ild <| all_c l_iald <|
  all_c l_ishl <| all_c l_ior <| all_c l_ist <| all_c l_ald <| all_c l_gF <| all_c l_ild <| all_c l_ald <| all_c l_gF <| all_c l_ild <| all_c l_iald <| all_c l_iast <| all_c l_inc <| all_c l_goto <| all_c l_ald <| all_c l_ic <| all_c l_pI <| all_c l_ald <| all_c l_ic <| all_c l_ic <| all_c l_ic <| all_c l_ic <| all_c (l_callV (hh_X12_tryChain 80)) <| all_c l_ald <| all_c l_ald <| all_c l_gI <|
  all_c l_pI <| all_c l_ic <| all_c (l_aft l_ist) <| all_c l_ild <| all_c l_ald <| all_c l_gI <| all_c l_cmpge <| all_c l_ald <| all_c l_gF <| all_c l_ild <| all_c l_ald <| all_c l_gF <| all_c l_ild <| all_c l_iald <| all_c l_iast <| all_c l_inc <| all_c (l_aft l_goto) <| all_c l_ald <| all_c l_gI <| all_c l_iret <| all_n
theorem hh_X12_chain : RspF_ (f_X12_chain KC) := rsp_fn hp_X12_chain
