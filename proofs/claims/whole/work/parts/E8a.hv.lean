set_option maxRecDepth 100000 in
theorem hp_X0_clear : All_ (fun _ o => Loc_ o) (P_X0_clear KC) :=
  all_c l_ald <| all_c l_ic <| all_c l_pI <| all_c l_ald <| all_c l_ic <| all_c l_pI <| all_c l_ald <| all_c l_ic <| all_c l_pI <| all_c l_ald <| all_c l_ic <| all_c l_pI <| all_c l_ald <| all_c l_ic <| all_c l_pI <| all_c l_ald <| all_c l_ic <| all_c l_pZ <| all_c l_ald <| all_c l_ic <| all_c l_pZ <| all_c l_vret <| all_n
theorem hh_X0_clear : RspF_ (f_X0_clear KC) := rsp_fn hp_X0_clear
set_option maxRecDepth 100000 in
theorem hp_X0_copyRow : All_ (fun _ o => Loc_ o) (P_X0_copyRow KC) :=
  all_c l_ild <| all_c l_ifle <| all_c l_ild <| all_c l_ald <| all_c l_alen <| all_c l_cmpgt <| all_c l_ild <| all_c l_ald <| all_c l_alen <| all_c l_cmpgt <| all_c l_ald <| all_c l_ic <| all_c l_ald <| all_c l_ic <| all_c l_ild <| all_c l_copy <| all_c l_vret <| all_n
theorem hh_X0_copyRow : RspF_ (f_X0_copyRow KC) := rsp_fn hp_X0_copyRow
set_option maxRecDepth 100000 in
theorem hp_X0_copyFrom : All_ (fun _ o => Loc_ o) (P_X0_copyFrom KC) :=
  all_c l_ald <| all_c l_gF <| all_c l_ald <| all_c l_gF <| all_c l_ald <| all_c l_gI <| all_c (l_callS hh_X0_copyRow) <| all_c l_ald <| all_c l_gF <| all_c l_ald <| all_c l_gF <| all_c l_ald <| all_c l_gI <| all_c (l_callS hh_X0_copyRow) <| all_c l_ald <| all_c l_gF <| all_c l_ald <| all_c l_gF <| all_c l_ald <| all_c l_gI <| all_c (l_callS hh_X0_copyRow) <| all_c l_ald <| all_c l_gF <|
  all_c l_ald <| all_c l_gF <| all_c l_ald <| all_c l_gI <| all_c (l_callS hh_X0_copyRow) <| all_c l_ic <| all_c l_ist <| all_c l_ild <| all_c l_ald <| all_c l_gI <| all_c l_cmpge <| all_c l_ald <| all_c l_gF <| all_c l_ild <| all_c l_aald <| all_c l_ald <| all_c l_gF <| all_c l_ild <| all_c l_aald <| all_c l_ic <| all_c (l_callS hh_X0_copyRow) <| all_c l_inc <| all_c l_goto <| all_c l_ald <|
  all_c l_gF <| all_c l_ald <| all_c l_gF <| all_c l_ald <| all_c l_gI <| all_c (l_callS hh_X0_copyRow) <| all_c l_ald <| all_c l_gF <| all_c l_ald <| all_c l_gF <| all_c l_ald <| all_c l_gI <| all_c (l_callS hh_X0_copyRow) <| all_c l_ald <| all_c l_gF <| all_c l_ald <| all_c l_gF <| all_c l_ald <| all_c l_gI <| all_c (l_callS hh_X0_copyRow) <| all_c l_ald <| all_c l_gF <| all_c l_ald <|
  all_c l_gF <| all_c l_ald <| all_c l_gI <| all_c (l_callS hh_X0_copyRow) <| all_c l_ald <| all_c l_gF <| all_c l_ald <| all_c l_gF <| all_c l_ald <| all_c l_gI <| all_c (l_callS hh_X0_copyRow) <| all_c l_ald <| all_c l_gF <| all_c l_ald <| all_c l_gF <| all_c l_ald <| all_c l_gI <| all_c (l_callS hh_X0_copyRow) <| all_c l_ald <| all_c l_ald <| all_c l_gI <| all_c l_pI <| all_c l_ald <|
  all_c l_ald <| all_c l_gI <| all_c l_pI <| all_c l_ald <| all_c l_ald <| all_c l_gI <| all_c l_pI <| all_c l_ald <| all_c l_ald <| all_c l_gI <| all_c l_pI <| all_c l_ald <| all_c l_ald <| all_c l_gI <| all_c l_pI <| all_c l_vret <| all_n
theorem hh_X0_copyFrom : RspF_ (f_X0_copyFrom KC) := rsp_fn hp_X0_copyFrom
set_option maxRecDepth 100000 in
theorem hp_X0_hasChap : All_ (fun _ o => Loc_ o) (P_X0_hasChap KC) :=
  all_c l_ild <| all_c l_iflt <| all_c l_ild <| all_c l_ald <| all_c l_gI <| all_c l_cmpge <| all_c l_ic <| all_c l_goto <| all_c l_ic <| all_c l_zret <| all_n
theorem hh_X0_hasChap : RspF_ (f_X0_hasChap KC) := rsp_fn hp_X0_hasChap
set_option maxRecDepth 100000 in
theorem hp_X0_hasReader : All_ (fun _ o => Loc_ o) (P_X0_hasReader KC) :=
  all_c l_ild <| all_c l_iflt <| all_c l_ild <| all_c l_ald <| all_c l_gI <| all_c l_cmpge <| all_c l_ic <| all_c l_goto <| all_c l_ic <| all_c l_zret <| all_n
theorem hh_X0_hasReader : RspF_ (f_X0_hasReader KC) := rsp_fn hp_X0_hasReader
set_option maxRecDepth 100000 in
theorem hp_X0_placeOf : All_ (fun _ o => Loc_ o) (P_X0_placeOf KC) :=
  all_c l_ic <| all_c l_ist <| all_c l_ild <| all_c l_ild <| all_c l_cmpge <| all_c l_ild <| all_c l_ald <| all_c l_alen <| all_c l_cmpge <| all_c l_ald <| all_c l_ild <| all_c l_iald <| all_c l_ild <| all_c l_cmpne <| all_c l_ild <| all_c l_iret <| all_c l_inc <| all_c l_goto <| all_c l_ic <| all_c l_iret <| all_n
theorem hh_X0_placeOf : RspF_ (f_X0_placeOf KC) := rsp_fn hp_X0_placeOf
set_option maxRecDepth 100000 in
theorem hp_X0_chapNamed : All_ (fun _ o => Loc_ o) (P_X0_chapNamed KC) :=
  all_c l_ild <| all_c l_ald <| all_c l_gF <| all_c l_ald <| all_c l_gI <| all_c (l_callS hh_X0_placeOf) <| all_c l_iret <| all_n
theorem hh_X0_chapNamed : RspF_ (f_X0_chapNamed KC) := rsp_fn hp_X0_chapNamed
set_option maxRecDepth 100000 in
theorem hp_X0_readerNamed : All_ (fun _ o => Loc_ o) (P_X0_readerNamed KC) :=
  all_c l_ild <| all_c l_ald <| all_c l_gF <| all_c l_ald <| all_c l_gI <| all_c (l_callS hh_X0_placeOf) <| all_c l_iret <| all_n
theorem hh_X0_readerNamed : RspF_ (f_X0_readerNamed KC) := rsp_fn hp_X0_readerNamed
set_option maxRecDepth 100000 in
theorem hp_X0_leansOnHowMany : All_ (fun _ o => Loc_ o) (P_X0_leansOnHowMany KC) :=
  all_c l_ic <| all_c l_ist <| all_c l_ic <| all_c l_ist <| all_c l_ild <| all_c l_ild <| all_c l_cmpge <| all_c l_ald <| all_c l_gF <| all_c l_ild <| all_c l_aald <| all_c l_ild <| all_c l_iald <| all_c l_ifle <| all_c l_inc <| all_c l_inc <| all_c l_goto <| all_c l_ild <| all_c l_iret <| all_n
theorem hh_X0_leansOnHowMany : RspF_ (f_X0_leansOnHowMany KC) := rsp_fn hp_X0_leansOnHowMany
set_option maxRecDepth 100000 in
theorem hp_X8_fail : All_ (fun _ o => Loc_ o) (P_X8_fail KC) :=
  all_c l_ald <| all_c l_ild <| all_c l_pI <| all_c l_ald <| all_c l_ald <| all_c l_gI <| all_c l_pI <| all_c l_ic <| all_c l_zret <| all_n
theorem hh_X8_fail : RspF_ (f_X8_fail KC) := rsp_fn hp_X8_fail
set_option maxRecDepth 100000 in
theorem hp_X8_isSign : All_ (fun _ o => Loc_ o) (P_X8_isSign KC) :=
  all_c l_ild <| all_c l_ic <| all_c l_cmpeq <| all_c l_ild <| all_c l_ic <| all_c l_cmpeq <| all_c l_ild <| all_c l_ic <| all_c l_cmpeq <| all_c l_ild <| all_c l_ic <| all_c l_cmpeq <| all_c l_ild <| all_c l_ic <| all_c l_cmpeq <| all_c l_ild <| all_c l_ic <| all_c l_cmpne <| all_c l_ic <| all_c l_goto <| all_c l_ic <| all_c l_zret <| all_n
theorem hh_X8_isSign : RspF_ (f_X8_isSign KC) := rsp_fn hp_X8_isSign
set_option maxRecDepth 100000 in
theorem hp_X8_nextWordOrNumber : All_ (fun _ o => Loc_ o) (P_X8_nextWordOrNumber KC) :=
  all_c l_ic <| all_c l_ist <| all_c l_ic <| all_c l_ist <| all_c l_ald <| all_c l_ic <| all_c (l_aft l_pI) <| all_c l_ald <| all_c l_gI <| all_c l_ald <| all_c l_gI <| all_c l_cmpge <| all_c l_ald <| all_c l_gF <| all_c l_ald <| all_c l_gI <| all_c l_bald <| all_c l_ist <| all_c l_ild <| all_c l_ic <| all_c l_cmplt <| all_c l_ild <| all_c l_ic <| all_c l_cmpgt <| all_c l_inc <| all_c l_ald <|
  all_c l_ald <| all_c l_gI <| all_c l_ic <| all_c l_ishl <| all_c l_ild <| all_c l_ic <| all_c l_isub <| all_c l_ic <| all_c l_iadd <| all_c l_ior <| all_c l_pI <| all_c l_goto <| all_c l_ild <| all_c l_ic <| all_c l_cmplt <| all_c l_ild <| all_c l_ic <| all_c l_cmpgt <| all_c l_inc <| all_c l_ald <| all_c l_ald <| all_c l_gI <| all_c l_ic <| all_c l_imul <| all_c l_ild <| all_c l_iadd <|
  all_c l_ic <| all_c l_isub <| all_c l_pI <| all_c l_ald <| all_c l_dup <| all_c l_gI <| all_c l_ic <| all_c l_iadd <| all_c l_pI <| all_c (l_aft l_goto) <| all_c l_ald <| all_c l_ic <| all_c l_pI <| all_c l_ild <| all_c l_ifne <| all_c l_ild <| all_c l_ic <| all_c l_cmplt <| all_c l_ild <| all_c l_ic <| all_c l_cmpgt <| all_c l_ald <| all_c l_ic <| all_c l_pI <| all_c l_ic <|
  all_c (l_aft l_ist) <| all_c l_ild <| all_c l_ic <| all_c l_cmpge <| all_c l_ald <| all_c l_gF <| all_c l_ild <| all_c l_iald <| all_c l_ald <| all_c l_gI <| all_c l_cmpne <| all_c l_ald <| all_c l_ic <| all_c l_ild <| all_c l_iadd <| all_c l_pI <| all_c l_inc <| all_c (l_aft l_goto) <| all_c l_goto <| all_c l_ild <| all_c l_ifne <| all_c l_ild <| all_c l_ic <| all_c l_cmplt <| all_c l_ild <|
  all_c l_ic <| all_c l_cmpgt <| all_c l_ald <| all_c l_ic <| all_c l_pI <| all_c l_vret <| all_n
theorem hh_X8_nextWordOrNumber : RspF_ (f_X8_nextWordOrNumber KC) := rsp_fn hp_X8_nextWordOrNumber
set_option maxRecDepth 100000 in
theorem hp_X8_next : All_ (fun _ o => Loc_ o) (P_X8_next KC) :=
  all_c l_ald <| all_c l_gI <| all_c l_ald <| all_c l_gI <| all_c l_cmpge <| all_c l_ald <| all_c l_gF <| all_c l_ald <| all_c l_gI <| all_c l_bald <| all_c l_ic <| all_c l_cmpeq <| all_c l_ald <| all_c l_gF <| all_c l_ald <| all_c l_gI <| all_c l_bald <| all_c l_ic <| all_c l_cmpne <| all_c l_ald <| all_c l_dup <| all_c l_gI <| all_c l_ic <| all_c l_iadd <| all_c l_pI <| all_c l_goto <|
  all_c l_ald <| all_c l_ald <| all_c l_gI <| all_c l_pI <| all_c l_ald <| all_c l_gI <| all_c l_ald <| all_c l_gI <| all_c l_cmple <| all_c l_ald <| all_c l_gI <| all_c l_ald <| all_c l_gI <| all_c l_cmplt <| all_c l_ald <| all_c l_ald <| all_c l_gI <| all_c l_pI <| all_c l_ald <| all_c l_ic <| all_c l_pI <| all_c l_goto <| all_c l_ald <| all_c l_gI <| all_c l_ald <| all_c l_gI <|
  all_c l_cmplt <| all_c l_ald <| all_c l_ic <| all_c l_pI <| all_c l_goto <| all_c l_ald <| all_c l_gF <| all_c l_ald <| all_c l_gI <| all_c l_bald <| all_c (l_callS hh_X8_isSign) <| all_c l_ifeq <| all_c l_ald <| all_c l_ald <| all_c l_gF <| all_c l_ald <| all_c l_gI <| all_c l_bald <| all_c l_pI <| all_c l_ald <| all_c l_dup <| all_c l_gI <| all_c l_ic <| all_c l_iadd <| all_c l_pI <|
  all_c l_goto <| all_c l_ald <| all_c (l_callV hh_X8_nextWordOrNumber) <| all_c l_vret <| all_n
theorem hh_X8_next : RspF_ (f_X8_next KC) := rsp_fn hp_X8_next
set_option maxRecDepth 100000 in
theorem hp_X8_takeNumber : All_ (fun _ o => Loc_ o) (P_X8_takeNumber KC) :=
  all_c l_ald <| all_c l_gI <| all_c l_ic <| all_c l_cmpeq <| all_c l_ald <| all_c l_ic <| all_c (l_callV hh_X8_fail) <| all_c l_zret <| all_c l_ald <| all_c l_gI <| all_c l_ild <| all_c l_cmplt <| all_c l_ald <| all_c l_gI <| all_c l_ild <| all_c l_cmple <| all_c l_ald <| all_c l_ic <| all_c (l_callV hh_X8_fail) <| all_c l_zret <| all_c l_ald <| all_c l_ald <| all_c l_gI <| all_c l_pI <|
  all_c l_ald <| all_c (l_callV hh_X8_next) <| all_c l_ic <| all_c l_zret <| all_n
theorem hh_X8_takeNumber : RspF_ (f_X8_takeNumber KC) := rsp_fn hp_X8_takeNumber
set_option maxRecDepth 100000 in
theorem hp_X0_readAgain : All_ (fun _ o => Loc_ o) (P_X0_readAgain KC) :=
  all_c l_ald <| all_c l_gI <| all_c l_ifeq <| all_c l_ald <| all_c l_ic <| all_c (l_callV hh_X8_fail) <| all_c l_zret <| all_c l_ald <| all_c (l_callV hh_X8_next) <| all_c l_ald <| all_c l_ic <| all_c l_ic <| all_c (l_callV hh_X8_takeNumber) <| all_c l_ifne <| all_c l_ic <| all_c l_zret <| all_c l_ald <| all_c l_ald <| all_c l_gI <| all_c l_pI <| all_c l_ald <| all_c l_ic <| all_c l_pZ <|
  all_c l_ic <| all_c l_zret <| all_n
theorem hh_X0_readAgain : RspF_ (f_X0_readAgain KC) := rsp_fn hp_X0_readAgain
set_option maxRecDepth 100000 in
theorem hp_X8_takeChap : All_ (fun _ o => Loc_ o) (P_X8_takeChap KC) :=
  all_c l_ald <| all_c l_gI <| all_c l_ic <| all_c l_cmpeq <| all_c l_ald <| all_c l_ic <| all_c (l_callV hh_X8_fail) <| all_c l_zret <| all_c l_ald <| all_c l_ald <| all_c l_gI <| all_c (l_callV hh_X0_chapNamed) <| all_c l_ist <| all_c l_ild <| all_c l_ic <| all_c l_cmpne <| all_c l_ald <| all_c l_ic <| all_c (l_callV hh_X8_fail) <| all_c l_zret <| all_c l_ald <| all_c (l_callV hh_X8_next) <|
  all_c l_ald <| all_c l_ild <| all_c l_pI <| all_c l_ic <| all_c l_zret <| all_n
theorem hh_X8_takeChap : RspF_ (f_X8_takeChap KC) := rsp_fn hp_X8_takeChap
set_option maxRecDepth 100000 in
theorem hp_X0_readLeanings : All_ (fun _ o => Loc_ o) (P_X0_readLeanings KC) :=
  all_c l_ic <| all_c (l_aft l_ist) <| all_c l_ild <| all_c l_ic <| all_c l_cmpge <| all_c l_ald <| all_c l_gF <| all_c l_ild <| all_c l_aald <| all_c l_ild <| all_c l_ic <| all_c l_iast <| all_c l_inc <| all_c (l_aft l_goto) <| all_c l_ic <| all_c l_ist <| all_c l_ic <| all_c (l_aft l_ist) <| all_c l_ild <| all_c l_ic <| all_c l_cmpge <| all_c l_ald <| all_c l_gI <| all_c l_ic <|
  all_c l_cmpne <| all_c l_ald <| all_c (l_callV hh_X8_next) <| all_c l_ald <| all_c l_gI <| all_c l_ic <| all_c l_cmpne <| all_c l_ald <| all_c l_ald <| all_c l_gI <| all_c (l_callV hh_X0_chapNamed) <| all_c (l_aft l_goto) <| all_c (l_aft l_ic) <| all_c l_ist <| all_c l_ild <| all_c l_ic <| all_c l_cmpeq <| all_c l_ald <| all_c l_gF <| all_c l_ild <| all_c l_aald <| all_c l_ild <|
  all_c l_iald <| all_c l_ifle <| all_c l_ald <| all_c l_ic <| all_c (l_callV hh_X8_fail) <| all_c l_zret <| all_c l_ald <| all_c l_ald <| all_c (l_callV hh_X8_takeChap) <| all_c l_ifeq <| all_c l_ald <| all_c l_ic <| all_c l_ild <| all_c (l_callV hh_X8_takeNumber) <| all_c l_ifne <| all_c l_ic <| all_c l_zret <| all_c l_ild <| all_c l_ic <| all_c l_cmpeq <| all_c l_ald <| all_c l_gF <|
  all_c l_ild <| all_c l_aald <| all_c l_ild <| all_c l_ald <| all_c l_gI <| all_c l_iast <| all_c l_ild <| all_c l_ald <| all_c l_gI <| all_c l_isub <| all_c l_ist <| all_c l_inc <| all_c (l_aft l_goto) <| all_c l_ic <| all_c l_zret <| all_n
theorem hh_X0_readLeanings : RspF_ (f_X0_readLeanings KC) := rsp_fn hp_X0_readLeanings
set_option maxRecDepth 100000 in
theorem hp_X8_take : All_ (fun _ o => Loc_ o) (P_X8_take KC) :=
  all_c l_ald <| all_c l_gI <| all_c l_ild <| all_c l_cmpeq <| all_c l_ald <| all_c l_ic <| all_c (l_callV hh_X8_fail) <| all_c l_zret <| all_c l_ald <| all_c l_ald <| all_c l_gI <| all_c l_pI <| all_c l_ald <| all_c (l_callV hh_X8_next) <| all_c l_ic <| all_c l_zret <| all_n
theorem hh_X8_take : RspF_ (f_X8_take KC) := rsp_fn hp_X8_take
set_option maxRecDepth 100000 in
theorem hp_X0_takeNewName : All_ (fun _ o => Loc_ o) (P_X0_takeNewName KC) :=
  all_c l_ald <| all_c l_gI <| all_c l_ic <| all_c l_cmpeq <| all_c l_ald <| all_c l_ic <| all_c (l_callV hh_X8_fail) <| all_c l_zret <| all_c l_ald <| all_c l_ald <| all_c l_gI <| all_c (l_callV hh_X0_chapNamed) <| all_c l_ic <| all_c l_cmpne <| all_c l_ald <| all_c l_ald <| all_c l_gI <| all_c (l_callV hh_X0_readerNamed) <| all_c l_ic <| all_c l_cmpeq <| all_c l_ald <| all_c l_ic <|
  all_c (l_callV hh_X8_fail) <| all_c l_zret <| all_c l_ald <| all_c l_ic <| all_c (l_callV hh_X8_take) <| all_c l_zret <| all_n
theorem hh_X0_takeNewName : RspF_ (f_X0_takeNewName KC) := rsp_fn hp_X0_takeNewName
set_option maxRecDepth 100000 in
theorem hp_X0_readChap : All_ (fun _ o => Loc_ o) (P_X0_readChap KC) :=
  all_c l_ald <| all_c l_gI <| all_c l_ist <| all_c l_ild <| all_c l_ic <| all_c l_cmplt <| all_c l_ald <| all_c l_ic <| all_c (l_callV hh_X8_fail) <| all_c l_zret <| all_c l_ald <| all_c (l_callV hh_X8_next) <| all_c l_ald <| all_c l_ald <| all_c (l_callV hh_X0_takeNewName) <| all_c l_ifne <| all_c l_ic <| all_c l_zret <| all_c l_ald <| all_c l_gF <| all_c l_ild <| all_c l_ald <| all_c l_gI <|
  all_c l_iast <| all_c l_ald <| all_c l_ic <| all_c l_ic <| all_c (l_callV hh_X8_takeNumber) <| all_c l_ifne <| all_c l_ic <| all_c l_zret <| all_c l_ald <| all_c l_gF <| all_c l_ild <| all_c l_ald <| all_c l_gI <| all_c l_iast <| all_c l_ald <| all_c l_ic <| all_c l_ic <| all_c (l_callV hh_X8_takeNumber) <| all_c l_ifne <| all_c l_ic <| all_c l_zret <| all_c l_ald <| all_c l_gF <|
  all_c l_ild <| all_c l_ald <| all_c l_gI <| all_c l_iast <| all_c l_ald <| all_c l_ald <| all_c l_ild <| all_c (l_callV hh_X0_readLeanings) <| all_c l_ifne <| all_c l_ic <| all_c l_zret <| all_c l_ald <| all_c l_gF <| all_c l_ild <| all_c l_ald <| all_c l_gI <| all_c l_ic <| all_c l_cmpne <| all_c l_ic <| all_c l_goto <| all_c l_ic <| all_c l_iast <| all_c l_ald <| all_c l_gF <| all_c l_ild <|
  all_c l_iald <| all_c l_ic <| all_c l_cmpne <| all_c l_ald <| all_c (l_callV hh_X8_next) <| all_c l_ald <| all_c l_dup <| all_c l_gI <| all_c l_ic <| all_c l_iadd <| all_c l_pI <| all_c l_ic <| all_c l_zret <| all_n
theorem hh_X0_readChap : RspF_ (f_X0_readChap KC) := rsp_fn hp_X0_readChap
set_option maxRecDepth 100000 in
theorem hp_X0_takeInto : All_ (fun _ o => Loc_ o) (P_X0_takeInto KC) :=
  all_c l_ald <| all_c l_ild <| all_c l_ild <| all_c (l_callV hh_X8_takeNumber) <| all_c l_ifne <| all_c l_ic <| all_c l_zret <| all_c l_ild <| all_c l_iflt <| all_c l_ild <| all_c l_ald <| all_c l_alen <| all_c l_cmpge <| all_c l_ald <| all_c l_ild <| all_c l_ald <| all_c l_gI <| all_c l_iast <| all_c l_ic <| all_c l_zret <| all_n
theorem hh_X0_takeInto : RspF_ (f_X0_takeInto KC) := rsp_fn hp_X0_takeInto
set_option maxRecDepth 100000 in
theorem hp_X0_readReader : All_ (fun _ o => Loc_ o) (P_X0_readReader KC) :=
  all_c l_ald <| all_c l_gI <| all_c l_ist <| all_c l_ild <| all_c l_ic <| all_c l_cmplt <| all_c l_ald <| all_c l_ic <| all_c (l_callV hh_X8_fail) <| all_c l_zret <| all_c l_ald <| all_c (l_callV hh_X8_next) <| all_c l_ald <| all_c l_ald <| all_c (l_callV hh_X0_takeNewName) <| all_c l_ifne <| all_c l_ic <| all_c l_zret <| all_c l_ald <| all_c l_gF <| all_c l_ild <| all_c l_ald <| all_c l_gI <|
  all_c l_iast <| all_c l_ald <| all_c l_ic <| all_c l_ic <| all_c l_ald <| all_c l_gF <| all_c l_ild <| all_c (l_callS hh_X0_takeInto) <| all_c l_ifeq <| all_c l_ald <| all_c l_ic <| all_c l_ic <| all_c l_ald <| all_c l_gF <| all_c l_ild <| all_c (l_callS hh_X0_takeInto) <| all_c l_ifne <| all_c l_ic <| all_c l_zret <| all_c l_ald <| all_c l_ic <| all_c l_ic <| all_c l_ald <| all_c l_gF <|
  all_c l_ild <| all_c (l_callS hh_X0_takeInto) <| all_c l_ifeq <| all_c l_ald <| all_c l_ic <| all_c l_ic <| all_c l_ald <| all_c l_gF <| all_c l_ild <| all_c (l_callS hh_X0_takeInto) <| all_c l_ifne <| all_c l_ic <| all_c l_zret <| all_c l_ald <| all_c l_gF <| all_c l_ild <| all_c l_ic <| all_c l_iast <| all_c l_ald <| all_c l_gI <| all_c l_ic <| all_c l_cmpne <| all_c l_ald <|
  all_c (l_callV hh_X8_next) <| all_c l_ald <| all_c l_ic <| all_c l_ic <| all_c l_ald <| all_c l_gF <| all_c l_ild <| all_c (l_callS hh_X0_takeInto) <| all_c l_ifne <| all_c l_ic <| all_c l_zret <| all_c l_ald <| all_c l_dup <| all_c l_gI <| all_c l_ic <| all_c l_iadd <| all_c l_pI <| all_c l_ic <| all_c l_zret <| all_n
theorem hh_X0_readReader : RspF_ (f_X0_readReader KC) := rsp_fn hp_X0_readReader
set_option maxRecDepth 100000 in
theorem hp_X0_readSpeed : All_ (fun _ o => Loc_ o) (P_X0_readSpeed KC) :=
  all_c l_ald <| all_c l_gI <| all_c l_ifeq <| all_c l_ald <| all_c l_ic <| all_c (l_callV hh_X8_fail) <| all_c l_zret <| all_c l_ald <| all_c (l_callV hh_X8_next) <| all_c l_ald <| all_c l_ic <| all_c l_ic <| all_c (l_callV hh_X8_takeNumber) <| all_c l_ifne <| all_c l_ic <| all_c l_zret <| all_c l_ald <| all_c l_ald <| all_c l_gI <| all_c l_pI <| all_c l_ald <| all_c l_ic <| all_c l_pZ <|
  all_c l_ic <| all_c l_zret <| all_n
theorem hh_X0_readSpeed : RspF_ (f_X0_readSpeed KC) := rsp_fn hp_X0_readSpeed
set_option maxRecDepth 100000 in
theorem hp_X0_readFrom : All_ (fun _ o => Loc_ o) (P_X0_readFrom KC) :=
  all_c l_ald <| all_c (l_callV hh_X0_clear) <| all_c l_ic <| all_c (l_aft l_ist) <| all_c l_ild <| all_c l_ic <| all_c l_cmpge <| all_c l_ald <| all_c l_gI <| all_c l_ifeq <| all_c l_ald <| all_c l_gI <| all_c l_tsw <| all_c l_ald <| all_c l_ald <| all_c (l_callV hh_X0_readChap) <| all_c l_ist <| all_c l_goto <| all_c l_ald <| all_c l_ald <| all_c (l_callV hh_X0_readReader) <| all_c l_ist <|
  all_c l_goto <| all_c l_ald <| all_c l_ald <| all_c (l_callV hh_X0_readSpeed) <| all_c l_ist <| all_c l_goto <| all_c l_ald <| all_c l_ald <| all_c (l_callV hh_X0_readAgain) <| all_c l_ist <| all_c l_goto <| all_c l_ald <| all_c l_ic <| all_c (l_callV hh_X8_fail) <| all_c l_ist <| all_c l_ild <| all_c l_ifeq <| all_c l_ald <| all_c l_ic <| all_c (l_callV hh_X8_take) <| all_c l_ifne <|
  all_c l_ic <| all_c l_zret <| all_c l_ald <| all_c l_dup <| all_c l_gI <| all_c l_ic <| all_c l_iadd <| all_c l_pI <| all_c l_inc <| all_c (l_aft l_goto) <| all_c l_ic <| all_c l_zret <| all_n
theorem hh_X0_readFrom : RspF_ (f_X0_readFrom KC) := rsp_fn hp_X0_readFrom
set_option maxRecDepth 100000 in
theorem hp_X0_cutUp : All_ (fun _ o => Loc_ o) (P_X0_cutUp KC) :=
  all_c l_ild <| all_c l_ic <| all_c l_cmpge <| all_c l_ic <| all_c l_goto <| all_c l_ild <| all_c l_ild <| all_c l_iadd <| all_c l_ic <| all_c l_isub <| all_c l_ild <| all_c l_idiv <| all_c l_iret <| all_n
theorem hh_X0_cutUp : RspF_ (f_X0_cutUp KC) := rsp_fn hp_X0_cutUp
set_option maxRecDepth 100000 in
theorem hp_X0_readTime : All_ (fun _ o => Loc_ o) (P_X0_readTime KC) :=
  all_c l_ald <| all_c l_gF <| all_c l_ild <| all_c l_iald <| all_c l_ald <| all_c l_gF <| all_c l_ild <| all_c l_iald <| all_c (l_callS hh_X0_cutUp) <| all_c l_iret <| all_n
theorem hh_X0_readTime : RspF_ (f_X0_readTime KC) := rsp_fn hp_X0_readTime
set_option maxRecDepth 100000 in
theorem hp_X0_tellTime : All_ (fun _ o => Loc_ o) (P_X0_tellTime KC) :=
  all_c l_ald <| all_c l_gF <| all_c l_ild <| all_c l_iald <| all_c l_ild <| all_c l_imul <| all_c l_ic <| all_c l_ald <| all_c l_gI <| all_c l_imul <| all_c (l_callS hh_X0_cutUp) <| all_c l_iret <| all_n
theorem hh_X0_tellTime : RspF_ (f_X0_tellTime KC) := rsp_fn hp_X0_tellTime
set_option maxRecDepth 100000 in
theorem hp_X0_lackAt : All_ (fun _ o => Loc_ o) (P_X0_lackAt KC) :=
  all_c l_ic <| all_c l_ist <| all_c l_ic <| all_c l_ist <| all_c l_ild <| all_c l_ild <| all_c l_cmpge <| all_c l_ald <| all_c l_gF <| all_c l_ild <| all_c l_aald <| all_c l_ild <| all_c l_iald <| all_c l_ifle <| all_c l_ild <| all_c l_ald <| all_c l_gF <| all_c l_ild <| all_c l_aald <| all_c l_ild <| all_c l_iald <| all_c l_ic <| all_c l_ald <| all_c l_ild <| all_c l_ild <| all_c l_iadd <|
  all_c l_iald <| all_c l_isub <| all_c l_imul <| all_c l_iadd <| all_c l_ist <| all_c l_inc <| all_c l_goto <| all_c l_ild <| all_c l_ic <| all_c l_idiv <| all_c l_iret <| all_n
theorem hh_X0_lackAt : RspF_ (f_X0_lackAt KC) := rsp_fn hp_X0_lackAt
set_option maxRecDepth 100000 in
theorem hp_X0_partsRead : All_ (fun _ o => Loc_ o) (P_X0_partsRead KC) :=
  all_c l_ic <| all_c l_ild <| all_c l_ic <| all_c l_idiv <| all_c l_isub <| all_c l_ic <| all_c l_ald <| all_c l_gF <| all_c l_ild <| all_c l_iald <| all_c l_isub <| all_c l_imul <| all_c l_ic <| all_c l_idiv <| all_c l_iret <| all_n
theorem hh_X0_partsRead : RspF_ (f_X0_partsRead KC) := rsp_fn hp_X0_partsRead
set_option maxRecDepth 100000 in
theorem hp_X0_partsTold : All_ (fun _ o => Loc_ o) (P_X0_partsTold KC) :=
  all_c l_ild <| all_c l_ald <| all_c l_gF <| all_c l_ild <| all_c l_iald <| all_c l_imul <| all_c l_ic <| all_c l_idiv <| all_c l_ild <| all_c l_imul <| all_c l_ic <| all_c l_idiv <| all_c l_ist <| all_c l_ild <| all_c l_ald <| all_c l_gF <| all_c l_ild <| all_c l_iald <| all_c l_imul <| all_c l_ic <| all_c l_idiv <| all_c l_iret <| all_n
theorem hh_X0_partsTold : RspF_ (f_X0_partsTold KC) := rsp_fn hp_X0_partsTold
set_option maxRecDepth 100000 in
theorem hp_X0_retold : All_ (fun _ o => Loc_ o) (P_X0_retold KC) :=
  all_c l_ild <| all_c l_ald <| all_c l_gI <| all_c l_imul <| all_c l_ic <| all_c l_idiv <| all_c l_iret <| all_n
theorem hh_X0_retold : RspF_ (f_X0_retold KC) := rsp_fn hp_X0_retold
set_option maxRecDepth 100000 in
theorem hp_X0_ofMillion : All_ (fun _ o => Loc_ o) (P_X0_ofMillion KC) :=
  all_c l_ild <| all_c l_i2l <| all_c l_ild <| all_c l_i2l <| all_c l_lmul <| all_c l_lc <| all_c l_ldiv <| all_c l_l2i <| all_c l_iret <| all_n
theorem hh_X0_ofMillion : RspF_ (f_X0_ofMillion KC) := rsp_fn hp_X0_ofMillion
set_option maxRecDepth 100000 in
theorem hp_X1_readAlone : All_ (fun _ o => Loc_ o) (P_X1_readAlone KC) :=
  all_c l_ald <| all_c l_gF <| all_c l_ild <| all_c l_iald <| all_c l_ic <| all_c l_min <| all_c l_ist <| all_c l_ic <| all_c (l_aft l_ist) <| all_c l_ild <| all_c l_ild <| all_c l_cmpgt <| all_c l_ald <| all_c l_gF <| all_c l_ild <| all_c l_ic <| all_c l_iast <| all_c l_ald <| all_c l_gF <| all_c l_ild <| all_c l_ic <| all_c l_iast <| all_c l_inc <| all_c (l_aft l_goto) <| all_c l_ic <|
  all_c (l_aft l_ist) <| all_c l_ild <| all_c l_ald <| all_c l_gI <| all_c l_cmpge <| all_c l_ald <| all_c l_ild <| all_c l_ild <| all_c (l_callV hh_X0_readTime) <| all_c l_ist <| all_c l_ild <| all_c (l_aft l_ist) <| all_c l_ild <| all_c l_ild <| all_c l_cmplt <| all_c l_ald <| all_c l_gF <| all_c l_ild <| all_c l_ild <| all_c l_isub <| all_c l_iald <| all_c l_ald <| all_c l_gF <| all_c l_ild <|
  all_c l_iald <| all_c l_iadd <| all_c l_ist <| all_c l_ild <| all_c l_ald <| all_c l_gF <| all_c l_ild <| all_c l_iald <| all_c l_cmple <| all_c l_ald <| all_c l_gF <| all_c l_ild <| all_c l_ild <| all_c l_iast <| all_c l_ald <| all_c l_gF <| all_c l_ild <| all_c l_ald <| all_c l_gF <| all_c l_ild <| all_c l_ild <| all_c l_isub <| all_c l_iald <| all_c l_ic <| all_c l_ild <| all_c l_ishl <|
  all_c l_ior <| all_c l_iast <| all_c l_inc <| all_c (l_aft l_goto) <| all_c l_inc <| all_c (l_aft l_goto) <| all_c l_ald <| all_c l_ald <| all_c l_gF <| all_c l_ild <| all_c l_iald <| all_c l_pI <| all_c l_ald <| all_c l_ald <| all_c l_gF <| all_c l_ild <| all_c l_iald <| all_c l_pI <| all_c l_vret <| all_n
theorem hh_X1_readAlone : RspF_ (f_X1_readAlone KC) := rsp_fn hp_X1_readAlone
set_option maxRecDepth 100000 in
theorem hp_X1_tryLeaving {r_X1_tryLeaving : Fn_} (h_X1_tryLeaving : RspF_ r_X1_tryLeaving) : All_ (fun _ o => Loc_ o) (P_X1_tryLeaving KC r_X1_tryLeaving) :=
  all_c l_ild <| all_c l_ald <| all_c l_gI <| all_c l_cmplt <| all_c l_vret <| all_c l_ild <| all_c l_ifge <| all_c l_ald <| all_c l_ild <| all_c l_pI <| all_c l_ald <| all_c l_ild <| all_c l_pI <| all_c l_vret <| all_c l_ald <| all_c l_gF <| all_c l_ild <| all_c l_iald <| all_c l_ild <| all_c l_cmpgt <| all_c l_ald <| all_c l_ild <| all_c l_ic <| all_c l_isub <| all_c l_ild <| all_c l_ald <|
  all_c l_gF <| all_c l_ild <| all_c l_iald <| all_c l_isub <| all_c l_ild <| all_c l_ald <| all_c l_gF <| all_c l_ild <| all_c l_iald <| all_c l_ior <| all_c l_ild <| all_c l_ild <| all_c (l_callV h_X1_tryLeaving) <| all_c l_ild <| all_c l_ild <| all_c l_ishr <| all_c l_ic <| all_c l_iand <| all_c l_ifne <| all_c l_ald <| all_c l_ild <| all_c l_ic <| all_c l_isub <| all_c l_ild <| all_c l_ild <|
  all_c l_ild <| all_c l_ic <| all_c l_ild <| all_c l_ishl <| all_c l_ior <| all_c l_ild <| all_c l_ald <| all_c l_gR <| all_c l_gF <| all_c l_ild <| all_c l_iald <| all_c l_iadd <| all_c (l_callV h_X1_tryLeaving) <| all_c l_vret <| all_n
theorem hF_X1_tryLeaving : ∀ d, RspF_ (F_X1_tryLeaving KC d)
  | 0 => rsp_0
  | d + 1 => rsp_fn (hp_X1_tryLeaving (hF_X1_tryLeaving d))
theorem hh_X1_tryLeaving (d : Nat) : RspF_ (f_X1_tryLeaving KC d) := (hF_X1_tryLeaving d)
set_option maxRecDepth 100000 in
theorem hp_X1_leaveOut : All_ (fun _ o => Loc_ o) (P_X1_leaveOut KC) :=
  all_c l_ald <| all_c l_ald <| all_c l_pR <| all_c l_ald <| all_c l_ic <| all_c l_pI <| all_c l_ic <| all_c l_ist <| all_c l_ic <| all_c (l_aft l_ist) <| all_c l_ild <| all_c l_ald <| all_c l_gR <| all_c l_gI <| all_c l_cmpge <| all_c l_ald <| all_c l_dup <| all_c l_gI <| all_c l_ald <| all_c l_gR <| all_c l_gF <| all_c l_ild <| all_c l_iald <| all_c l_iadd <| all_c l_pI <| all_c l_ald <|
  all_c l_gR <| all_c l_gF <| all_c l_ild <| all_c l_iald <| all_c l_ald <| all_c l_gR <| all_c l_gF <| all_c l_ild <| all_c l_iald <| all_c l_cmple <| all_c l_ild <| all_c l_ist <| all_c l_inc <| all_c (l_aft l_goto) <| all_c l_ald <| all_c l_ic <| all_c l_pI <| all_c l_ic <| all_c (l_aft l_ist) <| all_c l_ild <| all_c l_ald <| all_c l_gR <| all_c l_gI <| all_c l_cmpge <| all_c l_ald <|
  all_c l_gF <| all_c l_ild <| all_c l_ald <| all_c l_gR <| all_c l_ild <| all_c l_ild <| all_c (l_callV hh_X0_readTime) <| all_c l_iast <| all_c l_ald <| all_c l_dup <| all_c l_gI <| all_c l_ald <| all_c l_gR <| all_c l_gF <| all_c l_ild <| all_c l_iald <| all_c l_iadd <| all_c l_pI <| all_c l_ald <| all_c l_gF <| all_c l_ild <| all_c l_ic <| all_c l_iast <| all_c l_ic <| all_c l_ist <|
  all_c l_ild <| all_c l_ild <| all_c l_cmpge <| all_c l_ald <| all_c l_gR <| all_c l_gF <| all_c l_ild <| all_c l_aald <| all_c l_ild <| all_c l_iald <| all_c l_ic <| all_c l_cmplt <| all_c l_ald <| all_c l_gF <| all_c l_ild <| all_c l_dup2 <| all_c l_iald <| all_c l_ic <| all_c l_ild <| all_c l_ishl <| all_c l_ior <| all_c l_iast <| all_c l_inc <| all_c l_goto <| all_c l_inc <|
  all_c (l_aft l_goto) <| all_c l_ald <| all_c l_dup <| all_c l_gI <| all_c l_ic <| all_c l_iadd <| all_c l_pI <| all_c l_ald <| all_c l_ic <| all_c l_pI <| all_c l_ald <| all_c l_ald <| all_c l_gR <| all_c l_gI <| all_c l_ic <| all_c l_isub <| all_c l_ald <| all_c l_gI <| all_c l_ic <| all_c l_ic <| all_c l_ic <| all_c (l_callV (hh_X1_tryLeaving 80)) <| all_c l_vret <| all_n
theorem hh_X1_leaveOut : RspF_ (f_X1_leaveOut KC) := rsp_fn hp_X1_leaveOut
