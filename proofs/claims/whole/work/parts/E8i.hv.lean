set_option maxRecDepth 100000 in
theorem hp_X12_said : All_ (fun _ o => Loc_ o) (P_X12_said KC) :=
  all_c l_ald <| all_c l_ic <| all_c l_pI <| all_c l_ald <| all_c (l_callV hh_X12_night) <| all_c l_ald <| all_c l_gF <| all_c l_ic <| all_c l_iald <| all_c l_ifne <| all_c l_ic <| all_c l_iret <| all_c l_ic <| all_c l_ist <| all_c l_ic <| all_c l_ist <| all_c l_ild <| all_c l_ald <| all_c (l_callV hh_X12_readers) <| all_c l_cmpge <| all_c l_ald <| all_c l_ald <| all_c l_gF <| all_c l_ic <|
  all_c l_iald <| all_c l_ild <| all_c (l_callV (hh_X12_isSo 80)) <| all_c l_ifeq <| all_c l_ild <| all_c l_ic <| all_c l_ild <| all_c l_ishl <| all_c l_ior <| all_c l_ist <| all_c l_inc <| all_c l_goto <| all_c l_ild <| all_c l_iret <| all_n
theorem hh_X12_said : RspF_ (f_X12_said KC) := rsp_fn hp_X12_said
set_option maxRecDepth 100000 in
theorem hp_X12_image : All_ (fun _ o => Loc_ o) (P_X12_image KC) :=
  all_c l_ald <| all_c l_ic <| all_c l_pI <| all_c l_ald <| all_c (l_callV hh_X12_lay) <| all_c l_ild <| all_c l_ic <| all_c l_ic <| all_c (l_callS hh_X12_isIn) <| all_c l_ifne <| all_c l_ic <| all_c l_zret <| all_c l_ic <| all_c l_ist <| all_c l_ild <| all_c l_ic <| all_c l_cmpge <| all_c l_ald <| all_c l_gF <| all_c l_ic <| all_c l_ild <| all_c l_imul <| all_c l_ild <| all_c l_iadd <|
  all_c l_ald <| all_c l_gF <| all_c l_ild <| all_c l_iald <| all_c l_iast <| all_c l_inc <| all_c l_goto <| all_c l_ic <| all_c l_ist <| all_c l_ild <| all_c l_ic <| all_c l_cmpge <| all_c l_ald <| all_c l_gF <| all_c l_ic <| all_c l_ild <| all_c l_imul <| all_c l_ild <| all_c l_iadd <| all_c l_ald <| all_c l_gF <| all_c l_ild <| all_c l_lald <| all_c l_last <| all_c l_inc <| all_c l_goto <|
  all_c l_ald <| all_c l_gF <| all_c l_ild <| all_c l_ic <| all_c l_zast <| all_c l_ic <| all_c l_zret <| all_n
theorem hh_X12_image : RspF_ (f_X12_image KC) := rsp_fn hp_X12_image
set_option maxRecDepth 100000 in
theorem hp_X12_restore : All_ (fun _ o => Loc_ o) (P_X12_restore KC) :=
  all_c l_ald <| all_c l_ic <| all_c l_pI <| all_c l_ald <| all_c (l_callV hh_X12_lay) <| all_c l_ild <| all_c l_ic <| all_c l_ic <| all_c (l_callS hh_X12_isIn) <| all_c l_ifeq <| all_c l_ald <| all_c l_gF <| all_c l_ild <| all_c l_zald <| all_c l_ifne <| all_c l_ic <| all_c l_zret <| all_c l_ic <| all_c l_ist <| all_c l_ild <| all_c l_ic <| all_c l_cmpge <| all_c l_ald <| all_c l_gF <|
  all_c l_ild <| all_c l_ald <| all_c l_gF <| all_c l_ic <| all_c l_ild <| all_c l_imul <| all_c l_ild <| all_c l_iadd <| all_c l_iald <| all_c l_iast <| all_c l_inc <| all_c l_goto <| all_c l_ic <| all_c l_ist <| all_c l_ild <| all_c l_ic <| all_c l_cmpge <| all_c l_ald <| all_c l_gF <| all_c l_ild <| all_c l_ald <| all_c l_gF <| all_c l_ic <| all_c l_ild <| all_c l_imul <| all_c l_ild <|
  all_c l_iadd <| all_c l_lald <| all_c l_last <| all_c l_inc <| all_c l_goto <| all_c l_ic <| all_c l_zret <| all_n
theorem hh_X12_restore : RspF_ (f_X12_restore KC) := rsp_fn hp_X12_restore
set_option maxRecDepth 100000 in
theorem hp_X12_count : All_ (fun _ o => Loc_ o) (P_X12_count KC) :=
  all_c l_ald <| all_c l_ic <| all_c l_pI <| all_c l_ald <| all_c (l_callV hh_X12_lay) <| all_c l_ild <| all_c l_tsw <| all_c l_ald <| all_c (l_callV hh_X12_chaps) <| all_c l_iret <| all_c l_ald <| all_c (l_callV hh_X12_readers) <| all_c l_iret <| all_c l_ald <| all_c l_gF <| all_c l_ic <| all_c l_iald <| all_c l_iret <| all_c l_ald <| all_c l_gF <| all_c l_ic <| all_c l_iald <| all_c l_iret <|
  all_c l_ald <| all_c l_gF <| all_c l_ic <| all_c l_iald <| all_c l_iret <| all_c l_ald <| all_c l_gI <| all_c l_iret <| all_c l_ic <| all_c l_iret <| all_n
theorem hh_X12_count : RspF_ (f_X12_count KC) := rsp_fn hp_X12_count
