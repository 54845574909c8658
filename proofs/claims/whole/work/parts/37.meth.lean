/-! Methods as lists of steps, and that the machine does what they do (written by wip/whole/gen.py). -/
section MT
variable {l : Launch} {b Ls : Nat} {xs : Nat → Int32} {z : Nat × Nat}
def my_Z_isFilter : MethodName := ⟨"MessageHubModel", "isFilter", "(J)Z"⟩
def mk_Z_isFilter_0 (z : Nat × Nat) : ev_C := [(0, ev_fn (ev_lload 1 1)), (1, ev_fn (ev_aload 0 2)), (2, ev_fn (ev_getf 12 63 5)), (5, ev_call (mf_Z_split z) 2 8), (8, ev_fn (ev_istore 3 9)), (9, ev_fn (ev_iload 3 10)), (10, ev_fn (ev_ifle 17 13)), (13, ev_fn (ev_ci 1 14)), (14, ev_fn (ev_goto 18)), (17, ev_fn (ev_ci 0 18)), (18, ev_fn (ev_istore 4 20)), (20, ev_fn (ev_ci 0 21)), (21, ev_fn (ev_istore 5 23)), (23, ev_fn (ev_iload 5 25)), (25, ev_fn (ev_iload 3 26)), (26, ev_fn (ev_icmpge 150 29)), (29, ev_fn (ev_iload 5 31)), (31, ev_fn (ev_ifeq 48 34)), (34, ev_fn (ev_aload 0 35)), (35, ev_fn (ev_getf 12 63 38)), (38, ev_fn (ev_iload 5 40)), (40, ev_fn (ev_ci 1 41)), (41, ev_fn (ev_isub 42)), (42, ev_fn (ev_iald 43)), (43, ev_fn (ev_ci 47 45)), (45, ev_fn (ev_icmpne 74 48)), (48, ev_fn (ev_iload 5 50)), (50, ev_fn (ev_iload 3 51)), (51, ev_fn (ev_ci 1 52)), (52, ev_fn (ev_isub 53)), (53, ev_fn (ev_icmpeq 70 56)), (56, ev_fn (ev_aload 0 57)), (57, ev_fn (ev_getf 12 63 60)), (60, ev_fn (ev_iload 5 62)), (62, ev_fn (ev_ci 1 63)), (63, ev_fn (ev_iadd 64)), (64, ev_fn (ev_iald 65)), (65, ev_fn (ev_ci 47 67)), (67, ev_fn (ev_icmpne 74 70)), (70, ev_fn (ev_ci 1 71)), (71, ev_fn (ev_goto 75)), (74, ev_fn (ev_ci 0 75)), (75, ev_fn (ev_istore 6 77)), (77, ev_fn (ev_iload 4 79)), (79, ev_fn (ev_ifeq 141 82)), (82, ev_fn (ev_aload 0 83)), (83, ev_fn (ev_getf 12 63 86)), (86, ev_fn (ev_iload 5 88)), (88, ev_fn (ev_iald 89)), (89, ev_call (mf_Z_isLetter z) 1 92), (92, ev_fn (ev_ifne 137 95)), (95, ev_fn (ev_aload 0 96)), (96, ev_fn (ev_getf 12 63 99)), (99, ev_fn (ev_iload 5 101)), (101, ev_fn (ev_iald 102)), (102, ev_fn (ev_ci 43 104)), (104, ev_fn (ev_icmpne 112 107)), (107, ev_fn (ev_iload 6 109)), (109, ev_fn (ev_ifne 137 112)), (112, ev_fn (ev_aload 0 113))]
def mk_Z_isFilter_1 (z : Nat × Nat) : ev_C := [(113, ev_fn (ev_getf 12 63 116)), (116, ev_fn (ev_iload 5 118)), (118, ev_fn (ev_iald 119)), (119, ev_fn (ev_ci 35 121)), (121, ev_fn (ev_icmpne 141 124)), (124, ev_fn (ev_iload 6 126)), (126, ev_fn (ev_ifeq 141 129)), (129, ev_fn (ev_iload 5 131)), (131, ev_fn (ev_iload 3 132)), (132, ev_fn (ev_ci 1 133)), (133, ev_fn (ev_isub 134)), (134, ev_fn (ev_icmpne 141 137)), (137, ev_fn (ev_ci 1 138)), (138, ev_fn (ev_goto 142)), (141, ev_fn (ev_ci 0 142)), (142, ev_fn (ev_istore 4 144)), (144, ev_fn (ev_iinc 5 1 147)), (147, ev_fn (ev_goto 23)), (150, ev_fn (ev_iload 4 152)), (152, ev_fn (ev_zret .boolean))]
def mk_Z_isFilter (z : Nat × Nat) : ev_C := mk_Z_isFilter_0 z ++ (mk_Z_isFilter_1 z)
def mf_Z_isFilter (z : Nat × Nat) : ev_F := ev_met (mk_Z_isFilter z) 7
set_option maxHeartbeats 4000000 in
set_option maxRecDepth 100000 in
theorem mg_Z_isFilter_0 : ev_AllG (ev_Good l vc_L vt_L (gw_G b Ls xs z) prog_14_method_7_code 7 (some .boolean) my_Z_isFilter.name my_Z_isFilter.cls tb_T 1 25) (mk_Z_isFilter_0 z) := by
  refine ⟨ok_lload_n (z := 1) (by decide +kernel) rfl, ?_⟩
  refine ⟨ok_aload_n (z := 0) (by decide +kernel) rfl, ?_⟩
  refine ⟨ok_getf (ix := 165) hc_12 (by decide) hi_12 tw_961 (Or.inl rfl) (by decide +kernel), ?_⟩
  refine ⟨ok_callS (ix := 175) ms_Z_split (tb_cwS tw_1104 tw_1105 tw_11 tw_1106 (by decide +kernel) (by decide) (by decide)) (by decide +kernel), ?_⟩
  refine ⟨ok_istore_n (z := 3) (by decide) (by decide +kernel) rfl, ?_⟩
  refine ⟨ok_iload_n (z := 3) (by decide +kernel) rfl, ?_⟩
  refine ⟨ok_ifle (off := 7) (by decide +kernel) (by decide), ?_⟩
  refine ⟨ok_iconst (z := 1) (by decide +kernel) (by decide +kernel), ?_⟩
  refine ⟨ok_goto (off := 4) (by decide +kernel) (by decide), ?_⟩
  refine ⟨ok_iconst (z := 0) (by decide +kernel) (by decide +kernel), ?_⟩
  refine ⟨ok_istore (by decide) (by decide +kernel), ?_⟩
  refine ⟨ok_iconst (z := 0) (by decide +kernel) (by decide +kernel), ?_⟩
  refine ⟨ok_istore (by decide) (by decide +kernel), ?_⟩
  refine ⟨ok_iload (by decide +kernel), ?_⟩
  refine ⟨ok_iload_n (z := 3) (by decide +kernel) rfl, ?_⟩
  refine ⟨ok_icmpge (off := 124) (by decide +kernel) (by decide), ?_⟩
  refine ⟨ok_iload (by decide +kernel), ?_⟩
  refine ⟨ok_ifeq (off := 17) (by decide +kernel) (by decide), ?_⟩
  refine ⟨ok_aload_n (z := 0) (by decide +kernel) rfl, ?_⟩
  refine ⟨ok_getf (ix := 165) hc_12 (by decide) hi_12 tw_961 (Or.inl rfl) (by decide +kernel), ?_⟩
  refine ⟨ok_iload (by decide +kernel), ?_⟩
  refine ⟨ok_iconst (z := 1) (by decide +kernel) (by decide +kernel), ?_⟩
  refine ⟨ok_isub (by decide +kernel), ?_⟩
  refine ⟨ok_iald rfl (by decide +kernel), ?_⟩
  refine ⟨ok_bipush (z := 47) (by decide +kernel) (by decide +kernel), ?_⟩
  refine ⟨ok_icmpne (off := 29) (by decide +kernel) (by decide), ?_⟩
  refine ⟨ok_iload (by decide +kernel), ?_⟩
  refine ⟨ok_iload_n (z := 3) (by decide +kernel) rfl, ?_⟩
  refine ⟨ok_iconst (z := 1) (by decide +kernel) (by decide +kernel), ?_⟩
  refine ⟨ok_isub (by decide +kernel), ?_⟩
  refine ⟨ok_icmpeq (off := 17) (by decide +kernel) (by decide), ?_⟩
  refine ⟨ok_aload_n (z := 0) (by decide +kernel) rfl, ?_⟩
  refine ⟨ok_getf (ix := 165) hc_12 (by decide) hi_12 tw_961 (Or.inl rfl) (by decide +kernel), ?_⟩
  refine ⟨ok_iload (by decide +kernel), ?_⟩
  refine ⟨ok_iconst (z := 1) (by decide +kernel) (by decide +kernel), ?_⟩
  refine ⟨ok_iadd (by decide +kernel), ?_⟩
  refine ⟨ok_iald rfl (by decide +kernel), ?_⟩
  refine ⟨ok_bipush (z := 47) (by decide +kernel) (by decide +kernel), ?_⟩
  refine ⟨ok_icmpne (off := 7) (by decide +kernel) (by decide), ?_⟩
  refine ⟨ok_iconst (z := 1) (by decide +kernel) (by decide +kernel), ?_⟩
  refine ⟨ok_goto (off := 4) (by decide +kernel) (by decide), ?_⟩
  refine ⟨ok_iconst (z := 0) (by decide +kernel) (by decide +kernel), ?_⟩
  refine ⟨ok_istore (by decide) (by decide +kernel), ?_⟩
  refine ⟨ok_iload (by decide +kernel), ?_⟩
  refine ⟨ok_ifeq (off := 62) (by decide +kernel) (by decide), ?_⟩
  refine ⟨ok_aload_n (z := 0) (by decide +kernel) rfl, ?_⟩
  refine ⟨ok_getf (ix := 165) hc_12 (by decide) hi_12 tw_961 (Or.inl rfl) (by decide +kernel), ?_⟩
  refine ⟨ok_iload (by decide +kernel), ?_⟩
  refine ⟨ok_iald rfl (by decide +kernel), ?_⟩
  refine ⟨ok_callS (ix := 179) ms_Z_isLetter (tb_cwS tw_1108 tw_1109 tw_11 tw_1110 (by decide +kernel) (by decide) (by decide)) (by decide +kernel), ?_⟩
  refine ⟨ok_ifne (off := 45) (by decide +kernel) (by decide), ?_⟩
  refine ⟨ok_aload_n (z := 0) (by decide +kernel) rfl, ?_⟩
  refine ⟨ok_getf (ix := 165) hc_12 (by decide) hi_12 tw_961 (Or.inl rfl) (by decide +kernel), ?_⟩
  refine ⟨ok_iload (by decide +kernel), ?_⟩
  refine ⟨ok_iald rfl (by decide +kernel), ?_⟩
  refine ⟨ok_bipush (z := 43) (by decide +kernel) (by decide +kernel), ?_⟩
  refine ⟨ok_icmpne (off := 8) (by decide +kernel) (by decide), ?_⟩
  refine ⟨ok_iload (by decide +kernel), ?_⟩
  refine ⟨ok_ifne (off := 28) (by decide +kernel) (by decide), ?_⟩
  refine ⟨ok_aload_n (z := 0) (by decide +kernel) rfl, ?_⟩
  exact trivial
set_option maxHeartbeats 4000000 in
set_option maxRecDepth 100000 in
theorem mg_Z_isFilter_1 : ev_AllG (ev_Good l vc_L vt_L (gw_G b Ls xs z) prog_14_method_7_code 7 (some .boolean) my_Z_isFilter.name my_Z_isFilter.cls tb_T 1 25) (mk_Z_isFilter_1 z) := by
  refine ⟨ok_getf (ix := 165) hc_12 (by decide) hi_12 tw_961 (Or.inl rfl) (by decide +kernel), ?_⟩
  refine ⟨ok_iload (by decide +kernel), ?_⟩
  refine ⟨ok_iald rfl (by decide +kernel), ?_⟩
  refine ⟨ok_bipush (z := 35) (by decide +kernel) (by decide +kernel), ?_⟩
  refine ⟨ok_icmpne (off := 20) (by decide +kernel) (by decide), ?_⟩
  refine ⟨ok_iload (by decide +kernel), ?_⟩
  refine ⟨ok_ifeq (off := 15) (by decide +kernel) (by decide), ?_⟩
  refine ⟨ok_iload (by decide +kernel), ?_⟩
  refine ⟨ok_iload_n (z := 3) (by decide +kernel) rfl, ?_⟩
  refine ⟨ok_iconst (z := 1) (by decide +kernel) (by decide +kernel), ?_⟩
  refine ⟨ok_isub (by decide +kernel), ?_⟩
  refine ⟨ok_icmpne (off := 7) (by decide +kernel) (by decide), ?_⟩
  refine ⟨ok_iconst (z := 1) (by decide +kernel) (by decide +kernel), ?_⟩
  refine ⟨ok_goto (off := 4) (by decide +kernel) (by decide), ?_⟩
  refine ⟨ok_iconst (z := 0) (by decide +kernel) (by decide +kernel), ?_⟩
  refine ⟨ok_istore (by decide) (by decide +kernel), ?_⟩
  refine ⟨ok_iinc (z := 1) (by decide) (by decide +kernel) (by decide +kernel), ?_⟩
  refine ⟨ok_goto (off := (-124)) (by decide +kernel) (by decide), ?_⟩
  refine ⟨ok_iload (by decide +kernel), ?_⟩
  refine ⟨ok_zret rfl (by decide +kernel), ?_⟩
  exact trivial
theorem mg_Z_isFilter : ev_AllG (ev_Good l vc_L vt_L (gw_G b Ls xs z) prog_14_method_7_code 7 (some .boolean) my_Z_isFilter.name my_Z_isFilter.cls tb_T 1 25) (mk_Z_isFilter z) := ev_AllG.app mg_Z_isFilter_0 (mg_Z_isFilter_1)
theorem ms_Z_isFilter : ev_Met l vc_L vt_L (gw_G b Ls xs z) my_Z_isFilter (Cond.code my_Z_isFilter prog_14_method_7_code 7 (some .boolean) :: tb_T) 1 25 (mf_Z_isFilter z) := ev_sound (by decide +kernel) mg_Z_isFilter
def my_Z_isTopic : MethodName := ⟨"MessageHubModel", "isTopic", "(J)Z"⟩
def mk_Z_isTopic (z : Nat × Nat) : ev_C := [(0, ev_fn (ev_lload 1 1)), (1, ev_fn (ev_aload 0 2)), (2, ev_fn (ev_getf 12 63 5)), (5, ev_call (mf_Z_split z) 2 8), (8, ev_fn (ev_istore 3 9)), (9, ev_fn (ev_iload 3 10)), (10, ev_fn (ev_ifle 17 13)), (13, ev_fn (ev_ci 1 14)), (14, ev_fn (ev_goto 18)), (17, ev_fn (ev_ci 0 18)), (18, ev_fn (ev_istore 4 20)), (20, ev_fn (ev_ci 0 21)), (21, ev_fn (ev_istore 5 23)), (23, ev_fn (ev_iload 5 25)), (25, ev_fn (ev_iload 3 26)), (26, ev_fn (ev_icmpge 60 29)), (29, ev_fn (ev_iload 4 31)), (31, ev_fn (ev_ifeq 51 34)), (34, ev_fn (ev_aload 0 35)), (35, ev_fn (ev_getf 12 63 38)), (38, ev_fn (ev_iload 5 40)), (40, ev_fn (ev_iald 41)), (41, ev_call (mf_Z_isLetter z) 1 44), (44, ev_fn (ev_ifeq 51 47)), (47, ev_fn (ev_ci 1 48)), (48, ev_fn (ev_goto 52)), (51, ev_fn (ev_ci 0 52)), (52, ev_fn (ev_istore 4 54)), (54, ev_fn (ev_iinc 5 1 57)), (57, ev_fn (ev_goto 23)), (60, ev_fn (ev_iload 4 62)), (62, ev_fn (ev_zret .boolean))]
def mf_Z_isTopic (z : Nat × Nat) : ev_F := ev_met (mk_Z_isTopic z) 6
set_option maxHeartbeats 4000000 in
set_option maxRecDepth 100000 in
theorem mg_Z_isTopic : ev_AllG (ev_Good l vc_L vt_L (gw_G b Ls xs z) prog_14_method_6_code 6 (some .boolean) my_Z_isTopic.name my_Z_isTopic.cls tb_T 1 25) (mk_Z_isTopic z) := by
  refine ⟨ok_lload_n (z := 1) (by decide +kernel) rfl, ?_⟩
  refine ⟨ok_aload_n (z := 0) (by decide +kernel) rfl, ?_⟩
  refine ⟨ok_getf (ix := 165) hc_12 (by decide) hi_12 tw_961 (Or.inl rfl) (by decide +kernel), ?_⟩
  refine ⟨ok_callS (ix := 175) ms_Z_split (tb_cwS tw_1104 tw_1105 tw_11 tw_1106 (by decide +kernel) (by decide) (by decide)) (by decide +kernel), ?_⟩
  refine ⟨ok_istore_n (z := 3) (by decide) (by decide +kernel) rfl, ?_⟩
  refine ⟨ok_iload_n (z := 3) (by decide +kernel) rfl, ?_⟩
  refine ⟨ok_ifle (off := 7) (by decide +kernel) (by decide), ?_⟩
  refine ⟨ok_iconst (z := 1) (by decide +kernel) (by decide +kernel), ?_⟩
  refine ⟨ok_goto (off := 4) (by decide +kernel) (by decide), ?_⟩
  refine ⟨ok_iconst (z := 0) (by decide +kernel) (by decide +kernel), ?_⟩
  refine ⟨ok_istore (by decide) (by decide +kernel), ?_⟩
  refine ⟨ok_iconst (z := 0) (by decide +kernel) (by decide +kernel), ?_⟩
  refine ⟨ok_istore (by decide) (by decide +kernel), ?_⟩
  refine ⟨ok_iload (by decide +kernel), ?_⟩
  refine ⟨ok_iload_n (z := 3) (by decide +kernel) rfl, ?_⟩
  refine ⟨ok_icmpge (off := 34) (by decide +kernel) (by decide), ?_⟩
  refine ⟨ok_iload (by decide +kernel), ?_⟩
  refine ⟨ok_ifeq (off := 20) (by decide +kernel) (by decide), ?_⟩
  refine ⟨ok_aload_n (z := 0) (by decide +kernel) rfl, ?_⟩
  refine ⟨ok_getf (ix := 165) hc_12 (by decide) hi_12 tw_961 (Or.inl rfl) (by decide +kernel), ?_⟩
  refine ⟨ok_iload (by decide +kernel), ?_⟩
  refine ⟨ok_iald rfl (by decide +kernel), ?_⟩
  refine ⟨ok_callS (ix := 179) ms_Z_isLetter (tb_cwS tw_1108 tw_1109 tw_11 tw_1110 (by decide +kernel) (by decide) (by decide)) (by decide +kernel), ?_⟩
  refine ⟨ok_ifeq (off := 7) (by decide +kernel) (by decide), ?_⟩
  refine ⟨ok_iconst (z := 1) (by decide +kernel) (by decide +kernel), ?_⟩
  refine ⟨ok_goto (off := 4) (by decide +kernel) (by decide), ?_⟩
  refine ⟨ok_iconst (z := 0) (by decide +kernel) (by decide +kernel), ?_⟩
  refine ⟨ok_istore (by decide) (by decide +kernel), ?_⟩
  refine ⟨ok_iinc (z := 1) (by decide) (by decide +kernel) (by decide +kernel), ?_⟩
  refine ⟨ok_goto (off := (-34)) (by decide +kernel) (by decide), ?_⟩
  refine ⟨ok_iload (by decide +kernel), ?_⟩
  refine ⟨ok_zret rfl (by decide +kernel), ?_⟩
  exact trivial
theorem ms_Z_isTopic : ev_Met l vc_L vt_L (gw_G b Ls xs z) my_Z_isTopic (Cond.code my_Z_isTopic prog_14_method_6_code 6 (some .boolean) :: tb_T) 1 25 (mf_Z_isTopic z) := ev_sound (by decide +kernel) mg_Z_isTopic
def my_Z_levelEnd : MethodName := ⟨"MessageHubModel", "levelEnd", "([III)I"⟩
def mk_Z_levelEnd (z : Nat × Nat) : ev_C := [(0, ev_fn (ev_iload 2 1)), (1, ev_fn (ev_istore 3 2)), (2, ev_fn (ev_iload 3 3)), (3, ev_fn (ev_iload 1 4)), (4, ev_fn (ev_icmpge 21 7)), (7, ev_fn (ev_aload 0 8)), (8, ev_fn (ev_iload 3 9)), (9, ev_fn (ev_iald 10)), (10, ev_fn (ev_ci 47 12)), (12, ev_fn (ev_icmpeq 21 15)), (15, ev_fn (ev_iinc 3 1 18)), (18, ev_fn (ev_goto 2)), (21, ev_fn (ev_iload 3 22)), (22, ev_fn ev_iret)]
def mf_Z_levelEnd (z : Nat × Nat) : ev_F := ev_met (mk_Z_levelEnd z) 4
set_option maxHeartbeats 4000000 in
set_option maxRecDepth 100000 in
theorem mg_Z_levelEnd : ev_AllG (ev_Good l vc_L vt_L (gw_G b Ls xs z) prog_14_method_8_code 4 (some .int) my_Z_levelEnd.name my_Z_levelEnd.cls tb_T 0 0) (mk_Z_levelEnd z) := by
  refine ⟨ok_iload_n (z := 2) (by decide +kernel) rfl, ?_⟩
  refine ⟨ok_istore_n (z := 3) (by decide) (by decide +kernel) rfl, ?_⟩
  refine ⟨ok_iload_n (z := 3) (by decide +kernel) rfl, ?_⟩
  refine ⟨ok_iload_n (z := 1) (by decide +kernel) rfl, ?_⟩
  refine ⟨ok_icmpge (off := 17) (by decide +kernel) (by decide), ?_⟩
  refine ⟨ok_aload_n (z := 0) (by decide +kernel) rfl, ?_⟩
  refine ⟨ok_iload_n (z := 3) (by decide +kernel) rfl, ?_⟩
  refine ⟨ok_iald rfl (by decide +kernel), ?_⟩
  refine ⟨ok_bipush (z := 47) (by decide +kernel) (by decide +kernel), ?_⟩
  refine ⟨ok_icmpeq (off := 9) (by decide +kernel) (by decide), ?_⟩
  refine ⟨ok_iinc (z := 1) (by decide) (by decide +kernel) (by decide +kernel), ?_⟩
  refine ⟨ok_goto (off := (-16)) (by decide +kernel) (by decide), ?_⟩
  refine ⟨ok_iload_n (z := 3) (by decide +kernel) rfl, ?_⟩
  refine ⟨ok_iret rfl (by decide +kernel), ?_⟩
  exact trivial
theorem ms_Z_levelEnd : ev_Met l vc_L vt_L (gw_G b Ls xs z) my_Z_levelEnd (Cond.code my_Z_levelEnd prog_14_method_8_code 4 (some .int) :: tb_T) 0 0 (mf_Z_levelEnd z) := ev_sound (by decide +kernel) mg_Z_levelEnd
def my_Z_fits : MethodName := ⟨"MessageHubModel", "fits", "(JJ)Z"⟩
def mk_Z_fits_0 (z : Nat × Nat) : ev_C := [(0, ev_fn (ev_lload 1 1)), (1, ev_fn (ev_aload 0 2)), (2, ev_fn (ev_getf 12 63 5)), (5, ev_call (mf_Z_split z) 2 8), (8, ev_fn (ev_istore 5 10)), (10, ev_fn (ev_lload 3 11)), (11, ev_fn (ev_aload 0 12)), (12, ev_fn (ev_getf 12 64 15)), (15, ev_call (mf_Z_split z) 2 18), (18, ev_fn (ev_istore 6 20)), (20, ev_fn (ev_aload 0 21)), (21, ev_fn (ev_getf 12 63 24)), (24, ev_fn (ev_ci 0 25)), (25, ev_fn (ev_iald 26)), (26, ev_fn (ev_ci 43 28)), (28, ev_fn (ev_icmpeq 42 31)), (31, ev_fn (ev_aload 0 32)), (32, ev_fn (ev_getf 12 63 35)), (35, ev_fn (ev_ci 0 36)), (36, ev_fn (ev_iald 37)), (37, ev_fn (ev_ci 35 39)), (39, ev_fn (ev_icmpne 55 42)), (42, ev_fn (ev_aload 0 43)), (43, ev_fn (ev_getf 12 64 46)), (46, ev_fn (ev_ci 0 47)), (47, ev_fn (ev_iald 48)), (48, ev_fn (ev_ci 36 50)), (50, ev_fn (ev_icmpne 55 53)), (53, ev_fn (ev_ci 0 54)), (54, ev_fn (ev_zret .boolean)), (55, ev_fn (ev_ci 0 56)), (56, ev_fn (ev_istore 7 58)), (58, ev_fn (ev_ci 0 59)), (59, ev_fn (ev_istore 8 61)), (61, ev_fn (ev_ci 0 62)), (62, ev_fn (ev_istore 9 64)), (64, ev_fn (ev_iload 9 66)), (66, ev_fn (ev_ci 10 68)), (68, ev_fn (ev_icmpge 284 71)), (71, ev_fn (ev_iload 7 73)), (73, ev_fn (ev_iload 5 75)), (75, ev_fn (ev_icmpge 92 78)), (78, ev_fn (ev_aload 0 79)), (79, ev_fn (ev_getf 12 63 82)), (82, ev_fn (ev_iload 7 84)), (84, ev_fn (ev_iald 85)), (85, ev_fn (ev_ci 35 87)), (87, ev_fn (ev_icmpne 92 90)), (90, ev_fn (ev_ci 1 91)), (91, ev_fn (ev_zret .boolean)), (92, ev_fn (ev_iload 8 94)), (94, ev_fn (ev_iload 6 96)), (96, ev_fn (ev_icmple 101 99)), (99, ev_fn (ev_ci 0 100)), (100, ev_fn (ev_zret .boolean)), (101, ev_fn (ev_aload 0 102)), (102, ev_fn (ev_getf 12 63 105)), (105, ev_fn (ev_iload 5 107)), (107, ev_fn (ev_iload 7 109)), (109, ev_call (mf_Z_levelEnd z) 3 112)]
def mk_Z_fits_1 (z : Nat × Nat) : ev_C := [(112, ev_fn (ev_istore 10 114)), (114, ev_fn (ev_aload 0 115)), (115, ev_fn (ev_getf 12 64 118)), (118, ev_fn (ev_iload 6 120)), (120, ev_fn (ev_iload 8 122)), (122, ev_call (mf_Z_levelEnd z) 3 125), (125, ev_fn (ev_istore 11 127)), (127, ev_fn (ev_iload 10 129)), (129, ev_fn (ev_iload 7 131)), (131, ev_fn (ev_isub 132)), (132, ev_fn (ev_ci 1 133)), (133, ev_fn (ev_icmpne 152 136)), (136, ev_fn (ev_aload 0 137)), (137, ev_fn (ev_getf 12 63 140)), (140, ev_fn (ev_iload 7 142)), (142, ev_fn (ev_iald 143)), (143, ev_fn (ev_ci 43 145)), (145, ev_fn (ev_icmpne 152 148)), (148, ev_fn (ev_ci 1 149)), (149, ev_fn (ev_goto 153)), (152, ev_fn (ev_ci 0 153)), (153, ev_fn (ev_istore 12 155)), (155, ev_fn (ev_iload 10 157)), (157, ev_fn (ev_iload 7 159)), (159, ev_fn (ev_isub 160)), (160, ev_fn (ev_iload 11 162)), (162, ev_fn (ev_iload 8 164)), (164, ev_fn (ev_isub 165)), (165, ev_fn (ev_icmpne 172 168)), (168, ev_fn (ev_ci 1 169)), (169, ev_fn (ev_goto 173)), (172, ev_fn (ev_ci 0 173)), (173, ev_fn (ev_istore 13 175)), (175, ev_fn (ev_ci 0 176)), (176, ev_fn (ev_istore 14 178)), (178, ev_fn (ev_iload 14 180)), (180, ev_fn (ev_iload 10 182)), (182, ev_fn (ev_iload 7 184)), (184, ev_fn (ev_isub 185)), (185, ev_fn (ev_icmpge 234 188)), (188, ev_fn (ev_iload 13 190)), (190, ev_fn (ev_ifeq 234 193)), (193, ev_fn (ev_iload 12 195)), (195, ev_fn (ev_ifne 234 198)), (198, ev_fn (ev_aload 0 199)), (199, ev_fn (ev_getf 12 63 202)), (202, ev_fn (ev_iload 7 204)), (204, ev_fn (ev_iload 14 206)), (206, ev_fn (ev_iadd 207)), (207, ev_fn (ev_iald 208)), (208, ev_fn (ev_aload 0 209)), (209, ev_fn (ev_getf 12 64 212)), (212, ev_fn (ev_iload 8 214)), (214, ev_fn (ev_iload 14 216)), (216, ev_fn (ev_iadd 217)), (217, ev_fn (ev_iald 218)), (218, ev_fn (ev_icmpne 225 221)), (221, ev_fn (ev_ci 1 222)), (222, ev_fn (ev_goto 226)), (225, ev_fn (ev_ci 0 226))]
def mk_Z_fits_2 (z : Nat × Nat) : ev_C := [(226, ev_fn (ev_istore 13 228)), (228, ev_fn (ev_iinc 14 1 231)), (231, ev_fn (ev_goto 178)), (234, ev_fn (ev_iload 12 236)), (236, ev_fn (ev_ifne 246 239)), (239, ev_fn (ev_iload 13 241)), (241, ev_fn (ev_ifne 246 244)), (244, ev_fn (ev_ci 0 245)), (245, ev_fn (ev_zret .boolean)), (246, ev_fn (ev_iload 10 248)), (248, ev_fn (ev_iload 5 250)), (250, ev_fn (ev_icmpne 266 253)), (253, ev_fn (ev_iload 11 255)), (255, ev_fn (ev_iload 6 257)), (257, ev_fn (ev_icmpne 264 260)), (260, ev_fn (ev_ci 1 261)), (261, ev_fn (ev_goto 265)), (264, ev_fn (ev_ci 0 265)), (265, ev_fn (ev_zret .boolean)), (266, ev_fn (ev_iload 10 268)), (268, ev_fn (ev_ci 1 269)), (269, ev_fn (ev_iadd 270)), (270, ev_fn (ev_istore 7 272)), (272, ev_fn (ev_iload 11 274)), (274, ev_fn (ev_ci 1 275)), (275, ev_fn (ev_iadd 276)), (276, ev_fn (ev_istore 8 278)), (278, ev_fn (ev_iinc 9 1 281)), (281, ev_fn (ev_goto 64)), (284, ev_fn (ev_ci 0 285)), (285, ev_fn (ev_zret .boolean))]
def mk_Z_fits (z : Nat × Nat) : ev_C := mk_Z_fits_0 z ++ (mk_Z_fits_1 z ++ (mk_Z_fits_2 z))
def mf_Z_fits (z : Nat × Nat) : ev_F := ev_met (mk_Z_fits z) 15
set_option maxHeartbeats 4000000 in
set_option maxRecDepth 100000 in
theorem mg_Z_fits_0 : ev_AllG (ev_Good l vc_L vt_L (gw_G b Ls xs z) prog_14_method_9_code 15 (some .boolean) my_Z_fits.name my_Z_fits.cls tb_T 1 25) (mk_Z_fits_0 z) := by
  refine ⟨ok_lload_n (z := 1) (by decide +kernel) rfl, ?_⟩
  refine ⟨ok_aload_n (z := 0) (by decide +kernel) rfl, ?_⟩
  refine ⟨ok_getf (ix := 165) hc_12 (by decide) hi_12 tw_961 (Or.inl rfl) (by decide +kernel), ?_⟩
  refine ⟨ok_callS (ix := 175) ms_Z_split (tb_cwS tw_1104 tw_1105 tw_11 tw_1106 (by decide +kernel) (by decide) (by decide)) (by decide +kernel), ?_⟩
  refine ⟨ok_istore (by decide) (by decide +kernel), ?_⟩
  refine ⟨ok_lload_n (z := 3) (by decide +kernel) rfl, ?_⟩
  refine ⟨ok_aload_n (z := 0) (by decide +kernel) rfl, ?_⟩
  refine ⟨ok_getf (ix := 168) hc_12 (by decide) hi_12 tw_962 (Or.inl rfl) (by decide +kernel), ?_⟩
  refine ⟨ok_callS (ix := 175) ms_Z_split (tb_cwS tw_1104 tw_1105 tw_11 tw_1106 (by decide +kernel) (by decide) (by decide)) (by decide +kernel), ?_⟩
  refine ⟨ok_istore (by decide) (by decide +kernel), ?_⟩
  refine ⟨ok_aload_n (z := 0) (by decide +kernel) rfl, ?_⟩
  refine ⟨ok_getf (ix := 165) hc_12 (by decide) hi_12 tw_961 (Or.inl rfl) (by decide +kernel), ?_⟩
  refine ⟨ok_iconst (z := 0) (by decide +kernel) (by decide +kernel), ?_⟩
  refine ⟨ok_iald rfl (by decide +kernel), ?_⟩
  refine ⟨ok_bipush (z := 43) (by decide +kernel) (by decide +kernel), ?_⟩
  refine ⟨ok_icmpeq (off := 14) (by decide +kernel) (by decide), ?_⟩
  refine ⟨ok_aload_n (z := 0) (by decide +kernel) rfl, ?_⟩
  refine ⟨ok_getf (ix := 165) hc_12 (by decide) hi_12 tw_961 (Or.inl rfl) (by decide +kernel), ?_⟩
  refine ⟨ok_iconst (z := 0) (by decide +kernel) (by decide +kernel), ?_⟩
  refine ⟨ok_iald rfl (by decide +kernel), ?_⟩
  refine ⟨ok_bipush (z := 35) (by decide +kernel) (by decide +kernel), ?_⟩
  refine ⟨ok_icmpne (off := 16) (by decide +kernel) (by decide), ?_⟩
  refine ⟨ok_aload_n (z := 0) (by decide +kernel) rfl, ?_⟩
  refine ⟨ok_getf (ix := 168) hc_12 (by decide) hi_12 tw_962 (Or.inl rfl) (by decide +kernel), ?_⟩
  refine ⟨ok_iconst (z := 0) (by decide +kernel) (by decide +kernel), ?_⟩
  refine ⟨ok_iald rfl (by decide +kernel), ?_⟩
  refine ⟨ok_bipush (z := 36) (by decide +kernel) (by decide +kernel), ?_⟩
  refine ⟨ok_icmpne (off := 5) (by decide +kernel) (by decide), ?_⟩
  refine ⟨ok_iconst (z := 0) (by decide +kernel) (by decide +kernel), ?_⟩
  refine ⟨ok_zret rfl (by decide +kernel), ?_⟩
  refine ⟨ok_iconst (z := 0) (by decide +kernel) (by decide +kernel), ?_⟩
  refine ⟨ok_istore (by decide) (by decide +kernel), ?_⟩
  refine ⟨ok_iconst (z := 0) (by decide +kernel) (by decide +kernel), ?_⟩
  refine ⟨ok_istore (by decide) (by decide +kernel), ?_⟩
  refine ⟨ok_iconst (z := 0) (by decide +kernel) (by decide +kernel), ?_⟩
  refine ⟨ok_istore (by decide) (by decide +kernel), ?_⟩
  refine ⟨ok_iload (by decide +kernel), ?_⟩
  refine ⟨ok_bipush (z := 10) (by decide +kernel) (by decide +kernel), ?_⟩
  refine ⟨ok_icmpge (off := 216) (by decide +kernel) (by decide), ?_⟩
  refine ⟨ok_iload (by decide +kernel), ?_⟩
  refine ⟨ok_iload (by decide +kernel), ?_⟩
  refine ⟨ok_icmpge (off := 17) (by decide +kernel) (by decide), ?_⟩
  refine ⟨ok_aload_n (z := 0) (by decide +kernel) rfl, ?_⟩
  refine ⟨ok_getf (ix := 165) hc_12 (by decide) hi_12 tw_961 (Or.inl rfl) (by decide +kernel), ?_⟩
  refine ⟨ok_iload (by decide +kernel), ?_⟩
  refine ⟨ok_iald rfl (by decide +kernel), ?_⟩
  refine ⟨ok_bipush (z := 35) (by decide +kernel) (by decide +kernel), ?_⟩
  refine ⟨ok_icmpne (off := 5) (by decide +kernel) (by decide), ?_⟩
  refine ⟨ok_iconst (z := 1) (by decide +kernel) (by decide +kernel), ?_⟩
  refine ⟨ok_zret rfl (by decide +kernel), ?_⟩
  refine ⟨ok_iload (by decide +kernel), ?_⟩
  refine ⟨ok_iload (by decide +kernel), ?_⟩
  refine ⟨ok_icmple (off := 5) (by decide +kernel) (by decide), ?_⟩
  refine ⟨ok_iconst (z := 0) (by decide +kernel) (by decide +kernel), ?_⟩
  refine ⟨ok_zret rfl (by decide +kernel), ?_⟩
  refine ⟨ok_aload_n (z := 0) (by decide +kernel) rfl, ?_⟩
  refine ⟨ok_getf (ix := 165) hc_12 (by decide) hi_12 tw_961 (Or.inl rfl) (by decide +kernel), ?_⟩
  refine ⟨ok_iload (by decide +kernel), ?_⟩
  refine ⟨ok_iload (by decide +kernel), ?_⟩
  refine ⟨ok_callS (ix := 183) ms_Z_levelEnd (tb_cwS tw_1119 tw_1120 tw_11 tw_1121 (by decide +kernel) (by decide) (by decide)) (by decide +kernel), ?_⟩
  exact trivial
set_option maxHeartbeats 4000000 in
set_option maxRecDepth 100000 in
theorem mg_Z_fits_1 : ev_AllG (ev_Good l vc_L vt_L (gw_G b Ls xs z) prog_14_method_9_code 15 (some .boolean) my_Z_fits.name my_Z_fits.cls tb_T 1 25) (mk_Z_fits_1 z) := by
  refine ⟨ok_istore (by decide) (by decide +kernel), ?_⟩
  refine ⟨ok_aload_n (z := 0) (by decide +kernel) rfl, ?_⟩
  refine ⟨ok_getf (ix := 168) hc_12 (by decide) hi_12 tw_962 (Or.inl rfl) (by decide +kernel), ?_⟩
  refine ⟨ok_iload (by decide +kernel), ?_⟩
  refine ⟨ok_iload (by decide +kernel), ?_⟩
  refine ⟨ok_callS (ix := 183) ms_Z_levelEnd (tb_cwS tw_1119 tw_1120 tw_11 tw_1121 (by decide +kernel) (by decide) (by decide)) (by decide +kernel), ?_⟩
  refine ⟨ok_istore (by decide) (by decide +kernel), ?_⟩
  refine ⟨ok_iload (by decide +kernel), ?_⟩
  refine ⟨ok_iload (by decide +kernel), ?_⟩
  refine ⟨ok_isub (by decide +kernel), ?_⟩
  refine ⟨ok_iconst (z := 1) (by decide +kernel) (by decide +kernel), ?_⟩
  refine ⟨ok_icmpne (off := 19) (by decide +kernel) (by decide), ?_⟩
  refine ⟨ok_aload_n (z := 0) (by decide +kernel) rfl, ?_⟩
  refine ⟨ok_getf (ix := 165) hc_12 (by decide) hi_12 tw_961 (Or.inl rfl) (by decide +kernel), ?_⟩
  refine ⟨ok_iload (by decide +kernel), ?_⟩
  refine ⟨ok_iald rfl (by decide +kernel), ?_⟩
  refine ⟨ok_bipush (z := 43) (by decide +kernel) (by decide +kernel), ?_⟩
  refine ⟨ok_icmpne (off := 7) (by decide +kernel) (by decide), ?_⟩
  refine ⟨ok_iconst (z := 1) (by decide +kernel) (by decide +kernel), ?_⟩
  refine ⟨ok_goto (off := 4) (by decide +kernel) (by decide), ?_⟩
  refine ⟨ok_iconst (z := 0) (by decide +kernel) (by decide +kernel), ?_⟩
  refine ⟨ok_istore (by decide) (by decide +kernel), ?_⟩
  refine ⟨ok_iload (by decide +kernel), ?_⟩
  refine ⟨ok_iload (by decide +kernel), ?_⟩
  refine ⟨ok_isub (by decide +kernel), ?_⟩
  refine ⟨ok_iload (by decide +kernel), ?_⟩
  refine ⟨ok_iload (by decide +kernel), ?_⟩
  refine ⟨ok_isub (by decide +kernel), ?_⟩
  refine ⟨ok_icmpne (off := 7) (by decide +kernel) (by decide), ?_⟩
  refine ⟨ok_iconst (z := 1) (by decide +kernel) (by decide +kernel), ?_⟩
  refine ⟨ok_goto (off := 4) (by decide +kernel) (by decide), ?_⟩
  refine ⟨ok_iconst (z := 0) (by decide +kernel) (by decide +kernel), ?_⟩
  refine ⟨ok_istore (by decide) (by decide +kernel), ?_⟩
  refine ⟨ok_iconst (z := 0) (by decide +kernel) (by decide +kernel), ?_⟩
  refine ⟨ok_istore (by decide) (by decide +kernel), ?_⟩
  refine ⟨ok_iload (by decide +kernel), ?_⟩
  refine ⟨ok_iload (by decide +kernel), ?_⟩
  refine ⟨ok_iload (by decide +kernel), ?_⟩
  refine ⟨ok_isub (by decide +kernel), ?_⟩
  refine ⟨ok_icmpge (off := 49) (by decide +kernel) (by decide), ?_⟩
  refine ⟨ok_iload (by decide +kernel), ?_⟩
  refine ⟨ok_ifeq (off := 44) (by decide +kernel) (by decide), ?_⟩
  refine ⟨ok_iload (by decide +kernel), ?_⟩
  refine ⟨ok_ifne (off := 39) (by decide +kernel) (by decide), ?_⟩
  refine ⟨ok_aload_n (z := 0) (by decide +kernel) rfl, ?_⟩
  refine ⟨ok_getf (ix := 165) hc_12 (by decide) hi_12 tw_961 (Or.inl rfl) (by decide +kernel), ?_⟩
  refine ⟨ok_iload (by decide +kernel), ?_⟩
  refine ⟨ok_iload (by decide +kernel), ?_⟩
  refine ⟨ok_iadd (by decide +kernel), ?_⟩
  refine ⟨ok_iald rfl (by decide +kernel), ?_⟩
  refine ⟨ok_aload_n (z := 0) (by decide +kernel) rfl, ?_⟩
  refine ⟨ok_getf (ix := 168) hc_12 (by decide) hi_12 tw_962 (Or.inl rfl) (by decide +kernel), ?_⟩
  refine ⟨ok_iload (by decide +kernel), ?_⟩
  refine ⟨ok_iload (by decide +kernel), ?_⟩
  refine ⟨ok_iadd (by decide +kernel), ?_⟩
  refine ⟨ok_iald rfl (by decide +kernel), ?_⟩
  refine ⟨ok_icmpne (off := 7) (by decide +kernel) (by decide), ?_⟩
  refine ⟨ok_iconst (z := 1) (by decide +kernel) (by decide +kernel), ?_⟩
  refine ⟨ok_goto (off := 4) (by decide +kernel) (by decide), ?_⟩
  refine ⟨ok_iconst (z := 0) (by decide +kernel) (by decide +kernel), ?_⟩
  exact trivial
set_option maxHeartbeats 4000000 in
set_option maxRecDepth 100000 in
theorem mg_Z_fits_2 : ev_AllG (ev_Good l vc_L vt_L (gw_G b Ls xs z) prog_14_method_9_code 15 (some .boolean) my_Z_fits.name my_Z_fits.cls tb_T 1 25) (mk_Z_fits_2 z) := by
  refine ⟨ok_istore (by decide) (by decide +kernel), ?_⟩
  refine ⟨ok_iinc (z := 1) (by decide) (by decide +kernel) (by decide +kernel), ?_⟩
  refine ⟨ok_goto (off := (-53)) (by decide +kernel) (by decide), ?_⟩
  refine ⟨ok_iload (by decide +kernel), ?_⟩
  refine ⟨ok_ifne (off := 10) (by decide +kernel) (by decide), ?_⟩
  refine ⟨ok_iload (by decide +kernel), ?_⟩
  refine ⟨ok_ifne (off := 5) (by decide +kernel) (by decide), ?_⟩
  refine ⟨ok_iconst (z := 0) (by decide +kernel) (by decide +kernel), ?_⟩
  refine ⟨ok_zret rfl (by decide +kernel), ?_⟩
  refine ⟨ok_iload (by decide +kernel), ?_⟩
  refine ⟨ok_iload (by decide +kernel), ?_⟩
  refine ⟨ok_icmpne (off := 16) (by decide +kernel) (by decide), ?_⟩
  refine ⟨ok_iload (by decide +kernel), ?_⟩
  refine ⟨ok_iload (by decide +kernel), ?_⟩
  refine ⟨ok_icmpne (off := 7) (by decide +kernel) (by decide), ?_⟩
  refine ⟨ok_iconst (z := 1) (by decide +kernel) (by decide +kernel), ?_⟩
  refine ⟨ok_goto (off := 4) (by decide +kernel) (by decide), ?_⟩
  refine ⟨ok_iconst (z := 0) (by decide +kernel) (by decide +kernel), ?_⟩
  refine ⟨ok_zret rfl (by decide +kernel), ?_⟩
  refine ⟨ok_iload (by decide +kernel), ?_⟩
  refine ⟨ok_iconst (z := 1) (by decide +kernel) (by decide +kernel), ?_⟩
  refine ⟨ok_iadd (by decide +kernel), ?_⟩
  refine ⟨ok_istore (by decide) (by decide +kernel), ?_⟩
  refine ⟨ok_iload (by decide +kernel), ?_⟩
  refine ⟨ok_iconst (z := 1) (by decide +kernel) (by decide +kernel), ?_⟩
  refine ⟨ok_iadd (by decide +kernel), ?_⟩
  refine ⟨ok_istore (by decide) (by decide +kernel), ?_⟩
  refine ⟨ok_iinc (z := 1) (by decide) (by decide +kernel) (by decide +kernel), ?_⟩
  refine ⟨ok_goto (off := (-217)) (by decide +kernel) (by decide), ?_⟩
  refine ⟨ok_iconst (z := 0) (by decide +kernel) (by decide +kernel), ?_⟩
  refine ⟨ok_zret rfl (by decide +kernel), ?_⟩
  exact trivial
theorem mg_Z_fits : ev_AllG (ev_Good l vc_L vt_L (gw_G b Ls xs z) prog_14_method_9_code 15 (some .boolean) my_Z_fits.name my_Z_fits.cls tb_T 1 25) (mk_Z_fits z) := ev_AllG.app mg_Z_fits_0 (ev_AllG.app mg_Z_fits_1 (mg_Z_fits_2))
theorem ms_Z_fits : ev_Met l vc_L vt_L (gw_G b Ls xs z) my_Z_fits (Cond.code my_Z_fits prog_14_method_9_code 15 (some .boolean) :: tb_T) 1 25 (mf_Z_fits z) := ev_sound (by decide +kernel) mg_Z_fits
def my_Z_matches : MethodName := ⟨"MessageHubModel", "matches", "(JJ)Z"⟩
def mk_Z_matches (z : Nat × Nat) : ev_C := [(0, ev_fn (ev_aload 0 1)), (1, ev_fn (ev_lload 1 2)), (2, ev_callR 12 (mf_Z_isFilter z) 2 5), (5, ev_fn (ev_ifeq 29 8)), (8, ev_fn (ev_aload 0 9)), (9, ev_fn (ev_lload 3 10)), (10, ev_callR 12 (mf_Z_isTopic z) 2 13), (13, ev_fn (ev_ifeq 29 16)), (16, ev_fn (ev_aload 0 17)), (17, ev_fn (ev_lload 1 18)), (18, ev_fn (ev_lload 3 19)), (19, ev_callR 12 (mf_Z_fits z) 3 22), (22, ev_fn (ev_ifeq 29 25)), (25, ev_fn (ev_ci 1 26)), (26, ev_fn (ev_goto 30)), (29, ev_fn (ev_ci 0 30)), (30, ev_fn (ev_zret .boolean))]
def mf_Z_matches (z : Nat × Nat) : ev_F := ev_met (mk_Z_matches z) 5
set_option maxHeartbeats 4000000 in
set_option maxRecDepth 100000 in
theorem mg_Z_matches : ev_AllG (ev_Good l vc_L vt_L (gw_G b Ls xs z) prog_14_method_10_code 5 (some .boolean) my_Z_matches.name my_Z_matches.cls tb_T 2 59) (mk_Z_matches z) := by
  refine ⟨ok_aload_n (z := 0) (by decide +kernel) rfl, ?_⟩
  refine ⟨ok_lload_n (z := 1) (by decide +kernel) rfl, ?_⟩
  refine ⟨ok_callV (ix := 187) hc_12 ms_Z_isFilter (tb_cwV tw_1100 tw_1102 tv_28 tw_11 tw_1103 (by decide +kernel) (by decide) (by decide)) (by decide +kernel), ?_⟩
  refine ⟨ok_ifeq (off := 24) (by decide +kernel) (by decide), ?_⟩
  refine ⟨ok_aload_n (z := 0) (by decide +kernel) rfl, ?_⟩
  refine ⟨ok_lload_n (z := 3) (by decide +kernel) rfl, ?_⟩
  refine ⟨ok_callV (ix := 191) hc_12 ms_Z_isTopic (tb_cwV tw_1111 tw_1113 tv_29 tw_11 tw_1114 (by decide +kernel) (by decide) (by decide)) (by decide +kernel), ?_⟩
  refine ⟨ok_ifeq (off := 16) (by decide +kernel) (by decide), ?_⟩
  refine ⟨ok_aload_n (z := 0) (by decide +kernel) rfl, ?_⟩
  refine ⟨ok_lload_n (z := 1) (by decide +kernel) rfl, ?_⟩
  refine ⟨ok_lload_n (z := 3) (by decide +kernel) rfl, ?_⟩
  refine ⟨ok_callV (ix := 194) hc_12 ms_Z_fits (tb_cwV tw_1115 tw_1117 tv_30 tw_11 tw_1118 (by decide +kernel) (by decide) (by decide)) (by decide +kernel), ?_⟩
  refine ⟨ok_ifeq (off := 7) (by decide +kernel) (by decide), ?_⟩
  refine ⟨ok_iconst (z := 1) (by decide +kernel) (by decide +kernel), ?_⟩
  refine ⟨ok_goto (off := 4) (by decide +kernel) (by decide), ?_⟩
  refine ⟨ok_iconst (z := 0) (by decide +kernel) (by decide +kernel), ?_⟩
  refine ⟨ok_zret rfl (by decide +kernel), ?_⟩
  exact trivial
theorem ms_Z_matches : ev_Met l vc_L vt_L (gw_G b Ls xs z) my_Z_matches (Cond.code my_Z_matches prog_14_method_10_code 5 (some .boolean) :: tb_T) 2 59 (mf_Z_matches z) := ev_sound (by decide +kernel) mg_Z_matches
def my_Z_isClient : MethodName := ⟨"MessageHubModel", "isClient", "(I)Z"⟩
def mk_Z_isClient (z : Nat × Nat) : ev_C := [(0, ev_fn (ev_iload 0 1)), (1, ev_fn (ev_iflt 13 4)), (4, ev_fn (ev_iload 0 5)), (5, ev_fn (ev_ci 2 6)), (6, ev_fn (ev_icmpgt 13 9)), (9, ev_fn (ev_ci 1 10)), (10, ev_fn (ev_goto 14)), (13, ev_fn (ev_ci 0 14)), (14, ev_fn (ev_zret .boolean))]
def mf_Z_isClient (z : Nat × Nat) : ev_F := ev_met (mk_Z_isClient z) 1
set_option maxHeartbeats 4000000 in
set_option maxRecDepth 100000 in
theorem mg_Z_isClient : ev_AllG (ev_Good l vc_L vt_L (gw_G b Ls xs z) prog_14_method_2_code 1 (some .boolean) my_Z_isClient.name my_Z_isClient.cls tb_T 0 0) (mk_Z_isClient z) := by
  refine ⟨ok_iload_n (z := 0) (by decide +kernel) rfl, ?_⟩
  refine ⟨ok_iflt (off := 12) (by decide +kernel) (by decide), ?_⟩
  refine ⟨ok_iload_n (z := 0) (by decide +kernel) rfl, ?_⟩
  refine ⟨ok_iconst (z := 2) (by decide +kernel) (by decide +kernel), ?_⟩
  refine ⟨ok_icmpgt (off := 7) (by decide +kernel) (by decide), ?_⟩
  refine ⟨ok_iconst (z := 1) (by decide +kernel) (by decide +kernel), ?_⟩
  refine ⟨ok_goto (off := 4) (by decide +kernel) (by decide), ?_⟩
  refine ⟨ok_iconst (z := 0) (by decide +kernel) (by decide +kernel), ?_⟩
  refine ⟨ok_zret rfl (by decide +kernel), ?_⟩
  exact trivial
theorem ms_Z_isClient : ev_Met l vc_L vt_L (gw_G b Ls xs z) my_Z_isClient (Cond.code my_Z_isClient prog_14_method_2_code 1 (some .boolean) :: tb_T) 0 0 (mf_Z_isClient z) := ev_sound (by decide +kernel) mg_Z_isClient
def my_Z_plain : MethodName := ⟨"MessageHubModel", "plain", "(J)J"⟩
def mk_Z_plain (z : Nat × Nat) : ev_C := [(0, ev_fn (ev_cl 0 1)), (1, ev_fn (ev_lstore 2 2)), (2, ev_fn (ev_ci 56 4)), (4, ev_fn (ev_istore 4 6)), (6, ev_fn (ev_iload 4 8)), (8, ev_fn (ev_iflt 47 11)), (11, ev_fn (ev_lload 0 12)), (12, ev_fn (ev_iload 4 14)), (14, ev_fn (ev_lushr 15)), (15, ev_fn (ev_cl 255 18)), (18, ev_fn (ev_land 19)), (19, ev_fn (ev_lstore 5 21)), (21, ev_fn (ev_lload 5 23)), (23, ev_fn (ev_cl 0 24)), (24, ev_fn (ev_lcmp 25)), (25, ev_fn (ev_ifeq 39 28)), (28, ev_fn (ev_lload 2 29)), (29, ev_fn (ev_cl 256 32)), (32, ev_fn (ev_lmul 33)), (33, ev_fn (ev_lload 5 35)), (35, ev_fn (ev_ladd 36)), (36, ev_fn (ev_goto 40)), (39, ev_fn (ev_lload 2 40)), (40, ev_fn (ev_lstore 2 41)), (41, ev_fn (ev_iinc 4 (-8) 44)), (44, ev_fn (ev_goto 6)), (47, ev_fn (ev_lload 2 48)), (48, ev_fn ev_lret)]
def mf_Z_plain (z : Nat × Nat) : ev_F := ev_met (mk_Z_plain z) 7
set_option maxHeartbeats 4000000 in
set_option maxRecDepth 100000 in
theorem mg_Z_plain : ev_AllG (ev_Good l vc_L vt_L (gw_G b Ls xs z) prog_14_method_3_code 7 (some .long) my_Z_plain.name my_Z_plain.cls tb_T 0 0) (mk_Z_plain z) := by
  refine ⟨ok_lconst (z := 0) (by decide +kernel) (by decide +kernel), ?_⟩
  refine ⟨ok_lstore_n (z := 2) (by decide) (by decide +kernel) rfl, ?_⟩
  refine ⟨ok_bipush (z := 56) (by decide +kernel) (by decide +kernel), ?_⟩
  refine ⟨ok_istore (by decide) (by decide +kernel), ?_⟩
  refine ⟨ok_iload (by decide +kernel), ?_⟩
  refine ⟨ok_iflt (off := 39) (by decide +kernel) (by decide), ?_⟩
  refine ⟨ok_lload_n (z := 0) (by decide +kernel) rfl, ?_⟩
  refine ⟨ok_iload (by decide +kernel), ?_⟩
  refine ⟨ok_lushr (by decide +kernel), ?_⟩
  refine ⟨ok_ldc2 (ix := 171) tw_1107 (by decide +kernel), ?_⟩
  refine ⟨ok_land (by decide +kernel), ?_⟩
  refine ⟨ok_lstore (by decide) (by decide +kernel), ?_⟩
  refine ⟨ok_lload (by decide +kernel), ?_⟩
  refine ⟨ok_lconst (z := 0) (by decide +kernel) (by decide +kernel), ?_⟩
  refine ⟨ok_lcmp (by decide +kernel), ?_⟩
  refine ⟨ok_ifeq (off := 14) (by decide +kernel) (by decide), ?_⟩
  refine ⟨ok_lload_n (z := 2) (by decide +kernel) rfl, ?_⟩
  refine ⟨ok_ldc2 (ix := 173) tw_1132 (by decide +kernel), ?_⟩
  refine ⟨ok_lmul (by decide +kernel), ?_⟩
  refine ⟨ok_lload (by decide +kernel), ?_⟩
  refine ⟨ok_ladd (by decide +kernel), ?_⟩
  refine ⟨ok_goto (off := 4) (by decide +kernel) (by decide), ?_⟩
  refine ⟨ok_lload_n (z := 2) (by decide +kernel) rfl, ?_⟩
  refine ⟨ok_lstore_n (z := 2) (by decide) (by decide +kernel) rfl, ?_⟩
  refine ⟨ok_iinc (z := (-8)) (by decide) (by decide +kernel) (by decide +kernel), ?_⟩
  refine ⟨ok_goto (off := (-38)) (by decide +kernel) (by decide), ?_⟩
  refine ⟨ok_lload_n (z := 2) (by decide +kernel) rfl, ?_⟩
  refine ⟨ok_lret rfl (by decide +kernel), ?_⟩
  exact trivial
theorem ms_Z_plain : ev_Met l vc_L vt_L (gw_G b Ls xs z) my_Z_plain (Cond.code my_Z_plain prog_14_method_3_code 7 (some .long) :: tb_T) 0 0 (mf_Z_plain z) := ev_sound (by decide +kernel) mg_Z_plain
def my_Z_will : MethodName := ⟨"MessageHubModel", "will", "(IJI)Z"⟩
def mk_Z_will (z : Nat × Nat) : ev_C := [(0, ev_fn (ev_iload 1 1)), (1, ev_call (mf_Z_isClient z) 1 4), (4, ev_fn (ev_ifeq 21 7)), (7, ev_fn (ev_lload 2 8)), (8, ev_fn (ev_cl 0 9)), (9, ev_fn (ev_lcmp 10)), (10, ev_fn (ev_ifeq 23 13)), (13, ev_fn (ev_aload 0 14)), (14, ev_fn (ev_lload 2 15)), (15, ev_callR 12 (mf_Z_isTopic z) 2 18), (18, ev_fn (ev_ifne 23 21)), (21, ev_fn (ev_ci 0 22)), (22, ev_fn (ev_zret .boolean)), (23, ev_fn (ev_aload 0 24)), (24, ev_fn (ev_getf 12 33 27)), (27, ev_fn (ev_iload 1 28)), (28, ev_fn (ev_lload 2 29)), (29, ev_call (mf_Z_plain z) 1 32), (32, ev_fn (ev_last 33)), (33, ev_fn (ev_aload 0 34)), (34, ev_fn (ev_getf 12 34 37)), (37, ev_fn (ev_iload 1 38)), (38, ev_fn (ev_iload 4 40)), (40, ev_fn (ev_iast 41)), (41, ev_fn (ev_ci 1 42)), (42, ev_fn (ev_zret .boolean))]
def mf_Z_will (z : Nat × Nat) : ev_F := ev_met (mk_Z_will z) 5
set_option maxHeartbeats 4000000 in
set_option maxRecDepth 100000 in
theorem mg_Z_will : ev_AllG (ev_Good l vc_L vt_L (gw_G b Ls xs z) prog_14_method_47_code 5 (some .boolean) my_Z_will.name my_Z_will.cls tb_T 2 50) (mk_Z_will z) := by
  refine ⟨ok_iload_n (z := 1) (by decide +kernel) rfl, ?_⟩
  refine ⟨ok_callS (ix := 348) ms_Z_isClient (tb_cwS tw_1126 tw_1127 tw_11 tw_1128 (by decide +kernel) (by decide) (by decide)) (by decide +kernel), ?_⟩
  refine ⟨ok_ifeq (off := 17) (by decide +kernel) (by decide), ?_⟩
  refine ⟨ok_lload_n (z := 2) (by decide +kernel) rfl, ?_⟩
  refine ⟨ok_lconst (z := 0) (by decide +kernel) (by decide +kernel), ?_⟩
  refine ⟨ok_lcmp (by decide +kernel), ?_⟩
  refine ⟨ok_ifeq (off := 13) (by decide +kernel) (by decide), ?_⟩
  refine ⟨ok_aload_n (z := 0) (by decide +kernel) rfl, ?_⟩
  refine ⟨ok_lload_n (z := 2) (by decide +kernel) rfl, ?_⟩
  refine ⟨ok_callV (ix := 191) hc_12 ms_Z_isTopic (tb_cwV tw_1111 tw_1113 tv_29 tw_11 tw_1114 (by decide +kernel) (by decide) (by decide)) (by decide +kernel), ?_⟩
  refine ⟨ok_ifne (off := 5) (by decide +kernel) (by decide), ?_⟩
  refine ⟨ok_iconst (z := 0) (by decide +kernel) (by decide +kernel), ?_⟩
  refine ⟨ok_zret rfl (by decide +kernel), ?_⟩
  refine ⟨ok_aload_n (z := 0) (by decide +kernel) rfl, ?_⟩
  refine ⟨ok_getf (ix := 81) hc_12 (by decide) hi_12 tw_931 (Or.inl rfl) (by decide +kernel), ?_⟩
  refine ⟨ok_iload_n (z := 1) (by decide +kernel) rfl, ?_⟩
  refine ⟨ok_lload_n (z := 2) (by decide +kernel) rfl, ?_⟩
  refine ⟨ok_callS (ix := 351) ms_Z_plain (tb_cwS tw_1129 tw_1130 tw_11 tw_1131 (by decide +kernel) (by decide) (by decide)) (by decide +kernel), ?_⟩
  refine ⟨ok_last rfl (by decide +kernel), ?_⟩
  refine ⟨ok_aload_n (z := 0) (by decide +kernel) rfl, ?_⟩
  refine ⟨ok_getf (ix := 84) hc_12 (by decide) hi_12 tw_932 (Or.inl rfl) (by decide +kernel), ?_⟩
  refine ⟨ok_iload_n (z := 1) (by decide +kernel) rfl, ?_⟩
  refine ⟨ok_iload (by decide +kernel), ?_⟩
  refine ⟨ok_iast rfl (by decide +kernel), ?_⟩
  refine ⟨ok_iconst (z := 1) (by decide +kernel) (by decide +kernel), ?_⟩
  refine ⟨ok_zret rfl (by decide +kernel), ?_⟩
  exact trivial
theorem ms_Z_will : ev_Met l vc_L vt_L (gw_G b Ls xs z) my_Z_will (Cond.code my_Z_will prog_14_method_47_code 5 (some .boolean) :: tb_T) 2 50 (mf_Z_will z) := ev_sound (by decide +kernel) mg_Z_will
def my_Z_send : MethodName := ⟨"MessageHubModel", "send", "(IIII)I"⟩
def mk_Z_send (z : Nat × Nat) : ev_C := [(0, ev_fn (ev_ci 32 2)), (2, ev_fn (ev_iload 1 3)), (3, ev_fn (ev_imul 4)), (4, ev_fn (ev_aload 0 5)), (5, ev_fn (ev_getf 12 0 8)), (8, ev_fn (ev_iload 1 9)), (9, ev_fn (ev_iald 10)), (10, ev_fn (ev_iadd 11)), (11, ev_fn (ev_istore 5 13)), (13, ev_fn (ev_aload 0 14)), (14, ev_fn (ev_getf 12 0 17)), (17, ev_fn (ev_iload 1 18)), (18, ev_fn (ev_dup2 19)), (19, ev_fn (ev_iald 20)), (20, ev_fn (ev_ci 1 21)), (21, ev_fn (ev_iadd 22)), (22, ev_fn (ev_iast 23)), (23, ev_fn (ev_aload 0 24)), (24, ev_fn (ev_getf 12 1 27)), (27, ev_fn (ev_iload 5 29)), (29, ev_fn (ev_iload 2 30)), (30, ev_fn (ev_iast 31)), (31, ev_fn (ev_aload 0 32)), (32, ev_fn (ev_getf 12 2 35)), (35, ev_fn (ev_iload 5 37)), (37, ev_fn (ev_iload 3 38)), (38, ev_fn (ev_iast 39)), (39, ev_fn (ev_aload 0 40)), (40, ev_fn (ev_getf 12 3 43)), (43, ev_fn (ev_iload 5 45)), (45, ev_fn (ev_iload 4 47)), (47, ev_fn (ev_iast 48)), (48, ev_fn (ev_aload 0 49)), (49, ev_fn (ev_getf 12 4 52)), (52, ev_fn (ev_iload 5 54)), (54, ev_fn (ev_ci 0 55)), (55, ev_fn (ev_iast 56)), (56, ev_fn (ev_aload 0 57)), (57, ev_fn (ev_getf 12 5 60)), (60, ev_fn (ev_iload 5 62)), (62, ev_fn (ev_ci 0 63)), (63, ev_fn (ev_zast 64)), (64, ev_fn (ev_aload 0 65)), (65, ev_fn (ev_getf 12 6 68)), (68, ev_fn (ev_iload 5 70)), (70, ev_fn (ev_ci 0 71)), (71, ev_fn (ev_zast 72)), (72, ev_fn (ev_aload 0 73)), (73, ev_fn (ev_getf 12 7 76)), (76, ev_fn (ev_iload 5 78)), (78, ev_fn (ev_cl 0 79)), (79, ev_fn (ev_last 80)), (80, ev_fn (ev_iload 5 82)), (82, ev_fn ev_iret)]
def mf_Z_send (z : Nat × Nat) : ev_F := ev_met (mk_Z_send z) 6
set_option maxHeartbeats 4000000 in
set_option maxRecDepth 100000 in
theorem mg_Z_send : ev_AllG (ev_Good l vc_L vt_L (gw_G b Ls xs z) prog_14_method_11_code 6 (some .int) my_Z_send.name my_Z_send.cls tb_T 0 0) (mk_Z_send z) := by
  refine ⟨ok_bipush (z := 32) (by decide +kernel) (by decide +kernel), ?_⟩
  refine ⟨ok_iload_n (z := 1) (by decide +kernel) rfl, ?_⟩
  refine ⟨ok_imul (by decide +kernel), ?_⟩
  refine ⟨ok_aload_n (z := 0) (by decide +kernel) rfl, ?_⟩
  refine ⟨ok_getf (ix := 7) hc_12 (by decide) hi_12 tw_898 (Or.inl rfl) (by decide +kernel), ?_⟩
  refine ⟨ok_iload_n (z := 1) (by decide +kernel) rfl, ?_⟩
  refine ⟨ok_iald rfl (by decide +kernel), ?_⟩
  refine ⟨ok_iadd (by decide +kernel), ?_⟩
  refine ⟨ok_istore (by decide) (by decide +kernel), ?_⟩
  refine ⟨ok_aload_n (z := 0) (by decide +kernel) rfl, ?_⟩
  refine ⟨ok_getf (ix := 7) hc_12 (by decide) hi_12 tw_898 (Or.inl rfl) (by decide +kernel), ?_⟩
  refine ⟨ok_iload_n (z := 1) (by decide +kernel) rfl, ?_⟩
  refine ⟨ok_dup2 (by decide +kernel), ?_⟩
  refine ⟨ok_iald rfl (by decide +kernel), ?_⟩
  refine ⟨ok_iconst (z := 1) (by decide +kernel) (by decide +kernel), ?_⟩
  refine ⟨ok_iadd (by decide +kernel), ?_⟩
  refine ⟨ok_iast rfl (by decide +kernel), ?_⟩
  refine ⟨ok_aload_n (z := 0) (by decide +kernel) rfl, ?_⟩
  refine ⟨ok_getf (ix := 13) hc_12 (by decide) hi_12 tw_899 (Or.inl rfl) (by decide +kernel), ?_⟩
  refine ⟨ok_iload (by decide +kernel), ?_⟩
  refine ⟨ok_iload_n (z := 2) (by decide +kernel) rfl, ?_⟩
  refine ⟨ok_iast rfl (by decide +kernel), ?_⟩
  refine ⟨ok_aload_n (z := 0) (by decide +kernel) rfl, ?_⟩
  refine ⟨ok_getf (ix := 16) hc_12 (by decide) hi_12 tw_900 (Or.inl rfl) (by decide +kernel), ?_⟩
  refine ⟨ok_iload (by decide +kernel), ?_⟩
  refine ⟨ok_iload_n (z := 3) (by decide +kernel) rfl, ?_⟩
  refine ⟨ok_iast rfl (by decide +kernel), ?_⟩
  refine ⟨ok_aload_n (z := 0) (by decide +kernel) rfl, ?_⟩
  refine ⟨ok_getf (ix := 19) hc_12 (by decide) hi_12 tw_901 (Or.inl rfl) (by decide +kernel), ?_⟩
  refine ⟨ok_iload (by decide +kernel), ?_⟩
  refine ⟨ok_iload (by decide +kernel), ?_⟩
  refine ⟨ok_iast rfl (by decide +kernel), ?_⟩
  refine ⟨ok_aload_n (z := 0) (by decide +kernel) rfl, ?_⟩
  refine ⟨ok_getf (ix := 22) hc_12 (by decide) hi_12 tw_902 (Or.inl rfl) (by decide +kernel), ?_⟩
  refine ⟨ok_iload (by decide +kernel), ?_⟩
  refine ⟨ok_iconst (z := 0) (by decide +kernel) (by decide +kernel), ?_⟩
  refine ⟨ok_iast rfl (by decide +kernel), ?_⟩
  refine ⟨ok_aload_n (z := 0) (by decide +kernel) rfl, ?_⟩
  refine ⟨ok_getf (ix := 25) hc_12 (by decide) hi_12 tw_903 (Or.inl rfl) (by decide +kernel), ?_⟩
  refine ⟨ok_iload (by decide +kernel), ?_⟩
  refine ⟨ok_iconst (z := 0) (by decide +kernel) (by decide +kernel), ?_⟩
  refine ⟨ok_zast rfl (by decide +kernel), ?_⟩
  refine ⟨ok_aload_n (z := 0) (by decide +kernel) rfl, ?_⟩
  refine ⟨ok_getf (ix := 29) hc_12 (by decide) hi_12 tw_904 (Or.inl rfl) (by decide +kernel), ?_⟩
  refine ⟨ok_iload (by decide +kernel), ?_⟩
  refine ⟨ok_iconst (z := 0) (by decide +kernel) (by decide +kernel), ?_⟩
  refine ⟨ok_zast rfl (by decide +kernel), ?_⟩
  refine ⟨ok_aload_n (z := 0) (by decide +kernel) rfl, ?_⟩
  refine ⟨ok_getf (ix := 32) hc_12 (by decide) hi_12 tw_905 (Or.inl rfl) (by decide +kernel), ?_⟩
  refine ⟨ok_iload (by decide +kernel), ?_⟩
  refine ⟨ok_lconst (z := 0) (by decide +kernel) (by decide +kernel), ?_⟩
  refine ⟨ok_last rfl (by decide +kernel), ?_⟩
  refine ⟨ok_iload (by decide +kernel), ?_⟩
  refine ⟨ok_iret rfl (by decide +kernel), ?_⟩
  exact trivial
theorem ms_Z_send : ev_Met l vc_L vt_L (gw_G b Ls xs z) my_Z_send (Cond.code my_Z_send prog_14_method_11_code 6 (some .int) :: tb_T) 0 0 (mf_Z_send z) := ev_sound (by decide +kernel) mg_Z_send
def my_Z_connect : MethodName := ⟨"MessageHubModel", "connect", "(IZIII)Z"⟩
def mk_Z_connect_0 (z : Nat × Nat) : ev_C := [(0, ev_fn (ev_iload 1 1)), (1, ev_call (mf_Z_isClient z) 1 4), (4, ev_fn (ev_ifeq 50 7)), (7, ev_fn (ev_aload 0 8)), (8, ev_fn (ev_getf 12 22 11)), (11, ev_fn (ev_iload 1 12)), (12, ev_fn (ev_iald 13)), (13, ev_fn (ev_ifne 50 16)), (16, ev_fn (ev_iload 3 17)), (17, ev_fn (ev_iflt 50 20)), (20, ev_fn (ev_iload 3 21)), (21, ev_fn (ev_ci 50 23)), (23, ev_fn (ev_icmpgt 50 26)), (26, ev_fn (ev_iload 4 28)), (28, ev_fn (ev_ci 1 29)), (29, ev_fn (ev_icmplt 50 32)), (32, ev_fn (ev_iload 4 34)), (34, ev_fn (ev_ci 3 35)), (35, ev_fn (ev_icmpgt 50 38)), (38, ev_fn (ev_iload 5 40)), (40, ev_fn (ev_iflt 50 43)), (43, ev_fn (ev_iload 5 45)), (45, ev_fn (ev_ci 20 47)), (47, ev_fn (ev_icmple 52 50)), (50, ev_fn (ev_ci 0 51)), (51, ev_fn (ev_zret .boolean)), (52, ev_fn (ev_aload 0 53)), (53, ev_fn (ev_getf 12 22 56)), (56, ev_fn (ev_iload 1 57)), (57, ev_fn (ev_ci 1 58)), (58, ev_fn (ev_iast 59)), (59, ev_fn (ev_aload 0 60)), (60, ev_fn (ev_ci 2 61)), (61, ev_fn (ev_iload 1 62)), (62, ev_fn (ev_imul 63)), (63, ev_fn (ev_ci 1 64)), (64, ev_fn (ev_ci 0 65)), (65, ev_fn (ev_iload 3 66)), (66, ev_callR 12 (mf_Z_send z) 5 69), (69, ev_fn (ev_istore 6 71)), (71, ev_fn (ev_aload 0 72)), (72, ev_fn (ev_getf 12 6 75)), (75, ev_fn (ev_iload 6 77)), (77, ev_fn (ev_iload 2 78)), (78, ev_fn (ev_zast 79)), (79, ev_fn (ev_aload 0 80)), (80, ev_fn (ev_getf 12 8 83)), (83, ev_fn (ev_iload 6 85)), (85, ev_fn (ev_iload 4 87)), (87, ev_fn (ev_iast 88)), (88, ev_fn (ev_aload 0 89)), (89, ev_fn (ev_getf 12 9 92)), (92, ev_fn (ev_iload 6 94)), (94, ev_fn (ev_iload 5 96)), (96, ev_fn (ev_iast 97)), (97, ev_fn (ev_aload 0 98)), (98, ev_fn (ev_getf 12 10 101)), (101, ev_fn (ev_iload 6 103)), (103, ev_fn (ev_aload 0 104)), (104, ev_fn (ev_getf 12 33 107))]
def mk_Z_connect_1 (z : Nat × Nat) : ev_C := [(107, ev_fn (ev_iload 1 108)), (108, ev_fn (ev_lald 109)), (109, ev_fn (ev_last 110)), (110, ev_fn (ev_aload 0 111)), (111, ev_fn (ev_getf 12 11 114)), (114, ev_fn (ev_iload 6 116)), (116, ev_fn (ev_aload 0 117)), (117, ev_fn (ev_getf 12 34 120)), (120, ev_fn (ev_iload 1 121)), (121, ev_fn (ev_iald 122)), (122, ev_fn (ev_iast 123)), (123, ev_fn (ev_ci 1 124)), (124, ev_fn (ev_zret .boolean))]
def mk_Z_connect (z : Nat × Nat) : ev_C := mk_Z_connect_0 z ++ (mk_Z_connect_1 z)
def mf_Z_connect (z : Nat × Nat) : ev_F := ev_met (mk_Z_connect z) 7
set_option maxHeartbeats 4000000 in
set_option maxRecDepth 100000 in
theorem mg_Z_connect_0 : ev_AllG (ev_Good l vc_L vt_L (gw_G b Ls xs z) prog_14_method_48_code 7 (some .boolean) my_Z_connect.name my_Z_connect.cls tb_T 1 25) (mk_Z_connect_0 z) := by
  refine ⟨ok_iload_n (z := 1) (by decide +kernel) rfl, ?_⟩
  refine ⟨ok_callS (ix := 348) ms_Z_isClient (tb_cwS tw_1126 tw_1127 tw_11 tw_1128 (by decide +kernel) (by decide) (by decide)) (by decide +kernel), ?_⟩
  refine ⟨ok_ifeq (off := 46) (by decide +kernel) (by decide), ?_⟩
  refine ⟨ok_aload_n (z := 0) (by decide +kernel) rfl, ?_⟩
  refine ⟨ok_getf (ix := 48) hc_12 (by decide) hi_12 tw_920 (Or.inl rfl) (by decide +kernel), ?_⟩
  refine ⟨ok_iload_n (z := 1) (by decide +kernel) rfl, ?_⟩
  refine ⟨ok_iald rfl (by decide +kernel), ?_⟩
  refine ⟨ok_ifne (off := 37) (by decide +kernel) (by decide), ?_⟩
  refine ⟨ok_iload_n (z := 3) (by decide +kernel) rfl, ?_⟩
  refine ⟨ok_iflt (off := 33) (by decide +kernel) (by decide), ?_⟩
  refine ⟨ok_iload_n (z := 3) (by decide +kernel) rfl, ?_⟩
  refine ⟨ok_bipush (z := 50) (by decide +kernel) (by decide +kernel), ?_⟩
  refine ⟨ok_icmpgt (off := 27) (by decide +kernel) (by decide), ?_⟩
  refine ⟨ok_iload (by decide +kernel), ?_⟩
  refine ⟨ok_iconst (z := 1) (by decide +kernel) (by decide +kernel), ?_⟩
  refine ⟨ok_icmplt (off := 21) (by decide +kernel) (by decide), ?_⟩
  refine ⟨ok_iload (by decide +kernel), ?_⟩
  refine ⟨ok_iconst (z := 3) (by decide +kernel) (by decide +kernel), ?_⟩
  refine ⟨ok_icmpgt (off := 15) (by decide +kernel) (by decide), ?_⟩
  refine ⟨ok_iload (by decide +kernel), ?_⟩
  refine ⟨ok_iflt (off := 10) (by decide +kernel) (by decide), ?_⟩
  refine ⟨ok_iload (by decide +kernel), ?_⟩
  refine ⟨ok_bipush (z := 20) (by decide +kernel) (by decide +kernel), ?_⟩
  refine ⟨ok_icmple (off := 5) (by decide +kernel) (by decide), ?_⟩
  refine ⟨ok_iconst (z := 0) (by decide +kernel) (by decide +kernel), ?_⟩
  refine ⟨ok_zret rfl (by decide +kernel), ?_⟩
  refine ⟨ok_aload_n (z := 0) (by decide +kernel) rfl, ?_⟩
  refine ⟨ok_getf (ix := 48) hc_12 (by decide) hi_12 tw_920 (Or.inl rfl) (by decide +kernel), ?_⟩
  refine ⟨ok_iload_n (z := 1) (by decide +kernel) rfl, ?_⟩
  refine ⟨ok_iconst (z := 1) (by decide +kernel) (by decide +kernel), ?_⟩
  refine ⟨ok_iast rfl (by decide +kernel), ?_⟩
  refine ⟨ok_aload_n (z := 0) (by decide +kernel) rfl, ?_⟩
  refine ⟨ok_iconst (z := 2) (by decide +kernel) (by decide +kernel), ?_⟩
  refine ⟨ok_iload_n (z := 1) (by decide +kernel) rfl, ?_⟩
  refine ⟨ok_imul (by decide +kernel), ?_⟩
  refine ⟨ok_iconst (z := 1) (by decide +kernel) (by decide +kernel), ?_⟩
  refine ⟨ok_iconst (z := 0) (by decide +kernel) (by decide +kernel), ?_⟩
  refine ⟨ok_iload_n (z := 3) (by decide +kernel) rfl, ?_⟩
  refine ⟨ok_callV (ix := 198) hc_12 ms_Z_send (tb_cwV tw_1137 tw_1139 tv_31 tw_11 tw_1140 (by decide +kernel) (by decide) (by decide)) (by decide +kernel), ?_⟩
  refine ⟨ok_istore (by decide) (by decide +kernel), ?_⟩
  refine ⟨ok_aload_n (z := 0) (by decide +kernel) rfl, ?_⟩
  refine ⟨ok_getf (ix := 29) hc_12 (by decide) hi_12 tw_904 (Or.inl rfl) (by decide +kernel), ?_⟩
  refine ⟨ok_iload (by decide +kernel), ?_⟩
  refine ⟨ok_iload_n (z := 2) (by decide +kernel) rfl, ?_⟩
  refine ⟨ok_zast rfl (by decide +kernel), ?_⟩
  refine ⟨ok_aload_n (z := 0) (by decide +kernel) rfl, ?_⟩
  refine ⟨ok_getf (ix := 36) hc_12 (by decide) hi_12 tw_906 (Or.inl rfl) (by decide +kernel), ?_⟩
  refine ⟨ok_iload (by decide +kernel), ?_⟩
  refine ⟨ok_iload (by decide +kernel), ?_⟩
  refine ⟨ok_iast rfl (by decide +kernel), ?_⟩
  refine ⟨ok_aload_n (z := 0) (by decide +kernel) rfl, ?_⟩
  refine ⟨ok_getf (ix := 39) hc_12 (by decide) hi_12 tw_907 (Or.inl rfl) (by decide +kernel), ?_⟩
  refine ⟨ok_iload (by decide +kernel), ?_⟩
  refine ⟨ok_iload (by decide +kernel), ?_⟩
  refine ⟨ok_iast rfl (by decide +kernel), ?_⟩
  refine ⟨ok_aload_n (z := 0) (by decide +kernel) rfl, ?_⟩
  refine ⟨ok_getf (ix := 42) hc_12 (by decide) hi_12 tw_908 (Or.inl rfl) (by decide +kernel), ?_⟩
  refine ⟨ok_iload (by decide +kernel), ?_⟩
  refine ⟨ok_aload_n (z := 0) (by decide +kernel) rfl, ?_⟩
  refine ⟨ok_getf (ix := 81) hc_12 (by decide) hi_12 tw_931 (Or.inl rfl) (by decide +kernel), ?_⟩
  exact trivial
set_option maxHeartbeats 4000000 in
set_option maxRecDepth 100000 in
theorem mg_Z_connect_1 : ev_AllG (ev_Good l vc_L vt_L (gw_G b Ls xs z) prog_14_method_48_code 7 (some .boolean) my_Z_connect.name my_Z_connect.cls tb_T 1 25) (mk_Z_connect_1 z) := by
  refine ⟨ok_iload_n (z := 1) (by decide +kernel) rfl, ?_⟩
  refine ⟨ok_lald rfl (by decide +kernel), ?_⟩
  refine ⟨ok_last rfl (by decide +kernel), ?_⟩
  refine ⟨ok_aload_n (z := 0) (by decide +kernel) rfl, ?_⟩
  refine ⟨ok_getf (ix := 45) hc_12 (by decide) hi_12 tw_909 (Or.inl rfl) (by decide +kernel), ?_⟩
  refine ⟨ok_iload (by decide +kernel), ?_⟩
  refine ⟨ok_aload_n (z := 0) (by decide +kernel) rfl, ?_⟩
  refine ⟨ok_getf (ix := 84) hc_12 (by decide) hi_12 tw_932 (Or.inl rfl) (by decide +kernel), ?_⟩
  refine ⟨ok_iload_n (z := 1) (by decide +kernel) rfl, ?_⟩
  refine ⟨ok_iald rfl (by decide +kernel), ?_⟩
  refine ⟨ok_iast rfl (by decide +kernel), ?_⟩
  refine ⟨ok_iconst (z := 1) (by decide +kernel) (by decide +kernel), ?_⟩
  refine ⟨ok_zret rfl (by decide +kernel), ?_⟩
  exact trivial
theorem mg_Z_connect : ev_AllG (ev_Good l vc_L vt_L (gw_G b Ls xs z) prog_14_method_48_code 7 (some .boolean) my_Z_connect.name my_Z_connect.cls tb_T 1 25) (mk_Z_connect z) := ev_AllG.app mg_Z_connect_0 (mg_Z_connect_1)
theorem ms_Z_connect : ev_Met l vc_L vt_L (gw_G b Ls xs z) my_Z_connect (Cond.code my_Z_connect prog_14_method_48_code 7 (some .boolean) :: tb_T) 1 25 (mf_Z_connect z) := ev_sound (by decide +kernel) mg_Z_connect
end MT
