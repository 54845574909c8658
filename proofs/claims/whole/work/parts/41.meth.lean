/-! Methods as lists of steps, and that the machine does what they do (written by wip/whole/gen.py). -/
section MT
variable {l : Launch} {b Ls : Nat} {xs : Nat → Int32} {z : Nat × Nat}
def my_Z_sendHere : MethodName := ⟨"MessageHubModel", "sendHere", "(IIZ)V"⟩
def mk_Z_sendHere (z : Nat × Nat) : ev_C := [(0, ev_fn (ev_aload 0 1)), (1, ev_fn (ev_ci 2 2)), (2, ev_fn (ev_iload 1 3)), (3, ev_fn (ev_imul 4)), (4, ev_fn (ev_ci 1 5)), (5, ev_fn (ev_iadd 6)), (6, ev_fn (ev_aload 0 7)), (7, ev_fn (ev_getf 12 49 10)), (10, ev_fn (ev_iload 2 11)), (11, ev_fn (ev_lald 12)), (12, ev_fn (ev_aload 0 13)), (13, ev_fn (ev_getf 12 50 16)), (16, ev_fn (ev_iload 2 17)), (17, ev_fn (ev_iald 18)), (18, ev_fn (ev_aload 0 19)), (19, ev_fn (ev_getf 12 51 22)), (22, ev_fn (ev_iload 2 23)), (23, ev_fn (ev_iald 24)), (24, ev_fn (ev_aload 0 25)), (25, ev_fn (ev_getf 12 54 28)), (28, ev_fn (ev_iload 2 29)), (29, ev_fn (ev_iald 30)), (30, ev_callR 12 (mf_Z_sendPublish z) 6 33), (33, ev_fn (ev_aload 0 34)), (34, ev_fn (ev_ci 2 35)), (35, ev_fn (ev_iload 1 36)), (36, ev_fn (ev_imul 37)), (37, ev_fn (ev_ci 1 38)), (38, ev_fn (ev_iadd 39)), (39, ev_fn (ev_iload 3 40)), (40, ev_fn (ev_aload 0 41)), (41, ev_fn (ev_getf 12 52 44)), (44, ev_fn (ev_iload 2 45)), (45, ev_fn (ev_zald 46)), (46, ev_callR 12 (mf_Z_marked z) 4 49), (49, ev_fn ev_vret)]
def mf_Z_sendHere (z : Nat × Nat) : ev_F := ev_met (mk_Z_sendHere z) 4
set_option maxHeartbeats 4000000 in
set_option maxRecDepth 100000 in
theorem mg_Z_sendHere : ev_AllG (ev_Good l vc_L vt_L (gw_G b Ls xs z) prog_14_method_30_code 4 none my_Z_sendHere.name my_Z_sendHere.cls tb_T 2 52) (mk_Z_sendHere z) := by
  refine ⟨ok_aload_n (z := 0) (by decide +kernel) rfl, ?_⟩
  refine ⟨ok_iconst (z := 2) (by decide +kernel) (by decide +kernel), ?_⟩
  refine ⟨ok_iload_n (z := 1) (by decide +kernel) rfl, ?_⟩
  refine ⟨ok_imul (by decide +kernel), ?_⟩
  refine ⟨ok_iconst (z := 1) (by decide +kernel) (by decide +kernel), ?_⟩
  refine ⟨ok_iadd (by decide +kernel), ?_⟩
  refine ⟨ok_aload_n (z := 0) (by decide +kernel) rfl, ?_⟩
  refine ⟨ok_getf (ix := 129) hc_12 (by decide) hi_12 tw_947 (Or.inl rfl) (by decide +kernel), ?_⟩
  refine ⟨ok_iload_n (z := 2) (by decide +kernel) rfl, ?_⟩
  refine ⟨ok_lald rfl (by decide +kernel), ?_⟩
  refine ⟨ok_aload_n (z := 0) (by decide +kernel) rfl, ?_⟩
  refine ⟨ok_getf (ix := 132) hc_12 (by decide) hi_12 tw_948 (Or.inl rfl) (by decide +kernel), ?_⟩
  refine ⟨ok_iload_n (z := 2) (by decide +kernel) rfl, ?_⟩
  refine ⟨ok_iald rfl (by decide +kernel), ?_⟩
  refine ⟨ok_aload_n (z := 0) (by decide +kernel) rfl, ?_⟩
  refine ⟨ok_getf (ix := 135) hc_12 (by decide) hi_12 tw_949 (Or.inl rfl) (by decide +kernel), ?_⟩
  refine ⟨ok_iload_n (z := 2) (by decide +kernel) rfl, ?_⟩
  refine ⟨ok_iald rfl (by decide +kernel), ?_⟩
  refine ⟨ok_aload_n (z := 0) (by decide +kernel) rfl, ?_⟩
  refine ⟨ok_getf (ix := 144) hc_12 (by decide) hi_12 tw_952 (Or.inl rfl) (by decide +kernel), ?_⟩
  refine ⟨ok_iload_n (z := 2) (by decide +kernel) rfl, ?_⟩
  refine ⟨ok_iald rfl (by decide +kernel), ?_⟩
  refine ⟨ok_callV (ix := 235) hc_12 ms_Z_sendPublish (tb_cwV tw_1173 tw_1175 tv_34 tw_11 tw_1176 (by decide +kernel) (by decide) (by decide)) (by decide +kernel), ?_⟩
  refine ⟨ok_aload_n (z := 0) (by decide +kernel) rfl, ?_⟩
  refine ⟨ok_iconst (z := 2) (by decide +kernel) (by decide +kernel), ?_⟩
  refine ⟨ok_iload_n (z := 1) (by decide +kernel) rfl, ?_⟩
  refine ⟨ok_imul (by decide +kernel), ?_⟩
  refine ⟨ok_iconst (z := 1) (by decide +kernel) (by decide +kernel), ?_⟩
  refine ⟨ok_iadd (by decide +kernel), ?_⟩
  refine ⟨ok_iload_n (z := 3) (by decide +kernel) rfl, ?_⟩
  refine ⟨ok_aload_n (z := 0) (by decide +kernel) rfl, ?_⟩
  refine ⟨ok_getf (ix := 138) hc_12 (by decide) hi_12 tw_950 (Or.inl rfl) (by decide +kernel), ?_⟩
  refine ⟨ok_iload_n (z := 2) (by decide +kernel) rfl, ?_⟩
  refine ⟨ok_zald rfl (by decide +kernel), ?_⟩
  refine ⟨ok_callV (ix := 239) hc_12 ms_Z_marked (tb_cwV tw_1177 tw_1179 tv_35 tw_11 tw_1180 (by decide +kernel) (by decide) (by decide)) (by decide +kernel), ?_⟩
  refine ⟨ok_vret rfl (by decide +kernel), ?_⟩
  exact trivial
theorem ms_Z_sendHere : ev_Met l vc_L vt_L (gw_G b Ls xs z) my_Z_sendHere (Cond.code my_Z_sendHere prog_14_method_30_code 4 none :: tb_T) 2 52 (mf_Z_sendHere z) := ev_sound (by decide +kernel) mg_Z_sendHere
def my_Z_pumpSession : MethodName := ⟨"MessageHubModel", "pumpSession", "(I)V"⟩
def mk_Z_pumpSession_0 (z : Nat × Nat) : ev_C := [(0, ev_fn (ev_aload 0 1)), (1, ev_fn (ev_getf 12 36 4)), (4, ev_fn (ev_iload 1 5)), (5, ev_fn (ev_zald 6)), (6, ev_fn (ev_ifeq 149 9)), (9, ev_fn (ev_aload 0 10)), (10, ev_fn (ev_getf 12 47 13)), (13, ev_fn (ev_iload 1 14)), (14, ev_fn (ev_iald 15)), (15, ev_fn (ev_aload 0 16)), (16, ev_fn (ev_getf 12 37 19)), (19, ev_fn (ev_iload 1 20)), (20, ev_fn (ev_iald 21)), (21, ev_fn (ev_icmpge 149 24)), (24, ev_fn (ev_aload 0 25)), (25, ev_fn (ev_getf 12 48 28)), (28, ev_fn (ev_iload 1 29)), (29, ev_fn (ev_iald 30)), (30, ev_fn (ev_ifle 149 33)), (33, ev_fn (ev_ci 1 34)), (34, ev_fn (ev_istore 2 35)), (35, ev_fn (ev_ci 0 36)), (36, ev_fn (ev_istore 3 37)), (37, ev_fn (ev_iload 3 38)), (38, ev_fn (ev_ci 6 40)), (40, ev_fn (ev_icmpge 93 43)), (43, ev_fn (ev_ci 0 44)), (44, ev_fn (ev_istore 4 46)), (46, ev_fn (ev_iload 4 48)), (48, ev_fn (ev_aload 0 49)), (49, ev_fn (ev_getf 12 47 52)), (52, ev_fn (ev_iload 1 53)), (53, ev_fn (ev_iald 54)), (54, ev_fn (ev_icmpge 87 57)), (57, ev_fn (ev_aload 0 58)), (58, ev_fn (ev_getf 12 54 61)), (61, ev_fn (ev_ci 8 63)), (63, ev_fn (ev_iload 1 64)), (64, ev_fn (ev_imul 65)), (65, ev_fn (ev_iload 4 67)), (67, ev_fn (ev_iadd 68)), (68, ev_fn (ev_iald 69)), (69, ev_fn (ev_iload 2 70)), (70, ev_fn (ev_icmpne 79 73)), (73, ev_fn (ev_iload 2 74)), (74, ev_fn (ev_ci 1 75)), (75, ev_fn (ev_iadd 76)), (76, ev_fn (ev_goto 80)), (79, ev_fn (ev_iload 2 80)), (80, ev_fn (ev_istore 2 81)), (81, ev_fn (ev_iinc 4 1 84)), (84, ev_fn (ev_goto 46)), (87, ev_fn (ev_iinc 3 1 90)), (90, ev_fn (ev_goto 37)), (93, ev_fn (ev_ci 8 95)), (95, ev_fn (ev_iload 1 96)), (96, ev_fn (ev_imul 97)), (97, ev_fn (ev_aload 0 98)), (98, ev_fn (ev_getf 12 47 101)), (101, ev_fn (ev_iload 1 102))]
def mk_Z_pumpSession_1 (z : Nat × Nat) : ev_C := [(102, ev_fn (ev_iald 103)), (103, ev_fn (ev_iadd 104)), (104, ev_fn (ev_istore 3 105)), (105, ev_fn (ev_aload 0 106)), (106, ev_fn (ev_getf 12 54 109)), (109, ev_fn (ev_iload 3 110)), (110, ev_fn (ev_iload 2 111)), (111, ev_fn (ev_iast 112)), (112, ev_fn (ev_aload 0 113)), (113, ev_fn (ev_getf 12 53 116)), (116, ev_fn (ev_iload 3 117)), (117, ev_fn (ev_ci 1 118)), (118, ev_fn (ev_iast 119)), (119, ev_fn (ev_aload 0 120)), (120, ev_fn (ev_getf 12 47 123)), (123, ev_fn (ev_iload 1 124)), (124, ev_fn (ev_dup2 125)), (125, ev_fn (ev_iald 126)), (126, ev_fn (ev_ci 1 127)), (127, ev_fn (ev_iadd 128)), (128, ev_fn (ev_iast 129)), (129, ev_fn (ev_aload 0 130)), (130, ev_fn (ev_getf 12 48 133)), (133, ev_fn (ev_iload 1 134)), (134, ev_fn (ev_dup2 135)), (135, ev_fn (ev_iald 136)), (136, ev_fn (ev_ci 1 137)), (137, ev_fn (ev_isub 138)), (138, ev_fn (ev_iast 139)), (139, ev_fn (ev_aload 0 140)), (140, ev_fn (ev_iload 1 141)), (141, ev_fn (ev_iload 3 142)), (142, ev_fn (ev_ci 0 143)), (143, ev_callR 12 (mf_Z_sendHere z) 4 146), (146, ev_fn (ev_goto 0)), (149, ev_fn ev_vret)]
def mk_Z_pumpSession (z : Nat × Nat) : ev_C := mk_Z_pumpSession_0 z ++ (mk_Z_pumpSession_1 z)
def mf_Z_pumpSession (z : Nat × Nat) : ev_F := ev_met (mk_Z_pumpSession z) 5
set_option maxHeartbeats 4000000 in
set_option maxRecDepth 100000 in
theorem mg_Z_pumpSession_0 : ev_AllG (ev_Good l vc_L vt_L (gw_G b Ls xs z) prog_14_method_31_code 5 none my_Z_pumpSession.name my_Z_pumpSession.cls tb_T 3 75) (mk_Z_pumpSession_0 z) := by
  refine ⟨ok_aload_n (z := 0) (by decide +kernel) rfl, ?_⟩
  refine ⟨ok_getf (ix := 90) hc_12 (by decide) hi_12 tw_934 (Or.inl rfl) (by decide +kernel), ?_⟩
  refine ⟨ok_iload_n (z := 1) (by decide +kernel) rfl, ?_⟩
  refine ⟨ok_zald rfl (by decide +kernel), ?_⟩
  refine ⟨ok_ifeq (off := 143) (by decide +kernel) (by decide), ?_⟩
  refine ⟨ok_aload_n (z := 0) (by decide +kernel) rfl, ?_⟩
  refine ⟨ok_getf (ix := 123) hc_12 (by decide) hi_12 tw_945 (Or.inl rfl) (by decide +kernel), ?_⟩
  refine ⟨ok_iload_n (z := 1) (by decide +kernel) rfl, ?_⟩
  refine ⟨ok_iald rfl (by decide +kernel), ?_⟩
  refine ⟨ok_aload_n (z := 0) (by decide +kernel) rfl, ?_⟩
  refine ⟨ok_getf (ix := 93) hc_12 (by decide) hi_12 tw_935 (Or.inl rfl) (by decide +kernel), ?_⟩
  refine ⟨ok_iload_n (z := 1) (by decide +kernel) rfl, ?_⟩
  refine ⟨ok_iald rfl (by decide +kernel), ?_⟩
  refine ⟨ok_icmpge (off := 128) (by decide +kernel) (by decide), ?_⟩
  refine ⟨ok_aload_n (z := 0) (by decide +kernel) rfl, ?_⟩
  refine ⟨ok_getf (ix := 126) hc_12 (by decide) hi_12 tw_946 (Or.inl rfl) (by decide +kernel), ?_⟩
  refine ⟨ok_iload_n (z := 1) (by decide +kernel) rfl, ?_⟩
  refine ⟨ok_iald rfl (by decide +kernel), ?_⟩
  refine ⟨ok_ifle (off := 119) (by decide +kernel) (by decide), ?_⟩
  refine ⟨ok_iconst (z := 1) (by decide +kernel) (by decide +kernel), ?_⟩
  refine ⟨ok_istore_n (z := 2) (by decide) (by decide +kernel) rfl, ?_⟩
  refine ⟨ok_iconst (z := 0) (by decide +kernel) (by decide +kernel), ?_⟩
  refine ⟨ok_istore_n (z := 3) (by decide) (by decide +kernel) rfl, ?_⟩
  refine ⟨ok_iload_n (z := 3) (by decide +kernel) rfl, ?_⟩
  refine ⟨ok_bipush (z := 6) (by decide +kernel) (by decide +kernel), ?_⟩
  refine ⟨ok_icmpge (off := 53) (by decide +kernel) (by decide), ?_⟩
  refine ⟨ok_iconst (z := 0) (by decide +kernel) (by decide +kernel), ?_⟩
  refine ⟨ok_istore (by decide) (by decide +kernel), ?_⟩
  refine ⟨ok_iload (by decide +kernel), ?_⟩
  refine ⟨ok_aload_n (z := 0) (by decide +kernel) rfl, ?_⟩
  refine ⟨ok_getf (ix := 123) hc_12 (by decide) hi_12 tw_945 (Or.inl rfl) (by decide +kernel), ?_⟩
  refine ⟨ok_iload_n (z := 1) (by decide +kernel) rfl, ?_⟩
  refine ⟨ok_iald rfl (by decide +kernel), ?_⟩
  refine ⟨ok_icmpge (off := 33) (by decide +kernel) (by decide), ?_⟩
  refine ⟨ok_aload_n (z := 0) (by decide +kernel) rfl, ?_⟩
  refine ⟨ok_getf (ix := 144) hc_12 (by decide) hi_12 tw_952 (Or.inl rfl) (by decide +kernel), ?_⟩
  refine ⟨ok_bipush (z := 8) (by decide +kernel) (by decide +kernel), ?_⟩
  refine ⟨ok_iload_n (z := 1) (by decide +kernel) rfl, ?_⟩
  refine ⟨ok_imul (by decide +kernel), ?_⟩
  refine ⟨ok_iload (by decide +kernel), ?_⟩
  refine ⟨ok_iadd (by decide +kernel), ?_⟩
  refine ⟨ok_iald rfl (by decide +kernel), ?_⟩
  refine ⟨ok_iload_n (z := 2) (by decide +kernel) rfl, ?_⟩
  refine ⟨ok_icmpne (off := 9) (by decide +kernel) (by decide), ?_⟩
  refine ⟨ok_iload_n (z := 2) (by decide +kernel) rfl, ?_⟩
  refine ⟨ok_iconst (z := 1) (by decide +kernel) (by decide +kernel), ?_⟩
  refine ⟨ok_iadd (by decide +kernel), ?_⟩
  refine ⟨ok_goto (off := 4) (by decide +kernel) (by decide), ?_⟩
  refine ⟨ok_iload_n (z := 2) (by decide +kernel) rfl, ?_⟩
  refine ⟨ok_istore_n (z := 2) (by decide) (by decide +kernel) rfl, ?_⟩
  refine ⟨ok_iinc (z := 1) (by decide) (by decide +kernel) (by decide +kernel), ?_⟩
  refine ⟨ok_goto (off := (-38)) (by decide +kernel) (by decide), ?_⟩
  refine ⟨ok_iinc (z := 1) (by decide) (by decide +kernel) (by decide +kernel), ?_⟩
  refine ⟨ok_goto (off := (-53)) (by decide +kernel) (by decide), ?_⟩
  refine ⟨ok_bipush (z := 8) (by decide +kernel) (by decide +kernel), ?_⟩
  refine ⟨ok_iload_n (z := 1) (by decide +kernel) rfl, ?_⟩
  refine ⟨ok_imul (by decide +kernel), ?_⟩
  refine ⟨ok_aload_n (z := 0) (by decide +kernel) rfl, ?_⟩
  refine ⟨ok_getf (ix := 123) hc_12 (by decide) hi_12 tw_945 (Or.inl rfl) (by decide +kernel), ?_⟩
  refine ⟨ok_iload_n (z := 1) (by decide +kernel) rfl, ?_⟩
  exact trivial
set_option maxHeartbeats 4000000 in
set_option maxRecDepth 100000 in
theorem mg_Z_pumpSession_1 : ev_AllG (ev_Good l vc_L vt_L (gw_G b Ls xs z) prog_14_method_31_code 5 none my_Z_pumpSession.name my_Z_pumpSession.cls tb_T 3 75) (mk_Z_pumpSession_1 z) := by
  refine ⟨ok_iald rfl (by decide +kernel), ?_⟩
  refine ⟨ok_iadd (by decide +kernel), ?_⟩
  refine ⟨ok_istore_n (z := 3) (by decide) (by decide +kernel) rfl, ?_⟩
  refine ⟨ok_aload_n (z := 0) (by decide +kernel) rfl, ?_⟩
  refine ⟨ok_getf (ix := 144) hc_12 (by decide) hi_12 tw_952 (Or.inl rfl) (by decide +kernel), ?_⟩
  refine ⟨ok_iload_n (z := 3) (by decide +kernel) rfl, ?_⟩
  refine ⟨ok_iload_n (z := 2) (by decide +kernel) rfl, ?_⟩
  refine ⟨ok_iast rfl (by decide +kernel), ?_⟩
  refine ⟨ok_aload_n (z := 0) (by decide +kernel) rfl, ?_⟩
  refine ⟨ok_getf (ix := 141) hc_12 (by decide) hi_12 tw_951 (Or.inl rfl) (by decide +kernel), ?_⟩
  refine ⟨ok_iload_n (z := 3) (by decide +kernel) rfl, ?_⟩
  refine ⟨ok_iconst (z := 1) (by decide +kernel) (by decide +kernel), ?_⟩
  refine ⟨ok_iast rfl (by decide +kernel), ?_⟩
  refine ⟨ok_aload_n (z := 0) (by decide +kernel) rfl, ?_⟩
  refine ⟨ok_getf (ix := 123) hc_12 (by decide) hi_12 tw_945 (Or.inl rfl) (by decide +kernel), ?_⟩
  refine ⟨ok_iload_n (z := 1) (by decide +kernel) rfl, ?_⟩
  refine ⟨ok_dup2 (by decide +kernel), ?_⟩
  refine ⟨ok_iald rfl (by decide +kernel), ?_⟩
  refine ⟨ok_iconst (z := 1) (by decide +kernel) (by decide +kernel), ?_⟩
  refine ⟨ok_iadd (by decide +kernel), ?_⟩
  refine ⟨ok_iast rfl (by decide +kernel), ?_⟩
  refine ⟨ok_aload_n (z := 0) (by decide +kernel) rfl, ?_⟩
  refine ⟨ok_getf (ix := 126) hc_12 (by decide) hi_12 tw_946 (Or.inl rfl) (by decide +kernel), ?_⟩
  refine ⟨ok_iload_n (z := 1) (by decide +kernel) rfl, ?_⟩
  refine ⟨ok_dup2 (by decide +kernel), ?_⟩
  refine ⟨ok_iald rfl (by decide +kernel), ?_⟩
  refine ⟨ok_iconst (z := 1) (by decide +kernel) (by decide +kernel), ?_⟩
  refine ⟨ok_isub (by decide +kernel), ?_⟩
  refine ⟨ok_iast rfl (by decide +kernel), ?_⟩
  refine ⟨ok_aload_n (z := 0) (by decide +kernel) rfl, ?_⟩
  refine ⟨ok_iload_n (z := 1) (by decide +kernel) rfl, ?_⟩
  refine ⟨ok_iload_n (z := 3) (by decide +kernel) rfl, ?_⟩
  refine ⟨ok_iconst (z := 0) (by decide +kernel) (by decide +kernel), ?_⟩
  refine ⟨ok_callV (ix := 288) hc_12 ms_Z_sendHere (tb_cwV tw_1276 tw_1278 tv_58 tw_11 tw_1279 (by decide +kernel) (by decide) (by decide)) (by decide +kernel), ?_⟩
  refine ⟨ok_goto (off := (-146)) (by decide +kernel) (by decide), ?_⟩
  refine ⟨ok_vret rfl (by decide +kernel), ?_⟩
  exact trivial
theorem mg_Z_pumpSession : ev_AllG (ev_Good l vc_L vt_L (gw_G b Ls xs z) prog_14_method_31_code 5 none my_Z_pumpSession.name my_Z_pumpSession.cls tb_T 3 75) (mk_Z_pumpSession z) := ev_AllG.app mg_Z_pumpSession_0 (mg_Z_pumpSession_1)
theorem ms_Z_pumpSession : ev_Met l vc_L vt_L (gw_G b Ls xs z) my_Z_pumpSession (Cond.code my_Z_pumpSession prog_14_method_31_code 5 none :: tb_T) 3 75 (mf_Z_pumpSession z) := ev_sound (by decide +kernel) mg_Z_pumpSession
def my_Z_accept : MethodName := ⟨"MessageHubModel", "accept", "(IJIIZ)Z"⟩
def mk_Z_accept_0 (z : Nat × Nat) : ev_C := [(0, ev_fn (ev_ci 0 1)), (1, ev_fn (ev_istore 7 3)), (3, ev_fn (ev_iload 7 5)), (5, ev_fn (ev_ci 3 6)), (6, ev_fn (ev_icmpge 100 9)), (9, ev_fn (ev_aload 0 10)), (10, ev_fn (ev_getf 12 47 13)), (13, ev_fn (ev_iload 7 15)), (15, ev_fn (ev_iald 16)), (16, ev_fn (ev_aload 0 17)), (17, ev_fn (ev_getf 12 48 20)), (20, ev_fn (ev_iload 7 22)), (22, ev_fn (ev_iald 23)), (23, ev_fn (ev_iadd 24)), (24, ev_fn (ev_istore 8 26)), (26, ev_fn (ev_ci 0 27)), (27, ev_fn (ev_istore 9 29)), (29, ev_fn (ev_iload 9 31)), (31, ev_fn (ev_ci 4 32)), (32, ev_fn (ev_icmpge 85 35)), (35, ev_fn (ev_aload 0 36)), (36, ev_fn (ev_iload 7 38)), (38, ev_fn (ev_iload 9 40)), (40, ev_fn (ev_iload 1 41)), (41, ev_fn (ev_lload 2 42)), (42, ev_callR 12 (mf_Z_wants z) 5 45), (45, ev_fn (ev_ifeq 75 48)), (48, ev_fn (ev_iload 5 50)), (50, ev_fn (ev_aload 0 51)), (51, ev_fn (ev_getf 12 45 54)), (54, ev_fn (ev_ci 4 55)), (55, ev_fn (ev_iload 7 57)), (57, ev_fn (ev_imul 58)), (58, ev_fn (ev_iload 9 60)), (60, ev_fn (ev_iadd 61)), (61, ev_fn (ev_iald 62)), (62, ev_call (mf_Z_lesser z) 2 65), (65, ev_fn (ev_ifle 75 68)), (68, ev_fn (ev_iload 8 70)), (70, ev_fn (ev_ci 1 71)), (71, ev_fn (ev_iadd 72)), (72, ev_fn (ev_goto 77)), (75, ev_fn (ev_iload 8 77)), (77, ev_fn (ev_istore 8 79)), (79, ev_fn (ev_iinc 9 1 82)), (82, ev_fn (ev_goto 29)), (85, ev_fn (ev_iload 8 87)), (87, ev_fn (ev_ci 6 89)), (89, ev_fn (ev_icmple 94 92)), (92, ev_fn (ev_ci 0 93)), (93, ev_fn (ev_zret .boolean)), (94, ev_fn (ev_iinc 7 1 97)), (97, ev_fn (ev_goto 3)), (100, ev_fn (ev_ci 0 101)), (101, ev_fn (ev_istore 7 103)), (103, ev_fn (ev_iload 7 105)), (105, ev_fn (ev_ci 3 106)), (106, ev_fn (ev_icmpge 170 109)), (109, ev_fn (ev_ci 0 110)), (110, ev_fn (ev_istore 8 112))]
def mk_Z_accept_1 (z : Nat × Nat) : ev_C := [(112, ev_fn (ev_iload 8 114)), (114, ev_fn (ev_ci 4 115)), (115, ev_fn (ev_icmpge 164 118)), (118, ev_fn (ev_aload 0 119)), (119, ev_fn (ev_iload 7 121)), (121, ev_fn (ev_iload 8 123)), (123, ev_fn (ev_iload 1 124)), (124, ev_fn (ev_lload 2 125)), (125, ev_callR 12 (mf_Z_wants z) 5 128), (128, ev_fn (ev_ifeq 158 131)), (131, ev_fn (ev_aload 0 132)), (132, ev_fn (ev_iload 7 134)), (134, ev_fn (ev_lload 2 135)), (135, ev_fn (ev_iload 4 137)), (137, ev_fn (ev_iload 5 139)), (139, ev_fn (ev_aload 0 140)), (140, ev_fn (ev_getf 12 45 143)), (143, ev_fn (ev_ci 4 144)), (144, ev_fn (ev_iload 7 146)), (146, ev_fn (ev_imul 147)), (147, ev_fn (ev_iload 8 149)), (149, ev_fn (ev_iadd 150)), (150, ev_fn (ev_iald 151)), (151, ev_call (mf_Z_lesser z) 2 154), (154, ev_fn (ev_ci 0 155)), (155, ev_callR 12 (mf_Z_copy z) 6 158), (158, ev_fn (ev_iinc 8 1 161)), (161, ev_fn (ev_goto 112)), (164, ev_fn (ev_iinc 7 1 167)), (167, ev_fn (ev_goto 103)), (170, ev_fn (ev_iload 6 172)), (172, ev_fn (ev_ifeq 184 175)), (175, ev_fn (ev_aload 0 176)), (176, ev_fn (ev_lload 2 177)), (177, ev_fn (ev_iload 4 179)), (179, ev_fn (ev_iload 5 181)), (181, ev_callR 12 (mf_Z_retain z) 4 184), (184, ev_fn (ev_ci 0 185)), (185, ev_fn (ev_istore 7 187)), (187, ev_fn (ev_iload 7 189)), (189, ev_fn (ev_ci 3 190)), (190, ev_fn (ev_icmpge 205 193)), (193, ev_fn (ev_aload 0 194)), (194, ev_fn (ev_iload 7 196)), (196, ev_callR 12 (mf_Z_pumpSession z) 2 199), (199, ev_fn (ev_iinc 7 1 202)), (202, ev_fn (ev_goto 187)), (205, ev_fn (ev_ci 1 206)), (206, ev_fn (ev_zret .boolean))]
def mk_Z_accept (z : Nat × Nat) : ev_C := mk_Z_accept_0 z ++ (mk_Z_accept_1 z)
def mf_Z_accept (z : Nat × Nat) : ev_F := ev_met (mk_Z_accept z) 10
set_option maxHeartbeats 4000000 in
set_option maxRecDepth 100000 in
theorem mg_Z_accept_0 : ev_AllG (ev_Good l vc_L vt_L (gw_G b Ls xs z) prog_14_method_34_code 10 (some .boolean) my_Z_accept.name my_Z_accept.cls tb_T 4 99) (mk_Z_accept_0 z) := by
  refine ⟨ok_iconst (z := 0) (by decide +kernel) (by decide +kernel), ?_⟩
  refine ⟨ok_istore (by decide) (by decide +kernel), ?_⟩
  refine ⟨ok_iload (by decide +kernel), ?_⟩
  refine ⟨ok_iconst (z := 3) (by decide +kernel) (by decide +kernel), ?_⟩
  refine ⟨ok_icmpge (off := 94) (by decide +kernel) (by decide), ?_⟩
  refine ⟨ok_aload_n (z := 0) (by decide +kernel) rfl, ?_⟩
  refine ⟨ok_getf (ix := 123) hc_12 (by decide) hi_12 tw_945 (Or.inl rfl) (by decide +kernel), ?_⟩
  refine ⟨ok_iload (by decide +kernel), ?_⟩
  refine ⟨ok_iald rfl (by decide +kernel), ?_⟩
  refine ⟨ok_aload_n (z := 0) (by decide +kernel) rfl, ?_⟩
  refine ⟨ok_getf (ix := 126) hc_12 (by decide) hi_12 tw_946 (Or.inl rfl) (by decide +kernel), ?_⟩
  refine ⟨ok_iload (by decide +kernel), ?_⟩
  refine ⟨ok_iald rfl (by decide +kernel), ?_⟩
  refine ⟨ok_iadd (by decide +kernel), ?_⟩
  refine ⟨ok_istore (by decide) (by decide +kernel), ?_⟩
  refine ⟨ok_iconst (z := 0) (by decide +kernel) (by decide +kernel), ?_⟩
  refine ⟨ok_istore (by decide) (by decide +kernel), ?_⟩
  refine ⟨ok_iload (by decide +kernel), ?_⟩
  refine ⟨ok_iconst (z := 4) (by decide +kernel) (by decide +kernel), ?_⟩
  refine ⟨ok_icmpge (off := 53) (by decide +kernel) (by decide), ?_⟩
  refine ⟨ok_aload_n (z := 0) (by decide +kernel) rfl, ?_⟩
  refine ⟨ok_iload (by decide +kernel), ?_⟩
  refine ⟨ok_iload (by decide +kernel), ?_⟩
  refine ⟨ok_iload_n (z := 1) (by decide +kernel) rfl, ?_⟩
  refine ⟨ok_lload_n (z := 2) (by decide +kernel) rfl, ?_⟩
  refine ⟨ok_callV (ix := 291) hc_12 ms_Z_wants (tb_cwV tw_1249 tw_1251 tv_52 tw_11 tw_1252 (by decide +kernel) (by decide) (by decide)) (by decide +kernel), ?_⟩
  refine ⟨ok_ifeq (off := 30) (by decide +kernel) (by decide), ?_⟩
  refine ⟨ok_iload (by decide +kernel), ?_⟩
  refine ⟨ok_aload_n (z := 0) (by decide +kernel) rfl, ?_⟩
  refine ⟨ok_getf (ix := 117) hc_12 (by decide) hi_12 tw_943 (Or.inl rfl) (by decide +kernel), ?_⟩
  refine ⟨ok_iconst (z := 4) (by decide +kernel) (by decide +kernel), ?_⟩
  refine ⟨ok_iload (by decide +kernel), ?_⟩
  refine ⟨ok_imul (by decide +kernel), ?_⟩
  refine ⟨ok_iload (by decide +kernel), ?_⟩
  refine ⟨ok_iadd (by decide +kernel), ?_⟩
  refine ⟨ok_iald rfl (by decide +kernel), ?_⟩
  refine ⟨ok_callS (ix := 295) ms_Z_lesser (tb_cwS tw_1253 tw_1254 tw_11 tw_1255 (by decide +kernel) (by decide) (by decide)) (by decide +kernel), ?_⟩
  refine ⟨ok_ifle (off := 10) (by decide +kernel) (by decide), ?_⟩
  refine ⟨ok_iload (by decide +kernel), ?_⟩
  refine ⟨ok_iconst (z := 1) (by decide +kernel) (by decide +kernel), ?_⟩
  refine ⟨ok_iadd (by decide +kernel), ?_⟩
  refine ⟨ok_goto (off := 5) (by decide +kernel) (by decide), ?_⟩
  refine ⟨ok_iload (by decide +kernel), ?_⟩
  refine ⟨ok_istore (by decide) (by decide +kernel), ?_⟩
  refine ⟨ok_iinc (z := 1) (by decide) (by decide +kernel) (by decide +kernel), ?_⟩
  refine ⟨ok_goto (off := (-53)) (by decide +kernel) (by decide), ?_⟩
  refine ⟨ok_iload (by decide +kernel), ?_⟩
  refine ⟨ok_bipush (z := 6) (by decide +kernel) (by decide +kernel), ?_⟩
  refine ⟨ok_icmple (off := 5) (by decide +kernel) (by decide), ?_⟩
  refine ⟨ok_iconst (z := 0) (by decide +kernel) (by decide +kernel), ?_⟩
  refine ⟨ok_zret rfl (by decide +kernel), ?_⟩
  refine ⟨ok_iinc (z := 1) (by decide) (by decide +kernel) (by decide +kernel), ?_⟩
  refine ⟨ok_goto (off := (-94)) (by decide +kernel) (by decide), ?_⟩
  refine ⟨ok_iconst (z := 0) (by decide +kernel) (by decide +kernel), ?_⟩
  refine ⟨ok_istore (by decide) (by decide +kernel), ?_⟩
  refine ⟨ok_iload (by decide +kernel), ?_⟩
  refine ⟨ok_iconst (z := 3) (by decide +kernel) (by decide +kernel), ?_⟩
  refine ⟨ok_icmpge (off := 64) (by decide +kernel) (by decide), ?_⟩
  refine ⟨ok_iconst (z := 0) (by decide +kernel) (by decide +kernel), ?_⟩
  refine ⟨ok_istore (by decide) (by decide +kernel), ?_⟩
  exact trivial
set_option maxHeartbeats 4000000 in
set_option maxRecDepth 100000 in
theorem mg_Z_accept_1 : ev_AllG (ev_Good l vc_L vt_L (gw_G b Ls xs z) prog_14_method_34_code 10 (some .boolean) my_Z_accept.name my_Z_accept.cls tb_T 4 99) (mk_Z_accept_1 z) := by
  refine ⟨ok_iload (by decide +kernel), ?_⟩
  refine ⟨ok_iconst (z := 4) (by decide +kernel) (by decide +kernel), ?_⟩
  refine ⟨ok_icmpge (off := 49) (by decide +kernel) (by decide), ?_⟩
  refine ⟨ok_aload_n (z := 0) (by decide +kernel) rfl, ?_⟩
  refine ⟨ok_iload (by decide +kernel), ?_⟩
  refine ⟨ok_iload (by decide +kernel), ?_⟩
  refine ⟨ok_iload_n (z := 1) (by decide +kernel) rfl, ?_⟩
  refine ⟨ok_lload_n (z := 2) (by decide +kernel) rfl, ?_⟩
  refine ⟨ok_callV (ix := 291) hc_12 ms_Z_wants (tb_cwV tw_1249 tw_1251 tv_52 tw_11 tw_1252 (by decide +kernel) (by decide) (by decide)) (by decide +kernel), ?_⟩
  refine ⟨ok_ifeq (off := 30) (by decide +kernel) (by decide), ?_⟩
  refine ⟨ok_aload_n (z := 0) (by decide +kernel) rfl, ?_⟩
  refine ⟨ok_iload (by decide +kernel), ?_⟩
  refine ⟨ok_lload_n (z := 2) (by decide +kernel) rfl, ?_⟩
  refine ⟨ok_iload (by decide +kernel), ?_⟩
  refine ⟨ok_iload (by decide +kernel), ?_⟩
  refine ⟨ok_aload_n (z := 0) (by decide +kernel) rfl, ?_⟩
  refine ⟨ok_getf (ix := 117) hc_12 (by decide) hi_12 tw_943 (Or.inl rfl) (by decide +kernel), ?_⟩
  refine ⟨ok_iconst (z := 4) (by decide +kernel) (by decide +kernel), ?_⟩
  refine ⟨ok_iload (by decide +kernel), ?_⟩
  refine ⟨ok_imul (by decide +kernel), ?_⟩
  refine ⟨ok_iload (by decide +kernel), ?_⟩
  refine ⟨ok_iadd (by decide +kernel), ?_⟩
  refine ⟨ok_iald rfl (by decide +kernel), ?_⟩
  refine ⟨ok_callS (ix := 295) ms_Z_lesser (tb_cwS tw_1253 tw_1254 tw_11 tw_1255 (by decide +kernel) (by decide) (by decide)) (by decide +kernel), ?_⟩
  refine ⟨ok_iconst (z := 0) (by decide +kernel) (by decide +kernel), ?_⟩
  refine ⟨ok_callV (ix := 299) hc_12 ms_Z_copy (tb_cwV tw_1256 tw_1258 tv_53 tw_11 tw_1259 (by decide +kernel) (by decide) (by decide)) (by decide +kernel), ?_⟩
  refine ⟨ok_iinc (z := 1) (by decide) (by decide +kernel) (by decide +kernel), ?_⟩
  refine ⟨ok_goto (off := (-49)) (by decide +kernel) (by decide), ?_⟩
  refine ⟨ok_iinc (z := 1) (by decide) (by decide +kernel) (by decide +kernel), ?_⟩
  refine ⟨ok_goto (off := (-64)) (by decide +kernel) (by decide), ?_⟩
  refine ⟨ok_iload (by decide +kernel), ?_⟩
  refine ⟨ok_ifeq (off := 12) (by decide +kernel) (by decide), ?_⟩
  refine ⟨ok_aload_n (z := 0) (by decide +kernel) rfl, ?_⟩
  refine ⟨ok_lload_n (z := 2) (by decide +kernel) rfl, ?_⟩
  refine ⟨ok_iload (by decide +kernel), ?_⟩
  refine ⟨ok_iload (by decide +kernel), ?_⟩
  refine ⟨ok_callV (ix := 302) hc_12 ms_Z_retain (tb_cwV tw_1264 tw_1266 tv_55 tw_11 tw_1267 (by decide +kernel) (by decide) (by decide)) (by decide +kernel), ?_⟩
  refine ⟨ok_iconst (z := 0) (by decide +kernel) (by decide +kernel), ?_⟩
  refine ⟨ok_istore (by decide) (by decide +kernel), ?_⟩
  refine ⟨ok_iload (by decide +kernel), ?_⟩
  refine ⟨ok_iconst (z := 3) (by decide +kernel) (by decide +kernel), ?_⟩
  refine ⟨ok_icmpge (off := 15) (by decide +kernel) (by decide), ?_⟩
  refine ⟨ok_aload_n (z := 0) (by decide +kernel) rfl, ?_⟩
  refine ⟨ok_iload (by decide +kernel), ?_⟩
  refine ⟨ok_callV (ix := 306) hc_12 ms_Z_pumpSession (tb_cwV tw_1272 tw_1274 tv_57 tw_11 tw_1275 (by decide +kernel) (by decide) (by decide)) (by decide +kernel), ?_⟩
  refine ⟨ok_iinc (z := 1) (by decide) (by decide +kernel) (by decide +kernel), ?_⟩
  refine ⟨ok_goto (off := (-15)) (by decide +kernel) (by decide), ?_⟩
  refine ⟨ok_iconst (z := 1) (by decide +kernel) (by decide +kernel), ?_⟩
  refine ⟨ok_zret rfl (by decide +kernel), ?_⟩
  exact trivial
theorem mg_Z_accept : ev_AllG (ev_Good l vc_L vt_L (gw_G b Ls xs z) prog_14_method_34_code 10 (some .boolean) my_Z_accept.name my_Z_accept.cls tb_T 4 99) (mk_Z_accept z) := ev_AllG.app mg_Z_accept_0 (mg_Z_accept_1)
theorem ms_Z_accept : ev_Met l vc_L vt_L (gw_G b Ls xs z) my_Z_accept (Cond.code my_Z_accept prog_14_method_34_code 10 (some .boolean) :: tb_T) 4 99 (mf_Z_accept z) := ev_sound (by decide +kernel) mg_Z_accept
def my_Z_closeConnection : MethodName := ⟨"MessageHubModel", "closeConnection", "(IZ)V"⟩
def mk_Z_closeConnection (z : Nat × Nat) : ev_C := [(0, ev_fn (ev_aload 0 1)), (1, ev_fn (ev_getf 12 36 4)), (4, ev_fn (ev_iload 1 5)), (5, ev_fn (ev_zald 6)), (6, ev_fn (ev_istore 3 7)), (7, ev_fn (ev_aload 0 8)), (8, ev_fn (ev_getf 12 35 11)), (11, ev_fn (ev_iload 1 12)), (12, ev_fn (ev_ci 0 13)), (13, ev_fn (ev_zast 14)), (14, ev_fn (ev_aload 0 15)), (15, ev_fn (ev_getf 12 36 18)), (18, ev_fn (ev_iload 1 19)), (19, ev_fn (ev_ci 0 20)), (20, ev_fn (ev_zast 21)), (21, ev_fn (ev_iload 3 22)), (22, ev_fn (ev_ifeq 30 25)), (25, ev_fn (ev_aload 0 26)), (26, ev_fn (ev_iload 1 27)), (27, ev_callR 12 (mf_Z_closeLink z) 2 30), (30, ev_fn (ev_aload 0 31)), (31, ev_fn (ev_getf 12 57 34)), (34, ev_fn (ev_iload 1 35)), (35, ev_fn (ev_aload 0 36)), (36, ev_fn (ev_getf 12 56 39)), (39, ev_fn (ev_iload 1 40)), (40, ev_fn (ev_iald 41)), (41, ev_fn (ev_iast 42)), (42, ev_fn (ev_aload 0 43)), (43, ev_fn (ev_getf 12 56 46)), (46, ev_fn (ev_iload 1 47)), (47, ev_fn (ev_iald 48)), (48, ev_fn (ev_ifne 56 51)), (51, ev_fn (ev_aload 0 52)), (52, ev_fn (ev_iload 1 53)), (53, ev_callR 12 (mf_Z_endSession z) 2 56), (56, ev_fn (ev_iload 2 57)), (57, ev_fn (ev_ifeq 91 60)), (60, ev_fn (ev_aload 0 61)), (61, ev_fn (ev_getf 12 40 64)), (64, ev_fn (ev_iload 1 65)), (65, ev_fn (ev_lald 66)), (66, ev_fn (ev_cl 0 67)), (67, ev_fn (ev_lcmp 68)), (68, ev_fn (ev_ifeq 91 71)), (71, ev_fn (ev_aload 0 72)), (72, ev_fn (ev_iload 1 73)), (73, ev_fn (ev_aload 0 74)), (74, ev_fn (ev_getf 12 40 77)), (77, ev_fn (ev_iload 1 78)), (78, ev_fn (ev_lald 79)), (79, ev_fn (ev_aload 0 80)), (80, ev_fn (ev_getf 12 41 83)), (83, ev_fn (ev_iload 1 84)), (84, ev_fn (ev_iald 85)), (85, ev_fn (ev_ci 1 86)), (86, ev_fn (ev_ci 0 87)), (87, ev_callR 12 (mf_Z_accept z) 6 90), (90, ev_fn (ev_pop 91)), (91, ev_fn ev_vret)]
def mf_Z_closeConnection (z : Nat × Nat) : ev_F := ev_met (mk_Z_closeConnection z) 4
set_option maxHeartbeats 4000000 in
set_option maxRecDepth 100000 in
theorem mg_Z_closeConnection : ev_AllG (ev_Good l vc_L vt_L (gw_G b Ls xs z) prog_14_method_27_code 4 none my_Z_closeConnection.name my_Z_closeConnection.cls tb_T 5 128) (mk_Z_closeConnection z) := by
  refine ⟨ok_aload_n (z := 0) (by decide +kernel) rfl, ?_⟩
  refine ⟨ok_getf (ix := 90) hc_12 (by decide) hi_12 tw_934 (Or.inl rfl) (by decide +kernel), ?_⟩
  refine ⟨ok_iload_n (z := 1) (by decide +kernel) rfl, ?_⟩
  refine ⟨ok_zald rfl (by decide +kernel), ?_⟩
  refine ⟨ok_istore_n (z := 3) (by decide) (by decide +kernel) rfl, ?_⟩
  refine ⟨ok_aload_n (z := 0) (by decide +kernel) rfl, ?_⟩
  refine ⟨ok_getf (ix := 87) hc_12 (by decide) hi_12 tw_933 (Or.inl rfl) (by decide +kernel), ?_⟩
  refine ⟨ok_iload_n (z := 1) (by decide +kernel) rfl, ?_⟩
  refine ⟨ok_iconst (z := 0) (by decide +kernel) (by decide +kernel), ?_⟩
  refine ⟨ok_zast rfl (by decide +kernel), ?_⟩
  refine ⟨ok_aload_n (z := 0) (by decide +kernel) rfl, ?_⟩
  refine ⟨ok_getf (ix := 90) hc_12 (by decide) hi_12 tw_934 (Or.inl rfl) (by decide +kernel), ?_⟩
  refine ⟨ok_iload_n (z := 1) (by decide +kernel) rfl, ?_⟩
  refine ⟨ok_iconst (z := 0) (by decide +kernel) (by decide +kernel), ?_⟩
  refine ⟨ok_zast rfl (by decide +kernel), ?_⟩
  refine ⟨ok_iload_n (z := 3) (by decide +kernel) rfl, ?_⟩
  refine ⟨ok_ifeq (off := 8) (by decide +kernel) (by decide), ?_⟩
  refine ⟨ok_aload_n (z := 0) (by decide +kernel) rfl, ?_⟩
  refine ⟨ok_iload_n (z := 1) (by decide +kernel) rfl, ?_⟩
  refine ⟨ok_callV (ix := 274) hc_12 ms_Z_closeLink (tb_cwV tw_1145 tw_1147 tv_32 tw_11 tw_1148 (by decide +kernel) (by decide) (by decide)) (by decide +kernel), ?_⟩
  refine ⟨ok_aload_n (z := 0) (by decide +kernel) rfl, ?_⟩
  refine ⟨ok_getf (ix := 153) hc_12 (by decide) hi_12 tw_955 (Or.inl rfl) (by decide +kernel), ?_⟩
  refine ⟨ok_iload_n (z := 1) (by decide +kernel) rfl, ?_⟩
  refine ⟨ok_aload_n (z := 0) (by decide +kernel) rfl, ?_⟩
  refine ⟨ok_getf (ix := 150) hc_12 (by decide) hi_12 tw_954 (Or.inl rfl) (by decide +kernel), ?_⟩
  refine ⟨ok_iload_n (z := 1) (by decide +kernel) rfl, ?_⟩
  refine ⟨ok_iald rfl (by decide +kernel), ?_⟩
  refine ⟨ok_iast rfl (by decide +kernel), ?_⟩
  refine ⟨ok_aload_n (z := 0) (by decide +kernel) rfl, ?_⟩
  refine ⟨ok_getf (ix := 150) hc_12 (by decide) hi_12 tw_954 (Or.inl rfl) (by decide +kernel), ?_⟩
  refine ⟨ok_iload_n (z := 1) (by decide +kernel) rfl, ?_⟩
  refine ⟨ok_iald rfl (by decide +kernel), ?_⟩
  refine ⟨ok_ifne (off := 8) (by decide +kernel) (by decide), ?_⟩
  refine ⟨ok_aload_n (z := 0) (by decide +kernel) rfl, ?_⟩
  refine ⟨ok_iload_n (z := 1) (by decide +kernel) rfl, ?_⟩
  refine ⟨ok_callV (ix := 277) hc_12 ms_Z_endSession (tb_cwV tw_1241 tw_1243 tv_50 tw_11 tw_1244 (by decide +kernel) (by decide) (by decide)) (by decide +kernel), ?_⟩
  refine ⟨ok_iload_n (z := 2) (by decide +kernel) rfl, ?_⟩
  refine ⟨ok_ifeq (off := 34) (by decide +kernel) (by decide), ?_⟩
  refine ⟨ok_aload_n (z := 0) (by decide +kernel) rfl, ?_⟩
  refine ⟨ok_getf (ix := 102) hc_12 (by decide) hi_12 tw_938 (Or.inl rfl) (by decide +kernel), ?_⟩
  refine ⟨ok_iload_n (z := 1) (by decide +kernel) rfl, ?_⟩
  refine ⟨ok_lald rfl (by decide +kernel), ?_⟩
  refine ⟨ok_lconst (z := 0) (by decide +kernel) (by decide +kernel), ?_⟩
  refine ⟨ok_lcmp (by decide +kernel), ?_⟩
  refine ⟨ok_ifeq (off := 23) (by decide +kernel) (by decide), ?_⟩
  refine ⟨ok_aload_n (z := 0) (by decide +kernel) rfl, ?_⟩
  refine ⟨ok_iload_n (z := 1) (by decide +kernel) rfl, ?_⟩
  refine ⟨ok_aload_n (z := 0) (by decide +kernel) rfl, ?_⟩
  refine ⟨ok_getf (ix := 102) hc_12 (by decide) hi_12 tw_938 (Or.inl rfl) (by decide +kernel), ?_⟩
  refine ⟨ok_iload_n (z := 1) (by decide +kernel) rfl, ?_⟩
  refine ⟨ok_lald rfl (by decide +kernel), ?_⟩
  refine ⟨ok_aload_n (z := 0) (by decide +kernel) rfl, ?_⟩
  refine ⟨ok_getf (ix := 105) hc_12 (by decide) hi_12 tw_939 (Or.inl rfl) (by decide +kernel), ?_⟩
  refine ⟨ok_iload_n (z := 1) (by decide +kernel) rfl, ?_⟩
  refine ⟨ok_iald rfl (by decide +kernel), ?_⟩
  refine ⟨ok_iconst (z := 1) (by decide +kernel) (by decide +kernel), ?_⟩
  refine ⟨ok_iconst (z := 0) (by decide +kernel) (by decide +kernel), ?_⟩
  refine ⟨ok_callV (ix := 280) hc_12 ms_Z_accept (tb_cwV tw_1245 tw_1247 tv_51 tw_11 tw_1248 (by decide +kernel) (by decide) (by decide)) (by decide +kernel), ?_⟩
  refine ⟨ok_pop (by decide +kernel), ?_⟩
  refine ⟨ok_vret rfl (by decide +kernel), ?_⟩
  exact trivial
theorem ms_Z_closeConnection : ev_Met l vc_L vt_L (gw_G b Ls xs z) my_Z_closeConnection (Cond.code my_Z_closeConnection prog_14_method_27_code 4 none :: tb_T) 5 128 (mf_Z_closeConnection z) := ev_sound (by decide +kernel) mg_Z_closeConnection
def my_Z_answer : MethodName := ⟨"MessageHubModel", "answer", "(III)V"⟩
def mk_Z_answer (z : Nat × Nat) : ev_C := [(0, ev_fn (ev_aload 0 1)), (1, ev_fn (ev_getf 12 36 4)), (4, ev_fn (ev_iload 1 5)), (5, ev_fn (ev_zald 6)), (6, ev_fn (ev_ifeq 51 9)), (9, ev_fn (ev_aload 0 10)), (10, ev_fn (ev_ci 2 11)), (11, ev_fn (ev_iload 1 12)), (12, ev_fn (ev_imul 13)), (13, ev_fn (ev_ci 1 14)), (14, ev_fn (ev_iadd 15)), (15, ev_fn (ev_iload 2 16)), (16, ev_fn (ev_iload 2 17)), (17, ev_fn (ev_ci 4 18)), (18, ev_fn (ev_icmpeq 38 21)), (21, ev_fn (ev_iload 2 22)), (22, ev_fn (ev_ci 5 23)), (23, ev_fn (ev_icmpeq 38 26)), (26, ev_fn (ev_iload 2 27)), (27, ev_fn (ev_ci 6 29)), (29, ev_fn (ev_icmpeq 38 32)), (32, ev_fn (ev_iload 2 33)), (33, ev_fn (ev_ci 7 35)), (35, ev_fn (ev_icmpne 45 38)), (38, ev_fn (ev_aload 0 39)), (39, ev_fn (ev_getf 12 13 42)), (42, ev_fn (ev_goto 46)), (45, ev_fn (ev_ci 0 46)), (46, ev_fn (ev_iload 3 47)), (47, ev_callR 12 (mf_Z_send z) 5 50), (50, ev_fn (ev_pop 51)), (51, ev_fn ev_vret)]
def mf_Z_answer (z : Nat × Nat) : ev_F := ev_met (mk_Z_answer z) 4
set_option maxHeartbeats 4000000 in
set_option maxRecDepth 100000 in
theorem mg_Z_answer : ev_AllG (ev_Good l vc_L vt_L (gw_G b Ls xs z) prog_14_method_37_code 4 none my_Z_answer.name my_Z_answer.cls tb_T 1 25) (mk_Z_answer z) := by
  refine ⟨ok_aload_n (z := 0) (by decide +kernel) rfl, ?_⟩
  refine ⟨ok_getf (ix := 90) hc_12 (by decide) hi_12 tw_934 (Or.inl rfl) (by decide +kernel), ?_⟩
  refine ⟨ok_iload_n (z := 1) (by decide +kernel) rfl, ?_⟩
  refine ⟨ok_zald rfl (by decide +kernel), ?_⟩
  refine ⟨ok_ifeq (off := 45) (by decide +kernel) (by decide), ?_⟩
  refine ⟨ok_aload_n (z := 0) (by decide +kernel) rfl, ?_⟩
  refine ⟨ok_iconst (z := 2) (by decide +kernel) (by decide +kernel), ?_⟩
  refine ⟨ok_iload_n (z := 1) (by decide +kernel) rfl, ?_⟩
  refine ⟨ok_imul (by decide +kernel), ?_⟩
  refine ⟨ok_iconst (z := 1) (by decide +kernel) (by decide +kernel), ?_⟩
  refine ⟨ok_iadd (by decide +kernel), ?_⟩
  refine ⟨ok_iload_n (z := 2) (by decide +kernel) rfl, ?_⟩
  refine ⟨ok_iload_n (z := 2) (by decide +kernel) rfl, ?_⟩
  refine ⟨ok_iconst (z := 4) (by decide +kernel) (by decide +kernel), ?_⟩
  refine ⟨ok_icmpeq (off := 20) (by decide +kernel) (by decide), ?_⟩
  refine ⟨ok_iload_n (z := 2) (by decide +kernel) rfl, ?_⟩
  refine ⟨ok_iconst (z := 5) (by decide +kernel) (by decide +kernel), ?_⟩
  refine ⟨ok_icmpeq (off := 15) (by decide +kernel) (by decide), ?_⟩
  refine ⟨ok_iload_n (z := 2) (by decide +kernel) rfl, ?_⟩
  refine ⟨ok_bipush (z := 6) (by decide +kernel) (by decide +kernel), ?_⟩
  refine ⟨ok_icmpeq (off := 9) (by decide +kernel) (by decide), ?_⟩
  refine ⟨ok_iload_n (z := 2) (by decide +kernel) rfl, ?_⟩
  refine ⟨ok_bipush (z := 7) (by decide +kernel) (by decide +kernel), ?_⟩
  refine ⟨ok_icmpne (off := 10) (by decide +kernel) (by decide), ?_⟩
  refine ⟨ok_aload_n (z := 0) (by decide +kernel) rfl, ?_⟩
  refine ⟨ok_getf (ix := 206) hc_12 (by decide) hi_12 tw_911 (Or.inl rfl) (by decide +kernel), ?_⟩
  refine ⟨ok_goto (off := 4) (by decide +kernel) (by decide), ?_⟩
  refine ⟨ok_iconst (z := 0) (by decide +kernel) (by decide +kernel), ?_⟩
  refine ⟨ok_iload_n (z := 3) (by decide +kernel) rfl, ?_⟩
  refine ⟨ok_callV (ix := 198) hc_12 ms_Z_send (tb_cwV tw_1137 tw_1139 tv_31 tw_11 tw_1140 (by decide +kernel) (by decide) (by decide)) (by decide +kernel), ?_⟩
  refine ⟨ok_pop (by decide +kernel), ?_⟩
  refine ⟨ok_vret rfl (by decide +kernel), ?_⟩
  exact trivial
theorem ms_Z_answer : ev_Met l vc_L vt_L (gw_G b Ls xs z) my_Z_answer (Cond.code my_Z_answer prog_14_method_37_code 4 none :: tb_T) 1 25 (mf_Z_answer z) := ev_sound (by decide +kernel) mg_Z_answer
def my_Z_opened : MethodName := ⟨"MessageHubModel", "opened", "(I)V"⟩
def mk_Z_opened_0 (z : Nat × Nat) : ev_C := [(0, ev_fn (ev_aload 0 1)), (1, ev_fn (ev_getf 12 35 4)), (4, ev_fn (ev_iload 1 5)), (5, ev_fn (ev_zald 6)), (6, ev_fn (ev_ifeq 15 9)), (9, ev_fn (ev_aload 0 10)), (10, ev_fn (ev_iload 1 11)), (11, ev_fn (ev_ci 1 12)), (12, ev_callR 12 (mf_Z_closeConnection z) 3 15), (15, ev_fn (ev_aload 0 16)), (16, ev_fn (ev_getf 12 35 19)), (19, ev_fn (ev_iload 1 20)), (20, ev_fn (ev_ci 1 21)), (21, ev_fn (ev_zast 22)), (22, ev_fn (ev_aload 0 23)), (23, ev_fn (ev_getf 12 36 26)), (26, ev_fn (ev_iload 1 27)), (27, ev_fn (ev_ci 1 28)), (28, ev_fn (ev_zast 29)), (29, ev_fn (ev_aload 0 30)), (30, ev_fn (ev_getf 12 37 33)), (33, ev_fn (ev_iload 1 34)), (34, ev_fn (ev_aload 0 35)), (35, ev_fn (ev_getf 12 18 38)), (38, ev_fn (ev_iast 39)), (39, ev_fn (ev_aload 0 40)), (40, ev_fn (ev_getf 12 38 43)), (43, ev_fn (ev_iload 1 44)), (44, ev_fn (ev_aload 0 45)), (45, ev_fn (ev_getf 12 19 48)), (48, ev_fn (ev_iast 49)), (49, ev_fn (ev_aload 0 50)), (50, ev_fn (ev_getf 12 40 53)), (53, ev_fn (ev_iload 1 54)), (54, ev_fn (ev_aload 0 55)), (55, ev_fn (ev_getf 12 20 58)), (58, ev_fn (ev_last 59)), (59, ev_fn (ev_aload 0 60)), (60, ev_fn (ev_getf 12 41 63)), (63, ev_fn (ev_iload 1 64)), (64, ev_fn (ev_aload 0 65)), (65, ev_fn (ev_getf 12 21 68)), (68, ev_fn (ev_iast 69)), (69, ev_fn (ev_aload 0 70)), (70, ev_fn (ev_getf 12 16 73)), (73, ev_fn (ev_ifeq 81 76)), (76, ev_fn (ev_aload 0 77)), (77, ev_fn (ev_iload 1 78)), (78, ev_callR 12 (mf_Z_endSession z) 2 81), (81, ev_fn (ev_aload 0 82)), (82, ev_fn (ev_iload 1 83)), (83, ev_fn (ev_ci 2 84)), (84, ev_fn (ev_aload 0 85)), (85, ev_fn (ev_getf 12 42 88)), (88, ev_fn (ev_iload 1 89)), (89, ev_fn (ev_zald 90)), (90, ev_fn (ev_ifeq 97 93)), (93, ev_fn (ev_ci 1 94)), (94, ev_fn (ev_goto 98)), (97, ev_fn (ev_ci 0 98))]
def mk_Z_opened_1 (z : Nat × Nat) : ev_C := [(98, ev_callR 12 (mf_Z_answer z) 4 101), (101, ev_fn (ev_aload 0 102)), (102, ev_fn (ev_getf 12 42 105)), (105, ev_fn (ev_iload 1 106)), (106, ev_fn (ev_ci 1 107)), (107, ev_fn (ev_zast 108)), (108, ev_fn (ev_aload 0 109)), (109, ev_fn (ev_getf 12 56 112)), (112, ev_fn (ev_iload 1 113)), (113, ev_fn (ev_aload 0 114)), (114, ev_fn (ev_getf 12 14 117)), (117, ev_fn (ev_iast 118)), (118, ev_fn (ev_ci 0 119)), (119, ev_fn (ev_istore 2 120)), (120, ev_fn (ev_iload 2 121)), (121, ev_fn (ev_aload 0 122)), (122, ev_fn (ev_getf 12 47 125)), (125, ev_fn (ev_iload 1 126)), (126, ev_fn (ev_iald 127)), (127, ev_fn (ev_icmpge 182 130)), (130, ev_fn (ev_ci 8 132)), (132, ev_fn (ev_iload 1 133)), (133, ev_fn (ev_imul 134)), (134, ev_fn (ev_iload 2 135)), (135, ev_fn (ev_iadd 136)), (136, ev_fn (ev_istore 3 137)), (137, ev_fn (ev_aload 0 138)), (138, ev_fn (ev_getf 12 53 141)), (141, ev_fn (ev_iload 3 142)), (142, ev_fn (ev_iald 143)), (143, ev_fn (ev_ci 1 144)), (144, ev_fn (ev_icmpne 157 147)), (147, ev_fn (ev_aload 0 148)), (148, ev_fn (ev_iload 1 149)), (149, ev_fn (ev_iload 3 150)), (150, ev_fn (ev_ci 1 151)), (151, ev_callR 12 (mf_Z_sendHere z) 4 154), (154, ev_fn (ev_goto 176)), (157, ev_fn (ev_aload 0 158)), (158, ev_fn (ev_ci 2 159)), (159, ev_fn (ev_iload 1 160)), (160, ev_fn (ev_imul 161)), (161, ev_fn (ev_ci 1 162)), (162, ev_fn (ev_iadd 163)), (163, ev_fn (ev_ci 6 165)), (165, ev_fn (ev_aload 0 166)), (166, ev_fn (ev_getf 12 54 169)), (169, ev_fn (ev_iload 3 170)), (170, ev_fn (ev_iald 171)), (171, ev_fn (ev_ci 0 172)), (172, ev_callR 12 (mf_Z_send z) 5 175), (175, ev_fn (ev_pop 176)), (176, ev_fn (ev_iinc 2 1 179)), (179, ev_fn (ev_goto 120)), (182, ev_fn (ev_aload 0 183)), (183, ev_fn (ev_iload 1 184)), (184, ev_callR 12 (mf_Z_pumpSession z) 2 187), (187, ev_fn ev_vret)]
def mk_Z_opened (z : Nat × Nat) : ev_C := mk_Z_opened_0 z ++ (mk_Z_opened_1 z)
def mf_Z_opened (z : Nat × Nat) : ev_F := ev_met (mk_Z_opened z) 4
set_option maxHeartbeats 4000000 in
set_option maxRecDepth 100000 in
theorem mg_Z_opened_0 : ev_AllG (ev_Good l vc_L vt_L (gw_G b Ls xs z) prog_14_method_38_code 4 none my_Z_opened.name my_Z_opened.cls tb_T 6 151) (mk_Z_opened_0 z) := by
  refine ⟨ok_aload_n (z := 0) (by decide +kernel) rfl, ?_⟩
  refine ⟨ok_getf (ix := 87) hc_12 (by decide) hi_12 tw_933 (Or.inl rfl) (by decide +kernel), ?_⟩
  refine ⟨ok_iload_n (z := 1) (by decide +kernel) rfl, ?_⟩
  refine ⟨ok_zald rfl (by decide +kernel), ?_⟩
  refine ⟨ok_ifeq (off := 9) (by decide +kernel) (by decide), ?_⟩
  refine ⟨ok_aload_n (z := 0) (by decide +kernel) rfl, ?_⟩
  refine ⟨ok_iload_n (z := 1) (by decide +kernel) rfl, ?_⟩
  refine ⟨ok_iconst (z := 1) (by decide +kernel) (by decide +kernel), ?_⟩
  refine ⟨ok_callV (ix := 316) hc_12 ms_Z_closeConnection (tb_cwV tw_1237 tw_1239 tv_49 tw_11 tw_1240 (by decide +kernel) (by decide) (by decide)) (by decide +kernel), ?_⟩
  refine ⟨ok_aload_n (z := 0) (by decide +kernel) rfl, ?_⟩
  refine ⟨ok_getf (ix := 87) hc_12 (by decide) hi_12 tw_933 (Or.inl rfl) (by decide +kernel), ?_⟩
  refine ⟨ok_iload_n (z := 1) (by decide +kernel) rfl, ?_⟩
  refine ⟨ok_iconst (z := 1) (by decide +kernel) (by decide +kernel), ?_⟩
  refine ⟨ok_zast rfl (by decide +kernel), ?_⟩
  refine ⟨ok_aload_n (z := 0) (by decide +kernel) rfl, ?_⟩
  refine ⟨ok_getf (ix := 90) hc_12 (by decide) hi_12 tw_934 (Or.inl rfl) (by decide +kernel), ?_⟩
  refine ⟨ok_iload_n (z := 1) (by decide +kernel) rfl, ?_⟩
  refine ⟨ok_iconst (z := 1) (by decide +kernel) (by decide +kernel), ?_⟩
  refine ⟨ok_zast rfl (by decide +kernel), ?_⟩
  refine ⟨ok_aload_n (z := 0) (by decide +kernel) rfl, ?_⟩
  refine ⟨ok_getf (ix := 93) hc_12 (by decide) hi_12 tw_935 (Or.inl rfl) (by decide +kernel), ?_⟩
  refine ⟨ok_iload_n (z := 1) (by decide +kernel) rfl, ?_⟩
  refine ⟨ok_aload_n (z := 0) (by decide +kernel) rfl, ?_⟩
  refine ⟨ok_getf (ix := 223) hc_12 (by decide) hi_12 tw_916 (Or.inl rfl) (by decide +kernel), ?_⟩
  refine ⟨ok_iast rfl (by decide +kernel), ?_⟩
  refine ⟨ok_aload_n (z := 0) (by decide +kernel) rfl, ?_⟩
  refine ⟨ok_getf (ix := 96) hc_12 (by decide) hi_12 tw_936 (Or.inl rfl) (by decide +kernel), ?_⟩
  refine ⟨ok_iload_n (z := 1) (by decide +kernel) rfl, ?_⟩
  refine ⟨ok_aload_n (z := 0) (by decide +kernel) rfl, ?_⟩
  refine ⟨ok_getf (ix := 226) hc_12 (by decide) hi_12 tw_917 (Or.inl rfl) (by decide +kernel), ?_⟩
  refine ⟨ok_iast rfl (by decide +kernel), ?_⟩
  refine ⟨ok_aload_n (z := 0) (by decide +kernel) rfl, ?_⟩
  refine ⟨ok_getf (ix := 102) hc_12 (by decide) hi_12 tw_938 (Or.inl rfl) (by decide +kernel), ?_⟩
  refine ⟨ok_iload_n (z := 1) (by decide +kernel) rfl, ?_⟩
  refine ⟨ok_aload_n (z := 0) (by decide +kernel) rfl, ?_⟩
  refine ⟨ok_getf (ix := 229) hc_12 (by decide) hi_12 tw_918 (Or.inl rfl) (by decide +kernel), ?_⟩
  refine ⟨ok_last rfl (by decide +kernel), ?_⟩
  refine ⟨ok_aload_n (z := 0) (by decide +kernel) rfl, ?_⟩
  refine ⟨ok_getf (ix := 105) hc_12 (by decide) hi_12 tw_939 (Or.inl rfl) (by decide +kernel), ?_⟩
  refine ⟨ok_iload_n (z := 1) (by decide +kernel) rfl, ?_⟩
  refine ⟨ok_aload_n (z := 0) (by decide +kernel) rfl, ?_⟩
  refine ⟨ok_getf (ix := 232) hc_12 (by decide) hi_12 tw_919 (Or.inl rfl) (by decide +kernel), ?_⟩
  refine ⟨ok_iast rfl (by decide +kernel), ?_⟩
  refine ⟨ok_aload_n (z := 0) (by decide +kernel) rfl, ?_⟩
  refine ⟨ok_getf (ix := 215) hc_12 (by decide) hi_12 tw_914 (Or.inl rfl) (by decide +kernel), ?_⟩
  refine ⟨ok_ifeq (off := 8) (by decide +kernel) (by decide), ?_⟩
  refine ⟨ok_aload_n (z := 0) (by decide +kernel) rfl, ?_⟩
  refine ⟨ok_iload_n (z := 1) (by decide +kernel) rfl, ?_⟩
  refine ⟨ok_callV (ix := 277) hc_12 ms_Z_endSession (tb_cwV tw_1241 tw_1243 tv_50 tw_11 tw_1244 (by decide +kernel) (by decide) (by decide)) (by decide +kernel), ?_⟩
  refine ⟨ok_aload_n (z := 0) (by decide +kernel) rfl, ?_⟩
  refine ⟨ok_iload_n (z := 1) (by decide +kernel) rfl, ?_⟩
  refine ⟨ok_iconst (z := 2) (by decide +kernel) (by decide +kernel), ?_⟩
  refine ⟨ok_aload_n (z := 0) (by decide +kernel) rfl, ?_⟩
  refine ⟨ok_getf (ix := 108) hc_12 (by decide) hi_12 tw_940 (Or.inl rfl) (by decide +kernel), ?_⟩
  refine ⟨ok_iload_n (z := 1) (by decide +kernel) rfl, ?_⟩
  refine ⟨ok_zald rfl (by decide +kernel), ?_⟩
  refine ⟨ok_ifeq (off := 7) (by decide +kernel) (by decide), ?_⟩
  refine ⟨ok_iconst (z := 1) (by decide +kernel) (by decide +kernel), ?_⟩
  refine ⟨ok_goto (off := 4) (by decide +kernel) (by decide), ?_⟩
  refine ⟨ok_iconst (z := 0) (by decide +kernel) (by decide +kernel), ?_⟩
  exact trivial
set_option maxHeartbeats 4000000 in
set_option maxRecDepth 100000 in
theorem mg_Z_opened_1 : ev_AllG (ev_Good l vc_L vt_L (gw_G b Ls xs z) prog_14_method_38_code 4 none my_Z_opened.name my_Z_opened.cls tb_T 6 151) (mk_Z_opened_1 z) := by
  refine ⟨ok_callV (ix := 320) hc_12 ms_Z_answer (tb_cwV tw_1280 tw_1282 tv_59 tw_11 tw_1283 (by decide +kernel) (by decide) (by decide)) (by decide +kernel), ?_⟩
  refine ⟨ok_aload_n (z := 0) (by decide +kernel) rfl, ?_⟩
  refine ⟨ok_getf (ix := 108) hc_12 (by decide) hi_12 tw_940 (Or.inl rfl) (by decide +kernel), ?_⟩
  refine ⟨ok_iload_n (z := 1) (by decide +kernel) rfl, ?_⟩
  refine ⟨ok_iconst (z := 1) (by decide +kernel) (by decide +kernel), ?_⟩
  refine ⟨ok_zast rfl (by decide +kernel), ?_⟩
  refine ⟨ok_aload_n (z := 0) (by decide +kernel) rfl, ?_⟩
  refine ⟨ok_getf (ix := 150) hc_12 (by decide) hi_12 tw_954 (Or.inl rfl) (by decide +kernel), ?_⟩
  refine ⟨ok_iload_n (z := 1) (by decide +kernel) rfl, ?_⟩
  refine ⟨ok_aload_n (z := 0) (by decide +kernel) rfl, ?_⟩
  refine ⟨ok_getf (ix := 209) hc_12 (by decide) hi_12 tw_912 (Or.inl rfl) (by decide +kernel), ?_⟩
  refine ⟨ok_iast rfl (by decide +kernel), ?_⟩
  refine ⟨ok_iconst (z := 0) (by decide +kernel) (by decide +kernel), ?_⟩
  refine ⟨ok_istore_n (z := 2) (by decide) (by decide +kernel) rfl, ?_⟩
  refine ⟨ok_iload_n (z := 2) (by decide +kernel) rfl, ?_⟩
  refine ⟨ok_aload_n (z := 0) (by decide +kernel) rfl, ?_⟩
  refine ⟨ok_getf (ix := 123) hc_12 (by decide) hi_12 tw_945 (Or.inl rfl) (by decide +kernel), ?_⟩
  refine ⟨ok_iload_n (z := 1) (by decide +kernel) rfl, ?_⟩
  refine ⟨ok_iald rfl (by decide +kernel), ?_⟩
  refine ⟨ok_icmpge (off := 55) (by decide +kernel) (by decide), ?_⟩
  refine ⟨ok_bipush (z := 8) (by decide +kernel) (by decide +kernel), ?_⟩
  refine ⟨ok_iload_n (z := 1) (by decide +kernel) rfl, ?_⟩
  refine ⟨ok_imul (by decide +kernel), ?_⟩
  refine ⟨ok_iload_n (z := 2) (by decide +kernel) rfl, ?_⟩
  refine ⟨ok_iadd (by decide +kernel), ?_⟩
  refine ⟨ok_istore_n (z := 3) (by decide) (by decide +kernel) rfl, ?_⟩
  refine ⟨ok_aload_n (z := 0) (by decide +kernel) rfl, ?_⟩
  refine ⟨ok_getf (ix := 141) hc_12 (by decide) hi_12 tw_951 (Or.inl rfl) (by decide +kernel), ?_⟩
  refine ⟨ok_iload_n (z := 3) (by decide +kernel) rfl, ?_⟩
  refine ⟨ok_iald rfl (by decide +kernel), ?_⟩
  refine ⟨ok_iconst (z := 1) (by decide +kernel) (by decide +kernel), ?_⟩
  refine ⟨ok_icmpne (off := 13) (by decide +kernel) (by decide), ?_⟩
  refine ⟨ok_aload_n (z := 0) (by decide +kernel) rfl, ?_⟩
  refine ⟨ok_iload_n (z := 1) (by decide +kernel) rfl, ?_⟩
  refine ⟨ok_iload_n (z := 3) (by decide +kernel) rfl, ?_⟩
  refine ⟨ok_iconst (z := 1) (by decide +kernel) (by decide +kernel), ?_⟩
  refine ⟨ok_callV (ix := 288) hc_12 ms_Z_sendHere (tb_cwV tw_1276 tw_1278 tv_58 tw_11 tw_1279 (by decide +kernel) (by decide) (by decide)) (by decide +kernel), ?_⟩
  refine ⟨ok_goto (off := 22) (by decide +kernel) (by decide), ?_⟩
  refine ⟨ok_aload_n (z := 0) (by decide +kernel) rfl, ?_⟩
  refine ⟨ok_iconst (z := 2) (by decide +kernel) (by decide +kernel), ?_⟩
  refine ⟨ok_iload_n (z := 1) (by decide +kernel) rfl, ?_⟩
  refine ⟨ok_imul (by decide +kernel), ?_⟩
  refine ⟨ok_iconst (z := 1) (by decide +kernel) (by decide +kernel), ?_⟩
  refine ⟨ok_iadd (by decide +kernel), ?_⟩
  refine ⟨ok_bipush (z := 6) (by decide +kernel) (by decide +kernel), ?_⟩
  refine ⟨ok_aload_n (z := 0) (by decide +kernel) rfl, ?_⟩
  refine ⟨ok_getf (ix := 144) hc_12 (by decide) hi_12 tw_952 (Or.inl rfl) (by decide +kernel), ?_⟩
  refine ⟨ok_iload_n (z := 3) (by decide +kernel) rfl, ?_⟩
  refine ⟨ok_iald rfl (by decide +kernel), ?_⟩
  refine ⟨ok_iconst (z := 0) (by decide +kernel) (by decide +kernel), ?_⟩
  refine ⟨ok_callV (ix := 198) hc_12 ms_Z_send (tb_cwV tw_1137 tw_1139 tv_31 tw_11 tw_1140 (by decide +kernel) (by decide) (by decide)) (by decide +kernel), ?_⟩
  refine ⟨ok_pop (by decide +kernel), ?_⟩
  refine ⟨ok_iinc (z := 1) (by decide) (by decide +kernel) (by decide +kernel), ?_⟩
  refine ⟨ok_goto (off := (-59)) (by decide +kernel) (by decide), ?_⟩
  refine ⟨ok_aload_n (z := 0) (by decide +kernel) rfl, ?_⟩
  refine ⟨ok_iload_n (z := 1) (by decide +kernel) rfl, ?_⟩
  refine ⟨ok_callV (ix := 306) hc_12 ms_Z_pumpSession (tb_cwV tw_1272 tw_1274 tv_57 tw_11 tw_1275 (by decide +kernel) (by decide) (by decide)) (by decide +kernel), ?_⟩
  refine ⟨ok_vret rfl (by decide +kernel), ?_⟩
  exact trivial
theorem mg_Z_opened : ev_AllG (ev_Good l vc_L vt_L (gw_G b Ls xs z) prog_14_method_38_code 4 none my_Z_opened.name my_Z_opened.cls tb_T 6 151) (mk_Z_opened z) := ev_AllG.app mg_Z_opened_0 (mg_Z_opened_1)
theorem ms_Z_opened : ev_Met l vc_L vt_L (gw_G b Ls xs z) my_Z_opened (Cond.code my_Z_opened prog_14_method_38_code 4 none :: tb_T) 6 151 (mf_Z_opened z) := ev_sound (by decide +kernel) mg_Z_opened
end MT
