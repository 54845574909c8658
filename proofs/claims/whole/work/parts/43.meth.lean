/-! Methods as lists of steps, and that the machine does what they do (written by wip/whole/gen.py). -/
section MT
variable {l : Launch} {b Ls : Nat} {xs : Nat → Int32} {z : Nat × Nat}
def my_Z_brokerGets : MethodName := ⟨"MessageHubModel", "brokerGets", "(I)V"⟩
def mk_Z_brokerGets_0 (z : Nat × Nat) : ev_C := [(0, ev_fn (ev_aload 0 1)), (1, ev_fn (ev_getf 12 39 4)), (4, ev_fn (ev_iload 1 5)), (5, ev_fn (ev_ci 0 6)), (6, ev_fn (ev_iast 7)), (7, ev_fn (ev_aload 0 8)), (8, ev_fn (ev_getf 12 12 11)), (11, ev_fn (ev_ci 1 12)), (12, ev_fn (ev_icmpne 23 15)), (15, ev_fn (ev_aload 0 16)), (16, ev_fn (ev_iload 1 17)), (17, ev_callR 12 (mf_Z_opened z) 2 20), (20, ev_fn (ev_goto 164)), (23, ev_fn (ev_aload 0 24)), (24, ev_fn (ev_getf 12 12 27)), (27, ev_fn (ev_ci 3 28)), (28, ev_fn (ev_icmpne 39 31)), (31, ev_fn (ev_aload 0 32)), (32, ev_fn (ev_iload 1 33)), (33, ev_callR 12 (mf_Z_published z) 2 36), (36, ev_fn (ev_goto 164)), (39, ev_fn (ev_aload 0 40)), (40, ev_fn (ev_getf 12 12 43)), (43, ev_fn (ev_ci 6 45)), (45, ev_fn (ev_icmpne 74 48)), (48, ev_fn (ev_aload 0 49)), (49, ev_fn (ev_getf 12 55 52)), (52, ev_fn (ev_ci 9 54)), (54, ev_fn (ev_iload 1 55)), (55, ev_fn (ev_imul 56)), (56, ev_fn (ev_aload 0 57)), (57, ev_fn (ev_getf 12 13 60)), (60, ev_fn (ev_iadd 61)), (61, ev_fn (ev_ci 0 62)), (62, ev_fn (ev_zast 63)), (63, ev_fn (ev_aload 0 64)), (64, ev_fn (ev_iload 1 65)), (65, ev_fn (ev_ci 7 67)), (67, ev_fn (ev_ci 0 68)), (68, ev_callR 12 (mf_Z_answer z) 4 71), (71, ev_fn (ev_goto 164)), (74, ev_fn (ev_aload 0 75)), (75, ev_fn (ev_getf 12 12 78)), (78, ev_fn (ev_ci 4 79)), (79, ev_fn (ev_icmplt 104 82)), (82, ev_fn (ev_aload 0 83)), (83, ev_fn (ev_getf 12 12 86)), (86, ev_fn (ev_ci 7 88)), (88, ev_fn (ev_icmpgt 104 91)), (91, ev_fn (ev_aload 0 92)), (92, ev_fn (ev_iload 1 93)), (93, ev_callR 12 (mf_Z_brokerAnswered z) 2 96), (96, ev_fn (ev_aload 0 97)), (97, ev_fn (ev_iload 1 98)), (98, ev_callR 12 (mf_Z_pumpSession z) 2 101), (101, ev_fn (ev_goto 164)), (104, ev_fn (ev_aload 0 105)), (105, ev_fn (ev_getf 12 12 108)), (108, ev_fn (ev_ci 8 110)), (110, ev_fn (ev_icmpne 121 113))]
def mk_Z_brokerGets_1 (z : Nat × Nat) : ev_C := [(113, ev_fn (ev_aload 0 114)), (114, ev_fn (ev_iload 1 115)), (115, ev_callR 12 (mf_Z_subscribed z) 2 118), (118, ev_fn (ev_goto 164)), (121, ev_fn (ev_aload 0 122)), (122, ev_fn (ev_getf 12 12 125)), (125, ev_fn (ev_ci 10 127)), (127, ev_fn (ev_icmpne 138 130)), (130, ev_fn (ev_aload 0 131)), (131, ev_fn (ev_iload 1 132)), (132, ev_callR 12 (mf_Z_unsubscribed z) 2 135), (135, ev_fn (ev_goto 164)), (138, ev_fn (ev_aload 0 139)), (139, ev_fn (ev_getf 12 12 142)), (142, ev_fn (ev_ci 12 144)), (144, ev_fn (ev_icmpne 158 147)), (147, ev_fn (ev_aload 0 148)), (148, ev_fn (ev_iload 1 149)), (149, ev_fn (ev_ci 13 151)), (151, ev_fn (ev_ci 0 152)), (152, ev_callR 12 (mf_Z_answer z) 4 155), (155, ev_fn (ev_goto 164)), (158, ev_fn (ev_aload 0 159)), (159, ev_fn (ev_iload 1 160)), (160, ev_fn (ev_ci 0 161)), (161, ev_callR 12 (mf_Z_closeConnection z) 3 164), (164, ev_fn ev_vret)]
def mk_Z_brokerGets (z : Nat × Nat) : ev_C := mk_Z_brokerGets_0 z ++ (mk_Z_brokerGets_1 z)
def mf_Z_brokerGets (z : Nat × Nat) : ev_F := ev_met (mk_Z_brokerGets z) 2
set_option maxHeartbeats 4000000 in
set_option maxRecDepth 100000 in
theorem mg_Z_brokerGets_0 : ev_AllG (ev_Good l vc_L vt_L (gw_G b Ls xs z) prog_14_method_46_code 2 none my_Z_brokerGets.name my_Z_brokerGets.cls tb_T 7 174) (mk_Z_brokerGets_0 z) := by
  refine ⟨ok_aload_n (z := 0) (by decide +kernel) rfl, ?_⟩
  refine ⟨ok_getf (ix := 99) hc_12 (by decide) hi_12 tw_937 (Or.inl rfl) (by decide +kernel), ?_⟩
  refine ⟨ok_iload_n (z := 1) (by decide +kernel) rfl, ?_⟩
  refine ⟨ok_iconst (z := 0) (by decide +kernel) (by decide +kernel), ?_⟩
  refine ⟨ok_iast rfl (by decide +kernel), ?_⟩
  refine ⟨ok_aload_n (z := 0) (by decide +kernel) rfl, ?_⟩
  refine ⟨ok_getf (ix := 202) hc_12 (by decide) hi_12 tw_910 (Or.inl rfl) (by decide +kernel), ?_⟩
  refine ⟨ok_iconst (z := 1) (by decide +kernel) (by decide +kernel), ?_⟩
  refine ⟨ok_icmpne (off := 11) (by decide +kernel) (by decide), ?_⟩
  refine ⟨ok_aload_n (z := 0) (by decide +kernel) rfl, ?_⟩
  refine ⟨ok_iload_n (z := 1) (by decide +kernel) rfl, ?_⟩
  refine ⟨ok_callV (ix := 333) hc_12 ms_Z_opened (tb_cwV tw_1233 tw_1235 tv_48 tw_11 tw_1236 (by decide +kernel) (by decide) (by decide)) (by decide +kernel), ?_⟩
  refine ⟨ok_goto (off := 144) (by decide +kernel) (by decide), ?_⟩
  refine ⟨ok_aload_n (z := 0) (by decide +kernel) rfl, ?_⟩
  refine ⟨ok_getf (ix := 202) hc_12 (by decide) hi_12 tw_910 (Or.inl rfl) (by decide +kernel), ?_⟩
  refine ⟨ok_iconst (z := 3) (by decide +kernel) (by decide +kernel), ?_⟩
  refine ⟨ok_icmpne (off := 11) (by decide +kernel) (by decide), ?_⟩
  refine ⟨ok_aload_n (z := 0) (by decide +kernel) rfl, ?_⟩
  refine ⟨ok_iload_n (z := 1) (by decide +kernel) rfl, ?_⟩
  refine ⟨ok_callV (ix := 336) hc_12 ms_Z_published (tb_cwV tw_1284 tw_1286 tv_60 tw_11 tw_1287 (by decide +kernel) (by decide) (by decide)) (by decide +kernel), ?_⟩
  refine ⟨ok_goto (off := 128) (by decide +kernel) (by decide), ?_⟩
  refine ⟨ok_aload_n (z := 0) (by decide +kernel) rfl, ?_⟩
  refine ⟨ok_getf (ix := 202) hc_12 (by decide) hi_12 tw_910 (Or.inl rfl) (by decide +kernel), ?_⟩
  refine ⟨ok_bipush (z := 6) (by decide +kernel) (by decide +kernel), ?_⟩
  refine ⟨ok_icmpne (off := 29) (by decide +kernel) (by decide), ?_⟩
  refine ⟨ok_aload_n (z := 0) (by decide +kernel) rfl, ?_⟩
  refine ⟨ok_getf (ix := 147) hc_12 (by decide) hi_12 tw_953 (Or.inl rfl) (by decide +kernel), ?_⟩
  refine ⟨ok_bipush (z := 9) (by decide +kernel) (by decide +kernel), ?_⟩
  refine ⟨ok_iload_n (z := 1) (by decide +kernel) rfl, ?_⟩
  refine ⟨ok_imul (by decide +kernel), ?_⟩
  refine ⟨ok_aload_n (z := 0) (by decide +kernel) rfl, ?_⟩
  refine ⟨ok_getf (ix := 206) hc_12 (by decide) hi_12 tw_911 (Or.inl rfl) (by decide +kernel), ?_⟩
  refine ⟨ok_iadd (by decide +kernel), ?_⟩
  refine ⟨ok_iconst (z := 0) (by decide +kernel) (by decide +kernel), ?_⟩
  refine ⟨ok_zast rfl (by decide +kernel), ?_⟩
  refine ⟨ok_aload_n (z := 0) (by decide +kernel) rfl, ?_⟩
  refine ⟨ok_iload_n (z := 1) (by decide +kernel) rfl, ?_⟩
  refine ⟨ok_bipush (z := 7) (by decide +kernel) (by decide +kernel), ?_⟩
  refine ⟨ok_iconst (z := 0) (by decide +kernel) (by decide +kernel), ?_⟩
  refine ⟨ok_callV (ix := 320) hc_12 ms_Z_answer (tb_cwV tw_1280 tw_1282 tv_59 tw_11 tw_1283 (by decide +kernel) (by decide) (by decide)) (by decide +kernel), ?_⟩
  refine ⟨ok_goto (off := 93) (by decide +kernel) (by decide), ?_⟩
  refine ⟨ok_aload_n (z := 0) (by decide +kernel) rfl, ?_⟩
  refine ⟨ok_getf (ix := 202) hc_12 (by decide) hi_12 tw_910 (Or.inl rfl) (by decide +kernel), ?_⟩
  refine ⟨ok_iconst (z := 4) (by decide +kernel) (by decide +kernel), ?_⟩
  refine ⟨ok_icmplt (off := 25) (by decide +kernel) (by decide), ?_⟩
  refine ⟨ok_aload_n (z := 0) (by decide +kernel) rfl, ?_⟩
  refine ⟨ok_getf (ix := 202) hc_12 (by decide) hi_12 tw_910 (Or.inl rfl) (by decide +kernel), ?_⟩
  refine ⟨ok_bipush (z := 7) (by decide +kernel) (by decide +kernel), ?_⟩
  refine ⟨ok_icmpgt (off := 16) (by decide +kernel) (by decide), ?_⟩
  refine ⟨ok_aload_n (z := 0) (by decide +kernel) rfl, ?_⟩
  refine ⟨ok_iload_n (z := 1) (by decide +kernel) rfl, ?_⟩
  refine ⟨ok_callV (ix := 339) hc_12 ms_Z_brokerAnswered (tb_cwV tw_1288 tw_1290 tv_61 tw_11 tw_1291 (by decide +kernel) (by decide) (by decide)) (by decide +kernel), ?_⟩
  refine ⟨ok_aload_n (z := 0) (by decide +kernel) rfl, ?_⟩
  refine ⟨ok_iload_n (z := 1) (by decide +kernel) rfl, ?_⟩
  refine ⟨ok_callV (ix := 306) hc_12 ms_Z_pumpSession (tb_cwV tw_1272 tw_1274 tv_57 tw_11 tw_1275 (by decide +kernel) (by decide) (by decide)) (by decide +kernel), ?_⟩
  refine ⟨ok_goto (off := 63) (by decide +kernel) (by decide), ?_⟩
  refine ⟨ok_aload_n (z := 0) (by decide +kernel) rfl, ?_⟩
  refine ⟨ok_getf (ix := 202) hc_12 (by decide) hi_12 tw_910 (Or.inl rfl) (by decide +kernel), ?_⟩
  refine ⟨ok_bipush (z := 8) (by decide +kernel) (by decide +kernel), ?_⟩
  refine ⟨ok_icmpne (off := 11) (by decide +kernel) (by decide), ?_⟩
  exact trivial
set_option maxHeartbeats 4000000 in
set_option maxRecDepth 100000 in
theorem mg_Z_brokerGets_1 : ev_AllG (ev_Good l vc_L vt_L (gw_G b Ls xs z) prog_14_method_46_code 2 none my_Z_brokerGets.name my_Z_brokerGets.cls tb_T 7 174) (mk_Z_brokerGets_1 z) := by
  refine ⟨ok_aload_n (z := 0) (by decide +kernel) rfl, ?_⟩
  refine ⟨ok_iload_n (z := 1) (by decide +kernel) rfl, ?_⟩
  refine ⟨ok_callV (ix := 342) hc_12 ms_Z_subscribed (tb_cwV tw_1300 tw_1302 tv_64 tw_11 tw_1303 (by decide +kernel) (by decide) (by decide)) (by decide +kernel), ?_⟩
  refine ⟨ok_goto (off := 46) (by decide +kernel) (by decide), ?_⟩
  refine ⟨ok_aload_n (z := 0) (by decide +kernel) rfl, ?_⟩
  refine ⟨ok_getf (ix := 202) hc_12 (by decide) hi_12 tw_910 (Or.inl rfl) (by decide +kernel), ?_⟩
  refine ⟨ok_bipush (z := 10) (by decide +kernel) (by decide +kernel), ?_⟩
  refine ⟨ok_icmpne (off := 11) (by decide +kernel) (by decide), ?_⟩
  refine ⟨ok_aload_n (z := 0) (by decide +kernel) rfl, ?_⟩
  refine ⟨ok_iload_n (z := 1) (by decide +kernel) rfl, ?_⟩
  refine ⟨ok_callV (ix := 345) hc_12 ms_Z_unsubscribed (tb_cwV tw_1308 tw_1310 tv_66 tw_11 tw_1311 (by decide +kernel) (by decide) (by decide)) (by decide +kernel), ?_⟩
  refine ⟨ok_goto (off := 29) (by decide +kernel) (by decide), ?_⟩
  refine ⟨ok_aload_n (z := 0) (by decide +kernel) rfl, ?_⟩
  refine ⟨ok_getf (ix := 202) hc_12 (by decide) hi_12 tw_910 (Or.inl rfl) (by decide +kernel), ?_⟩
  refine ⟨ok_bipush (z := 12) (by decide +kernel) (by decide +kernel), ?_⟩
  refine ⟨ok_icmpne (off := 14) (by decide +kernel) (by decide), ?_⟩
  refine ⟨ok_aload_n (z := 0) (by decide +kernel) rfl, ?_⟩
  refine ⟨ok_iload_n (z := 1) (by decide +kernel) rfl, ?_⟩
  refine ⟨ok_bipush (z := 13) (by decide +kernel) (by decide +kernel), ?_⟩
  refine ⟨ok_iconst (z := 0) (by decide +kernel) (by decide +kernel), ?_⟩
  refine ⟨ok_callV (ix := 320) hc_12 ms_Z_answer (tb_cwV tw_1280 tw_1282 tv_59 tw_11 tw_1283 (by decide +kernel) (by decide) (by decide)) (by decide +kernel), ?_⟩
  refine ⟨ok_goto (off := 9) (by decide +kernel) (by decide), ?_⟩
  refine ⟨ok_aload_n (z := 0) (by decide +kernel) rfl, ?_⟩
  refine ⟨ok_iload_n (z := 1) (by decide +kernel) rfl, ?_⟩
  refine ⟨ok_iconst (z := 0) (by decide +kernel) (by decide +kernel), ?_⟩
  refine ⟨ok_callV (ix := 316) hc_12 ms_Z_closeConnection (tb_cwV tw_1237 tw_1239 tv_49 tw_11 tw_1240 (by decide +kernel) (by decide) (by decide)) (by decide +kernel), ?_⟩
  refine ⟨ok_vret rfl (by decide +kernel), ?_⟩
  exact trivial
theorem mg_Z_brokerGets : ev_AllG (ev_Good l vc_L vt_L (gw_G b Ls xs z) prog_14_method_46_code 2 none my_Z_brokerGets.name my_Z_brokerGets.cls tb_T 7 174) (mk_Z_brokerGets z) := ev_AllG.app mg_Z_brokerGets_0 (mg_Z_brokerGets_1)
theorem ms_Z_brokerGets : ev_Met l vc_L vt_L (gw_G b Ls xs z) my_Z_brokerGets (Cond.code my_Z_brokerGets prog_14_method_46_code 2 none :: tb_T) 7 174 (mf_Z_brokerGets z) := ev_sound (by decide +kernel) mg_Z_brokerGets
def my_Z_crash : MethodName := ⟨"MessageHubModel", "crash", "()V"⟩
def mk_Z_crash (z : Nat × Nat) : ev_C := [(0, ev_fn (ev_ci 0 1)), (1, ev_fn (ev_istore 1 2)), (2, ev_fn (ev_iload 1 3)), (3, ev_fn (ev_ci 3 4)), (4, ev_fn (ev_icmpge 51 7)), (7, ev_fn (ev_aload 0 8)), (8, ev_fn (ev_getf 12 35 11)), (11, ev_fn (ev_iload 1 12)), (12, ev_fn (ev_ci 0 13)), (13, ev_fn (ev_zast 14)), (14, ev_fn (ev_aload 0 15)), (15, ev_fn (ev_iload 1 16)), (16, ev_callR 12 (mf_Z_closeLink z) 2 19), (19, ev_fn (ev_aload 0 20)), (20, ev_fn (ev_getf 12 57 23)), (23, ev_fn (ev_iload 1 24)), (24, ev_fn (ev_aload 0 25)), (25, ev_fn (ev_getf 12 56 28)), (28, ev_fn (ev_iload 1 29)), (29, ev_fn (ev_iald 30)), (30, ev_fn (ev_iast 31)), (31, ev_fn (ev_aload 0 32)), (32, ev_fn (ev_getf 12 56 35)), (35, ev_fn (ev_iload 1 36)), (36, ev_fn (ev_iald 37)), (37, ev_fn (ev_ifne 45 40)), (40, ev_fn (ev_aload 0 41)), (41, ev_fn (ev_iload 1 42)), (42, ev_callR 12 (mf_Z_endSession z) 2 45), (45, ev_fn (ev_iinc 1 1 48)), (48, ev_fn (ev_goto 2)), (51, ev_fn ev_vret)]
def mf_Z_crash (z : Nat × Nat) : ev_F := ev_met (mk_Z_crash z) 2
set_option maxHeartbeats 4000000 in
set_option maxRecDepth 100000 in
theorem mg_Z_crash : ev_AllG (ev_Good l vc_L vt_L (gw_G b Ls xs z) prog_14_method_58_code 2 none my_Z_crash.name my_Z_crash.cls tb_T 1 22) (mk_Z_crash z) := by
  refine ⟨ok_iconst (z := 0) (by decide +kernel) (by decide +kernel), ?_⟩
  refine ⟨ok_istore_n (z := 1) (by decide) (by decide +kernel) rfl, ?_⟩
  refine ⟨ok_iload_n (z := 1) (by decide +kernel) rfl, ?_⟩
  refine ⟨ok_iconst (z := 3) (by decide +kernel) (by decide +kernel), ?_⟩
  refine ⟨ok_icmpge (off := 47) (by decide +kernel) (by decide), ?_⟩
  refine ⟨ok_aload_n (z := 0) (by decide +kernel) rfl, ?_⟩
  refine ⟨ok_getf (ix := 87) hc_12 (by decide) hi_12 tw_933 (Or.inl rfl) (by decide +kernel), ?_⟩
  refine ⟨ok_iload_n (z := 1) (by decide +kernel) rfl, ?_⟩
  refine ⟨ok_iconst (z := 0) (by decide +kernel) (by decide +kernel), ?_⟩
  refine ⟨ok_zast rfl (by decide +kernel), ?_⟩
  refine ⟨ok_aload_n (z := 0) (by decide +kernel) rfl, ?_⟩
  refine ⟨ok_iload_n (z := 1) (by decide +kernel) rfl, ?_⟩
  refine ⟨ok_callV (ix := 274) hc_12 ms_Z_closeLink (tb_cwV tw_1145 tw_1147 tv_32 tw_11 tw_1148 (by decide +kernel) (by decide) (by decide)) (by decide +kernel), ?_⟩
  refine ⟨ok_aload_n (z := 0) (by decide +kernel) rfl, ?_⟩
  refine ⟨ok_getf (ix := 153) hc_12 (by decide) hi_12 tw_955 (Or.inl rfl) (by decide +kernel), ?_⟩
  refine ⟨ok_iload_n (z := 1) (by decide +kernel) rfl, ?_⟩
  refine ⟨ok_aload_n (z := 0) (by decide +kernel) rfl, ?_⟩
  refine ⟨ok_getf (ix := 150) hc_12 (by decide) hi_12 tw_954 (Or.inl rfl) (by decide +kernel), ?_⟩
  refine ⟨ok_iload_n (z := 1) (by decide +kernel) rfl, ?_⟩
  refine ⟨ok_iald rfl (by decide +kernel), ?_⟩
  refine ⟨ok_iast rfl (by decide +kernel), ?_⟩
  refine ⟨ok_aload_n (z := 0) (by decide +kernel) rfl, ?_⟩
  refine ⟨ok_getf (ix := 150) hc_12 (by decide) hi_12 tw_954 (Or.inl rfl) (by decide +kernel), ?_⟩
  refine ⟨ok_iload_n (z := 1) (by decide +kernel) rfl, ?_⟩
  refine ⟨ok_iald rfl (by decide +kernel), ?_⟩
  refine ⟨ok_ifne (off := 8) (by decide +kernel) (by decide), ?_⟩
  refine ⟨ok_aload_n (z := 0) (by decide +kernel) rfl, ?_⟩
  refine ⟨ok_iload_n (z := 1) (by decide +kernel) rfl, ?_⟩
  refine ⟨ok_callV (ix := 277) hc_12 ms_Z_endSession (tb_cwV tw_1241 tw_1243 tv_50 tw_11 tw_1244 (by decide +kernel) (by decide) (by decide)) (by decide +kernel), ?_⟩
  refine ⟨ok_iinc (z := 1) (by decide) (by decide +kernel) (by decide +kernel), ?_⟩
  refine ⟨ok_goto (off := (-46)) (by decide +kernel) (by decide), ?_⟩
  refine ⟨ok_vret rfl (by decide +kernel), ?_⟩
  exact trivial
theorem ms_Z_crash : ev_Met l vc_L vt_L (gw_G b Ls xs z) my_Z_crash (Cond.code my_Z_crash prog_14_method_58_code 2 none :: tb_T) 1 22 (mf_Z_crash z) := ev_sound (by decide +kernel) mg_Z_crash
def my_Z_deliver : MethodName := ⟨"MessageHubModel", "deliver", "(IZ)I"⟩
def mk_Z_deliver_0 (z : Nat × Nat) : ev_C := [(0, ev_fn (ev_iload 1 1)), (1, ev_call (mf_Z_isClient z) 1 4), (4, ev_fn (ev_ifne 9 7)), (7, ev_fn (ev_ci 0 8)), (8, ev_fn ev_iret), (9, ev_fn (ev_iload 2 10)), (10, ev_fn (ev_ifeq 19 13)), (13, ev_fn (ev_ci 2 14)), (14, ev_fn (ev_iload 1 15)), (15, ev_fn (ev_imul 16)), (16, ev_fn (ev_goto 24)), (19, ev_fn (ev_ci 2 20)), (20, ev_fn (ev_iload 1 21)), (21, ev_fn (ev_imul 22)), (22, ev_fn (ev_ci 1 23)), (23, ev_fn (ev_iadd 24)), (24, ev_fn (ev_istore 3 25)), (25, ev_fn (ev_aload 0 26)), (26, ev_fn (ev_getf 12 0 29)), (29, ev_fn (ev_iload 3 30)), (30, ev_fn (ev_iald 31)), (31, ev_fn (ev_ifne 36 34)), (34, ev_fn (ev_ci 0 35)), (35, ev_fn ev_iret), (36, ev_fn (ev_aload 0 37)), (37, ev_fn (ev_getf 12 0 40)), (40, ev_fn (ev_ci 4 41)), (41, ev_fn (ev_iload 1 42)), (42, ev_fn (ev_imul 43)), (43, ev_fn (ev_ci 1 44)), (44, ev_fn (ev_iadd 45)), (45, ev_fn (ev_iload 3 46)), (46, ev_fn (ev_isub 47)), (47, ev_fn (ev_iald 48)), (48, ev_fn (ev_ci 12 50)), (50, ev_fn (ev_icmpge 67 53)), (53, ev_fn (ev_iload 2 54)), (54, ev_fn (ev_ifne 69 57)), (57, ev_fn (ev_aload 0 58)), (58, ev_fn (ev_getf 12 22 61)), (61, ev_fn (ev_iload 1 62)), (62, ev_fn (ev_iald 63)), (63, ev_fn (ev_ci 3 64)), (64, ev_fn (ev_icmpne 69 67)), (67, ev_fn (ev_ci (-1) 68)), (68, ev_fn ev_iret), (69, ev_fn (ev_aload 0 70)), (70, ev_fn (ev_iload 3 71)), (71, ev_callR 12 (mf_Z_takeFirst z) 2 74), (74, ev_fn (ev_aload 0 75)), (75, ev_fn (ev_getf 12 12 78)), (78, ev_fn (ev_istore 4 80)), (80, ev_fn (ev_iload 2 81)), (81, ev_fn (ev_ifne 92 84)), (84, ev_fn (ev_aload 0 85)), (85, ev_fn (ev_iload 1 86)), (86, ev_callR 12 (mf_Z_clientGets z) 2 89), (89, ev_fn (ev_iload 4 91)), (91, ev_fn ev_iret), (92, ev_fn (ev_aload 0 93))]
def mk_Z_deliver_1 (z : Nat × Nat) : ev_C := [(93, ev_fn (ev_getf 12 62 96)), (96, ev_fn (ev_istore 5 98)), (98, ev_fn (ev_aload 0 99)), (99, ev_fn (ev_ci 0 100)), (100, ev_fn (ev_putf 12 62 .int 103)), (103, ev_fn (ev_iload 5 105)), (105, ev_fn (ev_ci 1 106)), (106, ev_fn (ev_icmpeq 114 109)), (109, ev_fn (ev_aload 0 110)), (110, ev_fn (ev_iload 1 111)), (111, ev_callR 12 (mf_Z_brokerGets z) 2 114), (114, ev_fn (ev_iload 5 116)), (116, ev_fn (ev_ifle 123 119)), (119, ev_fn (ev_aload 0 120)), (120, ev_callR 12 (mf_Z_crash z) 1 123), (123, ev_fn (ev_iload 4 125)), (125, ev_fn ev_iret)]
def mk_Z_deliver (z : Nat × Nat) : ev_C := mk_Z_deliver_0 z ++ (mk_Z_deliver_1 z)
def mf_Z_deliver (z : Nat × Nat) : ev_F := ev_met (mk_Z_deliver z) 6
set_option maxHeartbeats 4000000 in
set_option maxRecDepth 100000 in
theorem mg_Z_deliver_0 : ev_AllG (ev_Good l vc_L vt_L (gw_G b Ls xs z) prog_14_method_56_code 6 (some .int) my_Z_deliver.name my_Z_deliver.cls tb_T 8 195) (mk_Z_deliver_0 z) := by
  refine ⟨ok_iload_n (z := 1) (by decide +kernel) rfl, ?_⟩
  refine ⟨ok_callS (ix := 348) ms_Z_isClient (tb_cwS tw_1126 tw_1127 tw_11 tw_1128 (by decide +kernel) (by decide) (by decide)) (by decide +kernel), ?_⟩
  refine ⟨ok_ifne (off := 5) (by decide +kernel) (by decide), ?_⟩
  refine ⟨ok_iconst (z := 0) (by decide +kernel) (by decide +kernel), ?_⟩
  refine ⟨ok_iret rfl (by decide +kernel), ?_⟩
  refine ⟨ok_iload_n (z := 2) (by decide +kernel) rfl, ?_⟩
  refine ⟨ok_ifeq (off := 9) (by decide +kernel) (by decide), ?_⟩
  refine ⟨ok_iconst (z := 2) (by decide +kernel) (by decide +kernel), ?_⟩
  refine ⟨ok_iload_n (z := 1) (by decide +kernel) rfl, ?_⟩
  refine ⟨ok_imul (by decide +kernel), ?_⟩
  refine ⟨ok_goto (off := 8) (by decide +kernel) (by decide), ?_⟩
  refine ⟨ok_iconst (z := 2) (by decide +kernel) (by decide +kernel), ?_⟩
  refine ⟨ok_iload_n (z := 1) (by decide +kernel) rfl, ?_⟩
  refine ⟨ok_imul (by decide +kernel), ?_⟩
  refine ⟨ok_iconst (z := 1) (by decide +kernel) (by decide +kernel), ?_⟩
  refine ⟨ok_iadd (by decide +kernel), ?_⟩
  refine ⟨ok_istore_n (z := 3) (by decide) (by decide +kernel) rfl, ?_⟩
  refine ⟨ok_aload_n (z := 0) (by decide +kernel) rfl, ?_⟩
  refine ⟨ok_getf (ix := 7) hc_12 (by decide) hi_12 tw_898 (Or.inl rfl) (by decide +kernel), ?_⟩
  refine ⟨ok_iload_n (z := 3) (by decide +kernel) rfl, ?_⟩
  refine ⟨ok_iald rfl (by decide +kernel), ?_⟩
  refine ⟨ok_ifne (off := 5) (by decide +kernel) (by decide), ?_⟩
  refine ⟨ok_iconst (z := 0) (by decide +kernel) (by decide +kernel), ?_⟩
  refine ⟨ok_iret rfl (by decide +kernel), ?_⟩
  refine ⟨ok_aload_n (z := 0) (by decide +kernel) rfl, ?_⟩
  refine ⟨ok_getf (ix := 7) hc_12 (by decide) hi_12 tw_898 (Or.inl rfl) (by decide +kernel), ?_⟩
  refine ⟨ok_iconst (z := 4) (by decide +kernel) (by decide +kernel), ?_⟩
  refine ⟨ok_iload_n (z := 1) (by decide +kernel) rfl, ?_⟩
  refine ⟨ok_imul (by decide +kernel), ?_⟩
  refine ⟨ok_iconst (z := 1) (by decide +kernel) (by decide +kernel), ?_⟩
  refine ⟨ok_iadd (by decide +kernel), ?_⟩
  refine ⟨ok_iload_n (z := 3) (by decide +kernel) rfl, ?_⟩
  refine ⟨ok_isub (by decide +kernel), ?_⟩
  refine ⟨ok_iald rfl (by decide +kernel), ?_⟩
  refine ⟨ok_bipush (z := 12) (by decide +kernel) (by decide +kernel), ?_⟩
  refine ⟨ok_icmpge (off := 17) (by decide +kernel) (by decide), ?_⟩
  refine ⟨ok_iload_n (z := 2) (by decide +kernel) rfl, ?_⟩
  refine ⟨ok_ifne (off := 15) (by decide +kernel) (by decide), ?_⟩
  refine ⟨ok_aload_n (z := 0) (by decide +kernel) rfl, ?_⟩
  refine ⟨ok_getf (ix := 48) hc_12 (by decide) hi_12 tw_920 (Or.inl rfl) (by decide +kernel), ?_⟩
  refine ⟨ok_iload_n (z := 1) (by decide +kernel) rfl, ?_⟩
  refine ⟨ok_iald rfl (by decide +kernel), ?_⟩
  refine ⟨ok_iconst (z := 3) (by decide +kernel) (by decide +kernel), ?_⟩
  refine ⟨ok_icmpne (off := 5) (by decide +kernel) (by decide), ?_⟩
  refine ⟨ok_iconst (z := (-1)) (by decide +kernel) (by decide +kernel), ?_⟩
  refine ⟨ok_iret rfl (by decide +kernel), ?_⟩
  refine ⟨ok_aload_n (z := 0) (by decide +kernel) rfl, ?_⟩
  refine ⟨ok_iload_n (z := 3) (by decide +kernel) rfl, ?_⟩
  refine ⟨ok_callV (ix := 358) hc_12 ms_Z_takeFirst (tb_cwV tw_1201 tw_1203 tv_40 tw_11 tw_1204 (by decide +kernel) (by decide) (by decide)) (by decide +kernel), ?_⟩
  refine ⟨ok_aload_n (z := 0) (by decide +kernel) rfl, ?_⟩
  refine ⟨ok_getf (ix := 202) hc_12 (by decide) hi_12 tw_910 (Or.inl rfl) (by decide +kernel), ?_⟩
  refine ⟨ok_istore (by decide) (by decide +kernel), ?_⟩
  refine ⟨ok_iload_n (z := 2) (by decide +kernel) rfl, ?_⟩
  refine ⟨ok_ifne (off := 11) (by decide +kernel) (by decide), ?_⟩
  refine ⟨ok_aload_n (z := 0) (by decide +kernel) rfl, ?_⟩
  refine ⟨ok_iload_n (z := 1) (by decide +kernel) rfl, ?_⟩
  refine ⟨ok_callV (ix := 361) hc_12 ms_Z_clientGets (tb_cwV tw_1205 tw_1207 tv_41 tw_11 tw_1208 (by decide +kernel) (by decide) (by decide)) (by decide +kernel), ?_⟩
  refine ⟨ok_iload (by decide +kernel), ?_⟩
  refine ⟨ok_iret rfl (by decide +kernel), ?_⟩
  refine ⟨ok_aload_n (z := 0) (by decide +kernel) rfl, ?_⟩
  exact trivial
set_option maxHeartbeats 4000000 in
set_option maxRecDepth 100000 in
theorem mg_Z_deliver_1 : ev_AllG (ev_Good l vc_L vt_L (gw_G b Ls xs z) prog_14_method_56_code 6 (some .int) my_Z_deliver.name my_Z_deliver.cls tb_T 8 195) (mk_Z_deliver_1 z) := by
  refine ⟨ok_getf (ix := 364) hc_12 (by decide) hi_12 tw_960 (Or.inl rfl) (by decide +kernel), ?_⟩
  refine ⟨ok_istore (by decide) (by decide +kernel), ?_⟩
  refine ⟨ok_aload_n (z := 0) (by decide +kernel) rfl, ?_⟩
  refine ⟨ok_iconst (z := 0) (by decide +kernel) (by decide +kernel), ?_⟩
  refine ⟨ok_putf (ix := 364) hc_12 (by decide) hi_12 ht_12 hn_12 tw_960 (Or.inl rfl) rfl (by decide +kernel) (by decide +kernel), ?_⟩
  refine ⟨ok_iload (by decide +kernel), ?_⟩
  refine ⟨ok_iconst (z := 1) (by decide +kernel) (by decide +kernel), ?_⟩
  refine ⟨ok_icmpeq (off := 8) (by decide +kernel) (by decide), ?_⟩
  refine ⟨ok_aload_n (z := 0) (by decide +kernel) rfl, ?_⟩
  refine ⟨ok_iload_n (z := 1) (by decide +kernel) rfl, ?_⟩
  refine ⟨ok_callV (ix := 367) hc_12 ms_Z_brokerGets (tb_cwV tw_1229 tw_1231 tv_47 tw_11 tw_1232 (by decide +kernel) (by decide) (by decide)) (by decide +kernel), ?_⟩
  refine ⟨ok_iload (by decide +kernel), ?_⟩
  refine ⟨ok_ifle (off := 7) (by decide +kernel) (by decide), ?_⟩
  refine ⟨ok_aload_n (z := 0) (by decide +kernel) rfl, ?_⟩
  refine ⟨ok_callV (ix := 370) hc_12 ms_Z_crash (tb_cwV tw_1312 tw_1313 tw_1314 tw_11 tw_1315 (by decide +kernel) (by decide) (by decide)) (by decide +kernel), ?_⟩
  refine ⟨ok_iload (by decide +kernel), ?_⟩
  refine ⟨ok_iret rfl (by decide +kernel), ?_⟩
  exact trivial
theorem mg_Z_deliver : ev_AllG (ev_Good l vc_L vt_L (gw_G b Ls xs z) prog_14_method_56_code 6 (some .int) my_Z_deliver.name my_Z_deliver.cls tb_T 8 195) (mk_Z_deliver z) := ev_AllG.app mg_Z_deliver_0 (mg_Z_deliver_1)
theorem ms_Z_deliver : ev_Met l vc_L vt_L (gw_G b Ls xs z) my_Z_deliver (Cond.code my_Z_deliver prog_14_method_56_code 6 (some .int) :: tb_T) 8 195 (mf_Z_deliver z) := ev_sound (by decide +kernel) mg_Z_deliver
def my_Z_tick : MethodName := ⟨"MessageHubModel", "tick", "()I"⟩
def mk_Z_tick_0 (z : Nat × Nat) : ev_C := [(0, ev_fn (ev_ci 0 1)), (1, ev_fn (ev_istore 1 2)), (2, ev_fn (ev_ci 0 3)), (3, ev_fn (ev_istore 2 4)), (4, ev_fn (ev_iload 2 5)), (5, ev_fn (ev_ci 3 6)), (6, ev_fn (ev_icmpge 114 9)), (9, ev_fn (ev_aload 0 10)), (10, ev_fn (ev_getf 12 35 13)), (13, ev_fn (ev_iload 2 14)), (14, ev_fn (ev_zald 15)), (15, ev_fn (ev_ifeq 72 18)), (18, ev_fn (ev_aload 0 19)), (19, ev_fn (ev_getf 12 39 22)), (22, ev_fn (ev_iload 2 23)), (23, ev_fn (ev_aload 0 24)), (24, ev_fn (ev_getf 12 38 27)), (27, ev_fn (ev_iload 2 28)), (28, ev_fn (ev_iald 29)), (29, ev_fn (ev_ifle 43 32)), (32, ev_fn (ev_aload 0 33)), (33, ev_fn (ev_getf 12 39 36)), (36, ev_fn (ev_iload 2 37)), (37, ev_fn (ev_iald 38)), (38, ev_fn (ev_ci 1 39)), (39, ev_fn (ev_iadd 40)), (40, ev_fn (ev_goto 44)), (43, ev_fn (ev_ci 0 44)), (44, ev_fn (ev_iast 45)), (45, ev_fn (ev_aload 0 46)), (46, ev_fn (ev_getf 12 39 49)), (49, ev_fn (ev_iload 2 50)), (50, ev_fn (ev_iald 51)), (51, ev_fn (ev_aload 0 52)), (52, ev_fn (ev_getf 12 38 55)), (55, ev_fn (ev_iload 2 56)), (56, ev_fn (ev_iald 57)), (57, ev_fn (ev_icmple 108 60)), (60, ev_fn (ev_aload 0 61)), (61, ev_fn (ev_iload 2 62)), (62, ev_fn (ev_ci 1 63)), (63, ev_callR 12 (mf_Z_closeConnection z) 3 66), (66, ev_fn (ev_iinc 1 1 69)), (69, ev_fn (ev_goto 108)), (72, ev_fn (ev_aload 0 73)), (73, ev_fn (ev_getf 12 42 76)), (76, ev_fn (ev_iload 2 77)), (77, ev_fn (ev_zald 78)), (78, ev_fn (ev_ifeq 108 81)), (81, ev_fn (ev_aload 0 82)), (82, ev_fn (ev_getf 12 57 85)), (85, ev_fn (ev_iload 2 86)), (86, ev_fn (ev_dup2 87)), (87, ev_fn (ev_iald 88)), (88, ev_fn (ev_ci 1 89)), (89, ev_fn (ev_isub 90)), (90, ev_fn (ev_iast 91)), (91, ev_fn (ev_aload 0 92)), (92, ev_fn (ev_getf 12 57 95)), (95, ev_fn (ev_iload 2 96))]
def mk_Z_tick_1 (z : Nat × Nat) : ev_C := [(96, ev_fn (ev_iald 97)), (97, ev_fn (ev_ifne 108 100)), (100, ev_fn (ev_aload 0 101)), (101, ev_fn (ev_iload 2 102)), (102, ev_callR 12 (mf_Z_endSession z) 2 105), (105, ev_fn (ev_iinc 1 1 108)), (108, ev_fn (ev_iinc 2 1 111)), (111, ev_fn (ev_goto 4)), (114, ev_fn (ev_iload 1 115)), (115, ev_fn ev_iret)]
def mk_Z_tick (z : Nat × Nat) : ev_C := mk_Z_tick_0 z ++ (mk_Z_tick_1 z)
def mf_Z_tick (z : Nat × Nat) : ev_F := ev_met (mk_Z_tick z) 3
set_option maxHeartbeats 4000000 in
set_option maxRecDepth 100000 in
theorem mg_Z_tick_0 : ev_AllG (ev_Good l vc_L vt_L (gw_G b Ls xs z) prog_14_method_57_code 3 (some .int) my_Z_tick.name my_Z_tick.cls tb_T 6 151) (mk_Z_tick_0 z) := by
  refine ⟨ok_iconst (z := 0) (by decide +kernel) (by decide +kernel), ?_⟩
  refine ⟨ok_istore_n (z := 1) (by decide) (by decide +kernel) rfl, ?_⟩
  refine ⟨ok_iconst (z := 0) (by decide +kernel) (by decide +kernel), ?_⟩
  refine ⟨ok_istore_n (z := 2) (by decide) (by decide +kernel) rfl, ?_⟩
  refine ⟨ok_iload_n (z := 2) (by decide +kernel) rfl, ?_⟩
  refine ⟨ok_iconst (z := 3) (by decide +kernel) (by decide +kernel), ?_⟩
  refine ⟨ok_icmpge (off := 108) (by decide +kernel) (by decide), ?_⟩
  refine ⟨ok_aload_n (z := 0) (by decide +kernel) rfl, ?_⟩
  refine ⟨ok_getf (ix := 87) hc_12 (by decide) hi_12 tw_933 (Or.inl rfl) (by decide +kernel), ?_⟩
  refine ⟨ok_iload_n (z := 2) (by decide +kernel) rfl, ?_⟩
  refine ⟨ok_zald rfl (by decide +kernel), ?_⟩
  refine ⟨ok_ifeq (off := 57) (by decide +kernel) (by decide), ?_⟩
  refine ⟨ok_aload_n (z := 0) (by decide +kernel) rfl, ?_⟩
  refine ⟨ok_getf (ix := 99) hc_12 (by decide) hi_12 tw_937 (Or.inl rfl) (by decide +kernel), ?_⟩
  refine ⟨ok_iload_n (z := 2) (by decide +kernel) rfl, ?_⟩
  refine ⟨ok_aload_n (z := 0) (by decide +kernel) rfl, ?_⟩
  refine ⟨ok_getf (ix := 96) hc_12 (by decide) hi_12 tw_936 (Or.inl rfl) (by decide +kernel), ?_⟩
  refine ⟨ok_iload_n (z := 2) (by decide +kernel) rfl, ?_⟩
  refine ⟨ok_iald rfl (by decide +kernel), ?_⟩
  refine ⟨ok_ifle (off := 14) (by decide +kernel) (by decide), ?_⟩
  refine ⟨ok_aload_n (z := 0) (by decide +kernel) rfl, ?_⟩
  refine ⟨ok_getf (ix := 99) hc_12 (by decide) hi_12 tw_937 (Or.inl rfl) (by decide +kernel), ?_⟩
  refine ⟨ok_iload_n (z := 2) (by decide +kernel) rfl, ?_⟩
  refine ⟨ok_iald rfl (by decide +kernel), ?_⟩
  refine ⟨ok_iconst (z := 1) (by decide +kernel) (by decide +kernel), ?_⟩
  refine ⟨ok_iadd (by decide +kernel), ?_⟩
  refine ⟨ok_goto (off := 4) (by decide +kernel) (by decide), ?_⟩
  refine ⟨ok_iconst (z := 0) (by decide +kernel) (by decide +kernel), ?_⟩
  refine ⟨ok_iast rfl (by decide +kernel), ?_⟩
  refine ⟨ok_aload_n (z := 0) (by decide +kernel) rfl, ?_⟩
  refine ⟨ok_getf (ix := 99) hc_12 (by decide) hi_12 tw_937 (Or.inl rfl) (by decide +kernel), ?_⟩
  refine ⟨ok_iload_n (z := 2) (by decide +kernel) rfl, ?_⟩
  refine ⟨ok_iald rfl (by decide +kernel), ?_⟩
  refine ⟨ok_aload_n (z := 0) (by decide +kernel) rfl, ?_⟩
  refine ⟨ok_getf (ix := 96) hc_12 (by decide) hi_12 tw_936 (Or.inl rfl) (by decide +kernel), ?_⟩
  refine ⟨ok_iload_n (z := 2) (by decide +kernel) rfl, ?_⟩
  refine ⟨ok_iald rfl (by decide +kernel), ?_⟩
  refine ⟨ok_icmple (off := 51) (by decide +kernel) (by decide), ?_⟩
  refine ⟨ok_aload_n (z := 0) (by decide +kernel) rfl, ?_⟩
  refine ⟨ok_iload_n (z := 2) (by decide +kernel) rfl, ?_⟩
  refine ⟨ok_iconst (z := 1) (by decide +kernel) (by decide +kernel), ?_⟩
  refine ⟨ok_callV (ix := 316) hc_12 ms_Z_closeConnection (tb_cwV tw_1237 tw_1239 tv_49 tw_11 tw_1240 (by decide +kernel) (by decide) (by decide)) (by decide +kernel), ?_⟩
  refine ⟨ok_iinc (z := 1) (by decide) (by decide +kernel) (by decide +kernel), ?_⟩
  refine ⟨ok_goto (off := 39) (by decide +kernel) (by decide), ?_⟩
  refine ⟨ok_aload_n (z := 0) (by decide +kernel) rfl, ?_⟩
  refine ⟨ok_getf (ix := 108) hc_12 (by decide) hi_12 tw_940 (Or.inl rfl) (by decide +kernel), ?_⟩
  refine ⟨ok_iload_n (z := 2) (by decide +kernel) rfl, ?_⟩
  refine ⟨ok_zald rfl (by decide +kernel), ?_⟩
  refine ⟨ok_ifeq (off := 30) (by decide +kernel) (by decide), ?_⟩
  refine ⟨ok_aload_n (z := 0) (by decide +kernel) rfl, ?_⟩
  refine ⟨ok_getf (ix := 153) hc_12 (by decide) hi_12 tw_955 (Or.inl rfl) (by decide +kernel), ?_⟩
  refine ⟨ok_iload_n (z := 2) (by decide +kernel) rfl, ?_⟩
  refine ⟨ok_dup2 (by decide +kernel), ?_⟩
  refine ⟨ok_iald rfl (by decide +kernel), ?_⟩
  refine ⟨ok_iconst (z := 1) (by decide +kernel) (by decide +kernel), ?_⟩
  refine ⟨ok_isub (by decide +kernel), ?_⟩
  refine ⟨ok_iast rfl (by decide +kernel), ?_⟩
  refine ⟨ok_aload_n (z := 0) (by decide +kernel) rfl, ?_⟩
  refine ⟨ok_getf (ix := 153) hc_12 (by decide) hi_12 tw_955 (Or.inl rfl) (by decide +kernel), ?_⟩
  refine ⟨ok_iload_n (z := 2) (by decide +kernel) rfl, ?_⟩
  exact trivial
set_option maxHeartbeats 4000000 in
set_option maxRecDepth 100000 in
theorem mg_Z_tick_1 : ev_AllG (ev_Good l vc_L vt_L (gw_G b Ls xs z) prog_14_method_57_code 3 (some .int) my_Z_tick.name my_Z_tick.cls tb_T 6 151) (mk_Z_tick_1 z) := by
  refine ⟨ok_iald rfl (by decide +kernel), ?_⟩
  refine ⟨ok_ifne (off := 11) (by decide +kernel) (by decide), ?_⟩
  refine ⟨ok_aload_n (z := 0) (by decide +kernel) rfl, ?_⟩
  refine ⟨ok_iload_n (z := 2) (by decide +kernel) rfl, ?_⟩
  refine ⟨ok_callV (ix := 277) hc_12 ms_Z_endSession (tb_cwV tw_1241 tw_1243 tv_50 tw_11 tw_1244 (by decide +kernel) (by decide) (by decide)) (by decide +kernel), ?_⟩
  refine ⟨ok_iinc (z := 1) (by decide) (by decide +kernel) (by decide +kernel), ?_⟩
  refine ⟨ok_iinc (z := 1) (by decide) (by decide +kernel) (by decide +kernel), ?_⟩
  refine ⟨ok_goto (off := (-107)) (by decide +kernel) (by decide), ?_⟩
  refine ⟨ok_iload_n (z := 1) (by decide +kernel) rfl, ?_⟩
  refine ⟨ok_iret rfl (by decide +kernel), ?_⟩
  exact trivial
theorem mg_Z_tick : ev_AllG (ev_Good l vc_L vt_L (gw_G b Ls xs z) prog_14_method_57_code 3 (some .int) my_Z_tick.name my_Z_tick.cls tb_T 6 151) (mk_Z_tick z) := ev_AllG.app mg_Z_tick_0 (mg_Z_tick_1)
theorem ms_Z_tick : ev_Met l vc_L vt_L (gw_G b Ls xs z) my_Z_tick (Cond.code my_Z_tick prog_14_method_57_code 3 (some .int) :: tb_T) 6 151 (mf_Z_tick z) := ev_sound (by decide +kernel) mg_Z_tick
def my_Z_fail : MethodName := ⟨"MessageHubModel", "fail", "(I)Z"⟩
def mk_Z_fail (z : Nat × Nat) : ev_C := [(0, ev_fn (ev_iload 1 1)), (1, ev_fn (ev_iflt 9 4)), (4, ev_fn (ev_iload 1 5)), (5, ev_fn (ev_ci 2 6)), (6, ev_fn (ev_icmple 11 9)), (9, ev_fn (ev_ci 0 10)), (10, ev_fn (ev_zret .boolean)), (11, ev_fn (ev_aload 0 12)), (12, ev_fn (ev_iload 1 13)), (13, ev_fn (ev_putf 12 62 .int 16)), (16, ev_fn (ev_ci 1 17)), (17, ev_fn (ev_zret .boolean))]
def mf_Z_fail (z : Nat × Nat) : ev_F := ev_met (mk_Z_fail z) 2
set_option maxHeartbeats 4000000 in
set_option maxRecDepth 100000 in
theorem mg_Z_fail : ev_AllG (ev_Good l vc_L vt_L (gw_G b Ls xs z) prog_14_method_59_code 2 (some .boolean) my_Z_fail.name my_Z_fail.cls tb_T 0 0) (mk_Z_fail z) := by
  refine ⟨ok_iload_n (z := 1) (by decide +kernel) rfl, ?_⟩
  refine ⟨ok_iflt (off := 8) (by decide +kernel) (by decide), ?_⟩
  refine ⟨ok_iload_n (z := 1) (by decide +kernel) rfl, ?_⟩
  refine ⟨ok_iconst (z := 2) (by decide +kernel) (by decide +kernel), ?_⟩
  refine ⟨ok_icmple (off := 5) (by decide +kernel) (by decide), ?_⟩
  refine ⟨ok_iconst (z := 0) (by decide +kernel) (by decide +kernel), ?_⟩
  refine ⟨ok_zret rfl (by decide +kernel), ?_⟩
  refine ⟨ok_aload_n (z := 0) (by decide +kernel) rfl, ?_⟩
  refine ⟨ok_iload_n (z := 1) (by decide +kernel) rfl, ?_⟩
  refine ⟨ok_putf (ix := 364) hc_12 (by decide) hi_12 ht_12 hn_12 tw_960 (Or.inl rfl) rfl (by decide +kernel) (by decide +kernel), ?_⟩
  refine ⟨ok_iconst (z := 1) (by decide +kernel) (by decide +kernel), ?_⟩
  refine ⟨ok_zret rfl (by decide +kernel), ?_⟩
  exact trivial
theorem ms_Z_fail : ev_Met l vc_L vt_L (gw_G b Ls xs z) my_Z_fail (Cond.code my_Z_fail prog_14_method_59_code 2 (some .boolean) :: tb_T) 0 0 (mf_Z_fail z) := ev_sound (by decide +kernel) mg_Z_fail
def my_Z_state : MethodName := ⟨"MessageHubModel", "state", "(I)I"⟩
def mk_Z_state (z : Nat × Nat) : ev_C := [(0, ev_fn (ev_iload 1 1)), (1, ev_call (mf_Z_isClient z) 1 4), (4, ev_fn (ev_ifeq 47 7)), (7, ev_fn (ev_aload 0 8)), (8, ev_fn (ev_getf 12 22 11)), (11, ev_fn (ev_iload 1 12)), (12, ev_fn (ev_iald 13)), (13, ev_fn (ev_aload 0 14)), (14, ev_fn (ev_getf 12 35 17)), (17, ev_fn (ev_iload 1 18)), (18, ev_fn (ev_zald 19)), (19, ev_fn (ev_ifeq 26 22)), (22, ev_fn (ev_ci 4 23)), (23, ev_fn (ev_goto 27)), (26, ev_fn (ev_ci 0 27)), (27, ev_fn (ev_iadd 28)), (28, ev_fn (ev_aload 0 29)), (29, ev_fn (ev_getf 12 36 32)), (32, ev_fn (ev_iload 1 33)), (33, ev_fn (ev_zald 34)), (34, ev_fn (ev_ifeq 42 37)), (37, ev_fn (ev_ci 8 39)), (39, ev_fn (ev_goto 43)), (42, ev_fn (ev_ci 0 43)), (43, ev_fn (ev_iadd 44)), (44, ev_fn (ev_goto 48)), (47, ev_fn (ev_ci (-1) 48)), (48, ev_fn ev_iret)]
def mf_Z_state (z : Nat × Nat) : ev_F := ev_met (mk_Z_state z) 2
set_option maxHeartbeats 4000000 in
set_option maxRecDepth 100000 in
theorem mg_Z_state : ev_AllG (ev_Good l vc_L vt_L (gw_G b Ls xs z) prog_14_method_60_code 2 (some .int) my_Z_state.name my_Z_state.cls tb_T 1 20) (mk_Z_state z) := by
  refine ⟨ok_iload_n (z := 1) (by decide +kernel) rfl, ?_⟩
  refine ⟨ok_callS (ix := 348) ms_Z_isClient (tb_cwS tw_1126 tw_1127 tw_11 tw_1128 (by decide +kernel) (by decide) (by decide)) (by decide +kernel), ?_⟩
  refine ⟨ok_ifeq (off := 43) (by decide +kernel) (by decide), ?_⟩
  refine ⟨ok_aload_n (z := 0) (by decide +kernel) rfl, ?_⟩
  refine ⟨ok_getf (ix := 48) hc_12 (by decide) hi_12 tw_920 (Or.inl rfl) (by decide +kernel), ?_⟩
  refine ⟨ok_iload_n (z := 1) (by decide +kernel) rfl, ?_⟩
  refine ⟨ok_iald rfl (by decide +kernel), ?_⟩
  refine ⟨ok_aload_n (z := 0) (by decide +kernel) rfl, ?_⟩
  refine ⟨ok_getf (ix := 87) hc_12 (by decide) hi_12 tw_933 (Or.inl rfl) (by decide +kernel), ?_⟩
  refine ⟨ok_iload_n (z := 1) (by decide +kernel) rfl, ?_⟩
  refine ⟨ok_zald rfl (by decide +kernel), ?_⟩
  refine ⟨ok_ifeq (off := 7) (by decide +kernel) (by decide), ?_⟩
  refine ⟨ok_iconst (z := 4) (by decide +kernel) (by decide +kernel), ?_⟩
  refine ⟨ok_goto (off := 4) (by decide +kernel) (by decide), ?_⟩
  refine ⟨ok_iconst (z := 0) (by decide +kernel) (by decide +kernel), ?_⟩
  refine ⟨ok_iadd (by decide +kernel), ?_⟩
  refine ⟨ok_aload_n (z := 0) (by decide +kernel) rfl, ?_⟩
  refine ⟨ok_getf (ix := 90) hc_12 (by decide) hi_12 tw_934 (Or.inl rfl) (by decide +kernel), ?_⟩
  refine ⟨ok_iload_n (z := 1) (by decide +kernel) rfl, ?_⟩
  refine ⟨ok_zald rfl (by decide +kernel), ?_⟩
  refine ⟨ok_ifeq (off := 8) (by decide +kernel) (by decide), ?_⟩
  refine ⟨ok_bipush (z := 8) (by decide +kernel) (by decide +kernel), ?_⟩
  refine ⟨ok_goto (off := 4) (by decide +kernel) (by decide), ?_⟩
  refine ⟨ok_iconst (z := 0) (by decide +kernel) (by decide +kernel), ?_⟩
  refine ⟨ok_iadd (by decide +kernel), ?_⟩
  refine ⟨ok_goto (off := 4) (by decide +kernel) (by decide), ?_⟩
  refine ⟨ok_iconst (z := (-1)) (by decide +kernel) (by decide +kernel), ?_⟩
  refine ⟨ok_iret rfl (by decide +kernel), ?_⟩
  exact trivial
theorem ms_Z_state : ev_Met l vc_L vt_L (gw_G b Ls xs z) my_Z_state (Cond.code my_Z_state prog_14_method_60_code 2 (some .int) :: tb_T) 1 20 (mf_Z_state z) := ev_sound (by decide +kernel) mg_Z_state
def my_Z_held : MethodName := ⟨"MessageHubModel", "held", "([ZI)I"⟩
def mk_Z_held (z : Nat × Nat) : ev_C := [(0, ev_fn (ev_ci 0 1)), (1, ev_fn (ev_istore 2 2)), (2, ev_fn (ev_ci 0 3)), (3, ev_fn (ev_istore 3 4)), (4, ev_fn (ev_iload 3 5)), (5, ev_fn (ev_ci 9 7)), (7, ev_fn (ev_icmpge 35 10)), (10, ev_fn (ev_aload 0 11)), (11, ev_fn (ev_ci 9 13)), (13, ev_fn (ev_iload 1 14)), (14, ev_fn (ev_imul 15)), (15, ev_fn (ev_iload 3 16)), (16, ev_fn (ev_iadd 17)), (17, ev_fn (ev_zald 18)), (18, ev_fn (ev_ifeq 27 21)), (21, ev_fn (ev_iload 2 22)), (22, ev_fn (ev_ci 1 23)), (23, ev_fn (ev_iadd 24)), (24, ev_fn (ev_goto 28)), (27, ev_fn (ev_iload 2 28)), (28, ev_fn (ev_istore 2 29)), (29, ev_fn (ev_iinc 3 1 32)), (32, ev_fn (ev_goto 4)), (35, ev_fn (ev_iload 2 36)), (36, ev_fn ev_iret)]
def mf_Z_held (z : Nat × Nat) : ev_F := ev_met (mk_Z_held z) 4
set_option maxHeartbeats 4000000 in
set_option maxRecDepth 100000 in
theorem mg_Z_held : ev_AllG (ev_Good l vc_L vt_L (gw_G b Ls xs z) prog_14_method_61_code 4 (some .int) my_Z_held.name my_Z_held.cls tb_T 0 0) (mk_Z_held z) := by
  refine ⟨ok_iconst (z := 0) (by decide +kernel) (by decide +kernel), ?_⟩
  refine ⟨ok_istore_n (z := 2) (by decide) (by decide +kernel) rfl, ?_⟩
  refine ⟨ok_iconst (z := 0) (by decide +kernel) (by decide +kernel), ?_⟩
  refine ⟨ok_istore_n (z := 3) (by decide) (by decide +kernel) rfl, ?_⟩
  refine ⟨ok_iload_n (z := 3) (by decide +kernel) rfl, ?_⟩
  refine ⟨ok_bipush (z := 9) (by decide +kernel) (by decide +kernel), ?_⟩
  refine ⟨ok_icmpge (off := 28) (by decide +kernel) (by decide), ?_⟩
  refine ⟨ok_aload_n (z := 0) (by decide +kernel) rfl, ?_⟩
  refine ⟨ok_bipush (z := 9) (by decide +kernel) (by decide +kernel), ?_⟩
  refine ⟨ok_iload_n (z := 1) (by decide +kernel) rfl, ?_⟩
  refine ⟨ok_imul (by decide +kernel), ?_⟩
  refine ⟨ok_iload_n (z := 3) (by decide +kernel) rfl, ?_⟩
  refine ⟨ok_iadd (by decide +kernel), ?_⟩
  refine ⟨ok_zald rfl (by decide +kernel), ?_⟩
  refine ⟨ok_ifeq (off := 9) (by decide +kernel) (by decide), ?_⟩
  refine ⟨ok_iload_n (z := 2) (by decide +kernel) rfl, ?_⟩
  refine ⟨ok_iconst (z := 1) (by decide +kernel) (by decide +kernel), ?_⟩
  refine ⟨ok_iadd (by decide +kernel), ?_⟩
  refine ⟨ok_goto (off := 4) (by decide +kernel) (by decide), ?_⟩
  refine ⟨ok_iload_n (z := 2) (by decide +kernel) rfl, ?_⟩
  refine ⟨ok_istore_n (z := 2) (by decide) (by decide +kernel) rfl, ?_⟩
  refine ⟨ok_iinc (z := 1) (by decide) (by decide +kernel) (by decide +kernel), ?_⟩
  refine ⟨ok_goto (off := (-28)) (by decide +kernel) (by decide), ?_⟩
  refine ⟨ok_iload_n (z := 2) (by decide +kernel) rfl, ?_⟩
  refine ⟨ok_iret rfl (by decide +kernel), ?_⟩
  exact trivial
theorem ms_Z_held : ev_Met l vc_L vt_L (gw_G b Ls xs z) my_Z_held (Cond.code my_Z_held prog_14_method_61_code 4 (some .int) :: tb_T) 0 0 (mf_Z_held z) := ev_sound (by decide +kernel) mg_Z_held
def my_Z_session : MethodName := ⟨"MessageHubModel", "session", "(I)I"⟩
def mk_Z_session (z : Nat × Nat) : ev_C := [(0, ev_fn (ev_iload 1 1)), (1, ev_call (mf_Z_isClient z) 1 4), (4, ev_fn (ev_ifeq 58 7)), (7, ev_fn (ev_aload 0 8)), (8, ev_fn (ev_getf 12 42 11)), (11, ev_fn (ev_iload 1 12)), (12, ev_fn (ev_zald 13)), (13, ev_fn (ev_ifeq 58 16)), (16, ev_fn (ev_aload 0 17)), (17, ev_fn (ev_getf 12 43 20)), (20, ev_fn (ev_iload 1 21)), (21, ev_fn (ev_iald 22)), (22, ev_fn (ev_ci 8 24)), (24, ev_fn (ev_aload 0 25)), (25, ev_fn (ev_getf 12 48 28)), (28, ev_fn (ev_iload 1 29)), (29, ev_fn (ev_iald 30)), (30, ev_fn (ev_imul 31)), (31, ev_fn (ev_iadd 32)), (32, ev_fn (ev_ci 64 34)), (34, ev_fn (ev_aload 0 35)), (35, ev_fn (ev_getf 12 47 38)), (38, ev_fn (ev_iload 1 39)), (39, ev_fn (ev_iald 40)), (40, ev_fn (ev_imul 41)), (41, ev_fn (ev_iadd 42)), (42, ev_fn (ev_ci 512 45)), (45, ev_fn (ev_aload 0 46)), (46, ev_fn (ev_getf 12 55 49)), (49, ev_fn (ev_iload 1 50)), (50, ev_call (mf_Z_held z) 2 53), (53, ev_fn (ev_imul 54)), (54, ev_fn (ev_iadd 55)), (55, ev_fn (ev_goto 59)), (58, ev_fn (ev_ci (-1) 59)), (59, ev_fn ev_iret)]
def mf_Z_session (z : Nat × Nat) : ev_F := ev_met (mk_Z_session z) 2
set_option maxHeartbeats 4000000 in
set_option maxRecDepth 100000 in
theorem mg_Z_session : ev_AllG (ev_Good l vc_L vt_L (gw_G b Ls xs z) prog_14_method_62_code 2 (some .int) my_Z_session.name my_Z_session.cls tb_T 1 23) (mk_Z_session z) := by
  refine ⟨ok_iload_n (z := 1) (by decide +kernel) rfl, ?_⟩
  refine ⟨ok_callS (ix := 348) ms_Z_isClient (tb_cwS tw_1126 tw_1127 tw_11 tw_1128 (by decide +kernel) (by decide) (by decide)) (by decide +kernel), ?_⟩
  refine ⟨ok_ifeq (off := 54) (by decide +kernel) (by decide), ?_⟩
  refine ⟨ok_aload_n (z := 0) (by decide +kernel) rfl, ?_⟩
  refine ⟨ok_getf (ix := 108) hc_12 (by decide) hi_12 tw_940 (Or.inl rfl) (by decide +kernel), ?_⟩
  refine ⟨ok_iload_n (z := 1) (by decide +kernel) rfl, ?_⟩
  refine ⟨ok_zald rfl (by decide +kernel), ?_⟩
  refine ⟨ok_ifeq (off := 45) (by decide +kernel) (by decide), ?_⟩
  refine ⟨ok_aload_n (z := 0) (by decide +kernel) rfl, ?_⟩
  refine ⟨ok_getf (ix := 111) hc_12 (by decide) hi_12 tw_941 (Or.inl rfl) (by decide +kernel), ?_⟩
  refine ⟨ok_iload_n (z := 1) (by decide +kernel) rfl, ?_⟩
  refine ⟨ok_iald rfl (by decide +kernel), ?_⟩
  refine ⟨ok_bipush (z := 8) (by decide +kernel) (by decide +kernel), ?_⟩
  refine ⟨ok_aload_n (z := 0) (by decide +kernel) rfl, ?_⟩
  refine ⟨ok_getf (ix := 126) hc_12 (by decide) hi_12 tw_946 (Or.inl rfl) (by decide +kernel), ?_⟩
  refine ⟨ok_iload_n (z := 1) (by decide +kernel) rfl, ?_⟩
  refine ⟨ok_iald rfl (by decide +kernel), ?_⟩
  refine ⟨ok_imul (by decide +kernel), ?_⟩
  refine ⟨ok_iadd (by decide +kernel), ?_⟩
  refine ⟨ok_bipush (z := 64) (by decide +kernel) (by decide +kernel), ?_⟩
  refine ⟨ok_aload_n (z := 0) (by decide +kernel) rfl, ?_⟩
  refine ⟨ok_getf (ix := 123) hc_12 (by decide) hi_12 tw_945 (Or.inl rfl) (by decide +kernel), ?_⟩
  refine ⟨ok_iload_n (z := 1) (by decide +kernel) rfl, ?_⟩
  refine ⟨ok_iald rfl (by decide +kernel), ?_⟩
  refine ⟨ok_imul (by decide +kernel), ?_⟩
  refine ⟨ok_iadd (by decide +kernel), ?_⟩
  refine ⟨ok_sipush (z := 512) (by decide +kernel) (by decide +kernel), ?_⟩
  refine ⟨ok_aload_n (z := 0) (by decide +kernel) rfl, ?_⟩
  refine ⟨ok_getf (ix := 147) hc_12 (by decide) hi_12 tw_953 (Or.inl rfl) (by decide +kernel), ?_⟩
  refine ⟨ok_iload_n (z := 1) (by decide +kernel) rfl, ?_⟩
  refine ⟨ok_callS (ix := 373) ms_Z_held (tb_cwS tw_1333 tw_1334 tw_11 tw_1335 (by decide +kernel) (by decide) (by decide)) (by decide +kernel), ?_⟩
  refine ⟨ok_imul (by decide +kernel), ?_⟩
  refine ⟨ok_iadd (by decide +kernel), ?_⟩
  refine ⟨ok_goto (off := 4) (by decide +kernel) (by decide), ?_⟩
  refine ⟨ok_iconst (z := (-1)) (by decide +kernel) (by decide +kernel), ?_⟩
  refine ⟨ok_iret rfl (by decide +kernel), ?_⟩
  exact trivial
theorem ms_Z_session : ev_Met l vc_L vt_L (gw_G b Ls xs z) my_Z_session (Cond.code my_Z_session prog_14_method_62_code 2 (some .int) :: tb_T) 1 23 (mf_Z_session z) := ev_sound (by decide +kernel) mg_Z_session
def my_Z_line : MethodName := ⟨"MessageHubModel", "line", "(IZ)I"⟩
def mk_Z_line (z : Nat × Nat) : ev_C := [(0, ev_fn (ev_iload 1 1)), (1, ev_call (mf_Z_isClient z) 1 4), (4, ev_fn (ev_ifeq 30 7)), (7, ev_fn (ev_aload 0 8)), (8, ev_fn (ev_getf 12 0 11)), (11, ev_fn (ev_iload 2 12)), (12, ev_fn (ev_ifeq 21 15)), (15, ev_fn (ev_ci 2 16)), (16, ev_fn (ev_iload 1 17)), (17, ev_fn (ev_imul 18)), (18, ev_fn (ev_goto 26)), (21, ev_fn (ev_ci 2 22)), (22, ev_fn (ev_iload 1 23)), (23, ev_fn (ev_imul 24)), (24, ev_fn (ev_ci 1 25)), (25, ev_fn (ev_iadd 26)), (26, ev_fn (ev_iald 27)), (27, ev_fn (ev_goto 31)), (30, ev_fn (ev_ci 0 31)), (31, ev_fn ev_iret)]
def mf_Z_line (z : Nat × Nat) : ev_F := ev_met (mk_Z_line z) 3
set_option maxHeartbeats 4000000 in
set_option maxRecDepth 100000 in
theorem mg_Z_line : ev_AllG (ev_Good l vc_L vt_L (gw_G b Ls xs z) prog_14_method_63_code 3 (some .int) my_Z_line.name my_Z_line.cls tb_T 1 20) (mk_Z_line z) := by
  refine ⟨ok_iload_n (z := 1) (by decide +kernel) rfl, ?_⟩
  refine ⟨ok_callS (ix := 348) ms_Z_isClient (tb_cwS tw_1126 tw_1127 tw_11 tw_1128 (by decide +kernel) (by decide) (by decide)) (by decide +kernel), ?_⟩
  refine ⟨ok_ifeq (off := 26) (by decide +kernel) (by decide), ?_⟩
  refine ⟨ok_aload_n (z := 0) (by decide +kernel) rfl, ?_⟩
  refine ⟨ok_getf (ix := 7) hc_12 (by decide) hi_12 tw_898 (Or.inl rfl) (by decide +kernel), ?_⟩
  refine ⟨ok_iload_n (z := 2) (by decide +kernel) rfl, ?_⟩
  refine ⟨ok_ifeq (off := 9) (by decide +kernel) (by decide), ?_⟩
  refine ⟨ok_iconst (z := 2) (by decide +kernel) (by decide +kernel), ?_⟩
  refine ⟨ok_iload_n (z := 1) (by decide +kernel) rfl, ?_⟩
  refine ⟨ok_imul (by decide +kernel), ?_⟩
  refine ⟨ok_goto (off := 8) (by decide +kernel) (by decide), ?_⟩
  refine ⟨ok_iconst (z := 2) (by decide +kernel) (by decide +kernel), ?_⟩
  refine ⟨ok_iload_n (z := 1) (by decide +kernel) rfl, ?_⟩
  refine ⟨ok_imul (by decide +kernel), ?_⟩
  refine ⟨ok_iconst (z := 1) (by decide +kernel) (by decide +kernel), ?_⟩
  refine ⟨ok_iadd (by decide +kernel), ?_⟩
  refine ⟨ok_iald rfl (by decide +kernel), ?_⟩
  refine ⟨ok_goto (off := 4) (by decide +kernel) (by decide), ?_⟩
  refine ⟨ok_iconst (z := 0) (by decide +kernel) (by decide +kernel), ?_⟩
  refine ⟨ok_iret rfl (by decide +kernel), ?_⟩
  exact trivial
theorem ms_Z_line : ev_Met l vc_L vt_L (gw_G b Ls xs z) my_Z_line (Cond.code my_Z_line prog_14_method_63_code 3 (some .int) :: tb_T) 1 20 (mf_Z_line z) := ev_sound (by decide +kernel) mg_Z_line
def my_Z_packet : MethodName := ⟨"MessageHubModel", "packet", "(IZI)J"⟩
def mk_Z_packet_0 (z : Nat × Nat) : ev_C := [(0, ev_fn (ev_iload 1 1)), (1, ev_call (mf_Z_isClient z) 1 4), (4, ev_fn (ev_ifeq 11 7)), (7, ev_fn (ev_iload 3 8)), (8, ev_fn (ev_ifge 13 11)), (11, ev_fn (ev_cl 0 12)), (12, ev_fn ev_lret), (13, ev_fn (ev_iload 2 14)), (14, ev_fn (ev_ifeq 23 17)), (17, ev_fn (ev_ci 2 18)), (18, ev_fn (ev_iload 1 19)), (19, ev_fn (ev_imul 20)), (20, ev_fn (ev_goto 28)), (23, ev_fn (ev_ci 2 24)), (24, ev_fn (ev_iload 1 25)), (25, ev_fn (ev_imul 26)), (26, ev_fn (ev_ci 1 27)), (27, ev_fn (ev_iadd 28)), (28, ev_fn (ev_istore 4 30)), (30, ev_fn (ev_iload 3 31)), (31, ev_fn (ev_aload 0 32)), (32, ev_fn (ev_getf 12 0 35)), (35, ev_fn (ev_iload 4 37)), (37, ev_fn (ev_iald 38)), (38, ev_fn (ev_icmplt 43 41)), (41, ev_fn (ev_cl 0 42)), (42, ev_fn ev_lret), (43, ev_fn (ev_ci 32 45)), (45, ev_fn (ev_iload 4 47)), (47, ev_fn (ev_imul 48)), (48, ev_fn (ev_iload 3 49)), (49, ev_fn (ev_iadd 50)), (50, ev_fn (ev_istore 5 52)), (52, ev_fn (ev_aload 0 53)), (53, ev_fn (ev_getf 12 1 56)), (56, ev_fn (ev_iload 5 58)), (58, ev_fn (ev_iald 59)), (59, ev_fn (ev_ci 16 61)), (61, ev_fn (ev_aload 0 62)), (62, ev_fn (ev_getf 12 4 65)), (65, ev_fn (ev_iload 5 67)), (67, ev_fn (ev_iald 68)), (68, ev_fn (ev_imul 69)), (69, ev_fn (ev_iadd 70)), (70, ev_fn (ev_aload 0 71)), (71, ev_fn (ev_getf 12 5 74)), (74, ev_fn (ev_iload 5 76)), (76, ev_fn (ev_zald 77)), (77, ev_fn (ev_ifeq 85 80)), (80, ev_fn (ev_ci 64 82)), (82, ev_fn (ev_goto 86)), (85, ev_fn (ev_ci 0 86)), (86, ev_fn (ev_iadd 87)), (87, ev_fn (ev_aload 0 88)), (88, ev_fn (ev_getf 12 6 91)), (91, ev_fn (ev_iload 5 93)), (93, ev_fn (ev_zald 94)), (94, ev_fn (ev_ifeq 103 97)), (97, ev_fn (ev_ci 128 100)), (100, ev_fn (ev_goto 104))]
def mk_Z_packet_1 (z : Nat × Nat) : ev_C := [(103, ev_fn (ev_ci 0 104)), (104, ev_fn (ev_iadd 105)), (105, ev_fn (ev_ci 256 108)), (108, ev_fn (ev_aload 0 109)), (109, ev_fn (ev_getf 12 2 112)), (112, ev_fn (ev_iload 5 114)), (114, ev_fn (ev_iald 115)), (115, ev_fn (ev_imul 116)), (116, ev_fn (ev_iadd 117)), (117, ev_fn (ev_i2l 118)), (118, ev_fn (ev_cl 65536 121)), (121, ev_fn (ev_aload 0 122)), (122, ev_fn (ev_getf 12 3 125)), (125, ev_fn (ev_iload 5 127)), (127, ev_fn (ev_iald 128)), (128, ev_fn (ev_i2l 129)), (129, ev_fn (ev_lmul 130)), (130, ev_fn (ev_ladd 131)), (131, ev_fn ev_lret)]
def mk_Z_packet (z : Nat × Nat) : ev_C := mk_Z_packet_0 z ++ (mk_Z_packet_1 z)
def mf_Z_packet (z : Nat × Nat) : ev_F := ev_met (mk_Z_packet z) 6
set_option maxHeartbeats 4000000 in
set_option maxRecDepth 100000 in
theorem mg_Z_packet_0 : ev_AllG (ev_Good l vc_L vt_L (gw_G b Ls xs z) prog_14_method_64_code 6 (some .long) my_Z_packet.name my_Z_packet.cls tb_T 1 20) (mk_Z_packet_0 z) := by
  refine ⟨ok_iload_n (z := 1) (by decide +kernel) rfl, ?_⟩
  refine ⟨ok_callS (ix := 348) ms_Z_isClient (tb_cwS tw_1126 tw_1127 tw_11 tw_1128 (by decide +kernel) (by decide) (by decide)) (by decide +kernel), ?_⟩
  refine ⟨ok_ifeq (off := 7) (by decide +kernel) (by decide), ?_⟩
  refine ⟨ok_iload_n (z := 3) (by decide +kernel) rfl, ?_⟩
  refine ⟨ok_ifge (off := 5) (by decide +kernel) (by decide), ?_⟩
  refine ⟨ok_lconst (z := 0) (by decide +kernel) (by decide +kernel), ?_⟩
  refine ⟨ok_lret rfl (by decide +kernel), ?_⟩
  refine ⟨ok_iload_n (z := 2) (by decide +kernel) rfl, ?_⟩
  refine ⟨ok_ifeq (off := 9) (by decide +kernel) (by decide), ?_⟩
  refine ⟨ok_iconst (z := 2) (by decide +kernel) (by decide +kernel), ?_⟩
  refine ⟨ok_iload_n (z := 1) (by decide +kernel) rfl, ?_⟩
  refine ⟨ok_imul (by decide +kernel), ?_⟩
  refine ⟨ok_goto (off := 8) (by decide +kernel) (by decide), ?_⟩
  refine ⟨ok_iconst (z := 2) (by decide +kernel) (by decide +kernel), ?_⟩
  refine ⟨ok_iload_n (z := 1) (by decide +kernel) rfl, ?_⟩
  refine ⟨ok_imul (by decide +kernel), ?_⟩
  refine ⟨ok_iconst (z := 1) (by decide +kernel) (by decide +kernel), ?_⟩
  refine ⟨ok_iadd (by decide +kernel), ?_⟩
  refine ⟨ok_istore (by decide) (by decide +kernel), ?_⟩
  refine ⟨ok_iload_n (z := 3) (by decide +kernel) rfl, ?_⟩
  refine ⟨ok_aload_n (z := 0) (by decide +kernel) rfl, ?_⟩
  refine ⟨ok_getf (ix := 7) hc_12 (by decide) hi_12 tw_898 (Or.inl rfl) (by decide +kernel), ?_⟩
  refine ⟨ok_iload (by decide +kernel), ?_⟩
  refine ⟨ok_iald rfl (by decide +kernel), ?_⟩
  refine ⟨ok_icmplt (off := 5) (by decide +kernel) (by decide), ?_⟩
  refine ⟨ok_lconst (z := 0) (by decide +kernel) (by decide +kernel), ?_⟩
  refine ⟨ok_lret rfl (by decide +kernel), ?_⟩
  refine ⟨ok_bipush (z := 32) (by decide +kernel) (by decide +kernel), ?_⟩
  refine ⟨ok_iload (by decide +kernel), ?_⟩
  refine ⟨ok_imul (by decide +kernel), ?_⟩
  refine ⟨ok_iload_n (z := 3) (by decide +kernel) rfl, ?_⟩
  refine ⟨ok_iadd (by decide +kernel), ?_⟩
  refine ⟨ok_istore (by decide) (by decide +kernel), ?_⟩
  refine ⟨ok_aload_n (z := 0) (by decide +kernel) rfl, ?_⟩
  refine ⟨ok_getf (ix := 13) hc_12 (by decide) hi_12 tw_899 (Or.inl rfl) (by decide +kernel), ?_⟩
  refine ⟨ok_iload (by decide +kernel), ?_⟩
  refine ⟨ok_iald rfl (by decide +kernel), ?_⟩
  refine ⟨ok_bipush (z := 16) (by decide +kernel) (by decide +kernel), ?_⟩
  refine ⟨ok_aload_n (z := 0) (by decide +kernel) rfl, ?_⟩
  refine ⟨ok_getf (ix := 22) hc_12 (by decide) hi_12 tw_902 (Or.inl rfl) (by decide +kernel), ?_⟩
  refine ⟨ok_iload (by decide +kernel), ?_⟩
  refine ⟨ok_iald rfl (by decide +kernel), ?_⟩
  refine ⟨ok_imul (by decide +kernel), ?_⟩
  refine ⟨ok_iadd (by decide +kernel), ?_⟩
  refine ⟨ok_aload_n (z := 0) (by decide +kernel) rfl, ?_⟩
  refine ⟨ok_getf (ix := 25) hc_12 (by decide) hi_12 tw_903 (Or.inl rfl) (by decide +kernel), ?_⟩
  refine ⟨ok_iload (by decide +kernel), ?_⟩
  refine ⟨ok_zald rfl (by decide +kernel), ?_⟩
  refine ⟨ok_ifeq (off := 8) (by decide +kernel) (by decide), ?_⟩
  refine ⟨ok_bipush (z := 64) (by decide +kernel) (by decide +kernel), ?_⟩
  refine ⟨ok_goto (off := 4) (by decide +kernel) (by decide), ?_⟩
  refine ⟨ok_iconst (z := 0) (by decide +kernel) (by decide +kernel), ?_⟩
  refine ⟨ok_iadd (by decide +kernel), ?_⟩
  refine ⟨ok_aload_n (z := 0) (by decide +kernel) rfl, ?_⟩
  refine ⟨ok_getf (ix := 29) hc_12 (by decide) hi_12 tw_904 (Or.inl rfl) (by decide +kernel), ?_⟩
  refine ⟨ok_iload (by decide +kernel), ?_⟩
  refine ⟨ok_zald rfl (by decide +kernel), ?_⟩
  refine ⟨ok_ifeq (off := 9) (by decide +kernel) (by decide), ?_⟩
  refine ⟨ok_sipush (z := 128) (by decide +kernel) (by decide +kernel), ?_⟩
  refine ⟨ok_goto (off := 4) (by decide +kernel) (by decide), ?_⟩
  exact trivial
set_option maxHeartbeats 4000000 in
set_option maxRecDepth 100000 in
theorem mg_Z_packet_1 : ev_AllG (ev_Good l vc_L vt_L (gw_G b Ls xs z) prog_14_method_64_code 6 (some .long) my_Z_packet.name my_Z_packet.cls tb_T 1 20) (mk_Z_packet_1 z) := by
  refine ⟨ok_iconst (z := 0) (by decide +kernel) (by decide +kernel), ?_⟩
  refine ⟨ok_iadd (by decide +kernel), ?_⟩
  refine ⟨ok_sipush (z := 256) (by decide +kernel) (by decide +kernel), ?_⟩
  refine ⟨ok_aload_n (z := 0) (by decide +kernel) rfl, ?_⟩
  refine ⟨ok_getf (ix := 16) hc_12 (by decide) hi_12 tw_900 (Or.inl rfl) (by decide +kernel), ?_⟩
  refine ⟨ok_iload (by decide +kernel), ?_⟩
  refine ⟨ok_iald rfl (by decide +kernel), ?_⟩
  refine ⟨ok_imul (by decide +kernel), ?_⟩
  refine ⟨ok_iadd (by decide +kernel), ?_⟩
  refine ⟨ok_i2l (by decide +kernel), ?_⟩
  refine ⟨ok_ldc2 (ix := 377) tw_1344 (by decide +kernel), ?_⟩
  refine ⟨ok_aload_n (z := 0) (by decide +kernel) rfl, ?_⟩
  refine ⟨ok_getf (ix := 19) hc_12 (by decide) hi_12 tw_901 (Or.inl rfl) (by decide +kernel), ?_⟩
  refine ⟨ok_iload (by decide +kernel), ?_⟩
  refine ⟨ok_iald rfl (by decide +kernel), ?_⟩
  refine ⟨ok_i2l (by decide +kernel), ?_⟩
  refine ⟨ok_lmul (by decide +kernel), ?_⟩
  refine ⟨ok_ladd (by decide +kernel), ?_⟩
  refine ⟨ok_lret rfl (by decide +kernel), ?_⟩
  exact trivial
theorem mg_Z_packet : ev_AllG (ev_Good l vc_L vt_L (gw_G b Ls xs z) prog_14_method_64_code 6 (some .long) my_Z_packet.name my_Z_packet.cls tb_T 1 20) (mk_Z_packet z) := ev_AllG.app mg_Z_packet_0 (mg_Z_packet_1)
theorem ms_Z_packet : ev_Met l vc_L vt_L (gw_G b Ls xs z) my_Z_packet (Cond.code my_Z_packet prog_14_method_64_code 6 (some .long) :: tb_T) 1 20 (mf_Z_packet z) := ev_sound (by decide +kernel) mg_Z_packet
end MT
