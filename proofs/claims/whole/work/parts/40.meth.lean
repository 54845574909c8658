/-! Methods as lists of steps, and that the machine does what they do (written by wip/whole/gen.py). -/
section MT
variable {l : Launch} {b Ls : Nat} {xs : Nat → Int32} {z : Nat × Nat}
def my_Z_clientAnswered : MethodName := ⟨"MessageHubModel", "clientAnswered", "(I)V"⟩
def mk_Z_clientAnswered_0 (z : Nat × Nat) : ev_C := [(0, ev_fn (ev_aload 0 1)), (1, ev_fn (ev_iload 1 2)), (2, ev_callR 12 (mf_Z_storePlace z) 2 5), (5, ev_fn (ev_istore 2 6)), (6, ev_fn (ev_iload 2 7)), (7, ev_fn (ev_ifge 11 10)), (10, ev_fn ev_vret), (11, ev_fn (ev_ci 4 12)), (12, ev_fn (ev_iload 1 13)), (13, ev_fn (ev_imul 14)), (14, ev_fn (ev_iload 2 15)), (15, ev_fn (ev_iadd 16)), (16, ev_fn (ev_istore 3 17)), (17, ev_fn (ev_aload 0 18)), (18, ev_fn (ev_getf 12 12 21)), (21, ev_fn (ev_ci 4 22)), (22, ev_fn (ev_icmpne 35 25)), (25, ev_fn (ev_aload 0 26)), (26, ev_fn (ev_getf 12 26 29)), (29, ev_fn (ev_iload 3 30)), (30, ev_fn (ev_iald 31)), (31, ev_fn (ev_ci 1 32)), (32, ev_fn (ev_icmpeq 54 35)), (35, ev_fn (ev_aload 0 36)), (36, ev_fn (ev_getf 12 12 39)), (39, ev_fn (ev_ci 7 41)), (41, ev_fn (ev_icmpne 63 44)), (44, ev_fn (ev_aload 0 45)), (45, ev_fn (ev_getf 12 28 48)), (48, ev_fn (ev_iload 3 49)), (49, ev_fn (ev_iald 50)), (50, ev_fn (ev_ci 2 51)), (51, ev_fn (ev_icmpne 63 54)), (54, ev_fn (ev_aload 0 55)), (55, ev_fn (ev_iload 1 56)), (56, ev_fn (ev_iload 2 57)), (57, ev_callR 12 (mf_Z_forget z) 3 60), (60, ev_fn (ev_goto 132)), (63, ev_fn (ev_aload 0 64)), (64, ev_fn (ev_getf 12 12 67)), (67, ev_fn (ev_ci 5 68)), (68, ev_fn (ev_icmpne 132 71)), (71, ev_fn (ev_aload 0 72)), (72, ev_fn (ev_getf 12 26 75)), (75, ev_fn (ev_iload 3 76)), (76, ev_fn (ev_iald 77)), (77, ev_fn (ev_ci 2 78)), (78, ev_fn (ev_icmpne 132 81)), (81, ev_fn (ev_aload 0 82)), (82, ev_fn (ev_getf 12 14 85)), (85, ev_fn (ev_ci 151 88)), (88, ev_fn (ev_icmpne 110 91)), (91, ev_fn (ev_aload 0 92)), (92, ev_fn (ev_getf 12 28 95)), (95, ev_fn (ev_iload 3 96)), (96, ev_fn (ev_iald 97)), (97, ev_fn (ev_ci 1 98)), (98, ev_fn (ev_icmpne 110 101)), (101, ev_fn (ev_aload 0 102)), (102, ev_fn (ev_iload 1 103))]
def mk_Z_clientAnswered_1 (z : Nat × Nat) : ev_C := [(103, ev_fn (ev_iload 2 104)), (104, ev_callR 12 (mf_Z_forget z) 3 107), (107, ev_fn (ev_goto 132)), (110, ev_fn (ev_aload 0 111)), (111, ev_fn (ev_getf 12 28 114)), (114, ev_fn (ev_iload 3 115)), (115, ev_fn (ev_ci 2 116)), (116, ev_fn (ev_iast 117)), (117, ev_fn (ev_aload 0 118)), (118, ev_fn (ev_ci 2 119)), (119, ev_fn (ev_iload 1 120)), (120, ev_fn (ev_imul 121)), (121, ev_fn (ev_ci 6 123)), (123, ev_fn (ev_aload 0 124)), (124, ev_fn (ev_getf 12 13 127)), (127, ev_fn (ev_ci 0 128)), (128, ev_callR 12 (mf_Z_send z) 5 131), (131, ev_fn (ev_pop 132)), (132, ev_fn ev_vret)]
def mk_Z_clientAnswered (z : Nat × Nat) : ev_C := mk_Z_clientAnswered_0 z ++ (mk_Z_clientAnswered_1 z)
def mf_Z_clientAnswered (z : Nat × Nat) : ev_F := ev_met (mk_Z_clientAnswered z) 4
set_option maxHeartbeats 4000000 in
set_option maxRecDepth 100000 in
theorem mg_Z_clientAnswered_0 : ev_AllG (ev_Good l vc_L vt_L (gw_G b Ls xs z) prog_14_method_25_code 4 none my_Z_clientAnswered.name my_Z_clientAnswered.cls tb_T 1 25) (mk_Z_clientAnswered_0 z) := by
  refine ⟨ok_aload_n (z := 0) (by decide +kernel) rfl, ?_⟩
  refine ⟨ok_iload_n (z := 1) (by decide +kernel) rfl, ?_⟩
  refine ⟨ok_callV (ix := 271) hc_12 ms_Z_storePlace (tb_cwV tw_1225 tw_1227 tv_46 tw_11 tw_1228 (by decide +kernel) (by decide) (by decide)) (by decide +kernel), ?_⟩
  refine ⟨ok_istore_n (z := 2) (by decide) (by decide +kernel) rfl, ?_⟩
  refine ⟨ok_iload_n (z := 2) (by decide +kernel) rfl, ?_⟩
  refine ⟨ok_ifge (off := 4) (by decide +kernel) (by decide), ?_⟩
  refine ⟨ok_vret rfl (by decide +kernel), ?_⟩
  refine ⟨ok_iconst (z := 4) (by decide +kernel) (by decide +kernel), ?_⟩
  refine ⟨ok_iload_n (z := 1) (by decide +kernel) rfl, ?_⟩
  refine ⟨ok_imul (by decide +kernel), ?_⟩
  refine ⟨ok_iload_n (z := 2) (by decide +kernel) rfl, ?_⟩
  refine ⟨ok_iadd (by decide +kernel), ?_⟩
  refine ⟨ok_istore_n (z := 3) (by decide) (by decide +kernel) rfl, ?_⟩
  refine ⟨ok_aload_n (z := 0) (by decide +kernel) rfl, ?_⟩
  refine ⟨ok_getf (ix := 202) hc_12 (by decide) hi_12 tw_910 (Or.inl rfl) (by decide +kernel), ?_⟩
  refine ⟨ok_iconst (z := 4) (by decide +kernel) (by decide +kernel), ?_⟩
  refine ⟨ok_icmpne (off := 13) (by decide +kernel) (by decide), ?_⟩
  refine ⟨ok_aload_n (z := 0) (by decide +kernel) rfl, ?_⟩
  refine ⟨ok_getf (ix := 60) hc_12 (by decide) hi_12 tw_924 (Or.inl rfl) (by decide +kernel), ?_⟩
  refine ⟨ok_iload_n (z := 3) (by decide +kernel) rfl, ?_⟩
  refine ⟨ok_iald rfl (by decide +kernel), ?_⟩
  refine ⟨ok_iconst (z := 1) (by decide +kernel) (by decide +kernel), ?_⟩
  refine ⟨ok_icmpeq (off := 22) (by decide +kernel) (by decide), ?_⟩
  refine ⟨ok_aload_n (z := 0) (by decide +kernel) rfl, ?_⟩
  refine ⟨ok_getf (ix := 202) hc_12 (by decide) hi_12 tw_910 (Or.inl rfl) (by decide +kernel), ?_⟩
  refine ⟨ok_bipush (z := 7) (by decide +kernel) (by decide +kernel), ?_⟩
  refine ⟨ok_icmpne (off := 22) (by decide +kernel) (by decide), ?_⟩
  refine ⟨ok_aload_n (z := 0) (by decide +kernel) rfl, ?_⟩
  refine ⟨ok_getf (ix := 66) hc_12 (by decide) hi_12 tw_926 (Or.inl rfl) (by decide +kernel), ?_⟩
  refine ⟨ok_iload_n (z := 3) (by decide +kernel) rfl, ?_⟩
  refine ⟨ok_iald rfl (by decide +kernel), ?_⟩
  refine ⟨ok_iconst (z := 2) (by decide +kernel) (by decide +kernel), ?_⟩
  refine ⟨ok_icmpne (off := 12) (by decide +kernel) (by decide), ?_⟩
  refine ⟨ok_aload_n (z := 0) (by decide +kernel) rfl, ?_⟩
  refine ⟨ok_iload_n (z := 1) (by decide +kernel) rfl, ?_⟩
  refine ⟨ok_iload_n (z := 2) (by decide +kernel) rfl, ?_⟩
  refine ⟨ok_callV (ix := 254) hc_12 ms_Z_forget (tb_cwV tw_1213 tw_1215 tv_43 tw_11 tw_1216 (by decide +kernel) (by decide) (by decide)) (by decide +kernel), ?_⟩
  refine ⟨ok_goto (off := 72) (by decide +kernel) (by decide), ?_⟩
  refine ⟨ok_aload_n (z := 0) (by decide +kernel) rfl, ?_⟩
  refine ⟨ok_getf (ix := 202) hc_12 (by decide) hi_12 tw_910 (Or.inl rfl) (by decide +kernel), ?_⟩
  refine ⟨ok_iconst (z := 5) (by decide +kernel) (by decide +kernel), ?_⟩
  refine ⟨ok_icmpne (off := 64) (by decide +kernel) (by decide), ?_⟩
  refine ⟨ok_aload_n (z := 0) (by decide +kernel) rfl, ?_⟩
  refine ⟨ok_getf (ix := 60) hc_12 (by decide) hi_12 tw_924 (Or.inl rfl) (by decide +kernel), ?_⟩
  refine ⟨ok_iload_n (z := 3) (by decide +kernel) rfl, ?_⟩
  refine ⟨ok_iald rfl (by decide +kernel), ?_⟩
  refine ⟨ok_iconst (z := 2) (by decide +kernel) (by decide +kernel), ?_⟩
  refine ⟨ok_icmpne (off := 54) (by decide +kernel) (by decide), ?_⟩
  refine ⟨ok_aload_n (z := 0) (by decide +kernel) rfl, ?_⟩
  refine ⟨ok_getf (ix := 209) hc_12 (by decide) hi_12 tw_912 (Or.inl rfl) (by decide +kernel), ?_⟩
  refine ⟨ok_sipush (z := 151) (by decide +kernel) (by decide +kernel), ?_⟩
  refine ⟨ok_icmpne (off := 22) (by decide +kernel) (by decide), ?_⟩
  refine ⟨ok_aload_n (z := 0) (by decide +kernel) rfl, ?_⟩
  refine ⟨ok_getf (ix := 66) hc_12 (by decide) hi_12 tw_926 (Or.inl rfl) (by decide +kernel), ?_⟩
  refine ⟨ok_iload_n (z := 3) (by decide +kernel) rfl, ?_⟩
  refine ⟨ok_iald rfl (by decide +kernel), ?_⟩
  refine ⟨ok_iconst (z := 1) (by decide +kernel) (by decide +kernel), ?_⟩
  refine ⟨ok_icmpne (off := 12) (by decide +kernel) (by decide), ?_⟩
  refine ⟨ok_aload_n (z := 0) (by decide +kernel) rfl, ?_⟩
  refine ⟨ok_iload_n (z := 1) (by decide +kernel) rfl, ?_⟩
  exact trivial
set_option maxHeartbeats 4000000 in
set_option maxRecDepth 100000 in
theorem mg_Z_clientAnswered_1 : ev_AllG (ev_Good l vc_L vt_L (gw_G b Ls xs z) prog_14_method_25_code 4 none my_Z_clientAnswered.name my_Z_clientAnswered.cls tb_T 1 25) (mk_Z_clientAnswered_1 z) := by
  refine ⟨ok_iload_n (z := 2) (by decide +kernel) rfl, ?_⟩
  refine ⟨ok_callV (ix := 254) hc_12 ms_Z_forget (tb_cwV tw_1213 tw_1215 tv_43 tw_11 tw_1216 (by decide +kernel) (by decide) (by decide)) (by decide +kernel), ?_⟩
  refine ⟨ok_goto (off := 25) (by decide +kernel) (by decide), ?_⟩
  refine ⟨ok_aload_n (z := 0) (by decide +kernel) rfl, ?_⟩
  refine ⟨ok_getf (ix := 66) hc_12 (by decide) hi_12 tw_926 (Or.inl rfl) (by decide +kernel), ?_⟩
  refine ⟨ok_iload_n (z := 3) (by decide +kernel) rfl, ?_⟩
  refine ⟨ok_iconst (z := 2) (by decide +kernel) (by decide +kernel), ?_⟩
  refine ⟨ok_iast rfl (by decide +kernel), ?_⟩
  refine ⟨ok_aload_n (z := 0) (by decide +kernel) rfl, ?_⟩
  refine ⟨ok_iconst (z := 2) (by decide +kernel) (by decide +kernel), ?_⟩
  refine ⟨ok_iload_n (z := 1) (by decide +kernel) rfl, ?_⟩
  refine ⟨ok_imul (by decide +kernel), ?_⟩
  refine ⟨ok_bipush (z := 6) (by decide +kernel) (by decide +kernel), ?_⟩
  refine ⟨ok_aload_n (z := 0) (by decide +kernel) rfl, ?_⟩
  refine ⟨ok_getf (ix := 206) hc_12 (by decide) hi_12 tw_911 (Or.inl rfl) (by decide +kernel), ?_⟩
  refine ⟨ok_iconst (z := 0) (by decide +kernel) (by decide +kernel), ?_⟩
  refine ⟨ok_callV (ix := 198) hc_12 ms_Z_send (tb_cwV tw_1137 tw_1139 tv_31 tw_11 tw_1140 (by decide +kernel) (by decide) (by decide)) (by decide +kernel), ?_⟩
  refine ⟨ok_pop (by decide +kernel), ?_⟩
  refine ⟨ok_vret rfl (by decide +kernel), ?_⟩
  exact trivial
theorem mg_Z_clientAnswered : ev_AllG (ev_Good l vc_L vt_L (gw_G b Ls xs z) prog_14_method_25_code 4 none my_Z_clientAnswered.name my_Z_clientAnswered.cls tb_T 1 25) (mk_Z_clientAnswered z) := ev_AllG.app mg_Z_clientAnswered_0 (mg_Z_clientAnswered_1)
theorem ms_Z_clientAnswered : ev_Met l vc_L vt_L (gw_G b Ls xs z) my_Z_clientAnswered (Cond.code my_Z_clientAnswered prog_14_method_25_code 4 none :: tb_T) 1 25 (mf_Z_clientAnswered z) := ev_sound (by decide +kernel) mg_Z_clientAnswered
def my_Z_clientGets : MethodName := ⟨"MessageHubModel", "clientGets", "(I)V"⟩
def mk_Z_clientGets_0 (z : Nat × Nat) : ev_C := [(0, ev_fn (ev_aload 0 1)), (1, ev_fn (ev_getf 12 12 4)), (4, ev_fn (ev_ci 2 5)), (5, ev_fn (ev_icmpne 16 8)), (8, ev_fn (ev_aload 0 9)), (9, ev_fn (ev_iload 1 10)), (10, ev_callR 12 (mf_Z_greeted z) 2 13), (13, ev_fn (ev_goto 189)), (16, ev_fn (ev_aload 0 17)), (17, ev_fn (ev_getf 12 12 20)), (20, ev_fn (ev_ci 3 21)), (21, ev_fn (ev_icmpne 120 24)), (24, ev_fn (ev_ci 9 26)), (26, ev_fn (ev_iload 1 27)), (27, ev_fn (ev_imul 28)), (28, ev_fn (ev_aload 0 29)), (29, ev_fn (ev_getf 12 13 32)), (32, ev_fn (ev_iadd 33)), (33, ev_fn (ev_istore 2 34)), (34, ev_fn (ev_aload 0 35)), (35, ev_fn (ev_getf 12 15 38)), (38, ev_fn (ev_ci 2 39)), (39, ev_fn (ev_icmplt 51 42)), (42, ev_fn (ev_aload 0 43)), (43, ev_fn (ev_getf 12 30 46)), (46, ev_fn (ev_iload 2 47)), (47, ev_fn (ev_zald 48)), (48, ev_fn (ev_ifne 56 51)), (51, ev_fn (ev_aload 0 52)), (52, ev_fn (ev_iload 1 53)), (53, ev_callR 12 (mf_Z_inboxed z) 2 56), (56, ev_fn (ev_aload 0 57)), (57, ev_fn (ev_getf 12 30 60)), (60, ev_fn (ev_iload 2 61)), (61, ev_fn (ev_aload 0 62)), (62, ev_fn (ev_getf 12 30 65)), (65, ev_fn (ev_iload 2 66)), (66, ev_fn (ev_zald 67)), (67, ev_fn (ev_ifne 78 70)), (70, ev_fn (ev_aload 0 71)), (71, ev_fn (ev_getf 12 15 74)), (74, ev_fn (ev_ci 2 75)), (75, ev_fn (ev_icmpne 82 78)), (78, ev_fn (ev_ci 1 79)), (79, ev_fn (ev_goto 83)), (82, ev_fn (ev_ci 0 83)), (83, ev_fn (ev_zast 84)), (84, ev_fn (ev_aload 0 85)), (85, ev_fn (ev_getf 12 15 88)), (88, ev_fn (ev_ifle 117 91)), (91, ev_fn (ev_aload 0 92)), (92, ev_fn (ev_ci 2 93)), (93, ev_fn (ev_iload 1 94)), (94, ev_fn (ev_imul 95)), (95, ev_fn (ev_aload 0 96)), (96, ev_fn (ev_getf 12 15 99)), (99, ev_fn (ev_ci 1 100)), (100, ev_fn (ev_icmpne 107 103)), (103, ev_fn (ev_ci 4 104)), (104, ev_fn (ev_goto 108))]
def mk_Z_clientGets_1 (z : Nat × Nat) : ev_C := [(107, ev_fn (ev_ci 5 108)), (108, ev_fn (ev_aload 0 109)), (109, ev_fn (ev_getf 12 13 112)), (112, ev_fn (ev_ci 0 113)), (113, ev_callR 12 (mf_Z_send z) 5 116), (116, ev_fn (ev_pop 117)), (117, ev_fn (ev_goto 189)), (120, ev_fn (ev_aload 0 121)), (121, ev_fn (ev_getf 12 12 124)), (124, ev_fn (ev_ci 6 126)), (126, ev_fn (ev_icmpne 162 129)), (129, ev_fn (ev_aload 0 130)), (130, ev_fn (ev_getf 12 30 133)), (133, ev_fn (ev_ci 9 135)), (135, ev_fn (ev_iload 1 136)), (136, ev_fn (ev_imul 137)), (137, ev_fn (ev_aload 0 138)), (138, ev_fn (ev_getf 12 13 141)), (141, ev_fn (ev_iadd 142)), (142, ev_fn (ev_ci 0 143)), (143, ev_fn (ev_zast 144)), (144, ev_fn (ev_aload 0 145)), (145, ev_fn (ev_ci 2 146)), (146, ev_fn (ev_iload 1 147)), (147, ev_fn (ev_imul 148)), (148, ev_fn (ev_ci 7 150)), (150, ev_fn (ev_aload 0 151)), (151, ev_fn (ev_getf 12 13 154)), (154, ev_fn (ev_ci 0 155)), (155, ev_callR 12 (mf_Z_send z) 5 158), (158, ev_fn (ev_pop 159)), (159, ev_fn (ev_goto 189)), (162, ev_fn (ev_aload 0 163)), (163, ev_fn (ev_getf 12 12 166)), (166, ev_fn (ev_ci 4 167)), (167, ev_fn (ev_icmplt 189 170)), (170, ev_fn (ev_aload 0 171)), (171, ev_fn (ev_getf 12 12 174)), (174, ev_fn (ev_ci 7 176)), (176, ev_fn (ev_icmpgt 189 179)), (179, ev_fn (ev_aload 0 180)), (180, ev_fn (ev_iload 1 181)), (181, ev_callR 12 (mf_Z_clientAnswered z) 2 184), (184, ev_fn (ev_aload 0 185)), (185, ev_fn (ev_iload 1 186)), (186, ev_callR 12 (mf_Z_pumpClient z) 2 189), (189, ev_fn ev_vret)]
def mk_Z_clientGets (z : Nat × Nat) : ev_C := mk_Z_clientGets_0 z ++ (mk_Z_clientGets_1 z)
def mf_Z_clientGets (z : Nat × Nat) : ev_F := ev_met (mk_Z_clientGets z) 3
set_option maxHeartbeats 4000000 in
set_option maxRecDepth 100000 in
theorem mg_Z_clientGets_0 : ev_AllG (ev_Good l vc_L vt_L (gw_G b Ls xs z) prog_14_method_24_code 3 none my_Z_clientGets.name my_Z_clientGets.cls tb_T 5 121) (mk_Z_clientGets_0 z) := by
  refine ⟨ok_aload_n (z := 0) (by decide +kernel) rfl, ?_⟩
  refine ⟨ok_getf (ix := 202) hc_12 (by decide) hi_12 tw_910 (Or.inl rfl) (by decide +kernel), ?_⟩
  refine ⟨ok_iconst (z := 2) (by decide +kernel) (by decide +kernel), ?_⟩
  refine ⟨ok_icmpne (off := 11) (by decide +kernel) (by decide), ?_⟩
  refine ⟨ok_aload_n (z := 0) (by decide +kernel) rfl, ?_⟩
  refine ⟨ok_iload_n (z := 1) (by decide +kernel) rfl, ?_⟩
  refine ⟨ok_callV (ix := 262) hc_12 ms_Z_greeted (tb_cwV tw_1209 tw_1211 tv_42 tw_11 tw_1212 (by decide +kernel) (by decide) (by decide)) (by decide +kernel), ?_⟩
  refine ⟨ok_goto (off := 176) (by decide +kernel) (by decide), ?_⟩
  refine ⟨ok_aload_n (z := 0) (by decide +kernel) rfl, ?_⟩
  refine ⟨ok_getf (ix := 202) hc_12 (by decide) hi_12 tw_910 (Or.inl rfl) (by decide +kernel), ?_⟩
  refine ⟨ok_iconst (z := 3) (by decide +kernel) (by decide +kernel), ?_⟩
  refine ⟨ok_icmpne (off := 99) (by decide +kernel) (by decide), ?_⟩
  refine ⟨ok_bipush (z := 9) (by decide +kernel) (by decide +kernel), ?_⟩
  refine ⟨ok_iload_n (z := 1) (by decide +kernel) rfl, ?_⟩
  refine ⟨ok_imul (by decide +kernel), ?_⟩
  refine ⟨ok_aload_n (z := 0) (by decide +kernel) rfl, ?_⟩
  refine ⟨ok_getf (ix := 206) hc_12 (by decide) hi_12 tw_911 (Or.inl rfl) (by decide +kernel), ?_⟩
  refine ⟨ok_iadd (by decide +kernel), ?_⟩
  refine ⟨ok_istore_n (z := 2) (by decide) (by decide +kernel) rfl, ?_⟩
  refine ⟨ok_aload_n (z := 0) (by decide +kernel) rfl, ?_⟩
  refine ⟨ok_getf (ix := 212) hc_12 (by decide) hi_12 tw_913 (Or.inl rfl) (by decide +kernel), ?_⟩
  refine ⟨ok_iconst (z := 2) (by decide +kernel) (by decide +kernel), ?_⟩
  refine ⟨ok_icmplt (off := 12) (by decide +kernel) (by decide), ?_⟩
  refine ⟨ok_aload_n (z := 0) (by decide +kernel) rfl, ?_⟩
  refine ⟨ok_getf (ix := 72) hc_12 (by decide) hi_12 tw_928 (Or.inl rfl) (by decide +kernel), ?_⟩
  refine ⟨ok_iload_n (z := 2) (by decide +kernel) rfl, ?_⟩
  refine ⟨ok_zald rfl (by decide +kernel), ?_⟩
  refine ⟨ok_ifne (off := 8) (by decide +kernel) (by decide), ?_⟩
  refine ⟨ok_aload_n (z := 0) (by decide +kernel) rfl, ?_⟩
  refine ⟨ok_iload_n (z := 1) (by decide +kernel) rfl, ?_⟩
  refine ⟨ok_callV (ix := 265) hc_12 ms_Z_inboxed (tb_cwV tw_1217 tw_1219 tv_44 tw_11 tw_1220 (by decide +kernel) (by decide) (by decide)) (by decide +kernel), ?_⟩
  refine ⟨ok_aload_n (z := 0) (by decide +kernel) rfl, ?_⟩
  refine ⟨ok_getf (ix := 72) hc_12 (by decide) hi_12 tw_928 (Or.inl rfl) (by decide +kernel), ?_⟩
  refine ⟨ok_iload_n (z := 2) (by decide +kernel) rfl, ?_⟩
  refine ⟨ok_aload_n (z := 0) (by decide +kernel) rfl, ?_⟩
  refine ⟨ok_getf (ix := 72) hc_12 (by decide) hi_12 tw_928 (Or.inl rfl) (by decide +kernel), ?_⟩
  refine ⟨ok_iload_n (z := 2) (by decide +kernel) rfl, ?_⟩
  refine ⟨ok_zald rfl (by decide +kernel), ?_⟩
  refine ⟨ok_ifne (off := 11) (by decide +kernel) (by decide), ?_⟩
  refine ⟨ok_aload_n (z := 0) (by decide +kernel) rfl, ?_⟩
  refine ⟨ok_getf (ix := 212) hc_12 (by decide) hi_12 tw_913 (Or.inl rfl) (by decide +kernel), ?_⟩
  refine ⟨ok_iconst (z := 2) (by decide +kernel) (by decide +kernel), ?_⟩
  refine ⟨ok_icmpne (off := 7) (by decide +kernel) (by decide), ?_⟩
  refine ⟨ok_iconst (z := 1) (by decide +kernel) (by decide +kernel), ?_⟩
  refine ⟨ok_goto (off := 4) (by decide +kernel) (by decide), ?_⟩
  refine ⟨ok_iconst (z := 0) (by decide +kernel) (by decide +kernel), ?_⟩
  refine ⟨ok_zast rfl (by decide +kernel), ?_⟩
  refine ⟨ok_aload_n (z := 0) (by decide +kernel) rfl, ?_⟩
  refine ⟨ok_getf (ix := 212) hc_12 (by decide) hi_12 tw_913 (Or.inl rfl) (by decide +kernel), ?_⟩
  refine ⟨ok_ifle (off := 29) (by decide +kernel) (by decide), ?_⟩
  refine ⟨ok_aload_n (z := 0) (by decide +kernel) rfl, ?_⟩
  refine ⟨ok_iconst (z := 2) (by decide +kernel) (by decide +kernel), ?_⟩
  refine ⟨ok_iload_n (z := 1) (by decide +kernel) rfl, ?_⟩
  refine ⟨ok_imul (by decide +kernel), ?_⟩
  refine ⟨ok_aload_n (z := 0) (by decide +kernel) rfl, ?_⟩
  refine ⟨ok_getf (ix := 212) hc_12 (by decide) hi_12 tw_913 (Or.inl rfl) (by decide +kernel), ?_⟩
  refine ⟨ok_iconst (z := 1) (by decide +kernel) (by decide +kernel), ?_⟩
  refine ⟨ok_icmpne (off := 7) (by decide +kernel) (by decide), ?_⟩
  refine ⟨ok_iconst (z := 4) (by decide +kernel) (by decide +kernel), ?_⟩
  refine ⟨ok_goto (off := 4) (by decide +kernel) (by decide), ?_⟩
  exact trivial
set_option maxHeartbeats 4000000 in
set_option maxRecDepth 100000 in
theorem mg_Z_clientGets_1 : ev_AllG (ev_Good l vc_L vt_L (gw_G b Ls xs z) prog_14_method_24_code 3 none my_Z_clientGets.name my_Z_clientGets.cls tb_T 5 121) (mk_Z_clientGets_1 z) := by
  refine ⟨ok_iconst (z := 5) (by decide +kernel) (by decide +kernel), ?_⟩
  refine ⟨ok_aload_n (z := 0) (by decide +kernel) rfl, ?_⟩
  refine ⟨ok_getf (ix := 206) hc_12 (by decide) hi_12 tw_911 (Or.inl rfl) (by decide +kernel), ?_⟩
  refine ⟨ok_iconst (z := 0) (by decide +kernel) (by decide +kernel), ?_⟩
  refine ⟨ok_callV (ix := 198) hc_12 ms_Z_send (tb_cwV tw_1137 tw_1139 tv_31 tw_11 tw_1140 (by decide +kernel) (by decide) (by decide)) (by decide +kernel), ?_⟩
  refine ⟨ok_pop (by decide +kernel), ?_⟩
  refine ⟨ok_goto (off := 72) (by decide +kernel) (by decide), ?_⟩
  refine ⟨ok_aload_n (z := 0) (by decide +kernel) rfl, ?_⟩
  refine ⟨ok_getf (ix := 202) hc_12 (by decide) hi_12 tw_910 (Or.inl rfl) (by decide +kernel), ?_⟩
  refine ⟨ok_bipush (z := 6) (by decide +kernel) (by decide +kernel), ?_⟩
  refine ⟨ok_icmpne (off := 36) (by decide +kernel) (by decide), ?_⟩
  refine ⟨ok_aload_n (z := 0) (by decide +kernel) rfl, ?_⟩
  refine ⟨ok_getf (ix := 72) hc_12 (by decide) hi_12 tw_928 (Or.inl rfl) (by decide +kernel), ?_⟩
  refine ⟨ok_bipush (z := 9) (by decide +kernel) (by decide +kernel), ?_⟩
  refine ⟨ok_iload_n (z := 1) (by decide +kernel) rfl, ?_⟩
  refine ⟨ok_imul (by decide +kernel), ?_⟩
  refine ⟨ok_aload_n (z := 0) (by decide +kernel) rfl, ?_⟩
  refine ⟨ok_getf (ix := 206) hc_12 (by decide) hi_12 tw_911 (Or.inl rfl) (by decide +kernel), ?_⟩
  refine ⟨ok_iadd (by decide +kernel), ?_⟩
  refine ⟨ok_iconst (z := 0) (by decide +kernel) (by decide +kernel), ?_⟩
  refine ⟨ok_zast rfl (by decide +kernel), ?_⟩
  refine ⟨ok_aload_n (z := 0) (by decide +kernel) rfl, ?_⟩
  refine ⟨ok_iconst (z := 2) (by decide +kernel) (by decide +kernel), ?_⟩
  refine ⟨ok_iload_n (z := 1) (by decide +kernel) rfl, ?_⟩
  refine ⟨ok_imul (by decide +kernel), ?_⟩
  refine ⟨ok_bipush (z := 7) (by decide +kernel) (by decide +kernel), ?_⟩
  refine ⟨ok_aload_n (z := 0) (by decide +kernel) rfl, ?_⟩
  refine ⟨ok_getf (ix := 206) hc_12 (by decide) hi_12 tw_911 (Or.inl rfl) (by decide +kernel), ?_⟩
  refine ⟨ok_iconst (z := 0) (by decide +kernel) (by decide +kernel), ?_⟩
  refine ⟨ok_callV (ix := 198) hc_12 ms_Z_send (tb_cwV tw_1137 tw_1139 tv_31 tw_11 tw_1140 (by decide +kernel) (by decide) (by decide)) (by decide +kernel), ?_⟩
  refine ⟨ok_pop (by decide +kernel), ?_⟩
  refine ⟨ok_goto (off := 30) (by decide +kernel) (by decide), ?_⟩
  refine ⟨ok_aload_n (z := 0) (by decide +kernel) rfl, ?_⟩
  refine ⟨ok_getf (ix := 202) hc_12 (by decide) hi_12 tw_910 (Or.inl rfl) (by decide +kernel), ?_⟩
  refine ⟨ok_iconst (z := 4) (by decide +kernel) (by decide +kernel), ?_⟩
  refine ⟨ok_icmplt (off := 22) (by decide +kernel) (by decide), ?_⟩
  refine ⟨ok_aload_n (z := 0) (by decide +kernel) rfl, ?_⟩
  refine ⟨ok_getf (ix := 202) hc_12 (by decide) hi_12 tw_910 (Or.inl rfl) (by decide +kernel), ?_⟩
  refine ⟨ok_bipush (z := 7) (by decide +kernel) (by decide +kernel), ?_⟩
  refine ⟨ok_icmpgt (off := 13) (by decide +kernel) (by decide), ?_⟩
  refine ⟨ok_aload_n (z := 0) (by decide +kernel) rfl, ?_⟩
  refine ⟨ok_iload_n (z := 1) (by decide +kernel) rfl, ?_⟩
  refine ⟨ok_callV (ix := 268) hc_12 ms_Z_clientAnswered (tb_cwV tw_1221 tw_1223 tv_45 tw_11 tw_1224 (by decide +kernel) (by decide) (by decide)) (by decide +kernel), ?_⟩
  refine ⟨ok_aload_n (z := 0) (by decide +kernel) rfl, ?_⟩
  refine ⟨ok_iload_n (z := 1) (by decide +kernel) rfl, ?_⟩
  refine ⟨ok_callV (ix := 258) hc_12 ms_Z_pumpClient (tb_cwV tw_1181 tw_1183 tv_36 tw_11 tw_1184 (by decide +kernel) (by decide) (by decide)) (by decide +kernel), ?_⟩
  refine ⟨ok_vret rfl (by decide +kernel), ?_⟩
  exact trivial
theorem mg_Z_clientGets : ev_AllG (ev_Good l vc_L vt_L (gw_G b Ls xs z) prog_14_method_24_code 3 none my_Z_clientGets.name my_Z_clientGets.cls tb_T 5 121) (mk_Z_clientGets z) := ev_AllG.app mg_Z_clientGets_0 (mg_Z_clientGets_1)
theorem ms_Z_clientGets : ev_Met l vc_L vt_L (gw_G b Ls xs z) my_Z_clientGets (Cond.code my_Z_clientGets prog_14_method_24_code 3 none :: tb_T) 5 121 (mf_Z_clientGets z) := ev_sound (by decide +kernel) mg_Z_clientGets
def my_Z_endSession : MethodName := ⟨"MessageHubModel", "endSession", "(I)V"⟩
def mk_Z_endSession (z : Nat × Nat) : ev_C := [(0, ev_fn (ev_aload 0 1)), (1, ev_fn (ev_getf 12 42 4)), (4, ev_fn (ev_iload 1 5)), (5, ev_fn (ev_ci 0 6)), (6, ev_fn (ev_zast 7)), (7, ev_fn (ev_aload 0 8)), (8, ev_fn (ev_getf 12 43 11)), (11, ev_fn (ev_iload 1 12)), (12, ev_fn (ev_ci 0 13)), (13, ev_fn (ev_iast 14)), (14, ev_fn (ev_aload 0 15)), (15, ev_fn (ev_getf 12 47 18)), (18, ev_fn (ev_iload 1 19)), (19, ev_fn (ev_ci 0 20)), (20, ev_fn (ev_iast 21)), (21, ev_fn (ev_aload 0 22)), (22, ev_fn (ev_getf 12 48 25)), (25, ev_fn (ev_iload 1 26)), (26, ev_fn (ev_ci 0 27)), (27, ev_fn (ev_iast 28)), (28, ev_fn (ev_ci 0 29)), (29, ev_fn (ev_istore 2 30)), (30, ev_fn (ev_iload 2 31)), (31, ev_fn (ev_ci 9 33)), (33, ev_fn (ev_icmpge 54 36)), (36, ev_fn (ev_aload 0 37)), (37, ev_fn (ev_getf 12 55 40)), (40, ev_fn (ev_ci 9 42)), (42, ev_fn (ev_iload 1 43)), (43, ev_fn (ev_imul 44)), (44, ev_fn (ev_iload 2 45)), (45, ev_fn (ev_iadd 46)), (46, ev_fn (ev_ci 0 47)), (47, ev_fn (ev_zast 48)), (48, ev_fn (ev_iinc 2 1 51)), (51, ev_fn (ev_goto 30)), (54, ev_fn ev_vret)]
def mf_Z_endSession (z : Nat × Nat) : ev_F := ev_met (mk_Z_endSession z) 3
set_option maxHeartbeats 4000000 in
set_option maxRecDepth 100000 in
theorem mg_Z_endSession : ev_AllG (ev_Good l vc_L vt_L (gw_G b Ls xs z) prog_14_method_26_code 3 none my_Z_endSession.name my_Z_endSession.cls tb_T 0 0) (mk_Z_endSession z) := by
  refine ⟨ok_aload_n (z := 0) (by decide +kernel) rfl, ?_⟩
  refine ⟨ok_getf (ix := 108) hc_12 (by decide) hi_12 tw_940 (Or.inl rfl) (by decide +kernel), ?_⟩
  refine ⟨ok_iload_n (z := 1) (by decide +kernel) rfl, ?_⟩
  refine ⟨ok_iconst (z := 0) (by decide +kernel) (by decide +kernel), ?_⟩
  refine ⟨ok_zast rfl (by decide +kernel), ?_⟩
  refine ⟨ok_aload_n (z := 0) (by decide +kernel) rfl, ?_⟩
  refine ⟨ok_getf (ix := 111) hc_12 (by decide) hi_12 tw_941 (Or.inl rfl) (by decide +kernel), ?_⟩
  refine ⟨ok_iload_n (z := 1) (by decide +kernel) rfl, ?_⟩
  refine ⟨ok_iconst (z := 0) (by decide +kernel) (by decide +kernel), ?_⟩
  refine ⟨ok_iast rfl (by decide +kernel), ?_⟩
  refine ⟨ok_aload_n (z := 0) (by decide +kernel) rfl, ?_⟩
  refine ⟨ok_getf (ix := 123) hc_12 (by decide) hi_12 tw_945 (Or.inl rfl) (by decide +kernel), ?_⟩
  refine ⟨ok_iload_n (z := 1) (by decide +kernel) rfl, ?_⟩
  refine ⟨ok_iconst (z := 0) (by decide +kernel) (by decide +kernel), ?_⟩
  refine ⟨ok_iast rfl (by decide +kernel), ?_⟩
  refine ⟨ok_aload_n (z := 0) (by decide +kernel) rfl, ?_⟩
  refine ⟨ok_getf (ix := 126) hc_12 (by decide) hi_12 tw_946 (Or.inl rfl) (by decide +kernel), ?_⟩
  refine ⟨ok_iload_n (z := 1) (by decide +kernel) rfl, ?_⟩
  refine ⟨ok_iconst (z := 0) (by decide +kernel) (by decide +kernel), ?_⟩
  refine ⟨ok_iast rfl (by decide +kernel), ?_⟩
  refine ⟨ok_iconst (z := 0) (by decide +kernel) (by decide +kernel), ?_⟩
  refine ⟨ok_istore_n (z := 2) (by decide) (by decide +kernel) rfl, ?_⟩
  refine ⟨ok_iload_n (z := 2) (by decide +kernel) rfl, ?_⟩
  refine ⟨ok_bipush (z := 9) (by decide +kernel) (by decide +kernel), ?_⟩
  refine ⟨ok_icmpge (off := 21) (by decide +kernel) (by decide), ?_⟩
  refine ⟨ok_aload_n (z := 0) (by decide +kernel) rfl, ?_⟩
  refine ⟨ok_getf (ix := 147) hc_12 (by decide) hi_12 tw_953 (Or.inl rfl) (by decide +kernel), ?_⟩
  refine ⟨ok_bipush (z := 9) (by decide +kernel) (by decide +kernel), ?_⟩
  refine ⟨ok_iload_n (z := 1) (by decide +kernel) rfl, ?_⟩
  refine ⟨ok_imul (by decide +kernel), ?_⟩
  refine ⟨ok_iload_n (z := 2) (by decide +kernel) rfl, ?_⟩
  refine ⟨ok_iadd (by decide +kernel), ?_⟩
  refine ⟨ok_iconst (z := 0) (by decide +kernel) (by decide +kernel), ?_⟩
  refine ⟨ok_zast rfl (by decide +kernel), ?_⟩
  refine ⟨ok_iinc (z := 1) (by decide) (by decide +kernel) (by decide +kernel), ?_⟩
  refine ⟨ok_goto (off := (-21)) (by decide +kernel) (by decide), ?_⟩
  refine ⟨ok_vret rfl (by decide +kernel), ?_⟩
  exact trivial
theorem ms_Z_endSession : ev_Met l vc_L vt_L (gw_G b Ls xs z) my_Z_endSession (Cond.code my_Z_endSession prog_14_method_26_code 3 none :: tb_T) 0 0 (mf_Z_endSession z) := ev_sound (by decide +kernel) mg_Z_endSession
def my_Z_wants : MethodName := ⟨"MessageHubModel", "wants", "(IIIJ)Z"⟩
def mk_Z_wants (z : Nat × Nat) : ev_C := [(0, ev_fn (ev_ci 4 1)), (1, ev_fn (ev_iload 1 2)), (2, ev_fn (ev_imul 3)), (3, ev_fn (ev_iload 2 4)), (4, ev_fn (ev_iadd 5)), (5, ev_fn (ev_istore 6 7)), (7, ev_fn (ev_aload 0 8)), (8, ev_fn (ev_getf 12 42 11)), (11, ev_fn (ev_iload 1 12)), (12, ev_fn (ev_zald 13)), (13, ev_fn (ev_ifeq 61 16)), (16, ev_fn (ev_iload 2 17)), (17, ev_fn (ev_aload 0 18)), (18, ev_fn (ev_getf 12 43 21)), (21, ev_fn (ev_iload 1 22)), (22, ev_fn (ev_iald 23)), (23, ev_fn (ev_icmpge 61 26)), (26, ev_fn (ev_aload 0 27)), (27, ev_fn (ev_getf 12 46 30)), (30, ev_fn (ev_iload 6 32)), (32, ev_fn (ev_zald 33)), (33, ev_fn (ev_ifeq 41 36)), (36, ev_fn (ev_iload 1 37)), (37, ev_fn (ev_iload 3 38)), (38, ev_fn (ev_icmpeq 61 41)), (41, ev_fn (ev_aload 0 42)), (42, ev_fn (ev_aload 0 43)), (43, ev_fn (ev_getf 12 44 46)), (46, ev_fn (ev_iload 6 48)), (48, ev_fn (ev_lald 49)), (49, ev_fn (ev_lload 4 51)), (51, ev_callR 12 (mf_Z_fits z) 3 54), (54, ev_fn (ev_ifeq 61 57)), (57, ev_fn (ev_ci 1 58)), (58, ev_fn (ev_goto 62)), (61, ev_fn (ev_ci 0 62)), (62, ev_fn (ev_zret .boolean))]
def mf_Z_wants (z : Nat × Nat) : ev_F := ev_met (mk_Z_wants z) 7
set_option maxHeartbeats 4000000 in
set_option maxRecDepth 100000 in
theorem mg_Z_wants : ev_AllG (ev_Good l vc_L vt_L (gw_G b Ls xs z) prog_14_method_32_code 7 (some .boolean) my_Z_wants.name my_Z_wants.cls tb_T 2 59) (mk_Z_wants z) := by
  refine ⟨ok_iconst (z := 4) (by decide +kernel) (by decide +kernel), ?_⟩
  refine ⟨ok_iload_n (z := 1) (by decide +kernel) rfl, ?_⟩
  refine ⟨ok_imul (by decide +kernel), ?_⟩
  refine ⟨ok_iload_n (z := 2) (by decide +kernel) rfl, ?_⟩
  refine ⟨ok_iadd (by decide +kernel), ?_⟩
  refine ⟨ok_istore (by decide) (by decide +kernel), ?_⟩
  refine ⟨ok_aload_n (z := 0) (by decide +kernel) rfl, ?_⟩
  refine ⟨ok_getf (ix := 108) hc_12 (by decide) hi_12 tw_940 (Or.inl rfl) (by decide +kernel), ?_⟩
  refine ⟨ok_iload_n (z := 1) (by decide +kernel) rfl, ?_⟩
  refine ⟨ok_zald rfl (by decide +kernel), ?_⟩
  refine ⟨ok_ifeq (off := 48) (by decide +kernel) (by decide), ?_⟩
  refine ⟨ok_iload_n (z := 2) (by decide +kernel) rfl, ?_⟩
  refine ⟨ok_aload_n (z := 0) (by decide +kernel) rfl, ?_⟩
  refine ⟨ok_getf (ix := 111) hc_12 (by decide) hi_12 tw_941 (Or.inl rfl) (by decide +kernel), ?_⟩
  refine ⟨ok_iload_n (z := 1) (by decide +kernel) rfl, ?_⟩
  refine ⟨ok_iald rfl (by decide +kernel), ?_⟩
  refine ⟨ok_icmpge (off := 38) (by decide +kernel) (by decide), ?_⟩
  refine ⟨ok_aload_n (z := 0) (by decide +kernel) rfl, ?_⟩
  refine ⟨ok_getf (ix := 120) hc_12 (by decide) hi_12 tw_944 (Or.inl rfl) (by decide +kernel), ?_⟩
  refine ⟨ok_iload (by decide +kernel), ?_⟩
  refine ⟨ok_zald rfl (by decide +kernel), ?_⟩
  refine ⟨ok_ifeq (off := 8) (by decide +kernel) (by decide), ?_⟩
  refine ⟨ok_iload_n (z := 1) (by decide +kernel) rfl, ?_⟩
  refine ⟨ok_iload_n (z := 3) (by decide +kernel) rfl, ?_⟩
  refine ⟨ok_icmpeq (off := 23) (by decide +kernel) (by decide), ?_⟩
  refine ⟨ok_aload_n (z := 0) (by decide +kernel) rfl, ?_⟩
  refine ⟨ok_aload_n (z := 0) (by decide +kernel) rfl, ?_⟩
  refine ⟨ok_getf (ix := 114) hc_12 (by decide) hi_12 tw_942 (Or.inl rfl) (by decide +kernel), ?_⟩
  refine ⟨ok_iload (by decide +kernel), ?_⟩
  refine ⟨ok_lald rfl (by decide +kernel), ?_⟩
  refine ⟨ok_lload (by decide +kernel), ?_⟩
  refine ⟨ok_callV (ix := 194) hc_12 ms_Z_fits (tb_cwV tw_1115 tw_1117 tv_30 tw_11 tw_1118 (by decide +kernel) (by decide) (by decide)) (by decide +kernel), ?_⟩
  refine ⟨ok_ifeq (off := 7) (by decide +kernel) (by decide), ?_⟩
  refine ⟨ok_iconst (z := 1) (by decide +kernel) (by decide +kernel), ?_⟩
  refine ⟨ok_goto (off := 4) (by decide +kernel) (by decide), ?_⟩
  refine ⟨ok_iconst (z := 0) (by decide +kernel) (by decide +kernel), ?_⟩
  refine ⟨ok_zret rfl (by decide +kernel), ?_⟩
  exact trivial
theorem ms_Z_wants : ev_Met l vc_L vt_L (gw_G b Ls xs z) my_Z_wants (Cond.code my_Z_wants prog_14_method_32_code 7 (some .boolean) :: tb_T) 2 59 (mf_Z_wants z) := ev_sound (by decide +kernel) mg_Z_wants
def my_Z_lesser : MethodName := ⟨"MessageHubModel", "lesser", "(II)I"⟩
def mk_Z_lesser (z : Nat × Nat) : ev_C := [(0, ev_fn (ev_iload 0 1)), (1, ev_fn (ev_iload 1 2)), (2, ev_fn (ev_icmpge 9 5)), (5, ev_fn (ev_iload 0 6)), (6, ev_fn (ev_goto 10)), (9, ev_fn (ev_iload 1 10)), (10, ev_fn ev_iret)]
def mf_Z_lesser (z : Nat × Nat) : ev_F := ev_met (mk_Z_lesser z) 2
set_option maxHeartbeats 4000000 in
set_option maxRecDepth 100000 in
theorem mg_Z_lesser : ev_AllG (ev_Good l vc_L vt_L (gw_G b Ls xs z) prog_14_method_33_code 2 (some .int) my_Z_lesser.name my_Z_lesser.cls tb_T 0 0) (mk_Z_lesser z) := by
  refine ⟨ok_iload_n (z := 0) (by decide +kernel) rfl, ?_⟩
  refine ⟨ok_iload_n (z := 1) (by decide +kernel) rfl, ?_⟩
  refine ⟨ok_icmpge (off := 7) (by decide +kernel) (by decide), ?_⟩
  refine ⟨ok_iload_n (z := 0) (by decide +kernel) rfl, ?_⟩
  refine ⟨ok_goto (off := 4) (by decide +kernel) (by decide), ?_⟩
  refine ⟨ok_iload_n (z := 1) (by decide +kernel) rfl, ?_⟩
  refine ⟨ok_iret rfl (by decide +kernel), ?_⟩
  exact trivial
theorem ms_Z_lesser : ev_Met l vc_L vt_L (gw_G b Ls xs z) my_Z_lesser (Cond.code my_Z_lesser prog_14_method_33_code 2 (some .int) :: tb_T) 0 0 (mf_Z_lesser z) := ev_sound (by decide +kernel) mg_Z_lesser
def my_Z_join : MethodName := ⟨"MessageHubModel", "join", "(IJIIZ)V"⟩
def mk_Z_join (z : Nat × Nat) : ev_C := [(0, ev_fn (ev_ci 8 2)), (2, ev_fn (ev_iload 1 3)), (3, ev_fn (ev_imul 4)), (4, ev_fn (ev_aload 0 5)), (5, ev_fn (ev_getf 12 47 8)), (8, ev_fn (ev_iload 1 9)), (9, ev_fn (ev_iald 10)), (10, ev_fn (ev_iadd 11)), (11, ev_fn (ev_aload 0 12)), (12, ev_fn (ev_getf 12 48 15)), (15, ev_fn (ev_iload 1 16)), (16, ev_fn (ev_iald 17)), (17, ev_fn (ev_iadd 18)), (18, ev_fn (ev_istore 7 20)), (20, ev_fn (ev_aload 0 21)), (21, ev_fn (ev_getf 12 49 24)), (24, ev_fn (ev_iload 7 26)), (26, ev_fn (ev_lload 2 27)), (27, ev_fn (ev_last 28)), (28, ev_fn (ev_aload 0 29)), (29, ev_fn (ev_getf 12 50 32)), (32, ev_fn (ev_iload 7 34)), (34, ev_fn (ev_iload 4 36)), (36, ev_fn (ev_iast 37)), (37, ev_fn (ev_aload 0 38)), (38, ev_fn (ev_getf 12 51 41)), (41, ev_fn (ev_iload 7 43)), (43, ev_fn (ev_iload 5 45)), (45, ev_fn (ev_iast 46)), (46, ev_fn (ev_aload 0 47)), (47, ev_fn (ev_getf 12 52 50)), (50, ev_fn (ev_iload 7 52)), (52, ev_fn (ev_iload 6 54)), (54, ev_fn (ev_zast 55)), (55, ev_fn (ev_aload 0 56)), (56, ev_fn (ev_getf 12 48 59)), (59, ev_fn (ev_iload 1 60)), (60, ev_fn (ev_dup2 61)), (61, ev_fn (ev_iald 62)), (62, ev_fn (ev_ci 1 63)), (63, ev_fn (ev_iadd 64)), (64, ev_fn (ev_iast 65)), (65, ev_fn ev_vret)]
def mf_Z_join (z : Nat × Nat) : ev_F := ev_met (mk_Z_join z) 8
set_option maxHeartbeats 4000000 in
set_option maxRecDepth 100000 in
theorem mg_Z_join : ev_AllG (ev_Good l vc_L vt_L (gw_G b Ls xs z) prog_14_method_28_code 8 none my_Z_join.name my_Z_join.cls tb_T 0 0) (mk_Z_join z) := by
  refine ⟨ok_bipush (z := 8) (by decide +kernel) (by decide +kernel), ?_⟩
  refine ⟨ok_iload_n (z := 1) (by decide +kernel) rfl, ?_⟩
  refine ⟨ok_imul (by decide +kernel), ?_⟩
  refine ⟨ok_aload_n (z := 0) (by decide +kernel) rfl, ?_⟩
  refine ⟨ok_getf (ix := 123) hc_12 (by decide) hi_12 tw_945 (Or.inl rfl) (by decide +kernel), ?_⟩
  refine ⟨ok_iload_n (z := 1) (by decide +kernel) rfl, ?_⟩
  refine ⟨ok_iald rfl (by decide +kernel), ?_⟩
  refine ⟨ok_iadd (by decide +kernel), ?_⟩
  refine ⟨ok_aload_n (z := 0) (by decide +kernel) rfl, ?_⟩
  refine ⟨ok_getf (ix := 126) hc_12 (by decide) hi_12 tw_946 (Or.inl rfl) (by decide +kernel), ?_⟩
  refine ⟨ok_iload_n (z := 1) (by decide +kernel) rfl, ?_⟩
  refine ⟨ok_iald rfl (by decide +kernel), ?_⟩
  refine ⟨ok_iadd (by decide +kernel), ?_⟩
  refine ⟨ok_istore (by decide) (by decide +kernel), ?_⟩
  refine ⟨ok_aload_n (z := 0) (by decide +kernel) rfl, ?_⟩
  refine ⟨ok_getf (ix := 129) hc_12 (by decide) hi_12 tw_947 (Or.inl rfl) (by decide +kernel), ?_⟩
  refine ⟨ok_iload (by decide +kernel), ?_⟩
  refine ⟨ok_lload_n (z := 2) (by decide +kernel) rfl, ?_⟩
  refine ⟨ok_last rfl (by decide +kernel), ?_⟩
  refine ⟨ok_aload_n (z := 0) (by decide +kernel) rfl, ?_⟩
  refine ⟨ok_getf (ix := 132) hc_12 (by decide) hi_12 tw_948 (Or.inl rfl) (by decide +kernel), ?_⟩
  refine ⟨ok_iload (by decide +kernel), ?_⟩
  refine ⟨ok_iload (by decide +kernel), ?_⟩
  refine ⟨ok_iast rfl (by decide +kernel), ?_⟩
  refine ⟨ok_aload_n (z := 0) (by decide +kernel) rfl, ?_⟩
  refine ⟨ok_getf (ix := 135) hc_12 (by decide) hi_12 tw_949 (Or.inl rfl) (by decide +kernel), ?_⟩
  refine ⟨ok_iload (by decide +kernel), ?_⟩
  refine ⟨ok_iload (by decide +kernel), ?_⟩
  refine ⟨ok_iast rfl (by decide +kernel), ?_⟩
  refine ⟨ok_aload_n (z := 0) (by decide +kernel) rfl, ?_⟩
  refine ⟨ok_getf (ix := 138) hc_12 (by decide) hi_12 tw_950 (Or.inl rfl) (by decide +kernel), ?_⟩
  refine ⟨ok_iload (by decide +kernel), ?_⟩
  refine ⟨ok_iload (by decide +kernel), ?_⟩
  refine ⟨ok_zast rfl (by decide +kernel), ?_⟩
  refine ⟨ok_aload_n (z := 0) (by decide +kernel) rfl, ?_⟩
  refine ⟨ok_getf (ix := 126) hc_12 (by decide) hi_12 tw_946 (Or.inl rfl) (by decide +kernel), ?_⟩
  refine ⟨ok_iload_n (z := 1) (by decide +kernel) rfl, ?_⟩
  refine ⟨ok_dup2 (by decide +kernel), ?_⟩
  refine ⟨ok_iald rfl (by decide +kernel), ?_⟩
  refine ⟨ok_iconst (z := 1) (by decide +kernel) (by decide +kernel), ?_⟩
  refine ⟨ok_iadd (by decide +kernel), ?_⟩
  refine ⟨ok_iast rfl (by decide +kernel), ?_⟩
  refine ⟨ok_vret rfl (by decide +kernel), ?_⟩
  exact trivial
theorem ms_Z_join : ev_Met l vc_L vt_L (gw_G b Ls xs z) my_Z_join (Cond.code my_Z_join prog_14_method_28_code 8 none :: tb_T) 0 0 (mf_Z_join z) := ev_sound (by decide +kernel) mg_Z_join
def my_Z_copy : MethodName := ⟨"MessageHubModel", "copy", "(IJIIZ)V"⟩
def mk_Z_copy (z : Nat × Nat) : ev_C := [(0, ev_fn (ev_iload 5 2)), (2, ev_fn (ev_ifle 20 5)), (5, ev_fn (ev_aload 0 6)), (6, ev_fn (ev_iload 1 7)), (7, ev_fn (ev_lload 2 8)), (8, ev_fn (ev_iload 4 10)), (10, ev_fn (ev_iload 5 12)), (12, ev_fn (ev_iload 6 14)), (14, ev_callR 12 (mf_Z_join z) 6 17), (17, ev_fn (ev_goto 70)), (20, ev_fn (ev_aload 0 21)), (21, ev_fn (ev_getf 12 36 24)), (24, ev_fn (ev_iload 1 25)), (25, ev_fn (ev_zald 26)), (26, ev_fn (ev_ifeq 70 29)), (29, ev_fn (ev_aload 0 30)), (30, ev_fn (ev_getf 12 0 33)), (33, ev_fn (ev_ci 2 34)), (34, ev_fn (ev_iload 1 35)), (35, ev_fn (ev_imul 36)), (36, ev_fn (ev_ci 1 37)), (37, ev_fn (ev_iadd 38)), (38, ev_fn (ev_iald 39)), (39, ev_fn (ev_ci 12 41)), (41, ev_fn (ev_icmpge 70 44)), (44, ev_fn (ev_aload 0 45)), (45, ev_fn (ev_ci 2 46)), (46, ev_fn (ev_iload 1 47)), (47, ev_fn (ev_imul 48)), (48, ev_fn (ev_ci 1 49)), (49, ev_fn (ev_iadd 50)), (50, ev_fn (ev_lload 2 51)), (51, ev_fn (ev_iload 4 53)), (53, ev_fn (ev_ci 0 54)), (54, ev_fn (ev_ci 0 55)), (55, ev_callR 12 (mf_Z_sendPublish z) 6 58), (58, ev_fn (ev_aload 0 59)), (59, ev_fn (ev_ci 2 60)), (60, ev_fn (ev_iload 1 61)), (61, ev_fn (ev_imul 62)), (62, ev_fn (ev_ci 1 63)), (63, ev_fn (ev_iadd 64)), (64, ev_fn (ev_ci 0 65)), (65, ev_fn (ev_iload 6 67)), (67, ev_callR 12 (mf_Z_marked z) 4 70), (70, ev_fn ev_vret)]
def mf_Z_copy (z : Nat × Nat) : ev_F := ev_met (mk_Z_copy z) 7
set_option maxHeartbeats 4000000 in
set_option maxRecDepth 100000 in
theorem mg_Z_copy : ev_AllG (ev_Good l vc_L vt_L (gw_G b Ls xs z) prog_14_method_29_code 7 none my_Z_copy.name my_Z_copy.cls tb_T 2 52) (mk_Z_copy z) := by
  refine ⟨ok_iload (by decide +kernel), ?_⟩
  refine ⟨ok_ifle (off := 18) (by decide +kernel) (by decide), ?_⟩
  refine ⟨ok_aload_n (z := 0) (by decide +kernel) rfl, ?_⟩
  refine ⟨ok_iload_n (z := 1) (by decide +kernel) rfl, ?_⟩
  refine ⟨ok_lload_n (z := 2) (by decide +kernel) rfl, ?_⟩
  refine ⟨ok_iload (by decide +kernel), ?_⟩
  refine ⟨ok_iload (by decide +kernel), ?_⟩
  refine ⟨ok_iload (by decide +kernel), ?_⟩
  refine ⟨ok_callV (ix := 284) hc_12 ms_Z_join (tb_cwV tw_1260 tw_1262 tv_54 tw_11 tw_1263 (by decide +kernel) (by decide) (by decide)) (by decide +kernel), ?_⟩
  refine ⟨ok_goto (off := 53) (by decide +kernel) (by decide), ?_⟩
  refine ⟨ok_aload_n (z := 0) (by decide +kernel) rfl, ?_⟩
  refine ⟨ok_getf (ix := 90) hc_12 (by decide) hi_12 tw_934 (Or.inl rfl) (by decide +kernel), ?_⟩
  refine ⟨ok_iload_n (z := 1) (by decide +kernel) rfl, ?_⟩
  refine ⟨ok_zald rfl (by decide +kernel), ?_⟩
  refine ⟨ok_ifeq (off := 44) (by decide +kernel) (by decide), ?_⟩
  refine ⟨ok_aload_n (z := 0) (by decide +kernel) rfl, ?_⟩
  refine ⟨ok_getf (ix := 7) hc_12 (by decide) hi_12 tw_898 (Or.inl rfl) (by decide +kernel), ?_⟩
  refine ⟨ok_iconst (z := 2) (by decide +kernel) (by decide +kernel), ?_⟩
  refine ⟨ok_iload_n (z := 1) (by decide +kernel) rfl, ?_⟩
  refine ⟨ok_imul (by decide +kernel), ?_⟩
  refine ⟨ok_iconst (z := 1) (by decide +kernel) (by decide +kernel), ?_⟩
  refine ⟨ok_iadd (by decide +kernel), ?_⟩
  refine ⟨ok_iald rfl (by decide +kernel), ?_⟩
  refine ⟨ok_bipush (z := 12) (by decide +kernel) (by decide +kernel), ?_⟩
  refine ⟨ok_icmpge (off := 29) (by decide +kernel) (by decide), ?_⟩
  refine ⟨ok_aload_n (z := 0) (by decide +kernel) rfl, ?_⟩
  refine ⟨ok_iconst (z := 2) (by decide +kernel) (by decide +kernel), ?_⟩
  refine ⟨ok_iload_n (z := 1) (by decide +kernel) rfl, ?_⟩
  refine ⟨ok_imul (by decide +kernel), ?_⟩
  refine ⟨ok_iconst (z := 1) (by decide +kernel) (by decide +kernel), ?_⟩
  refine ⟨ok_iadd (by decide +kernel), ?_⟩
  refine ⟨ok_lload_n (z := 2) (by decide +kernel) rfl, ?_⟩
  refine ⟨ok_iload (by decide +kernel), ?_⟩
  refine ⟨ok_iconst (z := 0) (by decide +kernel) (by decide +kernel), ?_⟩
  refine ⟨ok_iconst (z := 0) (by decide +kernel) (by decide +kernel), ?_⟩
  refine ⟨ok_callV (ix := 235) hc_12 ms_Z_sendPublish (tb_cwV tw_1173 tw_1175 tv_34 tw_11 tw_1176 (by decide +kernel) (by decide) (by decide)) (by decide +kernel), ?_⟩
  refine ⟨ok_aload_n (z := 0) (by decide +kernel) rfl, ?_⟩
  refine ⟨ok_iconst (z := 2) (by decide +kernel) (by decide +kernel), ?_⟩
  refine ⟨ok_iload_n (z := 1) (by decide +kernel) rfl, ?_⟩
  refine ⟨ok_imul (by decide +kernel), ?_⟩
  refine ⟨ok_iconst (z := 1) (by decide +kernel) (by decide +kernel), ?_⟩
  refine ⟨ok_iadd (by decide +kernel), ?_⟩
  refine ⟨ok_iconst (z := 0) (by decide +kernel) (by decide +kernel), ?_⟩
  refine ⟨ok_iload (by decide +kernel), ?_⟩
  refine ⟨ok_callV (ix := 239) hc_12 ms_Z_marked (tb_cwV tw_1177 tw_1179 tv_35 tw_11 tw_1180 (by decide +kernel) (by decide) (by decide)) (by decide +kernel), ?_⟩
  refine ⟨ok_vret rfl (by decide +kernel), ?_⟩
  exact trivial
theorem ms_Z_copy : ev_Met l vc_L vt_L (gw_G b Ls xs z) my_Z_copy (Cond.code my_Z_copy prog_14_method_29_code 7 none :: tb_T) 2 52 (mf_Z_copy z) := ev_sound (by decide +kernel) mg_Z_copy
def my_Z_keptPlace : MethodName := ⟨"MessageHubModel", "keptPlace", "(J)I"⟩
def mk_Z_keptPlace (z : Nat × Nat) : ev_C := [(0, ev_fn (ev_ci 0 1)), (1, ev_fn (ev_istore 3 2)), (2, ev_fn (ev_iload 3 3)), (3, ev_fn (ev_aload 0 4)), (4, ev_fn (ev_getf 12 58 7)), (7, ev_fn (ev_icmpge 29 10)), (10, ev_fn (ev_aload 0 11)), (11, ev_fn (ev_getf 12 59 14)), (14, ev_fn (ev_iload 3 15)), (15, ev_fn (ev_lald 16)), (16, ev_fn (ev_lload 1 17)), (17, ev_fn (ev_lcmp 18)), (18, ev_fn (ev_ifne 23 21)), (21, ev_fn (ev_iload 3 22)), (22, ev_fn ev_iret), (23, ev_fn (ev_iinc 3 1 26)), (26, ev_fn (ev_goto 2)), (29, ev_fn (ev_ci (-1) 30)), (30, ev_fn ev_iret)]
def mf_Z_keptPlace (z : Nat × Nat) : ev_F := ev_met (mk_Z_keptPlace z) 4
set_option maxHeartbeats 4000000 in
set_option maxRecDepth 100000 in
theorem mg_Z_keptPlace : ev_AllG (ev_Good l vc_L vt_L (gw_G b Ls xs z) prog_14_method_35_code 4 (some .int) my_Z_keptPlace.name my_Z_keptPlace.cls tb_T 0 0) (mk_Z_keptPlace z) := by
  refine ⟨ok_iconst (z := 0) (by decide +kernel) (by decide +kernel), ?_⟩
  refine ⟨ok_istore_n (z := 3) (by decide) (by decide +kernel) rfl, ?_⟩
  refine ⟨ok_iload_n (z := 3) (by decide +kernel) rfl, ?_⟩
  refine ⟨ok_aload_n (z := 0) (by decide +kernel) rfl, ?_⟩
  refine ⟨ok_getf (ix := 309) hc_12 (by decide) hi_12 tw_956 (Or.inl rfl) (by decide +kernel), ?_⟩
  refine ⟨ok_icmpge (off := 22) (by decide +kernel) (by decide), ?_⟩
  refine ⟨ok_aload_n (z := 0) (by decide +kernel) rfl, ?_⟩
  refine ⟨ok_getf (ix := 156) hc_12 (by decide) hi_12 tw_957 (Or.inl rfl) (by decide +kernel), ?_⟩
  refine ⟨ok_iload_n (z := 3) (by decide +kernel) rfl, ?_⟩
  refine ⟨ok_lald rfl (by decide +kernel), ?_⟩
  refine ⟨ok_lload_n (z := 1) (by decide +kernel) rfl, ?_⟩
  refine ⟨ok_lcmp (by decide +kernel), ?_⟩
  refine ⟨ok_ifne (off := 5) (by decide +kernel) (by decide), ?_⟩
  refine ⟨ok_iload_n (z := 3) (by decide +kernel) rfl, ?_⟩
  refine ⟨ok_iret rfl (by decide +kernel), ?_⟩
  refine ⟨ok_iinc (z := 1) (by decide) (by decide +kernel) (by decide +kernel), ?_⟩
  refine ⟨ok_goto (off := (-24)) (by decide +kernel) (by decide), ?_⟩
  refine ⟨ok_iconst (z := (-1)) (by decide +kernel) (by decide +kernel), ?_⟩
  refine ⟨ok_iret rfl (by decide +kernel), ?_⟩
  exact trivial
theorem ms_Z_keptPlace : ev_Met l vc_L vt_L (gw_G b Ls xs z) my_Z_keptPlace (Cond.code my_Z_keptPlace prog_14_method_35_code 4 (some .int) :: tb_T) 0 0 (mf_Z_keptPlace z) := ev_sound (by decide +kernel) mg_Z_keptPlace
def my_Z_retain : MethodName := ⟨"MessageHubModel", "retain", "(JII)V"⟩
def mk_Z_retain_0 (z : Nat × Nat) : ev_C := [(0, ev_fn (ev_aload 0 1)), (1, ev_fn (ev_lload 1 2)), (2, ev_callR 12 (mf_Z_keptPlace z) 2 5), (5, ev_fn (ev_istore 5 7)), (7, ev_fn (ev_iload 3 8)), (8, ev_fn (ev_ifne 93 11)), (11, ev_fn (ev_iload 5 13)), (13, ev_fn (ev_iflt 93 16)), (16, ev_fn (ev_aload 0 17)), (17, ev_fn (ev_dup 18)), (18, ev_fn (ev_getf 12 58 21)), (21, ev_fn (ev_ci 1 22)), (22, ev_fn (ev_isub 23)), (23, ev_fn (ev_putf 12 58 .int 26)), (26, ev_fn (ev_iload 5 28)), (28, ev_fn (ev_istore 6 30)), (30, ev_fn (ev_iload 6 32)), (32, ev_fn (ev_aload 0 33)), (33, ev_fn (ev_getf 12 58 36)), (36, ev_fn (ev_icmpge 93 39)), (39, ev_fn (ev_aload 0 40)), (40, ev_fn (ev_getf 12 59 43)), (43, ev_fn (ev_iload 6 45)), (45, ev_fn (ev_aload 0 46)), (46, ev_fn (ev_getf 12 59 49)), (49, ev_fn (ev_iload 6 51)), (51, ev_fn (ev_ci 1 52)), (52, ev_fn (ev_iadd 53)), (53, ev_fn (ev_lald 54)), (54, ev_fn (ev_last 55)), (55, ev_fn (ev_aload 0 56)), (56, ev_fn (ev_getf 12 60 59)), (59, ev_fn (ev_iload 6 61)), (61, ev_fn (ev_aload 0 62)), (62, ev_fn (ev_getf 12 60 65)), (65, ev_fn (ev_iload 6 67)), (67, ev_fn (ev_ci 1 68)), (68, ev_fn (ev_iadd 69)), (69, ev_fn (ev_iald 70)), (70, ev_fn (ev_iast 71)), (71, ev_fn (ev_aload 0 72)), (72, ev_fn (ev_getf 12 61 75)), (75, ev_fn (ev_iload 6 77)), (77, ev_fn (ev_aload 0 78)), (78, ev_fn (ev_getf 12 61 81)), (81, ev_fn (ev_iload 6 83)), (83, ev_fn (ev_ci 1 84)), (84, ev_fn (ev_iadd 85)), (85, ev_fn (ev_iald 86)), (86, ev_fn (ev_iast 87)), (87, ev_fn (ev_iinc 6 1 90)), (90, ev_fn (ev_goto 30)), (93, ev_fn (ev_iload 3 94)), (94, ev_fn (ev_ifeq 173 97)), (97, ev_fn (ev_iload 5 99)), (99, ev_fn (ev_ifge 110 102)), (102, ev_fn (ev_aload 0 103)), (103, ev_fn (ev_getf 12 58 106)), (106, ev_fn (ev_ci 4 107)), (107, ev_fn (ev_icmpge 173 110))]
def mk_Z_retain_1 (z : Nat × Nat) : ev_C := [(110, ev_fn (ev_iload 5 112)), (112, ev_fn (ev_iflt 120 115)), (115, ev_fn (ev_iload 5 117)), (117, ev_fn (ev_goto 124)), (120, ev_fn (ev_aload 0 121)), (121, ev_fn (ev_getf 12 58 124)), (124, ev_fn (ev_istore 6 126)), (126, ev_fn (ev_aload 0 127)), (127, ev_fn (ev_iload 5 129)), (129, ev_fn (ev_iflt 139 132)), (132, ev_fn (ev_aload 0 133)), (133, ev_fn (ev_getf 12 58 136)), (136, ev_fn (ev_goto 145)), (139, ev_fn (ev_aload 0 140)), (140, ev_fn (ev_getf 12 58 143)), (143, ev_fn (ev_ci 1 144)), (144, ev_fn (ev_iadd 145)), (145, ev_fn (ev_putf 12 58 .int 148)), (148, ev_fn (ev_aload 0 149)), (149, ev_fn (ev_getf 12 59 152)), (152, ev_fn (ev_iload 6 154)), (154, ev_fn (ev_lload 1 155)), (155, ev_fn (ev_last 156)), (156, ev_fn (ev_aload 0 157)), (157, ev_fn (ev_getf 12 60 160)), (160, ev_fn (ev_iload 6 162)), (162, ev_fn (ev_iload 3 163)), (163, ev_fn (ev_iast 164)), (164, ev_fn (ev_aload 0 165)), (165, ev_fn (ev_getf 12 61 168)), (168, ev_fn (ev_iload 6 170)), (170, ev_fn (ev_iload 4 172)), (172, ev_fn (ev_iast 173)), (173, ev_fn ev_vret)]
def mk_Z_retain (z : Nat × Nat) : ev_C := mk_Z_retain_0 z ++ (mk_Z_retain_1 z)
def mf_Z_retain (z : Nat × Nat) : ev_F := ev_met (mk_Z_retain z) 7
set_option maxHeartbeats 4000000 in
set_option maxRecDepth 100000 in
theorem mg_Z_retain_0 : ev_AllG (ev_Good l vc_L vt_L (gw_G b Ls xs z) prog_14_method_36_code 7 none my_Z_retain.name my_Z_retain.cls tb_T 1 23) (mk_Z_retain_0 z) := by
  refine ⟨ok_aload_n (z := 0) (by decide +kernel) rfl, ?_⟩
  refine ⟨ok_lload_n (z := 1) (by decide +kernel) rfl, ?_⟩
  refine ⟨ok_callV (ix := 312) hc_12 ms_Z_keptPlace (tb_cwV tw_1268 tw_1270 tv_56 tw_11 tw_1271 (by decide +kernel) (by decide) (by decide)) (by decide +kernel), ?_⟩
  refine ⟨ok_istore (by decide) (by decide +kernel), ?_⟩
  refine ⟨ok_iload_n (z := 3) (by decide +kernel) rfl, ?_⟩
  refine ⟨ok_ifne (off := 85) (by decide +kernel) (by decide), ?_⟩
  refine ⟨ok_iload (by decide +kernel), ?_⟩
  refine ⟨ok_iflt (off := 80) (by decide +kernel) (by decide), ?_⟩
  refine ⟨ok_aload_n (z := 0) (by decide +kernel) rfl, ?_⟩
  refine ⟨ok_dup (by decide +kernel), ?_⟩
  refine ⟨ok_getf (ix := 309) hc_12 (by decide) hi_12 tw_956 (Or.inl rfl) (by decide +kernel), ?_⟩
  refine ⟨ok_iconst (z := 1) (by decide +kernel) (by decide +kernel), ?_⟩
  refine ⟨ok_isub (by decide +kernel), ?_⟩
  refine ⟨ok_putf (ix := 309) hc_12 (by decide) hi_12 ht_12 hn_12 tw_956 (Or.inl rfl) rfl (by decide +kernel) (by decide +kernel), ?_⟩
  refine ⟨ok_iload (by decide +kernel), ?_⟩
  refine ⟨ok_istore (by decide) (by decide +kernel), ?_⟩
  refine ⟨ok_iload (by decide +kernel), ?_⟩
  refine ⟨ok_aload_n (z := 0) (by decide +kernel) rfl, ?_⟩
  refine ⟨ok_getf (ix := 309) hc_12 (by decide) hi_12 tw_956 (Or.inl rfl) (by decide +kernel), ?_⟩
  refine ⟨ok_icmpge (off := 57) (by decide +kernel) (by decide), ?_⟩
  refine ⟨ok_aload_n (z := 0) (by decide +kernel) rfl, ?_⟩
  refine ⟨ok_getf (ix := 156) hc_12 (by decide) hi_12 tw_957 (Or.inl rfl) (by decide +kernel), ?_⟩
  refine ⟨ok_iload (by decide +kernel), ?_⟩
  refine ⟨ok_aload_n (z := 0) (by decide +kernel) rfl, ?_⟩
  refine ⟨ok_getf (ix := 156) hc_12 (by decide) hi_12 tw_957 (Or.inl rfl) (by decide +kernel), ?_⟩
  refine ⟨ok_iload (by decide +kernel), ?_⟩
  refine ⟨ok_iconst (z := 1) (by decide +kernel) (by decide +kernel), ?_⟩
  refine ⟨ok_iadd (by decide +kernel), ?_⟩
  refine ⟨ok_lald rfl (by decide +kernel), ?_⟩
  refine ⟨ok_last rfl (by decide +kernel), ?_⟩
  refine ⟨ok_aload_n (z := 0) (by decide +kernel) rfl, ?_⟩
  refine ⟨ok_getf (ix := 159) hc_12 (by decide) hi_12 tw_958 (Or.inl rfl) (by decide +kernel), ?_⟩
  refine ⟨ok_iload (by decide +kernel), ?_⟩
  refine ⟨ok_aload_n (z := 0) (by decide +kernel) rfl, ?_⟩
  refine ⟨ok_getf (ix := 159) hc_12 (by decide) hi_12 tw_958 (Or.inl rfl) (by decide +kernel), ?_⟩
  refine ⟨ok_iload (by decide +kernel), ?_⟩
  refine ⟨ok_iconst (z := 1) (by decide +kernel) (by decide +kernel), ?_⟩
  refine ⟨ok_iadd (by decide +kernel), ?_⟩
  refine ⟨ok_iald rfl (by decide +kernel), ?_⟩
  refine ⟨ok_iast rfl (by decide +kernel), ?_⟩
  refine ⟨ok_aload_n (z := 0) (by decide +kernel) rfl, ?_⟩
  refine ⟨ok_getf (ix := 162) hc_12 (by decide) hi_12 tw_959 (Or.inl rfl) (by decide +kernel), ?_⟩
  refine ⟨ok_iload (by decide +kernel), ?_⟩
  refine ⟨ok_aload_n (z := 0) (by decide +kernel) rfl, ?_⟩
  refine ⟨ok_getf (ix := 162) hc_12 (by decide) hi_12 tw_959 (Or.inl rfl) (by decide +kernel), ?_⟩
  refine ⟨ok_iload (by decide +kernel), ?_⟩
  refine ⟨ok_iconst (z := 1) (by decide +kernel) (by decide +kernel), ?_⟩
  refine ⟨ok_iadd (by decide +kernel), ?_⟩
  refine ⟨ok_iald rfl (by decide +kernel), ?_⟩
  refine ⟨ok_iast rfl (by decide +kernel), ?_⟩
  refine ⟨ok_iinc (z := 1) (by decide) (by decide +kernel) (by decide +kernel), ?_⟩
  refine ⟨ok_goto (off := (-60)) (by decide +kernel) (by decide), ?_⟩
  refine ⟨ok_iload_n (z := 3) (by decide +kernel) rfl, ?_⟩
  refine ⟨ok_ifeq (off := 79) (by decide +kernel) (by decide), ?_⟩
  refine ⟨ok_iload (by decide +kernel), ?_⟩
  refine ⟨ok_ifge (off := 11) (by decide +kernel) (by decide), ?_⟩
  refine ⟨ok_aload_n (z := 0) (by decide +kernel) rfl, ?_⟩
  refine ⟨ok_getf (ix := 309) hc_12 (by decide) hi_12 tw_956 (Or.inl rfl) (by decide +kernel), ?_⟩
  refine ⟨ok_iconst (z := 4) (by decide +kernel) (by decide +kernel), ?_⟩
  refine ⟨ok_icmpge (off := 66) (by decide +kernel) (by decide), ?_⟩
  exact trivial
set_option maxHeartbeats 4000000 in
set_option maxRecDepth 100000 in
theorem mg_Z_retain_1 : ev_AllG (ev_Good l vc_L vt_L (gw_G b Ls xs z) prog_14_method_36_code 7 none my_Z_retain.name my_Z_retain.cls tb_T 1 23) (mk_Z_retain_1 z) := by
  refine ⟨ok_iload (by decide +kernel), ?_⟩
  refine ⟨ok_iflt (off := 8) (by decide +kernel) (by decide), ?_⟩
  refine ⟨ok_iload (by decide +kernel), ?_⟩
  refine ⟨ok_goto (off := 7) (by decide +kernel) (by decide), ?_⟩
  refine ⟨ok_aload_n (z := 0) (by decide +kernel) rfl, ?_⟩
  refine ⟨ok_getf (ix := 309) hc_12 (by decide) hi_12 tw_956 (Or.inl rfl) (by decide +kernel), ?_⟩
  refine ⟨ok_istore (by decide) (by decide +kernel), ?_⟩
  refine ⟨ok_aload_n (z := 0) (by decide +kernel) rfl, ?_⟩
  refine ⟨ok_iload (by decide +kernel), ?_⟩
  refine ⟨ok_iflt (off := 10) (by decide +kernel) (by decide), ?_⟩
  refine ⟨ok_aload_n (z := 0) (by decide +kernel) rfl, ?_⟩
  refine ⟨ok_getf (ix := 309) hc_12 (by decide) hi_12 tw_956 (Or.inl rfl) (by decide +kernel), ?_⟩
  refine ⟨ok_goto (off := 9) (by decide +kernel) (by decide), ?_⟩
  refine ⟨ok_aload_n (z := 0) (by decide +kernel) rfl, ?_⟩
  refine ⟨ok_getf (ix := 309) hc_12 (by decide) hi_12 tw_956 (Or.inl rfl) (by decide +kernel), ?_⟩
  refine ⟨ok_iconst (z := 1) (by decide +kernel) (by decide +kernel), ?_⟩
  refine ⟨ok_iadd (by decide +kernel), ?_⟩
  refine ⟨ok_putf (ix := 309) hc_12 (by decide) hi_12 ht_12 hn_12 tw_956 (Or.inl rfl) rfl (by decide +kernel) (by decide +kernel), ?_⟩
  refine ⟨ok_aload_n (z := 0) (by decide +kernel) rfl, ?_⟩
  refine ⟨ok_getf (ix := 156) hc_12 (by decide) hi_12 tw_957 (Or.inl rfl) (by decide +kernel), ?_⟩
  refine ⟨ok_iload (by decide +kernel), ?_⟩
  refine ⟨ok_lload_n (z := 1) (by decide +kernel) rfl, ?_⟩
  refine ⟨ok_last rfl (by decide +kernel), ?_⟩
  refine ⟨ok_aload_n (z := 0) (by decide +kernel) rfl, ?_⟩
  refine ⟨ok_getf (ix := 159) hc_12 (by decide) hi_12 tw_958 (Or.inl rfl) (by decide +kernel), ?_⟩
  refine ⟨ok_iload (by decide +kernel), ?_⟩
  refine ⟨ok_iload_n (z := 3) (by decide +kernel) rfl, ?_⟩
  refine ⟨ok_iast rfl (by decide +kernel), ?_⟩
  refine ⟨ok_aload_n (z := 0) (by decide +kernel) rfl, ?_⟩
  refine ⟨ok_getf (ix := 162) hc_12 (by decide) hi_12 tw_959 (Or.inl rfl) (by decide +kernel), ?_⟩
  refine ⟨ok_iload (by decide +kernel), ?_⟩
  refine ⟨ok_iload (by decide +kernel), ?_⟩
  refine ⟨ok_iast rfl (by decide +kernel), ?_⟩
  refine ⟨ok_vret rfl (by decide +kernel), ?_⟩
  exact trivial
theorem mg_Z_retain : ev_AllG (ev_Good l vc_L vt_L (gw_G b Ls xs z) prog_14_method_36_code 7 none my_Z_retain.name my_Z_retain.cls tb_T 1 23) (mk_Z_retain z) := ev_AllG.app mg_Z_retain_0 (mg_Z_retain_1)
theorem ms_Z_retain : ev_Met l vc_L vt_L (gw_G b Ls xs z) my_Z_retain (Cond.code my_Z_retain prog_14_method_36_code 7 none :: tb_T) 1 23 (mf_Z_retain z) := ev_sound (by decide +kernel) mg_Z_retain
end MT
