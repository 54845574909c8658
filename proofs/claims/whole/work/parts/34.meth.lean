/-! Methods as lists of steps, and that the machine does what they do (written by wip/whole/gen.py). -/
section MT
variable {l : Launch} {b Ls : Nat} {xs : Nat → Int32} {z : Nat × Nat}
def my_B_pump : MethodName := ⟨"MessageHub$Broker", "pump", "(I)V"⟩
def mk_B_pump_0 (z : Nat × Nat) : ev_C := [(0, ev_fn (ev_aload 0 1)), (1, ev_fn (ev_getf 5 2 4)), (4, ev_fn (ev_iload 1 5)), (5, ev_fn (ev_aaldR 6)), (6, ev_fn (ev_astore 2 7)), (7, ev_fn (ev_aload 0 8)), (8, ev_fn (ev_getf 5 0 11)), (11, ev_fn (ev_iload 1 12)), (12, ev_fn (ev_aaldR 13)), (13, ev_fn (ev_getf 1 3 16)), (16, ev_fn (ev_ifeq 31 19)), (19, ev_fn (ev_aload 0 20)), (20, ev_fn (ev_getf 5 1 23)), (23, ev_fn (ev_iload 1 24)), (24, ev_fn (ev_aaldR 25)), (25, ev_fn (ev_getf 6 1 28)), (28, ev_fn (ev_goto 32)), (31, ev_fn (ev_ci 0 32)), (32, ev_fn (ev_istore 3 33)), (33, ev_fn (ev_aload 2 34)), (34, ev_fn (ev_getf 7 2 37)), (37, ev_callR 2 (mf_A_size z) 1 40), (40, ev_fn (ev_istore 4 42)), (42, ev_fn (ev_iload 4 44)), (44, ev_fn (ev_iload 3 45)), (45, ev_fn (ev_icmpge 125 48)), (48, ev_fn (ev_aload 2 49)), (49, ev_fn (ev_getf 7 1 52)), (52, ev_callR 2 (mf_A_isEmpty z) 1 55), (55, ev_fn (ev_ifne 125 58)), (58, ev_fn (ev_newo 10 3 ff_10 61)), (61, ev_fn (ev_dup 62)), (62, ev_fn (ev_aload 2 63)), (63, ev_fn (ev_getf 7 1 66)), (66, ev_fn (ev_ci 0 67)), (67, ev_callR 2 (mf_A_remove z) 2 70), (70, ev_fn (ev_castS 9 73)), (73, ev_callI (mf_R_init z) 2 76), (76, ev_fn (ev_astore 5 78)), (78, ev_fn (ev_aload 5 80)), (80, ev_fn (ev_aload 2 81)), (81, ev_fn (ev_getf 7 2 84)), (84, ev_call (mf_R_leastFreeId z) 1 87), (87, ev_callR 10 (mf_R_start z) 2 90), (90, ev_fn (ev_aload 2 91)), (91, ev_fn (ev_getf 7 2 94)), (94, ev_fn (ev_aload 5 96)), (96, ev_callR 2 (mf_A_add z) 2 99), (99, ev_fn (ev_pop 100)), (100, ev_fn (ev_aload 0 101)), (101, ev_fn (ev_iload 1 102)), (102, ev_fn (ev_aload 5 104)), (104, ev_fn (ev_getf 10 0 107)), (107, ev_fn (ev_aload 5 109)), (109, ev_fn (ev_getf 10 2 112)), (112, ev_fn (ev_ci 0 113)), (113, ev_call (mf_P_ofMessage z) 3 116), (116, ev_callR 5 (mf_B_send z) 3 119), (119, ev_fn (ev_iinc 4 1 122)), (122, ev_fn (ev_goto 42))]
def mk_B_pump_1 (z : Nat × Nat) : ev_C := [(125, ev_fn ev_vret)]
def mk_B_pump (z : Nat × Nat) : ev_C := mk_B_pump_0 z ++ (mk_B_pump_1 z)
def mf_B_pump (z : Nat × Nat) : ev_F := ev_met (mk_B_pump z) 6
set_option maxHeartbeats 4000000 in
set_option maxRecDepth 100000 in
theorem mg_B_pump_0 : ev_AllG (ev_Good l vc_L vt_L (gw_G b Ls xs z) prog_2_method_20_code 6 none my_B_pump.name my_B_pump.cls tb_T 8 198) (mk_B_pump_0 z) := by
  refine ⟨ok_aload_n (z := 0) (by decide +kernel) rfl, ?_⟩
  refine ⟨ok_getf (ix := 19) hc_5 (by decide) hi_5 tw_208 (Or.inl rfl) (by decide +kernel), ?_⟩
  refine ⟨ok_iload_n (z := 1) (by decide +kernel) rfl, ?_⟩
  refine ⟨ok_aaldR (by decide +kernel), ?_⟩
  refine ⟨ok_astore_n (z := 2) (by decide) (by decide +kernel) rfl, ?_⟩
  refine ⟨ok_aload_n (z := 0) (by decide +kernel) rfl, ?_⟩
  refine ⟨ok_getf (ix := 34) hc_5 (by decide) hi_5 tw_205 (Or.inl rfl) (by decide +kernel), ?_⟩
  refine ⟨ok_iload_n (z := 1) (by decide +kernel) rfl, ?_⟩
  refine ⟨ok_aaldR (by decide +kernel), ?_⟩
  refine ⟨ok_getf (ix := 134) hc_1 (by decide) hi_1 tw_76 (Or.inl rfl) (by decide +kernel), ?_⟩
  refine ⟨ok_ifeq (off := 15) (by decide +kernel) (by decide), ?_⟩
  refine ⟨ok_aload_n (z := 0) (by decide +kernel) rfl, ?_⟩
  refine ⟨ok_getf (ix := 11) hc_5 (by decide) hi_5 tw_206 (Or.inl rfl) (by decide +kernel), ?_⟩
  refine ⟨ok_iload_n (z := 1) (by decide +kernel) rfl, ?_⟩
  refine ⟨ok_aaldR (by decide +kernel), ?_⟩
  refine ⟨ok_getf (ix := 268) hc_6 (by decide) hi_6 tw_149 (Or.inl rfl) (by decide +kernel), ?_⟩
  refine ⟨ok_goto (off := 4) (by decide +kernel) (by decide), ?_⟩
  refine ⟨ok_iconst (z := 0) (by decide +kernel) (by decide +kernel), ?_⟩
  refine ⟨ok_istore_n (z := 3) (by decide) (by decide +kernel) rfl, ?_⟩
  refine ⟨ok_aload_n (z := 2) (by decide +kernel) rfl, ?_⟩
  refine ⟨ok_getf (ix := 109) hc_7 (by decide) hi_7 tw_182 (Or.inl rfl) (by decide +kernel), ?_⟩
  refine ⟨ok_callV (ix := 144) hc_2 ms_A_size (tb_cwV tw_691 tw_405 tw_406 tw_5 tw_407 (by decide +kernel) (by decide) (by decide)) (by decide +kernel), ?_⟩
  refine ⟨ok_istore (by decide) (by decide +kernel), ?_⟩
  refine ⟨ok_iload (by decide +kernel), ?_⟩
  refine ⟨ok_iload_n (z := 3) (by decide +kernel) rfl, ?_⟩
  refine ⟨ok_icmpge (off := 80) (by decide +kernel) (by decide), ?_⟩
  refine ⟨ok_aload_n (z := 2) (by decide +kernel) rfl, ?_⟩
  refine ⟨ok_getf (ix := 227) hc_7 (by decide) hi_7 tw_180 (Or.inl rfl) (by decide +kernel), ?_⟩
  refine ⟨ok_callV (ix := 271) hc_2 ms_A_isEmpty (tb_cwV tw_729 tw_540 tw_541 tw_5 tw_542 (by decide +kernel) (by decide) (by decide)) (by decide +kernel), ?_⟩
  refine ⟨ok_ifne (off := 70) (by decide +kernel) (by decide), ?_⟩
  refine ⟨ok_newo (ix := 113) hc_10 hi_10 ht_10 hf_10 tw_730 tw_478 tw_19 (by decide +kernel), ?_⟩
  refine ⟨ok_dup (by decide +kernel), ?_⟩
  refine ⟨ok_aload_n (z := 2) (by decide +kernel) rfl, ?_⟩
  refine ⟨ok_getf (ix := 227) hc_7 (by decide) hi_7 tw_180 (Or.inl rfl) (by decide +kernel), ?_⟩
  refine ⟨ok_iconst (z := 0) (by decide +kernel) (by decide +kernel), ?_⟩
  refine ⟨ok_callV (ix := 236) hc_2 ms_A_remove (tb_cwV tw_720 tw_544 tw_545 tw_5 tw_546 (by decide +kernel) (by decide) (by decide)) (by decide +kernel), ?_⟩
  refine ⟨ok_castS (ix := 71) hc_9 tw_719 (by decide +kernel), ?_⟩
  refine ⟨ok_callI (ix := 274) ms_R_init (tb_cwI tw_731 tw_480 tw_19 tw_481 rfl (by decide +kernel) (by decide) (by decide)) (by decide +kernel), ?_⟩
  refine ⟨ok_astore (by decide) (by decide +kernel), ?_⟩
  refine ⟨ok_aload (by decide +kernel), ?_⟩
  refine ⟨ok_aload_n (z := 2) (by decide +kernel) rfl, ?_⟩
  refine ⟨ok_getf (ix := 109) hc_7 (by decide) hi_7 tw_182 (Or.inl rfl) (by decide +kernel), ?_⟩
  refine ⟨ok_callS (ix := 276) ms_R_leastFreeId (tb_cwS tw_732 tw_524 tw_19 tw_525 (by decide +kernel) (by decide) (by decide)) (by decide +kernel), ?_⟩
  refine ⟨ok_callV (ix := 280) hc_10 ms_R_start (tb_cwV tw_733 tw_527 tw_528 tw_19 tw_529 (by decide +kernel) (by decide) (by decide)) (by decide +kernel), ?_⟩
  refine ⟨ok_aload_n (z := 2) (by decide +kernel) rfl, ?_⟩
  refine ⟨ok_getf (ix := 109) hc_7 (by decide) hi_7 tw_182 (Or.inl rfl) (by decide +kernel), ?_⟩
  refine ⟨ok_aload (by decide +kernel), ?_⟩
  refine ⟨ok_callV (ix := 140) hc_2 ms_A_add (tb_cwV tw_710 tw_325 tw_326 tw_5 tw_327 (by decide +kernel) (by decide) (by decide)) (by decide +kernel), ?_⟩
  refine ⟨ok_pop (by decide +kernel), ?_⟩
  refine ⟨ok_aload_n (z := 0) (by decide +kernel) rfl, ?_⟩
  refine ⟨ok_iload_n (z := 1) (by decide +kernel) rfl, ?_⟩
  refine ⟨ok_aload (by decide +kernel), ?_⟩
  refine ⟨ok_getf (ix := 283) hc_10 (by decide) hi_10 tw_485 (Or.inl rfl) (by decide +kernel), ?_⟩
  refine ⟨ok_aload (by decide +kernel), ?_⟩
  refine ⟨ok_getf (ix := 287) hc_10 (by decide) hi_10 tw_490 (Or.inl rfl) (by decide +kernel), ?_⟩
  refine ⟨ok_iconst (z := 0) (by decide +kernel) (by decide +kernel), ?_⟩
  refine ⟨ok_callS (ix := 220) ms_P_ofMessage (tb_cwS tw_705 tw_471 tw_13 tw_472 (by decide +kernel) (by decide) (by decide)) (by decide +kernel), ?_⟩
  refine ⟨ok_callV (ix := 106) hc_5 ms_B_send (tb_cwV tw_706 tw_708 tv_19 tw_8 tw_709 (by decide +kernel) (by decide) (by decide)) (by decide +kernel), ?_⟩
  refine ⟨ok_iinc (z := 1) (by decide) (by decide +kernel) (by decide +kernel), ?_⟩
  refine ⟨ok_goto (off := (-80)) (by decide +kernel) (by decide), ?_⟩
  exact trivial
set_option maxHeartbeats 4000000 in
set_option maxRecDepth 100000 in
theorem mg_B_pump_1 : ev_AllG (ev_Good l vc_L vt_L (gw_G b Ls xs z) prog_2_method_20_code 6 none my_B_pump.name my_B_pump.cls tb_T 8 198) (mk_B_pump_1 z) := by
  refine ⟨ok_vret rfl (by decide +kernel), ?_⟩
  exact trivial
theorem mg_B_pump : ev_AllG (ev_Good l vc_L vt_L (gw_G b Ls xs z) prog_2_method_20_code 6 none my_B_pump.name my_B_pump.cls tb_T 8 198) (mk_B_pump z) := ev_AllG.app mg_B_pump_0 (mg_B_pump_1)
theorem ms_B_pump : ev_Met l vc_L vt_L (gw_G b Ls xs z) my_B_pump (Cond.code my_B_pump prog_2_method_20_code 6 none :: tb_T) 8 198 (mf_B_pump z) := ev_sound (by decide +kernel) mg_B_pump
def my_B_accept : MethodName := ⟨"MessageHub$Broker", "accept", "(ILMessageHub$Message;)Z"⟩
def mk_B_accept_0 (z : Nat × Nat) : ev_C := [(0, ev_fn (ev_ci 0 1)), (1, ev_fn (ev_istore 3 2)), (2, ev_fn (ev_iload 3 3)), (3, ev_fn (ev_ci 3 4)), (4, ev_fn (ev_icmpge 50 7)), (7, ev_fn (ev_aload 0 8)), (8, ev_fn (ev_getf 5 2 11)), (11, ev_fn (ev_iload 3 12)), (12, ev_fn (ev_aaldR 13)), (13, ev_callR 7 (mf_S_load z) 1 16), (16, ev_fn (ev_aload 0 17)), (17, ev_fn (ev_getf 5 2 20)), (20, ev_fn (ev_iload 3 21)), (21, ev_fn (ev_aaldR 22)), (22, ev_fn (ev_aload 2 23)), (23, ev_fn (ev_iload 3 24)), (24, ev_fn (ev_iload 1 25)), (25, ev_fn (ev_icmpne 32 28)), (28, ev_fn (ev_ci 1 29)), (29, ev_fn (ev_goto 33)), (32, ev_fn (ev_ci 0 33)), (33, ev_callR 7 (mf_S_countKept z) 3 36), (36, ev_fn (ev_iadd 37)), (37, ev_fn (ev_ci 6 39)), (39, ev_fn (ev_icmple 44 42)), (42, ev_fn (ev_ci 0 43)), (43, ev_fn (ev_zret .boolean)), (44, ev_fn (ev_iinc 3 1 47)), (47, ev_fn (ev_goto 2)), (50, ev_fn (ev_ci 0 51)), (51, ev_fn (ev_istore 3 52)), (52, ev_fn (ev_iload 3 53)), (53, ev_fn (ev_ci 3 54)), (54, ev_fn (ev_icmpge 79 57)), (57, ev_fn (ev_aload 0 58)), (58, ev_fn (ev_iload 3 59)), (59, ev_fn (ev_aload 2 60)), (60, ev_fn (ev_iload 3 61)), (61, ev_fn (ev_iload 1 62)), (62, ev_fn (ev_icmpne 69 65)), (65, ev_fn (ev_ci 1 66)), (66, ev_fn (ev_goto 70)), (69, ev_fn (ev_ci 0 70)), (70, ev_callR 5 (mf_B_spread z) 4 73), (73, ev_fn (ev_iinc 3 1 76)), (76, ev_fn (ev_goto 52)), (79, ev_fn (ev_aload 2 80)), (80, ev_fn (ev_getf 9 3 83)), (83, ev_fn (ev_ifeq 91 86)), (86, ev_fn (ev_aload 0 87)), (87, ev_fn (ev_aload 2 88)), (88, ev_callR 5 (mf_B_retain z) 2 91), (91, ev_fn (ev_ci 0 92)), (92, ev_fn (ev_istore 3 93)), (93, ev_fn (ev_iload 3 94)), (94, ev_fn (ev_ci 3 95)), (95, ev_fn (ev_icmpge 109 98)), (98, ev_fn (ev_aload 0 99)), (99, ev_fn (ev_iload 3 100)), (100, ev_callR 5 (mf_B_pump z) 2 103)]
def mk_B_accept_1 (z : Nat × Nat) : ev_C := [(103, ev_fn (ev_iinc 3 1 106)), (106, ev_fn (ev_goto 93)), (109, ev_fn (ev_ci 1 110)), (110, ev_fn (ev_zret .boolean))]
def mk_B_accept (z : Nat × Nat) : ev_C := mk_B_accept_0 z ++ (mk_B_accept_1 z)
def mf_B_accept (z : Nat × Nat) : ev_F := ev_met (mk_B_accept z) 4
set_option maxHeartbeats 4000000 in
set_option maxRecDepth 100000 in
theorem mg_B_accept_0 : ev_AllG (ev_Good l vc_L vt_L (gw_G b Ls xs z) prog_2_method_16_code 4 (some .boolean) my_B_accept.name my_B_accept.cls tb_T 9 224) (mk_B_accept_0 z) := by
  refine ⟨ok_iconst (z := 0) (by decide +kernel) (by decide +kernel), ?_⟩
  refine ⟨ok_istore_n (z := 3) (by decide) (by decide +kernel) rfl, ?_⟩
  refine ⟨ok_iload_n (z := 3) (by decide +kernel) rfl, ?_⟩
  refine ⟨ok_iconst (z := 3) (by decide +kernel) (by decide +kernel), ?_⟩
  refine ⟨ok_icmpge (off := 46) (by decide +kernel) (by decide), ?_⟩
  refine ⟨ok_aload_n (z := 0) (by decide +kernel) rfl, ?_⟩
  refine ⟨ok_getf (ix := 19) hc_5 (by decide) hi_5 tw_208 (Or.inl rfl) (by decide +kernel), ?_⟩
  refine ⟨ok_iload_n (z := 3) (by decide +kernel) rfl, ?_⟩
  refine ⟨ok_aaldR (by decide +kernel), ?_⟩
  refine ⟨ok_callV (ix := 224) hc_7 ms_S_load (tb_cwV tw_663 tw_664 tw_665 tw_10 tw_666 (by decide +kernel) (by decide) (by decide)) (by decide +kernel), ?_⟩
  refine ⟨ok_aload_n (z := 0) (by decide +kernel) rfl, ?_⟩
  refine ⟨ok_getf (ix := 19) hc_5 (by decide) hi_5 tw_208 (Or.inl rfl) (by decide +kernel), ?_⟩
  refine ⟨ok_iload_n (z := 3) (by decide +kernel) rfl, ?_⟩
  refine ⟨ok_aaldR (by decide +kernel), ?_⟩
  refine ⟨ok_aload_n (z := 2) (by decide +kernel) rfl, ?_⟩
  refine ⟨ok_iload_n (z := 3) (by decide +kernel) rfl, ?_⟩
  refine ⟨ok_iload_n (z := 1) (by decide +kernel) rfl, ?_⟩
  refine ⟨ok_icmpne (off := 7) (by decide +kernel) (by decide), ?_⟩
  refine ⟨ok_iconst (z := 1) (by decide +kernel) (by decide +kernel), ?_⟩
  refine ⟨ok_goto (off := 4) (by decide +kernel) (by decide), ?_⟩
  refine ⟨ok_iconst (z := 0) (by decide +kernel) (by decide +kernel), ?_⟩
  refine ⟨ok_callV (ix := 245) hc_7 ms_S_countKept (tb_cwV tw_668 tw_669 tw_670 tw_10 tw_671 (by decide +kernel) (by decide) (by decide)) (by decide +kernel), ?_⟩
  refine ⟨ok_iadd (by decide +kernel), ?_⟩
  refine ⟨ok_bipush (z := 6) (by decide +kernel) (by decide +kernel), ?_⟩
  refine ⟨ok_icmple (off := 5) (by decide +kernel) (by decide), ?_⟩
  refine ⟨ok_iconst (z := 0) (by decide +kernel) (by decide +kernel), ?_⟩
  refine ⟨ok_zret rfl (by decide +kernel), ?_⟩
  refine ⟨ok_iinc (z := 1) (by decide) (by decide +kernel) (by decide +kernel), ?_⟩
  refine ⟨ok_goto (off := (-45)) (by decide +kernel) (by decide), ?_⟩
  refine ⟨ok_iconst (z := 0) (by decide +kernel) (by decide +kernel), ?_⟩
  refine ⟨ok_istore_n (z := 3) (by decide) (by decide +kernel) rfl, ?_⟩
  refine ⟨ok_iload_n (z := 3) (by decide +kernel) rfl, ?_⟩
  refine ⟨ok_iconst (z := 3) (by decide +kernel) (by decide +kernel), ?_⟩
  refine ⟨ok_icmpge (off := 25) (by decide +kernel) (by decide), ?_⟩
  refine ⟨ok_aload_n (z := 0) (by decide +kernel) rfl, ?_⟩
  refine ⟨ok_iload_n (z := 3) (by decide +kernel) rfl, ?_⟩
  refine ⟨ok_aload_n (z := 2) (by decide +kernel) rfl, ?_⟩
  refine ⟨ok_iload_n (z := 3) (by decide +kernel) rfl, ?_⟩
  refine ⟨ok_iload_n (z := 1) (by decide +kernel) rfl, ?_⟩
  refine ⟨ok_icmpne (off := 7) (by decide +kernel) (by decide), ?_⟩
  refine ⟨ok_iconst (z := 1) (by decide +kernel) (by decide +kernel), ?_⟩
  refine ⟨ok_goto (off := 4) (by decide +kernel) (by decide), ?_⟩
  refine ⟨ok_iconst (z := 0) (by decide +kernel) (by decide +kernel), ?_⟩
  refine ⟨ok_callV (ix := 249) hc_5 ms_B_spread (tb_cwV tw_687 tw_689 tv_17 tw_8 tw_690 (by decide +kernel) (by decide) (by decide)) (by decide +kernel), ?_⟩
  refine ⟨ok_iinc (z := 1) (by decide) (by decide +kernel) (by decide +kernel), ?_⟩
  refine ⟨ok_goto (off := (-24)) (by decide +kernel) (by decide), ?_⟩
  refine ⟨ok_aload_n (z := 2) (by decide +kernel) rfl, ?_⟩
  refine ⟨ok_getf (ix := 253) hc_9 (by decide) hi_9 tw_460 (Or.inl rfl) (by decide +kernel), ?_⟩
  refine ⟨ok_ifeq (off := 8) (by decide +kernel) (by decide), ?_⟩
  refine ⟨ok_aload_n (z := 0) (by decide +kernel) rfl, ?_⟩
  refine ⟨ok_aload_n (z := 2) (by decide +kernel) rfl, ?_⟩
  refine ⟨ok_callV (ix := 256) hc_5 ms_B_retain (tb_cwV tw_711 tw_713 tv_20 tw_8 tw_714 (by decide +kernel) (by decide) (by decide)) (by decide +kernel), ?_⟩
  refine ⟨ok_iconst (z := 0) (by decide +kernel) (by decide +kernel), ?_⟩
  refine ⟨ok_istore_n (z := 3) (by decide) (by decide +kernel) rfl, ?_⟩
  refine ⟨ok_iload_n (z := 3) (by decide +kernel) rfl, ?_⟩
  refine ⟨ok_iconst (z := 3) (by decide +kernel) (by decide +kernel), ?_⟩
  refine ⟨ok_icmpge (off := 14) (by decide +kernel) (by decide), ?_⟩
  refine ⟨ok_aload_n (z := 0) (by decide +kernel) rfl, ?_⟩
  refine ⟨ok_iload_n (z := 3) (by decide +kernel) rfl, ?_⟩
  refine ⟨ok_callV (ix := 118) hc_5 ms_B_pump (tb_cwV tw_725 tw_727 tv_22 tw_8 tw_728 (by decide +kernel) (by decide) (by decide)) (by decide +kernel), ?_⟩
  exact trivial
set_option maxHeartbeats 4000000 in
set_option maxRecDepth 100000 in
theorem mg_B_accept_1 : ev_AllG (ev_Good l vc_L vt_L (gw_G b Ls xs z) prog_2_method_16_code 4 (some .boolean) my_B_accept.name my_B_accept.cls tb_T 9 224) (mk_B_accept_1 z) := by
  refine ⟨ok_iinc (z := 1) (by decide) (by decide +kernel) (by decide +kernel), ?_⟩
  refine ⟨ok_goto (off := (-13)) (by decide +kernel) (by decide), ?_⟩
  refine ⟨ok_iconst (z := 1) (by decide +kernel) (by decide +kernel), ?_⟩
  refine ⟨ok_zret rfl (by decide +kernel), ?_⟩
  exact trivial
theorem mg_B_accept : ev_AllG (ev_Good l vc_L vt_L (gw_G b Ls xs z) prog_2_method_16_code 4 (some .boolean) my_B_accept.name my_B_accept.cls tb_T 9 224) (mk_B_accept z) := ev_AllG.app mg_B_accept_0 (mg_B_accept_1)
theorem ms_B_accept : ev_Met l vc_L vt_L (gw_G b Ls xs z) my_B_accept (Cond.code my_B_accept prog_2_method_16_code 4 (some .boolean) :: tb_T) 9 224 (mf_B_accept z) := ev_sound (by decide +kernel) mg_B_accept
def my_B_closeAbruptly : MethodName := ⟨"MessageHub$Broker", "closeAbruptly", "(I)V"⟩
def mk_B_closeAbruptly (z : Nat × Nat) : ev_C := [(0, ev_fn (ev_aload 0 1)), (1, ev_fn (ev_iload 1 2)), (2, ev_callR 5 (mf_B_closeNormally z) 2 5), (5, ev_fn (ev_aload 0 6)), (6, ev_fn (ev_getf 5 1 9)), (9, ev_fn (ev_iload 1 10)), (10, ev_fn (ev_aaldR 11)), (11, ev_callR 6 (mf_N_hasWill z) 1 14), (14, ev_fn (ev_ifeq 32 17)), (17, ev_fn (ev_aload 0 18)), (18, ev_fn (ev_iload 1 19)), (19, ev_fn (ev_aload 0 20)), (20, ev_fn (ev_getf 5 1 23)), (23, ev_fn (ev_iload 1 24)), (24, ev_fn (ev_aaldR 25)), (25, ev_callR 6 (mf_N_willMessage z) 1 28), (28, ev_callR 5 (mf_B_accept z) 3 31), (31, ev_fn (ev_pop 32)), (32, ev_fn ev_vret)]
def mf_B_closeAbruptly (z : Nat × Nat) : ev_F := ev_met (mk_B_closeAbruptly z) 2
set_option maxHeartbeats 4000000 in
set_option maxRecDepth 100000 in
theorem mg_B_closeAbruptly : ev_AllG (ev_Good l vc_L vt_L (gw_G b Ls xs z) prog_2_method_15_code 2 none my_B_closeAbruptly.name my_B_closeAbruptly.cls tb_T 10 247) (mk_B_closeAbruptly z) := by
  refine ⟨ok_aload_n (z := 0) (by decide +kernel) rfl, ?_⟩
  refine ⟨ok_iload_n (z := 1) (by decide +kernel) rfl, ?_⟩
  refine ⟨ok_callV (ix := 131) hc_5 ms_B_closeNormally (tb_cwV tw_634 tw_636 tv_15 tw_8 tw_637 (by decide +kernel) (by decide) (by decide)) (by decide +kernel), ?_⟩
  refine ⟨ok_aload_n (z := 0) (by decide +kernel) rfl, ?_⟩
  refine ⟨ok_getf (ix := 11) hc_5 (by decide) hi_5 tw_206 (Or.inl rfl) (by decide +kernel), ?_⟩
  refine ⟨ok_iload_n (z := 1) (by decide +kernel) rfl, ?_⟩
  refine ⟨ok_aaldR (by decide +kernel), ?_⟩
  refine ⟨ok_callV (ix := 238) hc_6 ms_N_hasWill (tb_cwV tw_649 tw_650 tw_651 tw_9 tw_652 (by decide +kernel) (by decide) (by decide)) (by decide +kernel), ?_⟩
  refine ⟨ok_ifeq (off := 18) (by decide +kernel) (by decide), ?_⟩
  refine ⟨ok_aload_n (z := 0) (by decide +kernel) rfl, ?_⟩
  refine ⟨ok_iload_n (z := 1) (by decide +kernel) rfl, ?_⟩
  refine ⟨ok_aload_n (z := 0) (by decide +kernel) rfl, ?_⟩
  refine ⟨ok_getf (ix := 11) hc_5 (by decide) hi_5 tw_206 (Or.inl rfl) (by decide +kernel), ?_⟩
  refine ⟨ok_iload_n (z := 1) (by decide +kernel) rfl, ?_⟩
  refine ⟨ok_aaldR (by decide +kernel), ?_⟩
  refine ⟨ok_callV (ix := 241) hc_6 ms_N_willMessage (tb_cwV tw_653 tw_654 tw_655 tw_9 tw_656 (by decide +kernel) (by decide) (by decide)) (by decide +kernel), ?_⟩
  refine ⟨ok_callV (ix := 183) hc_5 ms_B_accept (tb_cwV tw_659 tw_661 tv_16 tw_8 tw_662 (by decide +kernel) (by decide) (by decide)) (by decide +kernel), ?_⟩
  refine ⟨ok_pop (by decide +kernel), ?_⟩
  refine ⟨ok_vret rfl (by decide +kernel), ?_⟩
  exact trivial
theorem ms_B_closeAbruptly : ev_Met l vc_L vt_L (gw_G b Ls xs z) my_B_closeAbruptly (Cond.code my_B_closeAbruptly prog_2_method_15_code 2 none :: tb_T) 10 247 (mf_B_closeAbruptly z) := ev_sound (by decide +kernel) mg_B_closeAbruptly
def my_N_begin : MethodName := ⟨"MessageHub$Connection", "begin", "(LMessageHub$Packet;)V"⟩
def mk_N_begin (z : Nat × Nat) : ev_C := [(0, ev_fn (ev_aload 0 1)), (1, ev_fn (ev_ci 1 2)), (2, ev_fn (ev_putf 6 0 .boolean 5)), (5, ev_fn (ev_aload 0 6)), (6, ev_fn (ev_aload 1 7)), (7, ev_fn (ev_getf 8 7 10)), (10, ev_fn (ev_putf 6 1 .int 13)), (13, ev_fn (ev_aload 0 14)), (14, ev_fn (ev_ci 0 15)), (15, ev_fn (ev_putf 6 2 .int 18)), (18, ev_fn (ev_aload 0 19)), (19, ev_fn (ev_aload 1 20)), (20, ev_fn (ev_getf 8 8 23)), (23, ev_fn (ev_putf 6 3 .int 26)), (26, ev_fn (ev_aload 0 27)), (27, ev_fn (ev_aload 1 28)), (28, ev_fn (ev_getf 8 3 31)), (31, ev_fn (ev_putf 6 4 .long 34)), (34, ev_fn (ev_aload 0 35)), (35, ev_fn (ev_aload 1 36)), (36, ev_fn (ev_getf 8 9 39)), (39, ev_fn (ev_putf 6 5 .int 42)), (42, ev_fn ev_vret)]
def mf_N_begin (z : Nat × Nat) : ev_F := ev_met (mk_N_begin z) 2
set_option maxHeartbeats 4000000 in
set_option maxRecDepth 100000 in
theorem mg_N_begin : ev_AllG (ev_Good l vc_L vt_L (gw_G b Ls xs z) prog_4_method_2_code 2 none my_N_begin.name my_N_begin.cls tb_T 0 0) (mk_N_begin z) := by
  refine ⟨ok_aload_n (z := 0) (by decide +kernel) rfl, ?_⟩
  refine ⟨ok_iconst (z := 1) (by decide +kernel) (by decide +kernel), ?_⟩
  refine ⟨ok_putf (ix := 7) hc_6 (by decide) hi_6 ht_6 hn_6 tw_145 (Or.inl rfl) rfl (by decide +kernel) (by decide +kernel), ?_⟩
  refine ⟨ok_aload_n (z := 0) (by decide +kernel) rfl, ?_⟩
  refine ⟨ok_aload_n (z := 1) (by decide +kernel) rfl, ?_⟩
  refine ⟨ok_getf (ix := 13) hc_8 (by decide) hi_8 tw_297 (Or.inl rfl) (by decide +kernel), ?_⟩
  refine ⟨ok_putf (ix := 19) hc_6 (by decide) hi_6 ht_6 hn_6 tw_148 (Or.inl rfl) rfl (by decide +kernel) (by decide +kernel), ?_⟩
  refine ⟨ok_aload_n (z := 0) (by decide +kernel) rfl, ?_⟩
  refine ⟨ok_iconst (z := 0) (by decide +kernel) (by decide +kernel), ?_⟩
  refine ⟨ok_putf (ix := 20) hc_6 (by decide) hi_6 ht_6 hn_6 tw_150 (Or.inl rfl) rfl (by decide +kernel) (by decide +kernel), ?_⟩
  refine ⟨ok_aload_n (z := 0) (by decide +kernel) rfl, ?_⟩
  refine ⟨ok_aload_n (z := 1) (by decide +kernel) rfl, ?_⟩
  refine ⟨ok_getf (ix := 23) hc_8 (by decide) hi_8 tw_299 (Or.inl rfl) (by decide +kernel), ?_⟩
  refine ⟨ok_putf (ix := 26) hc_6 (by decide) hi_6 ht_6 hn_6 tw_152 (Or.inl rfl) rfl (by decide +kernel) (by decide +kernel), ?_⟩
  refine ⟨ok_aload_n (z := 0) (by decide +kernel) rfl, ?_⟩
  refine ⟨ok_aload_n (z := 1) (by decide +kernel) rfl, ?_⟩
  refine ⟨ok_getf (ix := 27) hc_8 (by decide) hi_8 tw_289 (Or.inl rfl) (by decide +kernel), ?_⟩
  refine ⟨ok_putf (ix := 31) hc_6 (by decide) hi_6 ht_6 hn_6 tw_153 (Or.inl rfl) rfl (by decide +kernel) (by decide +kernel), ?_⟩
  refine ⟨ok_aload_n (z := 0) (by decide +kernel) rfl, ?_⟩
  refine ⟨ok_aload_n (z := 1) (by decide +kernel) rfl, ?_⟩
  refine ⟨ok_getf (ix := 34) hc_8 (by decide) hi_8 tw_301 (Or.inl rfl) (by decide +kernel), ?_⟩
  refine ⟨ok_putf (ix := 37) hc_6 (by decide) hi_6 ht_6 hn_6 tw_154 (Or.inl rfl) rfl (by decide +kernel) (by decide +kernel), ?_⟩
  refine ⟨ok_vret rfl (by decide +kernel), ?_⟩
  exact trivial
theorem ms_N_begin : ev_Met l vc_L vt_L (gw_G b Ls xs z) my_N_begin (Cond.code my_N_begin prog_4_method_2_code 2 none :: tb_T) 0 0 (mf_N_begin z) := ev_sound (by decide +kernel) mg_N_begin
def my_B_receiveConnect : MethodName := ⟨"MessageHub$Broker", "receiveConnect", "(ILMessageHub$Packet;)V"⟩
def mk_B_receiveConnect_0 (z : Nat × Nat) : ev_C := [(0, ev_fn (ev_aload 0 1)), (1, ev_fn (ev_getf 5 1 4)), (4, ev_fn (ev_iload 1 5)), (5, ev_fn (ev_aaldR 6)), (6, ev_fn (ev_aload 2 7)), (7, ev_callR 6 (mf_N_begin z) 2 10), (10, ev_fn (ev_aload 0 11)), (11, ev_fn (ev_getf 5 0 14)), (14, ev_fn (ev_iload 1 15)), (15, ev_fn (ev_aaldR 16)), (16, ev_fn (ev_ci 1 17)), (17, ev_fn (ev_putf 1 3 .boolean 20)), (20, ev_fn (ev_aload 0 21)), (21, ev_fn (ev_getf 5 2 24)), (24, ev_fn (ev_iload 1 25)), (25, ev_fn (ev_aaldR 26)), (26, ev_fn (ev_astore 3 27)), (27, ev_fn (ev_aload 2 28)), (28, ev_fn (ev_getf 8 6 31)), (31, ev_fn (ev_ifeq 38 34)), (34, ev_fn (ev_aload 3 35)), (35, ev_callR 7 (mf_S_end z) 1 38), (38, ev_fn (ev_aload 0 39)), (39, ev_fn (ev_iload 1 40)), (40, ev_fn (ev_newo 8 10 ff_8 43)), (43, ev_fn (ev_dup 44)), (44, ev_fn (ev_ci 2 45)), (45, ev_fn (ev_ci 0 46)), (46, ev_fn (ev_aload 3 47)), (47, ev_fn (ev_getf 7 4 50)), (50, ev_fn (ev_ifeq 57 53)), (53, ev_fn (ev_ci 1 54)), (54, ev_fn (ev_goto 58)), (57, ev_fn (ev_ci 0 58)), (58, ev_callI (mf_P_init z) 4 61), (61, ev_callR 5 (mf_B_send z) 3 64), (64, ev_fn (ev_aload 3 65)), (65, ev_fn (ev_ci 1 66)), (66, ev_fn (ev_putf 7 4 .boolean 69)), (69, ev_fn (ev_aload 3 70)), (70, ev_fn (ev_aload 2 71)), (71, ev_fn (ev_getf 8 2 74)), (74, ev_fn (ev_putf 7 5 .int 77)), (77, ev_fn (ev_ci 0 78)), (78, ev_fn (ev_istore 4 80)), (80, ev_fn (ev_iload 4 82)), (82, ev_fn (ev_aload 3 83)), (83, ev_fn (ev_getf 7 2 86)), (86, ev_callR 2 (mf_A_size z) 1 89), (89, ev_fn (ev_icmpge 118 92)), (92, ev_fn (ev_aload 0 93)), (93, ev_fn (ev_iload 1 94)), (94, ev_fn (ev_aload 3 95)), (95, ev_fn (ev_getf 7 2 98)), (98, ev_fn (ev_iload 4 100)), (100, ev_callR 2 (mf_A_get z) 2 103), (103, ev_fn (ev_castS 10 106)), (106, ev_callR 10 (mf_R_repeatedPacket z) 1 109), (109, ev_callR 5 (mf_B_send z) 3 112), (112, ev_fn (ev_iinc 4 1 115))]
def mk_B_receiveConnect_1 (z : Nat × Nat) : ev_C := [(115, ev_fn (ev_goto 80)), (118, ev_fn (ev_aload 0 119)), (119, ev_fn (ev_iload 1 120)), (120, ev_callR 5 (mf_B_pump z) 2 123), (123, ev_fn ev_vret)]
def mk_B_receiveConnect (z : Nat × Nat) : ev_C := mk_B_receiveConnect_0 z ++ (mk_B_receiveConnect_1 z)
def mf_B_receiveConnect (z : Nat × Nat) : ev_F := ev_met (mk_B_receiveConnect z) 5
set_option maxHeartbeats 4000000 in
set_option maxRecDepth 100000 in
theorem mg_B_receiveConnect_0 : ev_AllG (ev_Good l vc_L vt_L (gw_G b Ls xs z) prog_2_method_9_code 5 none my_B_receiveConnect.name my_B_receiveConnect.cls tb_T 9 223) (mk_B_receiveConnect_0 z) := by
  refine ⟨ok_aload_n (z := 0) (by decide +kernel) rfl, ?_⟩
  refine ⟨ok_getf (ix := 11) hc_5 (by decide) hi_5 tw_206 (Or.inl rfl) (by decide +kernel), ?_⟩
  refine ⟨ok_iload_n (z := 1) (by decide +kernel) rfl, ?_⟩
  refine ⟨ok_aaldR (by decide +kernel), ?_⟩
  refine ⟨ok_aload_n (z := 2) (by decide +kernel) rfl, ?_⟩
  refine ⟨ok_callV (ix := 148) hc_6 ms_N_begin (tb_cwV tw_738 tw_739 tw_740 tw_9 tw_741 (by decide +kernel) (by decide) (by decide)) (by decide +kernel), ?_⟩
  refine ⟨ok_aload_n (z := 0) (by decide +kernel) rfl, ?_⟩
  refine ⟨ok_getf (ix := 34) hc_5 (by decide) hi_5 tw_205 (Or.inl rfl) (by decide +kernel), ?_⟩
  refine ⟨ok_iload_n (z := 1) (by decide +kernel) rfl, ?_⟩
  refine ⟨ok_aaldR (by decide +kernel), ?_⟩
  refine ⟨ok_iconst (z := 1) (by decide +kernel) (by decide +kernel), ?_⟩
  refine ⟨ok_putf (ix := 134) hc_1 (by decide) hi_1 ht_1 hn_1 tw_76 (Or.inl rfl) rfl (by decide +kernel) (by decide +kernel), ?_⟩
  refine ⟨ok_aload_n (z := 0) (by decide +kernel) rfl, ?_⟩
  refine ⟨ok_getf (ix := 19) hc_5 (by decide) hi_5 tw_208 (Or.inl rfl) (by decide +kernel), ?_⟩
  refine ⟨ok_iload_n (z := 1) (by decide +kernel) rfl, ?_⟩
  refine ⟨ok_aaldR (by decide +kernel), ?_⟩
  refine ⟨ok_astore_n (z := 3) (by decide) (by decide +kernel) rfl, ?_⟩
  refine ⟨ok_aload_n (z := 2) (by decide +kernel) rfl, ?_⟩
  refine ⟨ok_getf (ix := 152) hc_8 (by decide) hi_8 tw_296 (Or.inl rfl) (by decide +kernel), ?_⟩
  refine ⟨ok_ifeq (off := 7) (by decide +kernel) (by decide), ?_⟩
  refine ⟨ok_aload_n (z := 3) (by decide +kernel) rfl, ?_⟩
  refine ⟨ok_callV (ix := 155) hc_7 ms_S_end (tb_cwV tw_742 tw_644 tw_645 tw_10 tw_646 (by decide +kernel) (by decide) (by decide)) (by decide +kernel), ?_⟩
  refine ⟨ok_aload_n (z := 0) (by decide +kernel) rfl, ?_⟩
  refine ⟨ok_iload_n (z := 1) (by decide +kernel) rfl, ?_⟩
  refine ⟨ok_newo (ix := 80) hc_8 hi_8 ht_8 hf_8 tw_743 tw_273 tw_13 (by decide +kernel), ?_⟩
  refine ⟨ok_dup (by decide +kernel), ?_⟩
  refine ⟨ok_iconst (z := 2) (by decide +kernel) (by decide +kernel), ?_⟩
  refine ⟨ok_iconst (z := 0) (by decide +kernel) (by decide +kernel), ?_⟩
  refine ⟨ok_aload_n (z := 3) (by decide +kernel) rfl, ?_⟩
  refine ⟨ok_getf (ix := 158) hc_7 (by decide) hi_7 tw_186 (Or.inl rfl) (by decide +kernel), ?_⟩
  refine ⟨ok_ifeq (off := 7) (by decide +kernel) (by decide), ?_⟩
  refine ⟨ok_iconst (z := 1) (by decide +kernel) (by decide +kernel), ?_⟩
  refine ⟨ok_goto (off := 4) (by decide +kernel) (by decide), ?_⟩
  refine ⟨ok_iconst (z := 0) (by decide +kernel) (by decide +kernel), ?_⟩
  refine ⟨ok_callI (ix := 103) ms_P_init (tb_cwI tw_744 tw_275 tw_13 tw_276 rfl (by decide +kernel) (by decide) (by decide)) (by decide +kernel), ?_⟩
  refine ⟨ok_callV (ix := 106) hc_5 ms_B_send (tb_cwV tw_706 tw_708 tv_19 tw_8 tw_709 (by decide +kernel) (by decide) (by decide)) (by decide +kernel), ?_⟩
  refine ⟨ok_aload_n (z := 3) (by decide +kernel) rfl, ?_⟩
  refine ⟨ok_iconst (z := 1) (by decide +kernel) (by decide +kernel), ?_⟩
  refine ⟨ok_putf (ix := 158) hc_7 (by decide) hi_7 ht_7 hn_7 tw_186 (Or.inl rfl) rfl (by decide +kernel) (by decide +kernel), ?_⟩
  refine ⟨ok_aload_n (z := 3) (by decide +kernel) rfl, ?_⟩
  refine ⟨ok_aload_n (z := 2) (by decide +kernel) rfl, ?_⟩
  refine ⟨ok_getf (ix := 161) hc_8 (by decide) hi_8 tw_287 (Or.inl rfl) (by decide +kernel), ?_⟩
  refine ⟨ok_putf (ix := 162) hc_7 (by decide) hi_7 ht_7 hn_7 tw_188 (Or.inl rfl) rfl (by decide +kernel) (by decide +kernel), ?_⟩
  refine ⟨ok_iconst (z := 0) (by decide +kernel) (by decide +kernel), ?_⟩
  refine ⟨ok_istore (by decide) (by decide +kernel), ?_⟩
  refine ⟨ok_iload (by decide +kernel), ?_⟩
  refine ⟨ok_aload_n (z := 3) (by decide +kernel) rfl, ?_⟩
  refine ⟨ok_getf (ix := 109) hc_7 (by decide) hi_7 tw_182 (Or.inl rfl) (by decide +kernel), ?_⟩
  refine ⟨ok_callV (ix := 144) hc_2 ms_A_size (tb_cwV tw_691 tw_405 tw_406 tw_5 tw_407 (by decide +kernel) (by decide) (by decide)) (by decide +kernel), ?_⟩
  refine ⟨ok_icmpge (off := 29) (by decide +kernel) (by decide), ?_⟩
  refine ⟨ok_aload_n (z := 0) (by decide +kernel) rfl, ?_⟩
  refine ⟨ok_iload_n (z := 1) (by decide +kernel) rfl, ?_⟩
  refine ⟨ok_aload_n (z := 3) (by decide +kernel) rfl, ?_⟩
  refine ⟨ok_getf (ix := 109) hc_7 (by decide) hi_7 tw_182 (Or.inl rfl) (by decide +kernel), ?_⟩
  refine ⟨ok_iload (by decide +kernel), ?_⟩
  refine ⟨ok_callV (ix := 67) hc_2 ms_A_get (tb_cwV tw_692 tw_507 tw_508 tw_5 tw_509 (by decide +kernel) (by decide) (by decide)) (by decide +kernel), ?_⟩
  refine ⟨ok_castS (ix := 113) hc_10 tw_730 (by decide +kernel), ?_⟩
  refine ⟨ok_callV (ix := 165) hc_10 ms_R_repeatedPacket (tb_cwV tw_745 tw_578 tw_579 tw_19 tw_580 (by decide +kernel) (by decide) (by decide)) (by decide +kernel), ?_⟩
  refine ⟨ok_callV (ix := 106) hc_5 ms_B_send (tb_cwV tw_706 tw_708 tv_19 tw_8 tw_709 (by decide +kernel) (by decide) (by decide)) (by decide +kernel), ?_⟩
  refine ⟨ok_iinc (z := 1) (by decide) (by decide +kernel) (by decide +kernel), ?_⟩
  exact trivial
set_option maxHeartbeats 4000000 in
set_option maxRecDepth 100000 in
theorem mg_B_receiveConnect_1 : ev_AllG (ev_Good l vc_L vt_L (gw_G b Ls xs z) prog_2_method_9_code 5 none my_B_receiveConnect.name my_B_receiveConnect.cls tb_T 9 223) (mk_B_receiveConnect_1 z) := by
  refine ⟨ok_goto (off := (-35)) (by decide +kernel) (by decide), ?_⟩
  refine ⟨ok_aload_n (z := 0) (by decide +kernel) rfl, ?_⟩
  refine ⟨ok_iload_n (z := 1) (by decide +kernel) rfl, ?_⟩
  refine ⟨ok_callV (ix := 118) hc_5 ms_B_pump (tb_cwV tw_725 tw_727 tv_22 tw_8 tw_728 (by decide +kernel) (by decide) (by decide)) (by decide +kernel), ?_⟩
  refine ⟨ok_vret rfl (by decide +kernel), ?_⟩
  exact trivial
theorem mg_B_receiveConnect : ev_AllG (ev_Good l vc_L vt_L (gw_G b Ls xs z) prog_2_method_9_code 5 none my_B_receiveConnect.name my_B_receiveConnect.cls tb_T 9 223) (mk_B_receiveConnect z) := ev_AllG.app mg_B_receiveConnect_0 (mg_B_receiveConnect_1)
theorem ms_B_receiveConnect : ev_Met l vc_L vt_L (gw_G b Ls xs z) my_B_receiveConnect (Cond.code my_B_receiveConnect prog_2_method_9_code 5 none :: tb_T) 9 223 (mf_B_receiveConnect z) := ev_sound (by decide +kernel) mg_B_receiveConnect
def my_B_receivePublish : MethodName := ⟨"MessageHub$Broker", "receivePublish", "(ILMessageHub$Packet;)V"⟩
def mk_B_receivePublish_0 (z : Nat × Nat) : ev_C := [(0, ev_fn (ev_aload 0 1)), (1, ev_fn (ev_getf 5 2 4)), (4, ev_fn (ev_iload 1 5)), (5, ev_fn (ev_aaldR 6)), (6, ev_fn (ev_getf 7 3 9)), (9, ev_fn (ev_astore 3 10)), (10, ev_fn (ev_aload 2 11)), (11, ev_fn (ev_getf 8 4 14)), (14, ev_fn (ev_ci 2 15)), (15, ev_fn (ev_icmpne 33 18)), (18, ev_fn (ev_aload 3 19)), (19, ev_fn (ev_aload 2 20)), (20, ev_fn (ev_getf 8 1 23)), (23, ev_callR 4 (mf_I_has z) 2 26), (26, ev_fn (ev_ifeq 33 29)), (29, ev_fn (ev_ci 1 30)), (30, ev_fn (ev_goto 34)), (33, ev_fn (ev_ci 0 34)), (34, ev_fn (ev_istore 4 36)), (36, ev_fn (ev_newo 9 4 ff_9 39)), (39, ev_fn (ev_dup 40)), (40, ev_fn (ev_aload 2 41)), (41, ev_fn (ev_getf 8 3 44)), (44, ev_fn (ev_aload 2 45)), (45, ev_fn (ev_getf 8 2 48)), (48, ev_fn (ev_aload 2 49)), (49, ev_fn (ev_getf 8 4 52)), (52, ev_fn (ev_aload 2 53)), (53, ev_fn (ev_getf 8 6 56)), (56, ev_callI (mf_M_init z) 5 59), (59, ev_fn (ev_astore 5 61)), (61, ev_fn (ev_iload 4 63)), (63, ev_fn (ev_ifne 76 66)), (66, ev_fn (ev_aload 0 67)), (67, ev_fn (ev_iload 1 68)), (68, ev_fn (ev_aload 5 70)), (70, ev_callR 5 (mf_B_accept z) 3 73), (73, ev_fn (ev_ifeq 80 76)), (76, ev_fn (ev_ci 1 77)), (77, ev_fn (ev_goto 81)), (80, ev_fn (ev_ci 0 81)), (81, ev_fn (ev_istore 6 83)), (83, ev_fn (ev_iload 6 85)), (85, ev_fn (ev_ifeq 92 88)), (88, ev_fn (ev_ci 0 89)), (89, ev_fn (ev_goto 95)), (92, ev_fn (ev_ci 151 95)), (95, ev_fn (ev_istore 7 97)), (97, ev_fn (ev_aload 2 98)), (98, ev_fn (ev_getf 8 4 101)), (101, ev_fn (ev_ci 1 102)), (102, ev_fn (ev_icmpne 127 105)), (105, ev_fn (ev_aload 0 106)), (106, ev_fn (ev_iload 1 107)), (107, ev_fn (ev_newo 8 10 ff_8 110)), (110, ev_fn (ev_dup 111)), (111, ev_fn (ev_ci 4 112)), (112, ev_fn (ev_aload 2 113)), (113, ev_fn (ev_getf 8 1 116)), (116, ev_fn (ev_iload 7 118))]
def mk_B_receivePublish_1 (z : Nat × Nat) : ev_C := [(118, ev_callI (mf_P_init z) 4 121), (121, ev_callR 5 (mf_B_send z) 3 124), (124, ev_fn (ev_goto 167)), (127, ev_fn (ev_aload 2 128)), (128, ev_fn (ev_getf 8 4 131)), (131, ev_fn (ev_ci 2 132)), (132, ev_fn (ev_icmpne 167 135)), (135, ev_fn (ev_iload 6 137)), (137, ev_fn (ev_ifeq 148 140)), (140, ev_fn (ev_aload 3 141)), (141, ev_fn (ev_aload 2 142)), (142, ev_fn (ev_getf 8 1 145)), (145, ev_callR 4 (mf_I_add z) 2 148), (148, ev_fn (ev_aload 0 149)), (149, ev_fn (ev_iload 1 150)), (150, ev_fn (ev_newo 8 10 ff_8 153)), (153, ev_fn (ev_dup 154)), (154, ev_fn (ev_ci 5 155)), (155, ev_fn (ev_aload 2 156)), (156, ev_fn (ev_getf 8 1 159)), (159, ev_fn (ev_iload 7 161)), (161, ev_callI (mf_P_init z) 4 164), (164, ev_callR 5 (mf_B_send z) 3 167), (167, ev_fn ev_vret)]
def mk_B_receivePublish (z : Nat × Nat) : ev_C := mk_B_receivePublish_0 z ++ (mk_B_receivePublish_1 z)
def mf_B_receivePublish (z : Nat × Nat) : ev_F := ev_met (mk_B_receivePublish z) 8
set_option maxHeartbeats 4000000 in
set_option maxRecDepth 100000 in
theorem mg_B_receivePublish_0 : ev_AllG (ev_Good l vc_L vt_L (gw_G b Ls xs z) prog_2_method_10_code 8 none my_B_receivePublish.name my_B_receivePublish.cls tb_T 10 247) (mk_B_receivePublish_0 z) := by
  refine ⟨ok_aload_n (z := 0) (by decide +kernel) rfl, ?_⟩
  refine ⟨ok_getf (ix := 19) hc_5 (by decide) hi_5 tw_208 (Or.inl rfl) (by decide +kernel), ?_⟩
  refine ⟨ok_iload_n (z := 1) (by decide +kernel) rfl, ?_⟩
  refine ⟨ok_aaldR (by decide +kernel), ?_⟩
  refine ⟨ok_getf (ix := 91) hc_7 (by decide) hi_7 tw_184 (Or.inl rfl) (by decide +kernel), ?_⟩
  refine ⟨ok_astore_n (z := 3) (by decide) (by decide +kernel) rfl, ?_⟩
  refine ⟨ok_aload_n (z := 2) (by decide +kernel) rfl, ?_⟩
  refine ⟨ok_getf (ix := 169) hc_8 (by decide) hi_8 tw_292 (Or.inl rfl) (by decide +kernel), ?_⟩
  refine ⟨ok_iconst (z := 2) (by decide +kernel) (by decide +kernel), ?_⟩
  refine ⟨ok_icmpne (off := 18) (by decide +kernel) (by decide), ?_⟩
  refine ⟨ok_aload_n (z := 3) (by decide +kernel) rfl, ?_⟩
  refine ⟨ok_aload_n (z := 2) (by decide +kernel) rfl, ?_⟩
  refine ⟨ok_getf (ix := 95) hc_8 (by decide) hi_8 tw_284 (Or.inl rfl) (by decide +kernel), ?_⟩
  refine ⟨ok_callV (ix := 172) hc_4 ms_I_has (tb_cwV tw_750 tw_589 tw_590 tw_7 tw_591 (by decide +kernel) (by decide) (by decide)) (by decide +kernel), ?_⟩
  refine ⟨ok_ifeq (off := 7) (by decide +kernel) (by decide), ?_⟩
  refine ⟨ok_iconst (z := 1) (by decide +kernel) (by decide +kernel), ?_⟩
  refine ⟨ok_goto (off := 4) (by decide +kernel) (by decide), ?_⟩
  refine ⟨ok_iconst (z := 0) (by decide +kernel) (by decide +kernel), ?_⟩
  refine ⟨ok_istore (by decide) (by decide +kernel), ?_⟩
  refine ⟨ok_newo (ix := 71) hc_9 hi_9 ht_9 hf_9 tw_719 tw_441 tw_18 (by decide +kernel), ?_⟩
  refine ⟨ok_dup (by decide +kernel), ?_⟩
  refine ⟨ok_aload_n (z := 2) (by decide +kernel) rfl, ?_⟩
  refine ⟨ok_getf (ix := 176) hc_8 (by decide) hi_8 tw_290 (Or.inl rfl) (by decide +kernel), ?_⟩
  refine ⟨ok_aload_n (z := 2) (by decide +kernel) rfl, ?_⟩
  refine ⟨ok_getf (ix := 161) hc_8 (by decide) hi_8 tw_287 (Or.inl rfl) (by decide +kernel), ?_⟩
  refine ⟨ok_aload_n (z := 2) (by decide +kernel) rfl, ?_⟩
  refine ⟨ok_getf (ix := 169) hc_8 (by decide) hi_8 tw_292 (Or.inl rfl) (by decide +kernel), ?_⟩
  refine ⟨ok_aload_n (z := 2) (by decide +kernel) rfl, ?_⟩
  refine ⟨ok_getf (ix := 152) hc_8 (by decide) hi_8 tw_296 (Or.inl rfl) (by decide +kernel), ?_⟩
  refine ⟨ok_callI (ix := 180) ms_M_init (tb_cwI tw_751 tw_443 tw_18 tw_444 rfl (by decide +kernel) (by decide) (by decide)) (by decide +kernel), ?_⟩
  refine ⟨ok_astore (by decide) (by decide +kernel), ?_⟩
  refine ⟨ok_iload (by decide +kernel), ?_⟩
  refine ⟨ok_ifne (off := 13) (by decide +kernel) (by decide), ?_⟩
  refine ⟨ok_aload_n (z := 0) (by decide +kernel) rfl, ?_⟩
  refine ⟨ok_iload_n (z := 1) (by decide +kernel) rfl, ?_⟩
  refine ⟨ok_aload (by decide +kernel), ?_⟩
  refine ⟨ok_callV (ix := 183) hc_5 ms_B_accept (tb_cwV tw_659 tw_661 tv_16 tw_8 tw_662 (by decide +kernel) (by decide) (by decide)) (by decide +kernel), ?_⟩
  refine ⟨ok_ifeq (off := 7) (by decide +kernel) (by decide), ?_⟩
  refine ⟨ok_iconst (z := 1) (by decide +kernel) (by decide +kernel), ?_⟩
  refine ⟨ok_goto (off := 4) (by decide +kernel) (by decide), ?_⟩
  refine ⟨ok_iconst (z := 0) (by decide +kernel) (by decide +kernel), ?_⟩
  refine ⟨ok_istore (by decide) (by decide +kernel), ?_⟩
  refine ⟨ok_iload (by decide +kernel), ?_⟩
  refine ⟨ok_ifeq (off := 7) (by decide +kernel) (by decide), ?_⟩
  refine ⟨ok_iconst (z := 0) (by decide +kernel) (by decide +kernel), ?_⟩
  refine ⟨ok_goto (off := 6) (by decide +kernel) (by decide), ?_⟩
  refine ⟨ok_sipush (z := 151) (by decide +kernel) (by decide +kernel), ?_⟩
  refine ⟨ok_istore (by decide) (by decide +kernel), ?_⟩
  refine ⟨ok_aload_n (z := 2) (by decide +kernel) rfl, ?_⟩
  refine ⟨ok_getf (ix := 169) hc_8 (by decide) hi_8 tw_292 (Or.inl rfl) (by decide +kernel), ?_⟩
  refine ⟨ok_iconst (z := 1) (by decide +kernel) (by decide +kernel), ?_⟩
  refine ⟨ok_icmpne (off := 25) (by decide +kernel) (by decide), ?_⟩
  refine ⟨ok_aload_n (z := 0) (by decide +kernel) rfl, ?_⟩
  refine ⟨ok_iload_n (z := 1) (by decide +kernel) rfl, ?_⟩
  refine ⟨ok_newo (ix := 80) hc_8 hi_8 ht_8 hf_8 tw_743 tw_273 tw_13 (by decide +kernel), ?_⟩
  refine ⟨ok_dup (by decide +kernel), ?_⟩
  refine ⟨ok_iconst (z := 4) (by decide +kernel) (by decide +kernel), ?_⟩
  refine ⟨ok_aload_n (z := 2) (by decide +kernel) rfl, ?_⟩
  refine ⟨ok_getf (ix := 95) hc_8 (by decide) hi_8 tw_284 (Or.inl rfl) (by decide +kernel), ?_⟩
  refine ⟨ok_iload (by decide +kernel), ?_⟩
  exact trivial
set_option maxHeartbeats 4000000 in
set_option maxRecDepth 100000 in
theorem mg_B_receivePublish_1 : ev_AllG (ev_Good l vc_L vt_L (gw_G b Ls xs z) prog_2_method_10_code 8 none my_B_receivePublish.name my_B_receivePublish.cls tb_T 10 247) (mk_B_receivePublish_1 z) := by
  refine ⟨ok_callI (ix := 103) ms_P_init (tb_cwI tw_744 tw_275 tw_13 tw_276 rfl (by decide +kernel) (by decide) (by decide)) (by decide +kernel), ?_⟩
  refine ⟨ok_callV (ix := 106) hc_5 ms_B_send (tb_cwV tw_706 tw_708 tv_19 tw_8 tw_709 (by decide +kernel) (by decide) (by decide)) (by decide +kernel), ?_⟩
  refine ⟨ok_goto (off := 43) (by decide +kernel) (by decide), ?_⟩
  refine ⟨ok_aload_n (z := 2) (by decide +kernel) rfl, ?_⟩
  refine ⟨ok_getf (ix := 169) hc_8 (by decide) hi_8 tw_292 (Or.inl rfl) (by decide +kernel), ?_⟩
  refine ⟨ok_iconst (z := 2) (by decide +kernel) (by decide +kernel), ?_⟩
  refine ⟨ok_icmpne (off := 35) (by decide +kernel) (by decide), ?_⟩
  refine ⟨ok_iload (by decide +kernel), ?_⟩
  refine ⟨ok_ifeq (off := 11) (by decide +kernel) (by decide), ?_⟩
  refine ⟨ok_aload_n (z := 3) (by decide +kernel) rfl, ?_⟩
  refine ⟨ok_aload_n (z := 2) (by decide +kernel) rfl, ?_⟩
  refine ⟨ok_getf (ix := 95) hc_8 (by decide) hi_8 tw_284 (Or.inl rfl) (by decide +kernel), ?_⟩
  refine ⟨ok_callV (ix := 187) hc_4 ms_I_add (tb_cwV tw_752 tw_600 tw_601 tw_7 tw_602 (by decide +kernel) (by decide) (by decide)) (by decide +kernel), ?_⟩
  refine ⟨ok_aload_n (z := 0) (by decide +kernel) rfl, ?_⟩
  refine ⟨ok_iload_n (z := 1) (by decide +kernel) rfl, ?_⟩
  refine ⟨ok_newo (ix := 80) hc_8 hi_8 ht_8 hf_8 tw_743 tw_273 tw_13 (by decide +kernel), ?_⟩
  refine ⟨ok_dup (by decide +kernel), ?_⟩
  refine ⟨ok_iconst (z := 5) (by decide +kernel) (by decide +kernel), ?_⟩
  refine ⟨ok_aload_n (z := 2) (by decide +kernel) rfl, ?_⟩
  refine ⟨ok_getf (ix := 95) hc_8 (by decide) hi_8 tw_284 (Or.inl rfl) (by decide +kernel), ?_⟩
  refine ⟨ok_iload (by decide +kernel), ?_⟩
  refine ⟨ok_callI (ix := 103) ms_P_init (tb_cwI tw_744 tw_275 tw_13 tw_276 rfl (by decide +kernel) (by decide) (by decide)) (by decide +kernel), ?_⟩
  refine ⟨ok_callV (ix := 106) hc_5 ms_B_send (tb_cwV tw_706 tw_708 tv_19 tw_8 tw_709 (by decide +kernel) (by decide) (by decide)) (by decide +kernel), ?_⟩
  refine ⟨ok_vret rfl (by decide +kernel), ?_⟩
  exact trivial
theorem mg_B_receivePublish : ev_AllG (ev_Good l vc_L vt_L (gw_G b Ls xs z) prog_2_method_10_code 8 none my_B_receivePublish.name my_B_receivePublish.cls tb_T 10 247) (mk_B_receivePublish z) := ev_AllG.app mg_B_receivePublish_0 (mg_B_receivePublish_1)
theorem ms_B_receivePublish : ev_Met l vc_L vt_L (gw_G b Ls xs z) my_B_receivePublish (Cond.code my_B_receivePublish prog_2_method_10_code 8 none :: tb_T) 10 247 (mf_B_receivePublish z) := ev_sound (by decide +kernel) mg_B_receivePublish
def my_S_find : MethodName := ⟨"MessageHub$Session", "find", "(J)I"⟩
def mk_S_find (z : Nat × Nat) : ev_C := [(0, ev_fn (ev_ci 0 1)), (1, ev_fn (ev_istore 3 2)), (2, ev_fn (ev_iload 3 3)), (3, ev_fn (ev_aload 0 4)), (4, ev_fn (ev_getf 7 0 7)), (7, ev_callR 2 (mf_A_size z) 1 10), (10, ev_fn (ev_icmpge 40 13)), (13, ev_fn (ev_aload 0 14)), (14, ev_fn (ev_getf 7 0 17)), (17, ev_fn (ev_iload 3 18)), (18, ev_callR 2 (mf_A_get z) 2 21), (21, ev_fn (ev_castS 11 24)), (24, ev_fn (ev_getf 11 0 27)), (27, ev_fn (ev_lload 1 28)), (28, ev_fn (ev_lcmp 29)), (29, ev_fn (ev_ifne 34 32)), (32, ev_fn (ev_iload 3 33)), (33, ev_fn ev_iret), (34, ev_fn (ev_iinc 3 1 37)), (37, ev_fn (ev_goto 2)), (40, ev_fn (ev_ci (-1) 41)), (41, ev_fn ev_iret)]
def mf_S_find (z : Nat × Nat) : ev_F := ev_met (mk_S_find z) 4
set_option maxHeartbeats 4000000 in
set_option maxRecDepth 100000 in
theorem mg_S_find : ev_AllG (ev_Good l vc_L vt_L (gw_G b Ls xs z) prog_10_method_6_code 4 (some .int) my_S_find.name my_S_find.cls tb_T 3 64) (mk_S_find z) := by
  refine ⟨ok_iconst (z := 0) (by decide +kernel) (by decide +kernel), ?_⟩
  refine ⟨ok_istore_n (z := 3) (by decide) (by decide +kernel) rfl, ?_⟩
  refine ⟨ok_iload_n (z := 3) (by decide +kernel) rfl, ?_⟩
  refine ⟨ok_aload_n (z := 0) (by decide +kernel) rfl, ?_⟩
  refine ⟨ok_getf (ix := 12) hc_7 (by decide) hi_7 tw_177 (Or.inl rfl) (by decide +kernel), ?_⟩
  refine ⟨ok_callV (ix := 49) hc_2 ms_A_size (tb_cwV tw_667 tw_405 tw_406 tw_5 tw_407 (by decide +kernel) (by decide) (by decide)) (by decide +kernel), ?_⟩
  refine ⟨ok_icmpge (off := 30) (by decide +kernel) (by decide), ?_⟩
  refine ⟨ok_aload_n (z := 0) (by decide +kernel) rfl, ?_⟩
  refine ⟨ok_getf (ix := 12) hc_7 (by decide) hi_7 tw_177 (Or.inl rfl) (by decide +kernel), ?_⟩
  refine ⟨ok_iload_n (z := 3) (by decide +kernel) rfl, ?_⟩
  refine ⟨ok_callV (ix := 53) hc_2 ms_A_get (tb_cwV tw_672 tw_507 tw_508 tw_5 tw_509 (by decide +kernel) (by decide) (by decide)) (by decide +kernel), ?_⟩
  refine ⟨ok_castS (ix := 57) hc_11 tw_673 (by decide +kernel), ?_⟩
  refine ⟨ok_getf (ix := 59) hc_11 (by decide) hi_11 tw_774 (Or.inl rfl) (by decide +kernel), ?_⟩
  refine ⟨ok_lload_n (z := 1) (by decide +kernel) rfl, ?_⟩
  refine ⟨ok_lcmp (by decide +kernel), ?_⟩
  refine ⟨ok_ifne (off := 5) (by decide +kernel) (by decide), ?_⟩
  refine ⟨ok_iload_n (z := 3) (by decide +kernel) rfl, ?_⟩
  refine ⟨ok_iret rfl (by decide +kernel), ?_⟩
  refine ⟨ok_iinc (z := 1) (by decide) (by decide +kernel) (by decide +kernel), ?_⟩
  refine ⟨ok_goto (off := (-35)) (by decide +kernel) (by decide), ?_⟩
  refine ⟨ok_iconst (z := (-1)) (by decide +kernel) (by decide +kernel), ?_⟩
  refine ⟨ok_iret rfl (by decide +kernel), ?_⟩
  exact trivial
theorem ms_S_find : ev_Met l vc_L vt_L (gw_G b Ls xs z) my_S_find (Cond.code my_S_find prog_10_method_6_code 4 (some .int) :: tb_T) 3 64 (mf_S_find z) := ev_sound (by decide +kernel) mg_S_find
def my_U_init : MethodName := ⟨"MessageHub$Subscription", "<init>", "(J)V"⟩
def mk_U_init (z : Nat × Nat) : ev_C := [(0, ev_fn (ev_aload 0 1)), (1, ev_fn (ev_obji 4)), (4, ev_fn (ev_aload 0 5)), (5, ev_fn (ev_lload 1 6)), (6, ev_fn (ev_putf 11 0 .long 9)), (9, ev_fn ev_vret)]
def mf_U_init (z : Nat × Nat) : ev_F := ev_met (mk_U_init z) 3
set_option maxHeartbeats 4000000 in
set_option maxRecDepth 100000 in
theorem mg_U_init : ev_AllG (ev_Good l vc_L vt_L (gw_G b Ls xs z) prog_11_method_1_code 3 none my_U_init.name my_U_init.cls tb_T 1 20) (mk_U_init z) := by
  refine ⟨ok_aload_n (z := 0) (by decide +kernel) rfl, ?_⟩
  refine ⟨ok_obji (ix := 3) (by decide) (by decide) tw_772 tw_30 tw_31 (by decide +kernel), ?_⟩
  refine ⟨ok_aload_n (z := 0) (by decide +kernel) rfl, ?_⟩
  refine ⟨ok_lload_n (z := 1) (by decide +kernel) rfl, ?_⟩
  refine ⟨ok_putF (ix := 9) hc_11 (by decide) hi_11 ht_11 hn_11 tw_773 rfl rfl rfl rfl (by decide +kernel) (by decide +kernel), ?_⟩
  refine ⟨ok_vret rfl (by decide +kernel), ?_⟩
  exact trivial
theorem ms_U_init : ev_Met l vc_L vt_L (gw_G b Ls xs z) my_U_init (Cond.code my_U_init prog_11_method_1_code 3 none :: tb_T) 1 20 (mf_U_init z) := ev_sound (by decide +kernel) mg_U_init
def my_S_enter : MethodName := ⟨"MessageHub$Session", "enter", "(JIZ)Z"⟩
def mk_S_enter (z : Nat × Nat) : ev_C := [(0, ev_fn (ev_aload 0 1)), (1, ev_fn (ev_lload 1 2)), (2, ev_callR 7 (mf_S_find z) 2 5), (5, ev_fn (ev_istore 5 7)), (7, ev_fn (ev_iload 5 9)), (9, ev_fn (ev_ifge 50 12)), (12, ev_fn (ev_aload 0 13)), (13, ev_fn (ev_getf 7 0 16)), (16, ev_callR 2 (mf_A_size z) 1 19), (19, ev_fn (ev_ci 4 20)), (20, ev_fn (ev_icmplt 25 23)), (23, ev_fn (ev_ci 0 24)), (24, ev_fn (ev_zret .boolean)), (25, ev_fn (ev_aload 0 26)), (26, ev_fn (ev_getf 7 0 29)), (29, ev_callR 2 (mf_A_size z) 1 32), (32, ev_fn (ev_istore 5 34)), (34, ev_fn (ev_aload 0 35)), (35, ev_fn (ev_getf 7 0 38)), (38, ev_fn (ev_newo 11 3 ff_11 41)), (41, ev_fn (ev_dup 42)), (42, ev_fn (ev_lload 1 43)), (43, ev_callI (mf_U_init z) 2 46), (46, ev_callR 2 (mf_A_add z) 2 49), (49, ev_fn (ev_pop 50)), (50, ev_fn (ev_aload 0 51)), (51, ev_fn (ev_getf 7 0 54)), (54, ev_fn (ev_iload 5 56)), (56, ev_callR 2 (mf_A_get z) 2 59), (59, ev_fn (ev_castS 11 62)), (62, ev_fn (ev_iload 3 63)), (63, ev_fn (ev_putf 11 1 .int 66)), (66, ev_fn (ev_aload 0 67)), (67, ev_fn (ev_getf 7 0 70)), (70, ev_fn (ev_iload 5 72)), (72, ev_callR 2 (mf_A_get z) 2 75), (75, ev_fn (ev_castS 11 78)), (78, ev_fn (ev_iload 4 80)), (80, ev_fn (ev_putf 11 2 .boolean 83)), (83, ev_fn (ev_ci 1 84)), (84, ev_fn (ev_zret .boolean))]
def mf_S_enter (z : Nat × Nat) : ev_F := ev_met (mk_S_enter z) 6
set_option maxHeartbeats 4000000 in
set_option maxRecDepth 100000 in
theorem mg_S_enter : ev_AllG (ev_Good l vc_L vt_L (gw_G b Ls xs z) prog_10_method_7_code 6 (some .boolean) my_S_enter.name my_S_enter.cls tb_T 7 176) (mk_S_enter z) := by
  refine ⟨ok_aload_n (z := 0) (by decide +kernel) rfl, ?_⟩
  refine ⟨ok_lload_n (z := 1) (by decide +kernel) rfl, ?_⟩
  refine ⟨ok_callV (ix := 63) hc_7 ms_S_find (tb_cwV tw_764 tw_765 tw_766 tw_10 tw_767 (by decide +kernel) (by decide) (by decide)) (by decide +kernel), ?_⟩
  refine ⟨ok_istore (by decide) (by decide +kernel), ?_⟩
  refine ⟨ok_iload (by decide +kernel), ?_⟩
  refine ⟨ok_ifge (off := 41) (by decide +kernel) (by decide), ?_⟩
  refine ⟨ok_aload_n (z := 0) (by decide +kernel) rfl, ?_⟩
  refine ⟨ok_getf (ix := 12) hc_7 (by decide) hi_7 tw_177 (Or.inl rfl) (by decide +kernel), ?_⟩
  refine ⟨ok_callV (ix := 49) hc_2 ms_A_size (tb_cwV tw_667 tw_405 tw_406 tw_5 tw_407 (by decide +kernel) (by decide) (by decide)) (by decide +kernel), ?_⟩
  refine ⟨ok_iconst (z := 4) (by decide +kernel) (by decide +kernel), ?_⟩
  refine ⟨ok_icmplt (off := 5) (by decide +kernel) (by decide), ?_⟩
  refine ⟨ok_iconst (z := 0) (by decide +kernel) (by decide +kernel), ?_⟩
  refine ⟨ok_zret rfl (by decide +kernel), ?_⟩
  refine ⟨ok_aload_n (z := 0) (by decide +kernel) rfl, ?_⟩
  refine ⟨ok_getf (ix := 12) hc_7 (by decide) hi_7 tw_177 (Or.inl rfl) (by decide +kernel), ?_⟩
  refine ⟨ok_callV (ix := 49) hc_2 ms_A_size (tb_cwV tw_667 tw_405 tw_406 tw_5 tw_407 (by decide +kernel) (by decide) (by decide)) (by decide +kernel), ?_⟩
  refine ⟨ok_istore (by decide) (by decide +kernel), ?_⟩
  refine ⟨ok_aload_n (z := 0) (by decide +kernel) rfl, ?_⟩
  refine ⟨ok_getf (ix := 12) hc_7 (by decide) hi_7 tw_177 (Or.inl rfl) (by decide +kernel), ?_⟩
  refine ⟨ok_newo (ix := 57) hc_11 hi_11 ht_11 hf_11 tw_673 tw_768 tw_22 (by decide +kernel), ?_⟩
  refine ⟨ok_dup (by decide +kernel), ?_⟩
  refine ⟨ok_lload_n (z := 1) (by decide +kernel) rfl, ?_⟩
  refine ⟨ok_callI (ix := 67) ms_U_init (tb_cwI tw_769 tw_770 tw_22 tw_771 rfl (by decide +kernel) (by decide) (by decide)) (by decide +kernel), ?_⟩
  refine ⟨ok_callV (ix := 70) hc_2 ms_A_add (tb_cwV tw_786 tw_325 tw_326 tw_5 tw_327 (by decide +kernel) (by decide) (by decide)) (by decide +kernel), ?_⟩
  refine ⟨ok_pop (by decide +kernel), ?_⟩
  refine ⟨ok_aload_n (z := 0) (by decide +kernel) rfl, ?_⟩
  refine ⟨ok_getf (ix := 12) hc_7 (by decide) hi_7 tw_177 (Or.inl rfl) (by decide +kernel), ?_⟩
  refine ⟨ok_iload (by decide +kernel), ?_⟩
  refine ⟨ok_callV (ix := 53) hc_2 ms_A_get (tb_cwV tw_672 tw_507 tw_508 tw_5 tw_509 (by decide +kernel) (by decide) (by decide)) (by decide +kernel), ?_⟩
  refine ⟨ok_castS (ix := 57) hc_11 tw_673 (by decide +kernel), ?_⟩
  refine ⟨ok_iload_n (z := 3) (by decide +kernel) rfl, ?_⟩
  refine ⟨ok_putf (ix := 74) hc_11 (by decide) hi_11 ht_11 hn_11 tw_776 (Or.inl rfl) rfl (by decide +kernel) (by decide +kernel), ?_⟩
  refine ⟨ok_aload_n (z := 0) (by decide +kernel) rfl, ?_⟩
  refine ⟨ok_getf (ix := 12) hc_7 (by decide) hi_7 tw_177 (Or.inl rfl) (by decide +kernel), ?_⟩
  refine ⟨ok_iload (by decide +kernel), ?_⟩
  refine ⟨ok_callV (ix := 53) hc_2 ms_A_get (tb_cwV tw_672 tw_507 tw_508 tw_5 tw_509 (by decide +kernel) (by decide) (by decide)) (by decide +kernel), ?_⟩
  refine ⟨ok_castS (ix := 57) hc_11 tw_673 (by decide +kernel), ?_⟩
  refine ⟨ok_iload (by decide +kernel), ?_⟩
  refine ⟨ok_putf (ix := 77) hc_11 (by decide) hi_11 ht_11 hn_11 tw_778 (Or.inl rfl) rfl (by decide +kernel) (by decide +kernel), ?_⟩
  refine ⟨ok_iconst (z := 1) (by decide +kernel) (by decide +kernel), ?_⟩
  refine ⟨ok_zret rfl (by decide +kernel), ?_⟩
  exact trivial
theorem ms_S_enter : ev_Met l vc_L vt_L (gw_G b Ls xs z) my_S_enter (Cond.code my_S_enter prog_10_method_7_code 6 (some .boolean) :: tb_T) 7 176 (mf_S_enter z) := ev_sound (by decide +kernel) mg_S_enter
def my_B_giveRetained : MethodName := ⟨"MessageHub$Broker", "giveRetained", "(ILMessageHub$Message;)V"⟩
def mk_B_giveRetained (z : Nat × Nat) : ev_C := [(0, ev_fn (ev_aload 2 1)), (1, ev_fn (ev_getf 9 2 4)), (4, ev_fn (ev_ifne 29 7)), (7, ev_fn (ev_aload 0 8)), (8, ev_fn (ev_iload 1 9)), (9, ev_callR 5 (mf_B_hasLineRoom z) 2 12), (12, ev_fn (ev_ifeq 29 15)), (15, ev_fn (ev_aload 0 16)), (16, ev_fn (ev_iload 1 17)), (17, ev_fn (ev_aload 2 18)), (18, ev_fn (ev_ci 0 19)), (19, ev_fn (ev_ci 0 20)), (20, ev_call (mf_P_ofMessage z) 3 23), (23, ev_callR 5 (mf_B_send z) 3 26), (26, ev_fn (ev_goto 64)), (29, ev_fn (ev_aload 2 30)), (30, ev_fn (ev_getf 9 2 33)), (33, ev_fn (ev_ifle 64 36)), (36, ev_fn (ev_aload 0 37)), (37, ev_fn (ev_getf 5 2 40)), (40, ev_fn (ev_iload 1 41)), (41, ev_fn (ev_aaldR 42)), (42, ev_callR 7 (mf_S_load z) 1 45), (45, ev_fn (ev_ci 6 47)), (47, ev_fn (ev_icmpge 64 50)), (50, ev_fn (ev_aload 0 51)), (51, ev_fn (ev_getf 5 2 54)), (54, ev_fn (ev_iload 1 55)), (55, ev_fn (ev_aaldR 56)), (56, ev_fn (ev_getf 7 1 59)), (59, ev_fn (ev_aload 2 60)), (60, ev_callR 2 (mf_A_add z) 2 63), (63, ev_fn (ev_pop 64)), (64, ev_fn ev_vret)]
def mf_B_giveRetained (z : Nat × Nat) : ev_F := ev_met (mk_B_giveRetained z) 3
set_option maxHeartbeats 4000000 in
set_option maxRecDepth 100000 in
theorem mg_B_giveRetained : ev_AllG (ev_Good l vc_L vt_L (gw_G b Ls xs z) prog_2_method_12_code 3 none my_B_giveRetained.name my_B_giveRetained.cls tb_T 8 198) (mk_B_giveRetained z) := by
  refine ⟨ok_aload_n (z := 2) (by decide +kernel) rfl, ?_⟩
  refine ⟨ok_getf (ix := 202) hc_9 (by decide) hi_9 tw_457 (Or.inl rfl) (by decide +kernel), ?_⟩
  refine ⟨ok_ifne (off := 25) (by decide +kernel) (by decide), ?_⟩
  refine ⟨ok_aload_n (z := 0) (by decide +kernel) rfl, ?_⟩
  refine ⟨ok_iload_n (z := 1) (by decide +kernel) rfl, ?_⟩
  refine ⟨ok_callV (ix := 217) hc_5 ms_B_hasLineRoom (tb_cwV tw_695 tw_697 tv_18 tw_8 tw_698 (by decide +kernel) (by decide) (by decide)) (by decide +kernel), ?_⟩
  refine ⟨ok_ifeq (off := 17) (by decide +kernel) (by decide), ?_⟩
  refine ⟨ok_aload_n (z := 0) (by decide +kernel) rfl, ?_⟩
  refine ⟨ok_iload_n (z := 1) (by decide +kernel) rfl, ?_⟩
  refine ⟨ok_aload_n (z := 2) (by decide +kernel) rfl, ?_⟩
  refine ⟨ok_iconst (z := 0) (by decide +kernel) (by decide +kernel), ?_⟩
  refine ⟨ok_iconst (z := 0) (by decide +kernel) (by decide +kernel), ?_⟩
  refine ⟨ok_callS (ix := 220) ms_P_ofMessage (tb_cwS tw_705 tw_471 tw_13 tw_472 (by decide +kernel) (by decide) (by decide)) (by decide +kernel), ?_⟩
  refine ⟨ok_callV (ix := 106) hc_5 ms_B_send (tb_cwV tw_706 tw_708 tv_19 tw_8 tw_709 (by decide +kernel) (by decide) (by decide)) (by decide +kernel), ?_⟩
  refine ⟨ok_goto (off := 38) (by decide +kernel) (by decide), ?_⟩
  refine ⟨ok_aload_n (z := 2) (by decide +kernel) rfl, ?_⟩
  refine ⟨ok_getf (ix := 202) hc_9 (by decide) hi_9 tw_457 (Or.inl rfl) (by decide +kernel), ?_⟩
  refine ⟨ok_ifle (off := 31) (by decide +kernel) (by decide), ?_⟩
  refine ⟨ok_aload_n (z := 0) (by decide +kernel) rfl, ?_⟩
  refine ⟨ok_getf (ix := 19) hc_5 (by decide) hi_5 tw_208 (Or.inl rfl) (by decide +kernel), ?_⟩
  refine ⟨ok_iload_n (z := 1) (by decide +kernel) rfl, ?_⟩
  refine ⟨ok_aaldR (by decide +kernel), ?_⟩
  refine ⟨ok_callV (ix := 224) hc_7 ms_S_load (tb_cwV tw_663 tw_664 tw_665 tw_10 tw_666 (by decide +kernel) (by decide) (by decide)) (by decide +kernel), ?_⟩
  refine ⟨ok_bipush (z := 6) (by decide +kernel) (by decide +kernel), ?_⟩
  refine ⟨ok_icmpge (off := 17) (by decide +kernel) (by decide), ?_⟩
  refine ⟨ok_aload_n (z := 0) (by decide +kernel) rfl, ?_⟩
  refine ⟨ok_getf (ix := 19) hc_5 (by decide) hi_5 tw_208 (Or.inl rfl) (by decide +kernel), ?_⟩
  refine ⟨ok_iload_n (z := 1) (by decide +kernel) rfl, ?_⟩
  refine ⟨ok_aaldR (by decide +kernel), ?_⟩
  refine ⟨ok_getf (ix := 227) hc_7 (by decide) hi_7 tw_180 (Or.inl rfl) (by decide +kernel), ?_⟩
  refine ⟨ok_aload_n (z := 2) (by decide +kernel) rfl, ?_⟩
  refine ⟨ok_callV (ix := 140) hc_2 ms_A_add (tb_cwV tw_710 tw_325 tw_326 tw_5 tw_327 (by decide +kernel) (by decide) (by decide)) (by decide +kernel), ?_⟩
  refine ⟨ok_pop (by decide +kernel), ?_⟩
  refine ⟨ok_vret rfl (by decide +kernel), ?_⟩
  exact trivial
theorem ms_B_giveRetained : ev_Met l vc_L vt_L (gw_G b Ls xs z) my_B_giveRetained (Cond.code my_B_giveRetained prog_2_method_12_code 3 none :: tb_T) 8 198 (mf_B_giveRetained z) := ev_sound (by decide +kernel) mg_B_giveRetained
def my_B_receiveSubscribe : MethodName := ⟨"MessageHub$Broker", "receiveSubscribe", "(ILMessageHub$Packet;)V"⟩
def mk_B_receiveSubscribe_0 (z : Nat × Nat) : ev_C := [(0, ev_fn (ev_aload 0 1)), (1, ev_fn (ev_getf 5 2 4)), (4, ev_fn (ev_iload 1 5)), (5, ev_fn (ev_aaldR 6)), (6, ev_fn (ev_aload 2 7)), (7, ev_fn (ev_getf 8 3 10)), (10, ev_fn (ev_aload 2 11)), (11, ev_fn (ev_getf 8 2 14)), (14, ev_fn (ev_aload 2 15)), (15, ev_fn (ev_getf 8 6 18)), (18, ev_callR 7 (mf_S_enter z) 4 21), (21, ev_fn (ev_istore 3 22)), (22, ev_fn (ev_aload 0 23)), (23, ev_fn (ev_iload 1 24)), (24, ev_fn (ev_newo 8 10 ff_8 27)), (27, ev_fn (ev_dup 28)), (28, ev_fn (ev_ci 9 30)), (30, ev_fn (ev_ci 0 31)), (31, ev_fn (ev_iload 3 32)), (32, ev_fn (ev_ifeq 42 35)), (35, ev_fn (ev_aload 2 36)), (36, ev_fn (ev_getf 8 2 39)), (39, ev_fn (ev_goto 45)), (42, ev_fn (ev_ci 151 45)), (45, ev_callI (mf_P_init z) 4 48), (48, ev_callR 5 (mf_B_send z) 3 51), (51, ev_fn (ev_iload 3 52)), (52, ev_fn (ev_ifeq 65 55)), (55, ev_fn (ev_aload 0 56)), (56, ev_fn (ev_getf 5 3 59)), (59, ev_callR 2 (mf_A_size z) 1 62), (62, ev_fn (ev_goto 66)), (65, ev_fn (ev_ci 0 66)), (66, ev_fn (ev_istore 4 68)), (68, ev_fn (ev_ci 0 69)), (69, ev_fn (ev_istore 5 71)), (71, ev_fn (ev_iload 5 73)), (73, ev_fn (ev_iload 4 75)), (75, ev_fn (ev_icmpge 136 78)), (78, ev_fn (ev_aload 0 79)), (79, ev_fn (ev_getf 5 3 82)), (82, ev_fn (ev_iload 5 84)), (84, ev_callR 2 (mf_A_get z) 2 87), (87, ev_fn (ev_castS 9 90)), (90, ev_fn (ev_astore 6 92)), (92, ev_fn (ev_aload 2 93)), (93, ev_fn (ev_getf 8 3 96)), (96, ev_fn (ev_aload 6 98)), (98, ev_fn (ev_getf 9 0 101)), (101, ev_call (mf_T_covers z) 2 104), (104, ev_fn (ev_ifeq 130 107)), (107, ev_fn (ev_aload 0 108)), (108, ev_fn (ev_iload 1 109)), (109, ev_fn (ev_aload 6 111)), (111, ev_fn (ev_aload 6 113)), (113, ev_fn (ev_getf 9 2 116)), (116, ev_fn (ev_aload 2 117)), (117, ev_fn (ev_getf 8 2 120)), (120, ev_fn (ev_mmin 123)), (123, ev_fn (ev_ci 1 124))]
def mk_B_receiveSubscribe_1 (z : Nat × Nat) : ev_C := [(124, ev_callR 9 (mf_M_copy z) 3 127), (127, ev_callR 5 (mf_B_giveRetained z) 3 130), (130, ev_fn (ev_iinc 5 1 133)), (133, ev_fn (ev_goto 71)), (136, ev_fn (ev_aload 0 137)), (137, ev_fn (ev_iload 1 138)), (138, ev_callR 5 (mf_B_pump z) 2 141), (141, ev_fn ev_vret)]
def mk_B_receiveSubscribe (z : Nat × Nat) : ev_C := mk_B_receiveSubscribe_0 z ++ (mk_B_receiveSubscribe_1 z)
def mf_B_receiveSubscribe (z : Nat × Nat) : ev_F := ev_met (mk_B_receiveSubscribe z) 7
set_option maxHeartbeats 4000000 in
set_option maxRecDepth 100000 in
theorem mg_B_receiveSubscribe_0 : ev_AllG (ev_Good l vc_L vt_L (gw_G b Ls xs z) prog_2_method_11_code 7 none my_B_receiveSubscribe.name my_B_receiveSubscribe.cls tb_T 9 223) (mk_B_receiveSubscribe_0 z) := by
  refine ⟨ok_aload_n (z := 0) (by decide +kernel) rfl, ?_⟩
  refine ⟨ok_getf (ix := 19) hc_5 (by decide) hi_5 tw_208 (Or.inl rfl) (by decide +kernel), ?_⟩
  refine ⟨ok_iload_n (z := 1) (by decide +kernel) rfl, ?_⟩
  refine ⟨ok_aaldR (by decide +kernel), ?_⟩
  refine ⟨ok_aload_n (z := 2) (by decide +kernel) rfl, ?_⟩
  refine ⟨ok_getf (ix := 176) hc_8 (by decide) hi_8 tw_290 (Or.inl rfl) (by decide +kernel), ?_⟩
  refine ⟨ok_aload_n (z := 2) (by decide +kernel) rfl, ?_⟩
  refine ⟨ok_getf (ix := 161) hc_8 (by decide) hi_8 tw_287 (Or.inl rfl) (by decide +kernel), ?_⟩
  refine ⟨ok_aload_n (z := 2) (by decide +kernel) rfl, ?_⟩
  refine ⟨ok_getf (ix := 152) hc_8 (by decide) hi_8 tw_296 (Or.inl rfl) (by decide +kernel), ?_⟩
  refine ⟨ok_callV (ix := 189) hc_7 ms_S_enter (tb_cwV tw_760 tw_761 tw_762 tw_10 tw_763 (by decide +kernel) (by decide) (by decide)) (by decide +kernel), ?_⟩
  refine ⟨ok_istore_n (z := 3) (by decide) (by decide +kernel) rfl, ?_⟩
  refine ⟨ok_aload_n (z := 0) (by decide +kernel) rfl, ?_⟩
  refine ⟨ok_iload_n (z := 1) (by decide +kernel) rfl, ?_⟩
  refine ⟨ok_newo (ix := 80) hc_8 hi_8 ht_8 hf_8 tw_743 tw_273 tw_13 (by decide +kernel), ?_⟩
  refine ⟨ok_dup (by decide +kernel), ?_⟩
  refine ⟨ok_bipush (z := 9) (by decide +kernel) (by decide +kernel), ?_⟩
  refine ⟨ok_iconst (z := 0) (by decide +kernel) (by decide +kernel), ?_⟩
  refine ⟨ok_iload_n (z := 3) (by decide +kernel) rfl, ?_⟩
  refine ⟨ok_ifeq (off := 10) (by decide +kernel) (by decide), ?_⟩
  refine ⟨ok_aload_n (z := 2) (by decide +kernel) rfl, ?_⟩
  refine ⟨ok_getf (ix := 161) hc_8 (by decide) hi_8 tw_287 (Or.inl rfl) (by decide +kernel), ?_⟩
  refine ⟨ok_goto (off := 6) (by decide +kernel) (by decide), ?_⟩
  refine ⟨ok_sipush (z := 151) (by decide +kernel) (by decide +kernel), ?_⟩
  refine ⟨ok_callI (ix := 103) ms_P_init (tb_cwI tw_744 tw_275 tw_13 tw_276 rfl (by decide +kernel) (by decide) (by decide)) (by decide +kernel), ?_⟩
  refine ⟨ok_callV (ix := 106) hc_5 ms_B_send (tb_cwV tw_706 tw_708 tv_19 tw_8 tw_709 (by decide +kernel) (by decide) (by decide)) (by decide +kernel), ?_⟩
  refine ⟨ok_iload_n (z := 3) (by decide +kernel) rfl, ?_⟩
  refine ⟨ok_ifeq (off := 13) (by decide +kernel) (by decide), ?_⟩
  refine ⟨ok_aload_n (z := 0) (by decide +kernel) rfl, ?_⟩
  refine ⟨ok_getf (ix := 26) hc_5 (by decide) hi_5 tw_210 (Or.inl rfl) (by decide +kernel), ?_⟩
  refine ⟨ok_callV (ix := 144) hc_2 ms_A_size (tb_cwV tw_691 tw_405 tw_406 tw_5 tw_407 (by decide +kernel) (by decide) (by decide)) (by decide +kernel), ?_⟩
  refine ⟨ok_goto (off := 4) (by decide +kernel) (by decide), ?_⟩
  refine ⟨ok_iconst (z := 0) (by decide +kernel) (by decide +kernel), ?_⟩
  refine ⟨ok_istore (by decide) (by decide +kernel), ?_⟩
  refine ⟨ok_iconst (z := 0) (by decide +kernel) (by decide +kernel), ?_⟩
  refine ⟨ok_istore (by decide) (by decide +kernel), ?_⟩
  refine ⟨ok_iload (by decide +kernel), ?_⟩
  refine ⟨ok_iload (by decide +kernel), ?_⟩
  refine ⟨ok_icmpge (off := 61) (by decide +kernel) (by decide), ?_⟩
  refine ⟨ok_aload_n (z := 0) (by decide +kernel) rfl, ?_⟩
  refine ⟨ok_getf (ix := 26) hc_5 (by decide) hi_5 tw_210 (Or.inl rfl) (by decide +kernel), ?_⟩
  refine ⟨ok_iload (by decide +kernel), ?_⟩
  refine ⟨ok_callV (ix := 67) hc_2 ms_A_get (tb_cwV tw_692 tw_507 tw_508 tw_5 tw_509 (by decide +kernel) (by decide) (by decide)) (by decide +kernel), ?_⟩
  refine ⟨ok_castS (ix := 71) hc_9 tw_719 (by decide +kernel), ?_⟩
  refine ⟨ok_astore (by decide) (by decide +kernel), ?_⟩
  refine ⟨ok_aload_n (z := 2) (by decide +kernel) rfl, ?_⟩
  refine ⟨ok_getf (ix := 176) hc_8 (by decide) hi_8 tw_290 (Or.inl rfl) (by decide +kernel), ?_⟩
  refine ⟨ok_aload (by decide +kernel), ?_⟩
  refine ⟨ok_getf (ix := 193) hc_9 (by decide) hi_9 tw_449 (Or.inl rfl) (by decide +kernel), ?_⟩
  refine ⟨ok_callS (ix := 196) ms_T_covers (tb_cwS tw_787 tw_679 tw_12 tw_680 (by decide +kernel) (by decide) (by decide)) (by decide +kernel), ?_⟩
  refine ⟨ok_ifeq (off := 26) (by decide +kernel) (by decide), ?_⟩
  refine ⟨ok_aload_n (z := 0) (by decide +kernel) rfl, ?_⟩
  refine ⟨ok_iload_n (z := 1) (by decide +kernel) rfl, ?_⟩
  refine ⟨ok_aload (by decide +kernel), ?_⟩
  refine ⟨ok_aload (by decide +kernel), ?_⟩
  refine ⟨ok_getf (ix := 202) hc_9 (by decide) hi_9 tw_457 (Or.inl rfl) (by decide +kernel), ?_⟩
  refine ⟨ok_aload_n (z := 2) (by decide +kernel) rfl, ?_⟩
  refine ⟨ok_getf (ix := 161) hc_8 (by decide) hi_8 tw_287 (Or.inl rfl) (by decide +kernel), ?_⟩
  refine ⟨ok_mmin (ix := 203) (by decide) (by decide) tw_788 tw_377 tw_15 tw_378 (by decide +kernel), ?_⟩
  refine ⟨ok_iconst (z := 1) (by decide +kernel) (by decide +kernel), ?_⟩
  exact trivial
set_option maxHeartbeats 4000000 in
set_option maxRecDepth 100000 in
theorem mg_B_receiveSubscribe_1 : ev_AllG (ev_Good l vc_L vt_L (gw_G b Ls xs z) prog_2_method_11_code 7 none my_B_receiveSubscribe.name my_B_receiveSubscribe.cls tb_T 9 223) (mk_B_receiveSubscribe_1 z) := by
  refine ⟨ok_callV (ix := 209) hc_9 ms_M_copy (tb_cwV tw_699 tw_700 tw_701 tw_18 tw_702 (by decide +kernel) (by decide) (by decide)) (by decide +kernel), ?_⟩
  refine ⟨ok_callV (ix := 213) hc_5 ms_B_giveRetained (tb_cwV tw_789 tw_791 tv_26 tw_8 tw_792 (by decide +kernel) (by decide) (by decide)) (by decide +kernel), ?_⟩
  refine ⟨ok_iinc (z := 1) (by decide) (by decide +kernel) (by decide +kernel), ?_⟩
  refine ⟨ok_goto (off := (-62)) (by decide +kernel) (by decide), ?_⟩
  refine ⟨ok_aload_n (z := 0) (by decide +kernel) rfl, ?_⟩
  refine ⟨ok_iload_n (z := 1) (by decide +kernel) rfl, ?_⟩
  refine ⟨ok_callV (ix := 118) hc_5 ms_B_pump (tb_cwV tw_725 tw_727 tv_22 tw_8 tw_728 (by decide +kernel) (by decide) (by decide)) (by decide +kernel), ?_⟩
  refine ⟨ok_vret rfl (by decide +kernel), ?_⟩
  exact trivial
theorem mg_B_receiveSubscribe : ev_AllG (ev_Good l vc_L vt_L (gw_G b Ls xs z) prog_2_method_11_code 7 none my_B_receiveSubscribe.name my_B_receiveSubscribe.cls tb_T 9 223) (mk_B_receiveSubscribe z) := ev_AllG.app mg_B_receiveSubscribe_0 (mg_B_receiveSubscribe_1)
theorem ms_B_receiveSubscribe : ev_Met l vc_L vt_L (gw_G b Ls xs z) my_B_receiveSubscribe (Cond.code my_B_receiveSubscribe prog_2_method_11_code 7 none :: tb_T) 9 223 (mf_B_receiveSubscribe z) := ev_sound (by decide +kernel) mg_B_receiveSubscribe
end MT
