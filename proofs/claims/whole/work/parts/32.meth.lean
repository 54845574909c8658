/-! Methods as lists of steps, and that the machine does what they do (written by wip/whole/gen.py). -/
section MT
variable {l : Launch} {b Ls : Nat} {xs : Nat → Int32} {z : Nat × Nat}
def my_C_pump : MethodName := ⟨"MessageHub$Client", "pump", "()V"⟩
def mk_C_pump (z : Nat × Nat) : ev_C := [(0, ev_fn (ev_aload 0 1)), (1, ev_fn (ev_getf 3 1 4)), (4, ev_call (mf_R_countUnderWay z) 1 7), (7, ev_fn (ev_istore 1 8)), (8, ev_fn (ev_ci 0 9)), (9, ev_fn (ev_istore 2 10)), (10, ev_fn (ev_iload 2 11)), (11, ev_fn (ev_aload 0 12)), (12, ev_fn (ev_getf 3 1 15)), (15, ev_callR 2 (mf_A_size z) 1 18), (18, ev_fn (ev_icmpge 99 21)), (21, ev_fn (ev_aload 0 22)), (22, ev_fn (ev_getf 3 1 25)), (25, ev_fn (ev_iload 2 26)), (26, ev_callR 2 (mf_A_get z) 2 29), (29, ev_fn (ev_castS 10 32)), (32, ev_fn (ev_astore 3 33)), (33, ev_fn (ev_aload 0 34)), (34, ev_fn (ev_getf 3 0 37)), (37, ev_fn (ev_getf 1 2 40)), (40, ev_fn (ev_ci 2 41)), (41, ev_fn (ev_icmpne 93 44)), (44, ev_fn (ev_iload 1 45)), (45, ev_fn (ev_ci 2 46)), (46, ev_fn (ev_icmpge 93 49)), (49, ev_fn (ev_aload 3 50)), (50, ev_fn (ev_getf 10 1 53)), (53, ev_fn (ev_ifne 93 56)), (56, ev_fn (ev_aload 3 57)), (57, ev_fn (ev_aload 0 58)), (58, ev_fn (ev_getf 3 1 61)), (61, ev_call (mf_R_leastFreeId z) 1 64), (64, ev_callR 10 (mf_R_start z) 2 67), (67, ev_fn (ev_iinc 1 1 70)), (70, ev_fn (ev_aload 0 71)), (71, ev_fn (ev_getf 3 0 74)), (74, ev_fn (ev_getf 1 0 77)), (77, ev_fn (ev_aload 3 78)), (78, ev_fn (ev_getf 10 0 81)), (81, ev_fn (ev_aload 3 82)), (82, ev_fn (ev_getf 10 2 85)), (85, ev_fn (ev_ci 0 86)), (86, ev_call (mf_P_ofMessage z) 3 89), (89, ev_callR 2 (mf_A_add z) 2 92), (92, ev_fn (ev_pop 93)), (93, ev_fn (ev_iinc 2 1 96)), (96, ev_fn (ev_goto 10)), (99, ev_fn ev_vret)]
def mf_C_pump (z : Nat × Nat) : ev_F := ev_met (mk_C_pump z) 4
set_option maxHeartbeats 4000000 in
set_option maxRecDepth 100000 in
theorem mg_C_pump : ev_AllG (ev_Good l vc_L vt_L (gw_G b Ls xs z) prog_3_method_15_code 4 none my_C_pump.name my_C_pump.cls tb_T 7 176) (mk_C_pump z) := by
  refine ⟨ok_aload_n (z := 0) (by decide +kernel) rfl, ?_⟩
  refine ⟨ok_getf (ix := 12) hc_3 (by decide) hi_3 tw_105 (Or.inl rfl) (by decide +kernel), ?_⟩
  refine ⟨ok_callS (ix := 101) ms_R_countUnderWay (tb_cwS tw_502 tw_503 tw_19 tw_504 (by decide +kernel) (by decide) (by decide)) (by decide +kernel), ?_⟩
  refine ⟨ok_istore_n (z := 1) (by decide) (by decide +kernel) rfl, ?_⟩
  refine ⟨ok_iconst (z := 0) (by decide +kernel) (by decide +kernel), ?_⟩
  refine ⟨ok_istore_n (z := 2) (by decide) (by decide +kernel) rfl, ?_⟩
  refine ⟨ok_iload_n (z := 2) (by decide +kernel) rfl, ?_⟩
  refine ⟨ok_aload_n (z := 0) (by decide +kernel) rfl, ?_⟩
  refine ⟨ok_getf (ix := 12) hc_3 (by decide) hi_3 tw_105 (Or.inl rfl) (by decide +kernel), ?_⟩
  refine ⟨ok_callV (ix := 97) hc_2 ms_A_size (tb_cwV tw_521 tw_405 tw_406 tw_5 tw_407 (by decide +kernel) (by decide) (by decide)) (by decide +kernel), ?_⟩
  refine ⟨ok_icmpge (off := 81) (by decide +kernel) (by decide), ?_⟩
  refine ⟨ok_aload_n (z := 0) (by decide +kernel) rfl, ?_⟩
  refine ⟨ok_getf (ix := 12) hc_3 (by decide) hi_3 tw_105 (Or.inl rfl) (by decide +kernel), ?_⟩
  refine ⟨ok_iload_n (z := 2) (by decide +kernel) rfl, ?_⟩
  refine ⟨ok_callV (ix := 120) hc_2 ms_A_get (tb_cwV tw_522 tw_507 tw_508 tw_5 tw_509 (by decide +kernel) (by decide) (by decide)) (by decide +kernel), ?_⟩
  refine ⟨ok_castS (ix := 59) hc_10 tw_477 (by decide +kernel), ?_⟩
  refine ⟨ok_astore_n (z := 3) (by decide) (by decide +kernel) rfl, ?_⟩
  refine ⟨ok_aload_n (z := 0) (by decide +kernel) rfl, ?_⟩
  refine ⟨ok_getf (ix := 29) hc_3 (by decide) hi_3 tw_104 (Or.inl rfl) (by decide +kernel), ?_⟩
  refine ⟨ok_getf (ix := 41) hc_1 (by decide) hi_1 tw_73 (Or.inl rfl) (by decide +kernel), ?_⟩
  refine ⟨ok_iconst (z := 2) (by decide +kernel) (by decide +kernel), ?_⟩
  refine ⟨ok_icmpne (off := 52) (by decide +kernel) (by decide), ?_⟩
  refine ⟨ok_iload_n (z := 1) (by decide +kernel) rfl, ?_⟩
  refine ⟨ok_iconst (z := 2) (by decide +kernel) (by decide +kernel), ?_⟩
  refine ⟨ok_icmpge (off := 47) (by decide +kernel) (by decide), ?_⟩
  refine ⟨ok_aload_n (z := 3) (by decide +kernel) rfl, ?_⟩
  refine ⟨ok_getf (ix := 124) hc_10 (by decide) hi_10 tw_487 (Or.inl rfl) (by decide +kernel), ?_⟩
  refine ⟨ok_ifne (off := 40) (by decide +kernel) (by decide), ?_⟩
  refine ⟨ok_aload_n (z := 3) (by decide +kernel) rfl, ?_⟩
  refine ⟨ok_aload_n (z := 0) (by decide +kernel) rfl, ?_⟩
  refine ⟨ok_getf (ix := 12) hc_3 (by decide) hi_3 tw_105 (Or.inl rfl) (by decide +kernel), ?_⟩
  refine ⟨ok_callS (ix := 159) ms_R_leastFreeId (tb_cwS tw_523 tw_524 tw_19 tw_525 (by decide +kernel) (by decide) (by decide)) (by decide +kernel), ?_⟩
  refine ⟨ok_callV (ix := 162) hc_10 ms_R_start (tb_cwV tw_526 tw_527 tw_528 tw_19 tw_529 (by decide +kernel) (by decide) (by decide)) (by decide +kernel), ?_⟩
  refine ⟨ok_iinc (z := 1) (by decide) (by decide +kernel) (by decide +kernel), ?_⟩
  refine ⟨ok_aload_n (z := 0) (by decide +kernel) rfl, ?_⟩
  refine ⟨ok_getf (ix := 29) hc_3 (by decide) hi_3 tw_104 (Or.inl rfl) (by decide +kernel), ?_⟩
  refine ⟨ok_getf (ix := 46) hc_1 (by decide) hi_1 tw_68 (Or.inl rfl) (by decide +kernel), ?_⟩
  refine ⟨ok_aload_n (z := 3) (by decide +kernel) rfl, ?_⟩
  refine ⟨ok_getf (ix := 165) hc_10 (by decide) hi_10 tw_484 (Or.inl rfl) (by decide +kernel), ?_⟩
  refine ⟨ok_aload_n (z := 3) (by decide +kernel) rfl, ?_⟩
  refine ⟨ok_getf (ix := 169) hc_10 (by decide) hi_10 tw_489 (Or.inl rfl) (by decide +kernel), ?_⟩
  refine ⟨ok_iconst (z := 0) (by decide +kernel) (by decide +kernel), ?_⟩
  refine ⟨ok_callS (ix := 170) ms_P_ofMessage (tb_cwS tw_530 tw_471 tw_13 tw_472 (by decide +kernel) (by decide) (by decide)) (by decide +kernel), ?_⟩
  refine ⟨ok_callV (ix := 55) hc_2 ms_A_add (tb_cwV tw_324 tw_325 tw_326 tw_5 tw_327 (by decide +kernel) (by decide) (by decide)) (by decide +kernel), ?_⟩
  refine ⟨ok_pop (by decide +kernel), ?_⟩
  refine ⟨ok_iinc (z := 1) (by decide) (by decide +kernel) (by decide +kernel), ?_⟩
  refine ⟨ok_goto (off := (-86)) (by decide +kernel) (by decide), ?_⟩
  refine ⟨ok_vret rfl (by decide +kernel), ?_⟩
  exact trivial
theorem ms_C_pump : ev_Met l vc_L vt_L (gw_G b Ls xs z) my_C_pump (Cond.code my_C_pump prog_3_method_15_code 4 none :: tb_T) 7 176 (mf_C_pump z) := ev_sound (by decide +kernel) mg_C_pump
def my_C_keep : MethodName := ⟨"MessageHub$Client", "keep", "(LMessageHub$Message;)V"⟩
def mk_C_keep (z : Nat × Nat) : ev_C := [(0, ev_fn (ev_aload 0 1)), (1, ev_fn (ev_getf 3 1 4)), (4, ev_fn (ev_newo 10 3 ff_10 7)), (7, ev_fn (ev_dup 8)), (8, ev_fn (ev_aload 1 9)), (9, ev_callI (mf_R_init z) 2 12), (12, ev_callR 2 (mf_A_add z) 2 15), (15, ev_fn (ev_pop 16)), (16, ev_fn (ev_aload 0 17)), (17, ev_callR 3 (mf_C_pump z) 1 20), (20, ev_fn ev_vret)]
def mf_C_keep (z : Nat × Nat) : ev_F := ev_met (mk_C_keep z) 2
set_option maxHeartbeats 4000000 in
set_option maxRecDepth 100000 in
theorem mg_C_keep : ev_AllG (ev_Good l vc_L vt_L (gw_G b Ls xs z) prog_3_method_4_code 2 none my_C_keep.name my_C_keep.cls tb_T 8 199) (mk_C_keep z) := by
  refine ⟨ok_aload_n (z := 0) (by decide +kernel) rfl, ?_⟩
  refine ⟨ok_getf (ix := 12) hc_3 (by decide) hi_3 tw_105 (Or.inl rfl) (by decide +kernel), ?_⟩
  refine ⟨ok_newo (ix := 59) hc_10 hi_10 ht_10 hf_10 tw_477 tw_478 tw_19 (by decide +kernel), ?_⟩
  refine ⟨ok_dup (by decide +kernel), ?_⟩
  refine ⟨ok_aload_n (z := 1) (by decide +kernel) rfl, ?_⟩
  refine ⟨ok_callI (ix := 61) ms_R_init (tb_cwI tw_479 tw_480 tw_19 tw_481 rfl (by decide +kernel) (by decide) (by decide)) (by decide +kernel), ?_⟩
  refine ⟨ok_callV (ix := 55) hc_2 ms_A_add (tb_cwV tw_324 tw_325 tw_326 tw_5 tw_327 (by decide +kernel) (by decide) (by decide)) (by decide +kernel), ?_⟩
  refine ⟨ok_pop (by decide +kernel), ?_⟩
  refine ⟨ok_aload_n (z := 0) (by decide +kernel) rfl, ?_⟩
  refine ⟨ok_callV (ix := 64) hc_3 ms_C_pump (tb_cwV tw_498 tw_500 tv_5 tw_6 tw_501 (by decide +kernel) (by decide) (by decide)) (by decide +kernel), ?_⟩
  refine ⟨ok_vret rfl (by decide +kernel), ?_⟩
  exact trivial
theorem ms_C_keep : ev_Met l vc_L vt_L (gw_G b Ls xs z) my_C_keep (Cond.code my_C_keep prog_3_method_4_code 2 none :: tb_T) 8 199 (mf_C_keep z) := ev_sound (by decide +kernel) mg_C_keep
def my_H_publish : MethodName := ⟨"MessageHub", "publish", "(IJIIZ)Z"⟩
def mk_H_publish (z : Nat × Nat) : ev_C := [(0, ev_fn (ev_lload 2 1)), (1, ev_call (mf_T_read z) 1 4), (4, ev_fn (ev_lstore 7 6)), (6, ev_fn (ev_iload 1 7)), (7, ev_call (mf_H_isClient z) 1 10), (10, ev_fn (ev_ifeq 31 13)), (13, ev_fn (ev_lload 7 15)), (15, ev_call (mf_T_isTopic z) 1 18), (18, ev_fn (ev_ifeq 31 21)), (21, ev_fn (ev_iload 5 23)), (23, ev_fn (ev_ci 0 24)), (24, ev_fn (ev_ci 2 25)), (25, ev_call (mf_H_isWithin z) 3 28), (28, ev_fn (ev_ifne 33 31)), (31, ev_fn (ev_ci 0 32)), (32, ev_fn (ev_zret .boolean)), (33, ev_fn (ev_iload 5 35)), (35, ev_fn (ev_ifne 49 38)), (38, ev_fn (ev_aload 0 39)), (39, ev_fn (ev_iload 1 40)), (40, ev_callR 0 (mf_H_canSend z) 2 43), (43, ev_fn (ev_ifne 59 46)), (46, ev_fn (ev_goto 57)), (49, ev_fn (ev_aload 0 50)), (50, ev_fn (ev_iload 1 51)), (51, ev_callR 0 (mf_H_canKeep z) 2 54), (54, ev_fn (ev_ifne 59 57)), (57, ev_fn (ev_ci 0 58)), (58, ev_fn (ev_zret .boolean)), (59, ev_fn (ev_newo 9 4 ff_9 62)), (62, ev_fn (ev_dup 63)), (63, ev_fn (ev_lload 7 65)), (65, ev_fn (ev_iload 4 67)), (67, ev_fn (ev_iload 5 69)), (69, ev_fn (ev_iload 6 71)), (71, ev_callI (mf_M_init z) 5 74), (74, ev_fn (ev_astore 9 76)), (76, ev_fn (ev_iload 5 78)), (78, ev_fn (ev_ifne 104 81)), (81, ev_fn (ev_aload 0 82)), (82, ev_fn (ev_getf 0 0 85)), (85, ev_fn (ev_iload 1 86)), (86, ev_fn (ev_aaldR 87)), (87, ev_fn (ev_getf 1 0 90)), (90, ev_fn (ev_aload 9 92)), (92, ev_fn (ev_ci 0 93)), (93, ev_fn (ev_ci 0 94)), (94, ev_call (mf_P_ofMessage z) 3 97), (97, ev_callR 2 (mf_A_add z) 2 100), (100, ev_fn (ev_pop 101)), (101, ev_fn (ev_goto 115)), (104, ev_fn (ev_aload 0 105)), (105, ev_fn (ev_getf 0 1 108)), (108, ev_fn (ev_iload 1 109)), (109, ev_fn (ev_aaldR 110)), (110, ev_fn (ev_aload 9 112)), (112, ev_callR 3 (mf_C_keep z) 2 115), (115, ev_fn (ev_ci 1 116)), (116, ev_fn (ev_zret .boolean))]
def mf_H_publish (z : Nat × Nat) : ev_F := ev_met (mk_H_publish z) 10
set_option maxHeartbeats 4000000 in
set_option maxRecDepth 100000 in
theorem mg_H_publish : ev_AllG (ev_Good l vc_L vt_L (gw_G b Ls xs z) prog_1_method_9_code 10 (some .boolean) my_H_publish.name my_H_publish.cls tb_T 9 220) (mk_H_publish z) := by
  refine ⟨ok_lload_n (z := 2) (by decide +kernel) rfl, ?_⟩
  refine ⟨ok_callS (ix := 34) ms_T_read (tb_cwS tw_238 tw_239 tw_12 tw_240 (by decide +kernel) (by decide) (by decide)) (by decide +kernel), ?_⟩
  refine ⟨ok_lstore (by decide) (by decide +kernel), ?_⟩
  refine ⟨ok_iload_n (z := 1) (by decide +kernel) rfl, ?_⟩
  refine ⟨ok_callS (ix := 40) ms_H_isClient (tb_cwS tw_247 tw_248 tw_1 tw_249 (by decide +kernel) (by decide) (by decide)) (by decide +kernel), ?_⟩
  refine ⟨ok_ifeq (off := 21) (by decide +kernel) (by decide), ?_⟩
  refine ⟨ok_lload (by decide +kernel), ?_⟩
  refine ⟨ok_callS (ix := 44) ms_T_isTopic (tb_cwS tw_251 tw_252 tw_12 tw_253 (by decide +kernel) (by decide) (by decide)) (by decide +kernel), ?_⟩
  refine ⟨ok_ifeq (off := 13) (by decide +kernel) (by decide), ?_⟩
  refine ⟨ok_iload (by decide +kernel), ?_⟩
  refine ⟨ok_iconst (z := 0) (by decide +kernel) (by decide +kernel), ?_⟩
  refine ⟨ok_iconst (z := 2) (by decide +kernel) (by decide +kernel), ?_⟩
  refine ⟨ok_callS (ix := 56) ms_H_isWithin (tb_cwS tw_250 tw_245 tw_1 tw_246 (by decide +kernel) (by decide) (by decide)) (by decide +kernel), ?_⟩
  refine ⟨ok_ifne (off := 5) (by decide +kernel) (by decide), ?_⟩
  refine ⟨ok_iconst (z := 0) (by decide +kernel) (by decide +kernel), ?_⟩
  refine ⟨ok_zret rfl (by decide +kernel), ?_⟩
  refine ⟨ok_iload (by decide +kernel), ?_⟩
  refine ⟨ok_ifne (off := 14) (by decide +kernel) (by decide), ?_⟩
  refine ⟨ok_aload_n (z := 0) (by decide +kernel) rfl, ?_⟩
  refine ⟨ok_iload_n (z := 1) (by decide +kernel) rfl, ?_⟩
  refine ⟨ok_callV (ix := 67) hc_0 ms_H_canSend (tb_cwV tw_400 tw_402 tv_3 tw_1 tw_403 (by decide +kernel) (by decide) (by decide)) (by decide +kernel), ?_⟩
  refine ⟨ok_ifne (off := 16) (by decide +kernel) (by decide), ?_⟩
  refine ⟨ok_goto (off := 11) (by decide +kernel) (by decide), ?_⟩
  refine ⟨ok_aload_n (z := 0) (by decide +kernel) rfl, ?_⟩
  refine ⟨ok_iload_n (z := 1) (by decide +kernel) rfl, ?_⟩
  refine ⟨ok_callV (ix := 92) hc_0 ms_H_canKeep (tb_cwV tw_436 tw_438 tv_4 tw_1 tw_439 (by decide +kernel) (by decide) (by decide)) (by decide +kernel), ?_⟩
  refine ⟨ok_ifne (off := 5) (by decide +kernel) (by decide), ?_⟩
  refine ⟨ok_iconst (z := 0) (by decide +kernel) (by decide +kernel), ?_⟩
  refine ⟨ok_zret rfl (by decide +kernel), ?_⟩
  refine ⟨ok_newo (ix := 95) hc_9 hi_9 ht_9 hf_9 tw_440 tw_441 tw_18 (by decide +kernel), ?_⟩
  refine ⟨ok_dup (by decide +kernel), ?_⟩
  refine ⟨ok_lload (by decide +kernel), ?_⟩
  refine ⟨ok_iload (by decide +kernel), ?_⟩
  refine ⟨ok_iload (by decide +kernel), ?_⟩
  refine ⟨ok_iload (by decide +kernel), ?_⟩
  refine ⟨ok_callI (ix := 97) ms_M_init (tb_cwI tw_442 tw_443 tw_18 tw_444 rfl (by decide +kernel) (by decide) (by decide)) (by decide +kernel), ?_⟩
  refine ⟨ok_astore (by decide) (by decide +kernel), ?_⟩
  refine ⟨ok_iload (by decide +kernel), ?_⟩
  refine ⟨ok_ifne (off := 26) (by decide +kernel) (by decide), ?_⟩
  refine ⟨ok_aload_n (z := 0) (by decide +kernel) rfl, ?_⟩
  refine ⟨ok_getf (ix := 11) hc_0 (by decide) hi_0 tw_224 (Or.inl rfl) (by decide +kernel), ?_⟩
  refine ⟨ok_iload_n (z := 1) (by decide +kernel) rfl, ?_⟩
  refine ⟨ok_aaldR (by decide +kernel), ?_⟩
  refine ⟨ok_getf (ix := 70) hc_1 (by decide) hi_1 tw_69 (Or.inl rfl) (by decide +kernel), ?_⟩
  refine ⟨ok_aload (by decide +kernel), ?_⟩
  refine ⟨ok_iconst (z := 0) (by decide +kernel) (by decide +kernel), ?_⟩
  refine ⟨ok_iconst (z := 0) (by decide +kernel) (by decide +kernel), ?_⟩
  refine ⟨ok_callS (ix := 100) ms_P_ofMessage (tb_cwS tw_470 tw_471 tw_13 tw_472 (by decide +kernel) (by decide) (by decide)) (by decide +kernel), ?_⟩
  refine ⟨ok_callV (ix := 79) hc_2 ms_A_add (tb_cwV tw_410 tw_325 tw_326 tw_5 tw_327 (by decide +kernel) (by decide) (by decide)) (by decide +kernel), ?_⟩
  refine ⟨ok_pop (by decide +kernel), ?_⟩
  refine ⟨ok_goto (off := 14) (by decide +kernel) (by decide), ?_⟩
  refine ⟨ok_aload_n (z := 0) (by decide +kernel) rfl, ?_⟩
  refine ⟨ok_getf (ix := 17) hc_0 (by decide) hi_0 tw_225 (Or.inl rfl) (by decide +kernel), ?_⟩
  refine ⟨ok_iload_n (z := 1) (by decide +kernel) rfl, ?_⟩
  refine ⟨ok_aaldR (by decide +kernel), ?_⟩
  refine ⟨ok_aload (by decide +kernel), ?_⟩
  refine ⟨ok_callV (ix := 104) hc_3 ms_C_keep (tb_cwV tw_473 tw_474 tw_475 tw_6 tw_476 (by decide +kernel) (by decide) (by decide)) (by decide +kernel), ?_⟩
  refine ⟨ok_iconst (z := 1) (by decide +kernel) (by decide +kernel), ?_⟩
  refine ⟨ok_zret rfl (by decide +kernel), ?_⟩
  exact trivial
theorem ms_H_publish : ev_Met l vc_L vt_L (gw_G b Ls xs z) my_H_publish (Cond.code my_H_publish prog_1_method_9_code 10 (some .boolean) :: tb_T) 9 220 (mf_H_publish z) := ev_sound (by decide +kernel) mg_H_publish
def my_L_row : MethodName := ⟨"MessageHub$Link", "row", "(Z)Ljava/util/ArrayList;"⟩
def mk_L_row (z : Nat × Nat) : ev_C := [(0, ev_fn (ev_iload 1 1)), (1, ev_fn (ev_ifeq 11 4)), (4, ev_fn (ev_aload 0 5)), (5, ev_fn (ev_getf 1 0 8)), (8, ev_fn (ev_goto 15)), (11, ev_fn (ev_aload 0 12)), (12, ev_fn (ev_getf 1 1 15)), (15, ev_fn ev_aret)]
def mf_L_row (z : Nat × Nat) : ev_F := ev_met (mk_L_row z) 2
set_option maxHeartbeats 4000000 in
set_option maxRecDepth 100000 in
theorem mg_L_row : ev_AllG (ev_Good l vc_L vt_L (gw_G b Ls xs z) prog_6_method_2_code 2 (some (.object "java/util/ArrayList")) my_L_row.name my_L_row.cls tb_T 0 0) (mk_L_row z) := by
  refine ⟨ok_iload_n (z := 1) (by decide +kernel) rfl, ?_⟩
  refine ⟨ok_ifeq (off := 10) (by decide +kernel) (by decide), ?_⟩
  refine ⟨ok_aload_n (z := 0) (by decide +kernel) rfl, ?_⟩
  refine ⟨ok_getf (ix := 12) hc_1 (by decide) hi_1 tw_67 (Or.inl rfl) (by decide +kernel), ?_⟩
  refine ⟨ok_goto (off := 7) (by decide +kernel) (by decide), ?_⟩
  refine ⟨ok_aload_n (z := 0) (by decide +kernel) rfl, ?_⟩
  refine ⟨ok_getf (ix := 18) hc_1 (by decide) hi_1 tw_70 (Or.inl rfl) (by decide +kernel), ?_⟩
  refine ⟨ok_aret rfl (Or.inl ⟨_, rfl⟩) (by decide +kernel), ?_⟩
  exact trivial
theorem ms_L_row : ev_Met l vc_L vt_L (gw_G b Ls xs z) my_L_row (Cond.code my_L_row prog_6_method_2_code 2 (some (.object "java/util/ArrayList")) :: tb_T) 0 0 (mf_L_row z) := ev_sound (by decide +kernel) mg_L_row
def my_A_isEmpty : MethodName := ⟨"java/util/ArrayList", "isEmpty", "()Z"⟩
def mk_A_isEmpty (z : Nat × Nat) : ev_C := [(0, ev_fn (ev_aload 0 1)), (1, ev_fn (ev_getf 2 1 4)), (4, ev_fn (ev_ifne 11 7)), (7, ev_fn (ev_ci 1 8)), (8, ev_fn (ev_goto 12)), (11, ev_fn (ev_ci 0 12)), (12, ev_fn (ev_zret .boolean))]
def mf_A_isEmpty (z : Nat × Nat) : ev_F := ev_met (mk_A_isEmpty z) 1
set_option maxHeartbeats 4000000 in
set_option maxRecDepth 100000 in
theorem mg_A_isEmpty : ev_AllG (ev_Good l vc_L vt_L (gw_G b Ls xs z) prog_23_method_9_code 1 (some .boolean) my_A_isEmpty.name my_A_isEmpty.cls tb_T 0 0) (mk_A_isEmpty z) := by
  refine ⟨ok_aload_n (z := 0) (by decide +kernel) rfl, ?_⟩
  refine ⟨ok_getf (ix := 48) hc_2 (by decide) hi_2 tw_56 (Or.inl rfl) (by decide +kernel), ?_⟩
  refine ⟨ok_ifne (off := 7) (by decide +kernel) (by decide), ?_⟩
  refine ⟨ok_iconst (z := 1) (by decide +kernel) (by decide +kernel), ?_⟩
  refine ⟨ok_goto (off := 4) (by decide +kernel) (by decide), ?_⟩
  refine ⟨ok_iconst (z := 0) (by decide +kernel) (by decide +kernel), ?_⟩
  refine ⟨ok_zret rfl (by decide +kernel), ?_⟩
  exact trivial
theorem ms_A_isEmpty : ev_Met l vc_L vt_L (gw_G b Ls xs z) my_A_isEmpty (Cond.code my_A_isEmpty prog_23_method_9_code 1 (some .boolean) :: tb_T) 0 0 (mf_A_isEmpty z) := ev_sound (by decide +kernel) mg_A_isEmpty
def my_A_fastRemove : MethodName := ⟨"java/util/ArrayList", "fastRemove", "([Ljava/lang/Object;I)V"⟩
def mk_A_fastRemove (z : Nat × Nat) : ev_C := [(0, ev_fn (ev_aload 0 1)), (1, ev_fn (ev_dup 2)), (2, ev_fn (ev_getf 2 2 5)), (5, ev_fn (ev_ci 1 6)), (6, ev_fn (ev_iadd 7)), (7, ev_fn (ev_putf 2 2 .int 10)), (10, ev_fn (ev_aload 0 11)), (11, ev_fn (ev_getf 2 1 14)), (14, ev_fn (ev_ci 1 15)), (15, ev_fn (ev_isub 16)), (16, ev_fn (ev_dup 17)), (17, ev_fn (ev_istore 3 18)), (18, ev_fn (ev_iload 2 19)), (19, ev_fn (ev_icmple 34 22)), (22, ev_fn (ev_aload 1 23)), (23, ev_fn (ev_iload 2 24)), (24, ev_fn (ev_ci 1 25)), (25, ev_fn (ev_iadd 26)), (26, ev_fn (ev_aload 1 27)), (27, ev_fn (ev_iload 2 28)), (28, ev_fn (ev_iload 3 29)), (29, ev_fn (ev_iload 2 30)), (30, ev_fn (ev_isub 31)), (31, ev_copyq 3 gw_cs 34), (34, ev_fn (ev_aload 1 35)), (35, ev_fn (ev_aload 0 36)), (36, ev_fn (ev_iload 3 37)), (37, ev_fn (ev_dup_x1 38)), (38, ev_fn (ev_putf 2 1 .int 41)), (41, ev_fn (ev_null 42)), (42, ev_fn (ev_aastR 43)), (43, ev_fn ev_vret)]
def mf_A_fastRemove (z : Nat × Nat) : ev_F := ev_met (mk_A_fastRemove z) 4
set_option maxHeartbeats 4000000 in
set_option maxRecDepth 100000 in
theorem mg_A_fastRemove : ev_AllG (ev_Good l vc_L vt_L (gw_G b Ls xs z) prog_23_method_39_code 4 none my_A_fastRemove.name my_A_fastRemove.cls tb_T 1 45) (mk_A_fastRemove z) := by
  refine ⟨ok_aload_n (z := 0) (by decide +kernel) rfl, ?_⟩
  refine ⟨ok_dup (by decide +kernel), ?_⟩
  refine ⟨ok_getf (ix := 63) hc_2 (by decide) hi_2 tw_58 (Or.inr tw_59) (by decide +kernel), ?_⟩
  refine ⟨ok_iconst (z := 1) (by decide +kernel) (by decide +kernel), ?_⟩
  refine ⟨ok_iadd (by decide +kernel), ?_⟩
  refine ⟨ok_putf (ix := 63) hc_2 (by decide) hi_2 ht_2 hn_2 tw_58 (Or.inr tw_59) rfl (by decide +kernel) (by decide +kernel), ?_⟩
  refine ⟨ok_aload_n (z := 0) (by decide +kernel) rfl, ?_⟩
  refine ⟨ok_getf (ix := 48) hc_2 (by decide) hi_2 tw_56 (Or.inl rfl) (by decide +kernel), ?_⟩
  refine ⟨ok_iconst (z := 1) (by decide +kernel) (by decide +kernel), ?_⟩
  refine ⟨ok_isub (by decide +kernel), ?_⟩
  refine ⟨ok_dup (by decide +kernel), ?_⟩
  refine ⟨ok_istore_n (z := 3) (by decide) (by decide +kernel) rfl, ?_⟩
  refine ⟨ok_iload_n (z := 2) (by decide +kernel) rfl, ?_⟩
  refine ⟨ok_icmple (off := 15) (by decide +kernel) (by decide), ?_⟩
  refine ⟨ok_aload_n (z := 1) (by decide +kernel) rfl, ?_⟩
  refine ⟨ok_iload_n (z := 2) (by decide +kernel) rfl, ?_⟩
  refine ⟨ok_iconst (z := 1) (by decide +kernel) (by decide +kernel), ?_⟩
  refine ⟨ok_iadd (by decide +kernel), ?_⟩
  refine ⟨ok_aload_n (z := 1) (by decide +kernel) rfl, ?_⟩
  refine ⟨ok_iload_n (z := 2) (by decide +kernel) rfl, ?_⟩
  refine ⟨ok_iload_n (z := 3) (by decide +kernel) rfl, ?_⟩
  refine ⟨ok_iload_n (z := 2) (by decide +kernel) rfl, ?_⟩
  refine ⟨ok_isub (by decide +kernel), ?_⟩
  refine ⟨ok_copyq (ix := 112) rfl gw_csO (by decide) (by decide +kernel) tw_551 tw_381 tw_380 tw_17 (by decide +kernel), ?_⟩
  refine ⟨ok_aload_n (z := 1) (by decide +kernel) rfl, ?_⟩
  refine ⟨ok_aload_n (z := 0) (by decide +kernel) rfl, ?_⟩
  refine ⟨ok_iload_n (z := 3) (by decide +kernel) rfl, ?_⟩
  refine ⟨ok_dup_x1 (by decide +kernel), ?_⟩
  refine ⟨ok_putf (ix := 48) hc_2 (by decide) hi_2 ht_2 hn_2 tw_56 (Or.inl rfl) rfl (by decide +kernel) (by decide +kernel), ?_⟩
  refine ⟨ok_null (by decide +kernel), ?_⟩
  refine ⟨ok_aastR (by decide +kernel), ?_⟩
  refine ⟨ok_vret rfl (by decide +kernel), ?_⟩
  exact trivial
theorem ms_A_fastRemove : ev_Met l vc_L vt_L (gw_G b Ls xs z) my_A_fastRemove (Cond.code my_A_fastRemove prog_23_method_39_code 4 none :: tb_T) 1 45 (mf_A_fastRemove z) := ev_sound (by decide +kernel) mg_A_fastRemove
def my_A_remove : MethodName := ⟨"java/util/ArrayList", "remove", "(I)Ljava/lang/Object;"⟩
def mk_A_remove (z : Nat × Nat) : ev_C := [(0, ev_fn (ev_iload 1 1)), (1, ev_fn (ev_aload 0 2)), (2, ev_fn (ev_getf 2 1 5)), (5, ev_call (mf_JO_checkIndex z) 2 8), (8, ev_fn (ev_pop 9)), (9, ev_fn (ev_aload 0 10)), (10, ev_fn (ev_getf 2 0 13)), (13, ev_fn (ev_astore 2 14)), (14, ev_fn (ev_aload 2 15)), (15, ev_fn (ev_iload 1 16)), (16, ev_fn (ev_aaldR 17)), (17, ev_fn (ev_astore 3 18)), (18, ev_fn (ev_aload 0 19)), (19, ev_fn (ev_aload 2 20)), (20, ev_fn (ev_iload 1 21)), (21, ev_callR 2 (mf_A_fastRemove z) 3 24), (24, ev_fn (ev_aload 3 25)), (25, ev_fn ev_aret)]
def mf_A_remove (z : Nat × Nat) : ev_F := ev_met (mk_A_remove z) 4
set_option maxHeartbeats 4000000 in
set_option maxRecDepth 100000 in
theorem mg_A_remove : ev_AllG (ev_Good l vc_L vt_L (gw_G b Ls xs z) prog_23_method_29_code 4 (some (.object "java/lang/Object")) my_A_remove.name my_A_remove.cls tb_T 2 68) (mk_A_remove z) := by
  refine ⟨ok_iload_n (z := 1) (by decide +kernel) rfl, ?_⟩
  refine ⟨ok_aload_n (z := 0) (by decide +kernel) rfl, ?_⟩
  refine ⟨ok_getf (ix := 48) hc_2 (by decide) hi_2 tw_56 (Or.inl rfl) (by decide +kernel), ?_⟩
  refine ⟨ok_callS (ix := 118) ms_JO_checkIndex (tb_cwS tw_510 tw_511 tw_20 tw_512 (by decide +kernel) (by decide) (by decide)) (by decide +kernel), ?_⟩
  refine ⟨ok_pop (by decide +kernel), ?_⟩
  refine ⟨ok_aload_n (z := 0) (by decide +kernel) rfl, ?_⟩
  refine ⟨ok_getf (ix := 9) hc_2 (by decide) hi_2 tw_55 (Or.inl rfl) (by decide +kernel), ?_⟩
  refine ⟨ok_astore_n (z := 2) (by decide) (by decide +kernel) rfl, ?_⟩
  refine ⟨ok_aload_n (z := 2) (by decide +kernel) rfl, ?_⟩
  refine ⟨ok_iload_n (z := 1) (by decide +kernel) rfl, ?_⟩
  refine ⟨ok_aaldR (by decide +kernel), ?_⟩
  refine ⟨ok_astore_n (z := 3) (by decide) (by decide +kernel) rfl, ?_⟩
  refine ⟨ok_aload_n (z := 0) (by decide +kernel) rfl, ?_⟩
  refine ⟨ok_aload_n (z := 2) (by decide +kernel) rfl, ?_⟩
  refine ⟨ok_iload_n (z := 1) (by decide +kernel) rfl, ?_⟩
  refine ⟨ok_callV (ix := 144) hc_2 ms_A_fastRemove (tb_cwV tw_547 tw_549 tv_6 tw_5 tw_550 (by decide +kernel) (by decide) (by decide)) (by decide +kernel), ?_⟩
  refine ⟨ok_aload_n (z := 3) (by decide +kernel) rfl, ?_⟩
  refine ⟨ok_aret rfl (Or.inl ⟨_, rfl⟩) (by decide +kernel), ?_⟩
  exact trivial
theorem ms_A_remove : ev_Met l vc_L vt_L (gw_G b Ls xs z) my_A_remove (Cond.code my_A_remove prog_23_method_29_code 4 (some (.object "java/lang/Object")) :: tb_T) 2 68 (mf_A_remove z) := ev_sound (by decide +kernel) mg_A_remove
def my_I_clear : MethodName := ⟨"MessageHub$HeldIds", "clear", "()V"⟩
def mk_I_clear (z : Nat × Nat) : ev_C := [(0, ev_fn (ev_aload 0 1)), (1, ev_fn (ev_ci 0 2)), (2, ev_fn (ev_putf 4 0 .int 5)), (5, ev_fn ev_vret)]
def mf_I_clear (z : Nat × Nat) : ev_F := ev_met (mk_I_clear z) 1
set_option maxHeartbeats 4000000 in
set_option maxRecDepth 100000 in
theorem mg_I_clear : ev_AllG (ev_Good l vc_L vt_L (gw_G b Ls xs z) prog_5_method_5_code 1 none my_I_clear.name my_I_clear.cls tb_T 0 0) (mk_I_clear z) := by
  refine ⟨ok_aload_n (z := 0) (by decide +kernel) rfl, ?_⟩
  refine ⟨ok_iconst (z := 0) (by decide +kernel) (by decide +kernel), ?_⟩
  refine ⟨ok_putf (ix := 7) hc_4 (by decide) hi_4 ht_4 hn_4 tw_100 (Or.inl rfl) rfl (by decide +kernel) (by decide +kernel), ?_⟩
  refine ⟨ok_vret rfl (by decide +kernel), ?_⟩
  exact trivial
theorem ms_I_clear : ev_Met l vc_L vt_L (gw_G b Ls xs z) my_I_clear (Cond.code my_I_clear prog_5_method_5_code 1 none :: tb_T) 0 0 (mf_I_clear z) := ev_sound (by decide +kernel) mg_I_clear
def my_R_waitAgain : MethodName := ⟨"MessageHub$Parcel", "waitAgain", "()V"⟩
def mk_R_waitAgain (z : Nat × Nat) : ev_C := [(0, ev_fn (ev_aload 0 1)), (1, ev_fn (ev_ci 0 2)), (2, ev_fn (ev_putf 10 1 .int 5)), (5, ev_fn (ev_aload 0 6)), (6, ev_fn (ev_ci 0 7)), (7, ev_fn (ev_putf 10 2 .int 10)), (10, ev_fn ev_vret)]
def mf_R_waitAgain (z : Nat × Nat) : ev_F := ev_met (mk_R_waitAgain z) 1
set_option maxHeartbeats 4000000 in
set_option maxRecDepth 100000 in
theorem mg_R_waitAgain : ev_AllG (ev_Good l vc_L vt_L (gw_G b Ls xs z) prog_9_method_3_code 1 none my_R_waitAgain.name my_R_waitAgain.cls tb_T 0 0) (mk_R_waitAgain z) := by
  refine ⟨ok_aload_n (z := 0) (by decide +kernel) rfl, ?_⟩
  refine ⟨ok_iconst (z := 0) (by decide +kernel) (by decide +kernel), ?_⟩
  refine ⟨ok_putf (ix := 9) hc_10 (by decide) hi_10 ht_10 hn_10 tw_486 (Or.inl rfl) rfl (by decide +kernel) (by decide +kernel), ?_⟩
  refine ⟨ok_aload_n (z := 0) (by decide +kernel) rfl, ?_⟩
  refine ⟨ok_iconst (z := 0) (by decide +kernel) (by decide +kernel), ?_⟩
  refine ⟨ok_putf (ix := 19) hc_10 (by decide) hi_10 ht_10 hn_10 tw_488 (Or.inl rfl) rfl (by decide +kernel) (by decide +kernel), ?_⟩
  refine ⟨ok_vret rfl (by decide +kernel), ?_⟩
  exact trivial
theorem ms_R_waitAgain : ev_Met l vc_L vt_L (gw_G b Ls xs z) my_R_waitAgain (Cond.code my_R_waitAgain prog_9_method_3_code 1 none :: tb_T) 0 0 (mf_R_waitAgain z) := ev_sound (by decide +kernel) mg_R_waitAgain
def my_C_startOver : MethodName := ⟨"MessageHub$Client", "startOver", "()V"⟩
def mk_C_startOver (z : Nat × Nat) : ev_C := [(0, ev_fn (ev_aload 0 1)), (1, ev_fn (ev_getf 3 1 4)), (4, ev_callR 2 (mf_A_size z) 1 7), (7, ev_fn (ev_ci 1 8)), (8, ev_fn (ev_isub 9)), (9, ev_fn (ev_istore 1 10)), (10, ev_fn (ev_iload 1 11)), (11, ev_fn (ev_iflt 64 14)), (14, ev_fn (ev_aload 0 15)), (15, ev_fn (ev_getf 3 1 18)), (18, ev_fn (ev_iload 1 19)), (19, ev_callR 2 (mf_A_get z) 2 22), (22, ev_fn (ev_castS 10 25)), (25, ev_fn (ev_getf 10 1 28)), (28, ev_fn (ev_ci 2 29)), (29, ev_fn (ev_icmpne 44 32)), (32, ev_fn (ev_aload 0 33)), (33, ev_fn (ev_getf 3 1 36)), (36, ev_fn (ev_iload 1 37)), (37, ev_callR 2 (mf_A_remove z) 2 40), (40, ev_fn (ev_pop 41)), (41, ev_fn (ev_goto 58)), (44, ev_fn (ev_aload 0 45)), (45, ev_fn (ev_getf 3 1 48)), (48, ev_fn (ev_iload 1 49)), (49, ev_callR 2 (mf_A_get z) 2 52), (52, ev_fn (ev_castS 10 55)), (55, ev_callR 10 (mf_R_waitAgain z) 1 58), (58, ev_fn (ev_iinc 1 (-1) 61)), (61, ev_fn (ev_goto 10)), (64, ev_fn ev_vret)]
def mf_C_startOver (z : Nat × Nat) : ev_F := ev_met (mk_C_startOver z) 2
set_option maxHeartbeats 4000000 in
set_option maxRecDepth 100000 in
theorem mg_C_startOver : ev_AllG (ev_Good l vc_L vt_L (gw_G b Ls xs z) prog_3_method_9_code 2 none my_C_startOver.name my_C_startOver.cls tb_T 3 91) (mk_C_startOver z) := by
  refine ⟨ok_aload_n (z := 0) (by decide +kernel) rfl, ?_⟩
  refine ⟨ok_getf (ix := 12) hc_3 (by decide) hi_3 tw_105 (Or.inl rfl) (by decide +kernel), ?_⟩
  refine ⟨ok_callV (ix := 97) hc_2 ms_A_size (tb_cwV tw_521 tw_405 tw_406 tw_5 tw_407 (by decide +kernel) (by decide) (by decide)) (by decide +kernel), ?_⟩
  refine ⟨ok_iconst (z := 1) (by decide +kernel) (by decide +kernel), ?_⟩
  refine ⟨ok_isub (by decide +kernel), ?_⟩
  refine ⟨ok_istore_n (z := 1) (by decide) (by decide +kernel) rfl, ?_⟩
  refine ⟨ok_iload_n (z := 1) (by decide +kernel) rfl, ?_⟩
  refine ⟨ok_iflt (off := 53) (by decide +kernel) (by decide), ?_⟩
  refine ⟨ok_aload_n (z := 0) (by decide +kernel) rfl, ?_⟩
  refine ⟨ok_getf (ix := 12) hc_3 (by decide) hi_3 tw_105 (Or.inl rfl) (by decide +kernel), ?_⟩
  refine ⟨ok_iload_n (z := 1) (by decide +kernel) rfl, ?_⟩
  refine ⟨ok_callV (ix := 120) hc_2 ms_A_get (tb_cwV tw_522 tw_507 tw_508 tw_5 tw_509 (by decide +kernel) (by decide) (by decide)) (by decide +kernel), ?_⟩
  refine ⟨ok_castS (ix := 59) hc_10 tw_477 (by decide +kernel), ?_⟩
  refine ⟨ok_getf (ix := 124) hc_10 (by decide) hi_10 tw_487 (Or.inl rfl) (by decide +kernel), ?_⟩
  refine ⟨ok_iconst (z := 2) (by decide +kernel) (by decide +kernel), ?_⟩
  refine ⟨ok_icmpne (off := 15) (by decide +kernel) (by decide), ?_⟩
  refine ⟨ok_aload_n (z := 0) (by decide +kernel) rfl, ?_⟩
  refine ⟨ok_getf (ix := 12) hc_3 (by decide) hi_3 tw_105 (Or.inl rfl) (by decide +kernel), ?_⟩
  refine ⟨ok_iload_n (z := 1) (by decide +kernel) rfl, ?_⟩
  refine ⟨ok_callV (ix := 127) hc_2 ms_A_remove (tb_cwV tw_568 tw_544 tw_545 tw_5 tw_546 (by decide +kernel) (by decide) (by decide)) (by decide +kernel), ?_⟩
  refine ⟨ok_pop (by decide +kernel), ?_⟩
  refine ⟨ok_goto (off := 17) (by decide +kernel) (by decide), ?_⟩
  refine ⟨ok_aload_n (z := 0) (by decide +kernel) rfl, ?_⟩
  refine ⟨ok_getf (ix := 12) hc_3 (by decide) hi_3 tw_105 (Or.inl rfl) (by decide +kernel), ?_⟩
  refine ⟨ok_iload_n (z := 1) (by decide +kernel) rfl, ?_⟩
  refine ⟨ok_callV (ix := 120) hc_2 ms_A_get (tb_cwV tw_522 tw_507 tw_508 tw_5 tw_509 (by decide +kernel) (by decide) (by decide)) (by decide +kernel), ?_⟩
  refine ⟨ok_castS (ix := 59) hc_10 tw_477 (by decide +kernel), ?_⟩
  refine ⟨ok_callV (ix := 130) hc_10 ms_R_waitAgain (tb_cwV tw_569 tw_570 tw_571 tw_19 tw_572 (by decide +kernel) (by decide) (by decide)) (by decide +kernel), ?_⟩
  refine ⟨ok_iinc (z := (-1)) (by decide) (by decide +kernel) (by decide +kernel), ?_⟩
  refine ⟨ok_goto (off := (-51)) (by decide +kernel) (by decide), ?_⟩
  refine ⟨ok_vret rfl (by decide +kernel), ?_⟩
  exact trivial
theorem ms_C_startOver : ev_Met l vc_L vt_L (gw_G b Ls xs z) my_C_startOver (Cond.code my_C_startOver prog_3_method_9_code 2 none :: tb_T) 3 91 (mf_C_startOver z) := ev_sound (by decide +kernel) mg_C_startOver
def my_R_repeatedPacket : MethodName := ⟨"MessageHub$Parcel", "repeatedPacket", "()LMessageHub$Packet;"⟩
def mk_R_repeatedPacket (z : Nat × Nat) : ev_C := [(0, ev_fn (ev_aload 0 1)), (1, ev_fn (ev_getf 10 1 4)), (4, ev_fn (ev_ci 1 5)), (5, ev_fn (ev_icmpne 23 8)), (8, ev_fn (ev_aload 0 9)), (9, ev_fn (ev_getf 10 0 12)), (12, ev_fn (ev_aload 0 13)), (13, ev_fn (ev_getf 10 2 16)), (16, ev_fn (ev_ci 1 17)), (17, ev_call (mf_P_ofMessage z) 3 20), (20, ev_fn (ev_goto 37)), (23, ev_fn (ev_newo 8 10 ff_8 26)), (26, ev_fn (ev_dup 27)), (27, ev_fn (ev_ci 6 29)), (29, ev_fn (ev_aload 0 30)), (30, ev_fn (ev_getf 10 2 33)), (33, ev_fn (ev_ci 0 34)), (34, ev_callI (mf_P_init z) 4 37), (37, ev_fn ev_aret)]
def mf_R_repeatedPacket (z : Nat × Nat) : ev_F := ev_met (mk_R_repeatedPacket z) 1
set_option maxHeartbeats 4000000 in
set_option maxRecDepth 100000 in
theorem mg_R_repeatedPacket : ev_AllG (ev_Good l vc_L vt_L (gw_G b Ls xs z) prog_9_method_4_code 1 (some (.object "MessageHub$Packet")) my_R_repeatedPacket.name my_R_repeatedPacket.cls tb_T 3 66) (mk_R_repeatedPacket z) := by
  refine ⟨ok_aload_n (z := 0) (by decide +kernel) rfl, ?_⟩
  refine ⟨ok_getf (ix := 9) hc_10 (by decide) hi_10 tw_486 (Or.inl rfl) (by decide +kernel), ?_⟩
  refine ⟨ok_iconst (z := 1) (by decide +kernel) (by decide +kernel), ?_⟩
  refine ⟨ok_icmpne (off := 18) (by decide +kernel) (by decide), ?_⟩
  refine ⟨ok_aload_n (z := 0) (by decide +kernel) rfl, ?_⟩
  refine ⟨ok_getf (ix := 15) hc_10 (by decide) hi_10 tw_483 (Or.inl rfl) (by decide +kernel), ?_⟩
  refine ⟨ok_aload_n (z := 0) (by decide +kernel) rfl, ?_⟩
  refine ⟨ok_getf (ix := 19) hc_10 (by decide) hi_10 tw_488 (Or.inl rfl) (by decide +kernel), ?_⟩
  refine ⟨ok_iconst (z := 1) (by decide +kernel) (by decide +kernel), ?_⟩
  refine ⟨ok_callS (ix := 22) ms_P_ofMessage (tb_cwS tw_581 tw_471 tw_13 tw_472 (by decide +kernel) (by decide) (by decide)) (by decide +kernel), ?_⟩
  refine ⟨ok_goto (off := 17) (by decide +kernel) (by decide), ?_⟩
  refine ⟨ok_newo (ix := 23) hc_8 hi_8 ht_8 hf_8 tw_582 tw_273 tw_13 (by decide +kernel), ?_⟩
  refine ⟨ok_dup (by decide +kernel), ?_⟩
  refine ⟨ok_bipush (z := 6) (by decide +kernel) (by decide +kernel), ?_⟩
  refine ⟨ok_aload_n (z := 0) (by decide +kernel) rfl, ?_⟩
  refine ⟨ok_getf (ix := 19) hc_10 (by decide) hi_10 tw_488 (Or.inl rfl) (by decide +kernel), ?_⟩
  refine ⟨ok_iconst (z := 0) (by decide +kernel) (by decide +kernel), ?_⟩
  refine ⟨ok_callI (ix := 28) ms_P_init (tb_cwI tw_583 tw_275 tw_13 tw_276 rfl (by decide +kernel) (by decide) (by decide)) (by decide +kernel), ?_⟩
  refine ⟨ok_aret rfl (Or.inl ⟨_, rfl⟩) (by decide +kernel), ?_⟩
  exact trivial
theorem ms_R_repeatedPacket : ev_Met l vc_L vt_L (gw_G b Ls xs z) my_R_repeatedPacket (Cond.code my_R_repeatedPacket prog_9_method_4_code 1 (some (.object "MessageHub$Packet")) :: tb_T) 3 66 (mf_R_repeatedPacket z) := ev_sound (by decide +kernel) mg_R_repeatedPacket
def my_C_sendAgain : MethodName := ⟨"MessageHub$Client", "sendAgain", "()V"⟩
def mk_C_sendAgain (z : Nat × Nat) : ev_C := [(0, ev_fn (ev_ci 0 1)), (1, ev_fn (ev_istore 1 2)), (2, ev_fn (ev_iload 1 3)), (3, ev_fn (ev_aload 0 4)), (4, ev_fn (ev_getf 3 1 7)), (7, ev_callR 2 (mf_A_size z) 1 10), (10, ev_fn (ev_icmpge 61 13)), (13, ev_fn (ev_aload 0 14)), (14, ev_fn (ev_getf 3 1 17)), (17, ev_fn (ev_iload 1 18)), (18, ev_callR 2 (mf_A_get z) 2 21), (21, ev_fn (ev_castS 10 24)), (24, ev_fn (ev_getf 10 1 27)), (27, ev_fn (ev_ifeq 55 30)), (30, ev_fn (ev_aload 0 31)), (31, ev_fn (ev_getf 3 0 34)), (34, ev_fn (ev_getf 1 0 37)), (37, ev_fn (ev_aload 0 38)), (38, ev_fn (ev_getf 3 1 41)), (41, ev_fn (ev_iload 1 42)), (42, ev_callR 2 (mf_A_get z) 2 45), (45, ev_fn (ev_castS 10 48)), (48, ev_callR 10 (mf_R_repeatedPacket z) 1 51), (51, ev_callR 2 (mf_A_add z) 2 54), (54, ev_fn (ev_pop 55)), (55, ev_fn (ev_iinc 1 1 58)), (58, ev_fn (ev_goto 2)), (61, ev_fn ev_vret)]
def mf_C_sendAgain (z : Nat × Nat) : ev_F := ev_met (mk_C_sendAgain z) 2
set_option maxHeartbeats 4000000 in
set_option maxRecDepth 100000 in
theorem mg_C_sendAgain : ev_AllG (ev_Good l vc_L vt_L (gw_G b Ls xs z) prog_3_method_10_code 2 none my_C_sendAgain.name my_C_sendAgain.cls tb_T 7 176) (mk_C_sendAgain z) := by
  refine ⟨ok_iconst (z := 0) (by decide +kernel) (by decide +kernel), ?_⟩
  refine ⟨ok_istore_n (z := 1) (by decide) (by decide +kernel) rfl, ?_⟩
  refine ⟨ok_iload_n (z := 1) (by decide +kernel) rfl, ?_⟩
  refine ⟨ok_aload_n (z := 0) (by decide +kernel) rfl, ?_⟩
  refine ⟨ok_getf (ix := 12) hc_3 (by decide) hi_3 tw_105 (Or.inl rfl) (by decide +kernel), ?_⟩
  refine ⟨ok_callV (ix := 97) hc_2 ms_A_size (tb_cwV tw_521 tw_405 tw_406 tw_5 tw_407 (by decide +kernel) (by decide) (by decide)) (by decide +kernel), ?_⟩
  refine ⟨ok_icmpge (off := 51) (by decide +kernel) (by decide), ?_⟩
  refine ⟨ok_aload_n (z := 0) (by decide +kernel) rfl, ?_⟩
  refine ⟨ok_getf (ix := 12) hc_3 (by decide) hi_3 tw_105 (Or.inl rfl) (by decide +kernel), ?_⟩
  refine ⟨ok_iload_n (z := 1) (by decide +kernel) rfl, ?_⟩
  refine ⟨ok_callV (ix := 120) hc_2 ms_A_get (tb_cwV tw_522 tw_507 tw_508 tw_5 tw_509 (by decide +kernel) (by decide) (by decide)) (by decide +kernel), ?_⟩
  refine ⟨ok_castS (ix := 59) hc_10 tw_477 (by decide +kernel), ?_⟩
  refine ⟨ok_getf (ix := 124) hc_10 (by decide) hi_10 tw_487 (Or.inl rfl) (by decide +kernel), ?_⟩
  refine ⟨ok_ifeq (off := 28) (by decide +kernel) (by decide), ?_⟩
  refine ⟨ok_aload_n (z := 0) (by decide +kernel) rfl, ?_⟩
  refine ⟨ok_getf (ix := 29) hc_3 (by decide) hi_3 tw_104 (Or.inl rfl) (by decide +kernel), ?_⟩
  refine ⟨ok_getf (ix := 46) hc_1 (by decide) hi_1 tw_68 (Or.inl rfl) (by decide +kernel), ?_⟩
  refine ⟨ok_aload_n (z := 0) (by decide +kernel) rfl, ?_⟩
  refine ⟨ok_getf (ix := 12) hc_3 (by decide) hi_3 tw_105 (Or.inl rfl) (by decide +kernel), ?_⟩
  refine ⟨ok_iload_n (z := 1) (by decide +kernel) rfl, ?_⟩
  refine ⟨ok_callV (ix := 120) hc_2 ms_A_get (tb_cwV tw_522 tw_507 tw_508 tw_5 tw_509 (by decide +kernel) (by decide) (by decide)) (by decide +kernel), ?_⟩
  refine ⟨ok_castS (ix := 59) hc_10 tw_477 (by decide +kernel), ?_⟩
  refine ⟨ok_callV (ix := 133) hc_10 ms_R_repeatedPacket (tb_cwV tw_577 tw_578 tw_579 tw_19 tw_580 (by decide +kernel) (by decide) (by decide)) (by decide +kernel), ?_⟩
  refine ⟨ok_callV (ix := 55) hc_2 ms_A_add (tb_cwV tw_324 tw_325 tw_326 tw_5 tw_327 (by decide +kernel) (by decide) (by decide)) (by decide +kernel), ?_⟩
  refine ⟨ok_pop (by decide +kernel), ?_⟩
  refine ⟨ok_iinc (z := 1) (by decide) (by decide +kernel) (by decide +kernel), ?_⟩
  refine ⟨ok_goto (off := (-56)) (by decide +kernel) (by decide), ?_⟩
  refine ⟨ok_vret rfl (by decide +kernel), ?_⟩
  exact trivial
theorem ms_C_sendAgain : ev_Met l vc_L vt_L (gw_G b Ls xs z) my_C_sendAgain (Cond.code my_C_sendAgain prog_3_method_10_code 2 none :: tb_T) 7 176 (mf_C_sendAgain z) := ev_sound (by decide +kernel) mg_C_sendAgain
def my_C_receiveConnack : MethodName := ⟨"MessageHub$Client", "receiveConnack", "(LMessageHub$Packet;)V"⟩
def mk_C_receiveConnack (z : Nat × Nat) : ev_C := [(0, ev_fn (ev_aload 0 1)), (1, ev_fn (ev_getf 3 0 4)), (4, ev_fn (ev_ci 2 5)), (5, ev_fn (ev_putf 1 2 .int 8)), (8, ev_fn (ev_aload 1 9)), (9, ev_fn (ev_getf 8 2 12)), (12, ev_fn (ev_ifne 29 15)), (15, ev_fn (ev_aload 0 16)), (16, ev_fn (ev_getf 3 2 19)), (19, ev_callR 4 (mf_I_clear z) 1 22), (22, ev_fn (ev_aload 0 23)), (23, ev_callR 3 (mf_C_startOver z) 1 26), (26, ev_fn (ev_goto 33)), (29, ev_fn (ev_aload 0 30)), (30, ev_callR 3 (mf_C_sendAgain z) 1 33), (33, ev_fn (ev_aload 0 34)), (34, ev_callR 3 (mf_C_pump z) 1 37), (37, ev_fn ev_vret)]
def mf_C_receiveConnack (z : Nat × Nat) : ev_F := ev_met (mk_C_receiveConnack z) 2
set_option maxHeartbeats 4000000 in
set_option maxRecDepth 100000 in
theorem mg_C_receiveConnack : ev_AllG (ev_Good l vc_L vt_L (gw_G b Ls xs z) prog_3_method_8_code 2 none my_C_receiveConnack.name my_C_receiveConnack.cls tb_T 8 199) (mk_C_receiveConnack z) := by
  refine ⟨ok_aload_n (z := 0) (by decide +kernel) rfl, ?_⟩
  refine ⟨ok_getf (ix := 29) hc_3 (by decide) hi_3 tw_104 (Or.inl rfl) (by decide +kernel), ?_⟩
  refine ⟨ok_iconst (z := 2) (by decide +kernel) (by decide +kernel), ?_⟩
  refine ⟨ok_putf (ix := 41) hc_1 (by decide) hi_1 ht_1 hn_1 tw_73 (Or.inl rfl) rfl (by decide +kernel) (by decide +kernel), ?_⟩
  refine ⟨ok_aload_n (z := 1) (by decide +kernel) rfl, ?_⟩
  refine ⟨ok_getf (ix := 108) hc_8 (by decide) hi_8 tw_286 (Or.inl rfl) (by decide +kernel), ?_⟩
  refine ⟨ok_ifne (off := 17) (by decide +kernel) (by decide), ?_⟩
  refine ⟨ok_aload_n (z := 0) (by decide +kernel) rfl, ?_⟩
  refine ⟨ok_getf (ix := 21) hc_3 (by decide) hi_3 tw_107 (Or.inl rfl) (by decide +kernel), ?_⟩
  refine ⟨ok_callV (ix := 111) hc_4 ms_I_clear (tb_cwV tw_560 tw_561 tw_562 tw_7 tw_563 (by decide +kernel) (by decide) (by decide)) (by decide +kernel), ?_⟩
  refine ⟨ok_aload_n (z := 0) (by decide +kernel) rfl, ?_⟩
  refine ⟨ok_callV (ix := 114) hc_3 ms_C_startOver (tb_cwV tw_564 tw_566 tv_8 tw_6 tw_567 (by decide +kernel) (by decide) (by decide)) (by decide +kernel), ?_⟩
  refine ⟨ok_goto (off := 7) (by decide +kernel) (by decide), ?_⟩
  refine ⟨ok_aload_n (z := 0) (by decide +kernel) rfl, ?_⟩
  refine ⟨ok_callV (ix := 117) hc_3 ms_C_sendAgain (tb_cwV tw_573 tw_575 tv_9 tw_6 tw_576 (by decide +kernel) (by decide) (by decide)) (by decide +kernel), ?_⟩
  refine ⟨ok_aload_n (z := 0) (by decide +kernel) rfl, ?_⟩
  refine ⟨ok_callV (ix := 64) hc_3 ms_C_pump (tb_cwV tw_498 tw_500 tv_5 tw_6 tw_501 (by decide +kernel) (by decide) (by decide)) (by decide +kernel), ?_⟩
  refine ⟨ok_vret rfl (by decide +kernel), ?_⟩
  exact trivial
theorem ms_C_receiveConnack : ev_Met l vc_L vt_L (gw_G b Ls xs z) my_C_receiveConnack (Cond.code my_C_receiveConnack prog_3_method_8_code 2 none :: tb_T) 8 199 (mf_C_receiveConnack z) := ev_sound (by decide +kernel) mg_C_receiveConnack
def my_I_has : MethodName := ⟨"MessageHub$HeldIds", "has", "(I)Z"⟩
def mk_I_has (z : Nat × Nat) : ev_C := [(0, ev_fn (ev_aload 0 1)), (1, ev_fn (ev_getf 4 0 4)), (4, ev_fn (ev_ci 1 5)), (5, ev_fn (ev_iload 1 6)), (6, ev_fn (ev_ishl 7)), (7, ev_fn (ev_iand 8)), (8, ev_fn (ev_ifeq 15 11)), (11, ev_fn (ev_ci 1 12)), (12, ev_fn (ev_goto 16)), (15, ev_fn (ev_ci 0 16)), (16, ev_fn (ev_zret .boolean))]
def mf_I_has (z : Nat × Nat) : ev_F := ev_met (mk_I_has z) 2
set_option maxHeartbeats 4000000 in
set_option maxRecDepth 100000 in
theorem mg_I_has : ev_AllG (ev_Good l vc_L vt_L (gw_G b Ls xs z) prog_5_method_2_code 2 (some .boolean) my_I_has.name my_I_has.cls tb_T 0 0) (mk_I_has z) := by
  refine ⟨ok_aload_n (z := 0) (by decide +kernel) rfl, ?_⟩
  refine ⟨ok_getf (ix := 7) hc_4 (by decide) hi_4 tw_100 (Or.inl rfl) (by decide +kernel), ?_⟩
  refine ⟨ok_iconst (z := 1) (by decide +kernel) (by decide +kernel), ?_⟩
  refine ⟨ok_iload_n (z := 1) (by decide +kernel) rfl, ?_⟩
  refine ⟨ok_ishl (by decide +kernel), ?_⟩
  refine ⟨ok_iand (by decide +kernel), ?_⟩
  refine ⟨ok_ifeq (off := 7) (by decide +kernel) (by decide), ?_⟩
  refine ⟨ok_iconst (z := 1) (by decide +kernel) (by decide +kernel), ?_⟩
  refine ⟨ok_goto (off := 4) (by decide +kernel) (by decide), ?_⟩
  refine ⟨ok_iconst (z := 0) (by decide +kernel) (by decide +kernel), ?_⟩
  refine ⟨ok_zret rfl (by decide +kernel), ?_⟩
  exact trivial
theorem ms_I_has : ev_Met l vc_L vt_L (gw_G b Ls xs z) my_I_has (Cond.code my_I_has prog_5_method_2_code 2 (some .boolean) :: tb_T) 0 0 (mf_I_has z) := ev_sound (by decide +kernel) mg_I_has
def my_C_putIntoInbox : MethodName := ⟨"MessageHub$Client", "putIntoInbox", "(I)V"⟩
def mk_C_putIntoInbox (z : Nat × Nat) : ev_C := [(0, ev_fn (ev_aload 0 1)), (1, ev_fn (ev_getf 3 4 4)), (4, ev_fn (ev_ci 0 5)), (5, ev_fn (ev_ci 99 7)), (7, ev_call (mf_H_isWithin z) 3 10), (10, ev_fn (ev_ifeq 23 13)), (13, ev_fn (ev_aload 0 14)), (14, ev_fn (ev_getf 3 3 17)), (17, ev_fn (ev_aload 0 18)), (18, ev_fn (ev_getf 3 4 21)), (21, ev_fn (ev_iload 1 22)), (22, ev_fn (ev_iast 23)), (23, ev_fn (ev_aload 0 24)), (24, ev_fn (ev_dup 25)), (25, ev_fn (ev_getf 3 4 28)), (28, ev_fn (ev_ci 1 29)), (29, ev_fn (ev_iadd 30)), (30, ev_fn (ev_putf 3 4 .int 33)), (33, ev_fn ev_vret)]
def mf_C_putIntoInbox (z : Nat × Nat) : ev_F := ev_met (mk_C_putIntoInbox z) 2
set_option maxHeartbeats 4000000 in
set_option maxRecDepth 100000 in
theorem mg_C_putIntoInbox : ev_AllG (ev_Good l vc_L vt_L (gw_G b Ls xs z) prog_3_method_14_code 2 none my_C_putIntoInbox.name my_C_putIntoInbox.cls tb_T 1 22) (mk_C_putIntoInbox z) := by
  refine ⟨ok_aload_n (z := 0) (by decide +kernel) rfl, ?_⟩
  refine ⟨ok_getf (ix := 90) hc_3 (by decide) hi_3 tw_109 (Or.inl rfl) (by decide +kernel), ?_⟩
  refine ⟨ok_iconst (z := 0) (by decide +kernel) (by decide +kernel), ?_⟩
  refine ⟨ok_bipush (z := 99) (by decide +kernel) (by decide +kernel), ?_⟩
  refine ⟨ok_callSN (ix := 93) ms_H_isWithin (tb_cwSN gw_n596 tw_245 tw_1 tw_246 (by decide +kernel) (by decide) (by decide)) (by decide +kernel), ?_⟩
  refine ⟨ok_ifeq (off := 13) (by decide +kernel) (by decide), ?_⟩
  refine ⟨ok_aload_n (z := 0) (by decide +kernel) rfl, ?_⟩
  refine ⟨ok_getf (ix := 25) hc_3 (by decide) hi_3 tw_108 (Or.inl rfl) (by decide +kernel), ?_⟩
  refine ⟨ok_aload_n (z := 0) (by decide +kernel) rfl, ?_⟩
  refine ⟨ok_getf (ix := 90) hc_3 (by decide) hi_3 tw_109 (Or.inl rfl) (by decide +kernel), ?_⟩
  refine ⟨ok_iload_n (z := 1) (by decide +kernel) rfl, ?_⟩
  refine ⟨ok_iast rfl (by decide +kernel), ?_⟩
  refine ⟨ok_aload_n (z := 0) (by decide +kernel) rfl, ?_⟩
  refine ⟨ok_dup (by decide +kernel), ?_⟩
  refine ⟨ok_getf (ix := 90) hc_3 (by decide) hi_3 tw_109 (Or.inl rfl) (by decide +kernel), ?_⟩
  refine ⟨ok_iconst (z := 1) (by decide +kernel) (by decide +kernel), ?_⟩
  refine ⟨ok_iadd (by decide +kernel), ?_⟩
  refine ⟨ok_putf (ix := 90) hc_3 (by decide) hi_3 ht_3 hn_3 tw_109 (Or.inl rfl) rfl (by decide +kernel) (by decide +kernel), ?_⟩
  refine ⟨ok_vret rfl (by decide +kernel), ?_⟩
  exact trivial
theorem ms_C_putIntoInbox : ev_Met l vc_L vt_L (gw_G b Ls xs z) my_C_putIntoInbox (Cond.code my_C_putIntoInbox prog_3_method_14_code 2 none :: tb_T) 1 22 (mf_C_putIntoInbox z) := ev_sound (by decide +kernel) mg_C_putIntoInbox
def my_I_add : MethodName := ⟨"MessageHub$HeldIds", "add", "(I)V"⟩
def mk_I_add (z : Nat × Nat) : ev_C := [(0, ev_fn (ev_aload 0 1)), (1, ev_fn (ev_dup 2)), (2, ev_fn (ev_getf 4 0 5)), (5, ev_fn (ev_ci 1 6)), (6, ev_fn (ev_iload 1 7)), (7, ev_fn (ev_ishl 8)), (8, ev_fn (ev_ior 9)), (9, ev_fn (ev_putf 4 0 .int 12)), (12, ev_fn ev_vret)]
def mf_I_add (z : Nat × Nat) : ev_F := ev_met (mk_I_add z) 2
set_option maxHeartbeats 4000000 in
set_option maxRecDepth 100000 in
theorem mg_I_add : ev_AllG (ev_Good l vc_L vt_L (gw_G b Ls xs z) prog_5_method_3_code 2 none my_I_add.name my_I_add.cls tb_T 0 0) (mk_I_add z) := by
  refine ⟨ok_aload_n (z := 0) (by decide +kernel) rfl, ?_⟩
  refine ⟨ok_dup (by decide +kernel), ?_⟩
  refine ⟨ok_getf (ix := 7) hc_4 (by decide) hi_4 tw_100 (Or.inl rfl) (by decide +kernel), ?_⟩
  refine ⟨ok_iconst (z := 1) (by decide +kernel) (by decide +kernel), ?_⟩
  refine ⟨ok_iload_n (z := 1) (by decide +kernel) rfl, ?_⟩
  refine ⟨ok_ishl (by decide +kernel), ?_⟩
  refine ⟨ok_ior (by decide +kernel), ?_⟩
  refine ⟨ok_putf (ix := 7) hc_4 (by decide) hi_4 ht_4 hn_4 tw_100 (Or.inl rfl) rfl (by decide +kernel) (by decide +kernel), ?_⟩
  refine ⟨ok_vret rfl (by decide +kernel), ?_⟩
  exact trivial
theorem ms_I_add : ev_Met l vc_L vt_L (gw_G b Ls xs z) my_I_add (Cond.code my_I_add prog_5_method_3_code 2 none :: tb_T) 0 0 (mf_I_add z) := ev_sound (by decide +kernel) mg_I_add
def my_C_receivePublish : MethodName := ⟨"MessageHub$Client", "receivePublish", "(LMessageHub$Packet;)V"⟩
def mk_C_receivePublish (z : Nat × Nat) : ev_C := [(0, ev_fn (ev_aload 1 1)), (1, ev_fn (ev_getf 8 4 4)), (4, ev_fn (ev_ci 2 5)), (5, ev_fn (ev_icmplt 22 8)), (8, ev_fn (ev_aload 0 9)), (9, ev_fn (ev_getf 3 2 12)), (12, ev_fn (ev_aload 1 13)), (13, ev_fn (ev_getf 8 1 16)), (16, ev_callR 4 (mf_I_has z) 2 19), (19, ev_fn (ev_ifne 30 22)), (22, ev_fn (ev_aload 0 23)), (23, ev_fn (ev_aload 1 24)), (24, ev_fn (ev_getf 8 2 27)), (27, ev_callR 3 (mf_C_putIntoInbox z) 2 30), (30, ev_fn (ev_aload 1 31)), (31, ev_fn (ev_getf 8 4 34)), (34, ev_fn (ev_ci 1 35)), (35, ev_fn (ev_icmpne 65 38)), (38, ev_fn (ev_aload 0 39)), (39, ev_fn (ev_getf 3 0 42)), (42, ev_fn (ev_getf 1 0 45)), (45, ev_fn (ev_newo 8 10 ff_8 48)), (48, ev_fn (ev_dup 49)), (49, ev_fn (ev_ci 4 50)), (50, ev_fn (ev_aload 1 51)), (51, ev_fn (ev_getf 8 1 54)), (54, ev_fn (ev_ci 0 55)), (55, ev_callI (mf_P_init z) 4 58), (58, ev_callR 2 (mf_A_add z) 2 61), (61, ev_fn (ev_pop 62)), (62, ev_fn (ev_goto 108)), (65, ev_fn (ev_aload 1 66)), (66, ev_fn (ev_getf 8 4 69)), (69, ev_fn (ev_ci 2 70)), (70, ev_fn (ev_icmpne 108 73)), (73, ev_fn (ev_aload 0 74)), (74, ev_fn (ev_getf 3 2 77)), (77, ev_fn (ev_aload 1 78)), (78, ev_fn (ev_getf 8 1 81)), (81, ev_callR 4 (mf_I_add z) 2 84), (84, ev_fn (ev_aload 0 85)), (85, ev_fn (ev_getf 3 0 88)), (88, ev_fn (ev_getf 1 0 91)), (91, ev_fn (ev_newo 8 10 ff_8 94)), (94, ev_fn (ev_dup 95)), (95, ev_fn (ev_ci 5 96)), (96, ev_fn (ev_aload 1 97)), (97, ev_fn (ev_getf 8 1 100)), (100, ev_fn (ev_ci 0 101)), (101, ev_callI (mf_P_init z) 4 104), (104, ev_callR 2 (mf_A_add z) 2 107), (107, ev_fn (ev_pop 108)), (108, ev_fn ev_vret)]
def mf_C_receivePublish (z : Nat × Nat) : ev_F := ev_met (mk_C_receivePublish z) 2
set_option maxHeartbeats 4000000 in
set_option maxRecDepth 100000 in
theorem mg_C_receivePublish : ev_AllG (ev_Good l vc_L vt_L (gw_G b Ls xs z) prog_3_method_11_code 2 none my_C_receivePublish.name my_C_receivePublish.cls tb_T 7 176) (mk_C_receivePublish z) := by
  refine ⟨ok_aload_n (z := 1) (by decide +kernel) rfl, ?_⟩
  refine ⟨ok_getf (ix := 137) hc_8 (by decide) hi_8 tw_293 (Or.inl rfl) (by decide +kernel), ?_⟩
  refine ⟨ok_iconst (z := 2) (by decide +kernel) (by decide +kernel), ?_⟩
  refine ⟨ok_icmplt (off := 17) (by decide +kernel) (by decide), ?_⟩
  refine ⟨ok_aload_n (z := 0) (by decide +kernel) rfl, ?_⟩
  refine ⟨ok_getf (ix := 21) hc_3 (by decide) hi_3 tw_107 (Or.inl rfl) (by decide +kernel), ?_⟩
  refine ⟨ok_aload_n (z := 1) (by decide +kernel) rfl, ?_⟩
  refine ⟨ok_getf (ix := 80) hc_8 (by decide) hi_8 tw_283 (Or.inl rfl) (by decide +kernel), ?_⟩
  refine ⟨ok_callV (ix := 140) hc_4 ms_I_has (tb_cwV tw_588 tw_589 tw_590 tw_7 tw_591 (by decide +kernel) (by decide) (by decide)) (by decide +kernel), ?_⟩
  refine ⟨ok_ifne (off := 11) (by decide +kernel) (by decide), ?_⟩
  refine ⟨ok_aload_n (z := 0) (by decide +kernel) rfl, ?_⟩
  refine ⟨ok_aload_n (z := 1) (by decide +kernel) rfl, ?_⟩
  refine ⟨ok_getf (ix := 108) hc_8 (by decide) hi_8 tw_286 (Or.inl rfl) (by decide +kernel), ?_⟩
  refine ⟨ok_callV (ix := 144) hc_3 ms_C_putIntoInbox (tb_cwV tw_592 tw_594 tv_11 tw_6 tw_595 (by decide +kernel) (by decide) (by decide)) (by decide +kernel), ?_⟩
  refine ⟨ok_aload_n (z := 1) (by decide +kernel) rfl, ?_⟩
  refine ⟨ok_getf (ix := 137) hc_8 (by decide) hi_8 tw_293 (Or.inl rfl) (by decide +kernel), ?_⟩
  refine ⟨ok_iconst (z := 1) (by decide +kernel) (by decide +kernel), ?_⟩
  refine ⟨ok_icmpne (off := 30) (by decide +kernel) (by decide), ?_⟩
  refine ⟨ok_aload_n (z := 0) (by decide +kernel) rfl, ?_⟩
  refine ⟨ok_getf (ix := 29) hc_3 (by decide) hi_3 tw_104 (Or.inl rfl) (by decide +kernel), ?_⟩
  refine ⟨ok_getf (ix := 46) hc_1 (by decide) hi_1 tw_68 (Or.inl rfl) (by decide +kernel), ?_⟩
  refine ⟨ok_newo (ix := 50) hc_8 hi_8 ht_8 hf_8 tw_597 tw_273 tw_13 (by decide +kernel), ?_⟩
  refine ⟨ok_dup (by decide +kernel), ?_⟩
  refine ⟨ok_iconst (z := 4) (by decide +kernel) (by decide +kernel), ?_⟩
  refine ⟨ok_aload_n (z := 1) (by decide +kernel) rfl, ?_⟩
  refine ⟨ok_getf (ix := 80) hc_8 (by decide) hi_8 tw_283 (Or.inl rfl) (by decide +kernel), ?_⟩
  refine ⟨ok_iconst (z := 0) (by decide +kernel) (by decide +kernel), ?_⟩
  refine ⟨ok_callI (ix := 148) ms_P_init (tb_cwI tw_598 tw_275 tw_13 tw_276 rfl (by decide +kernel) (by decide) (by decide)) (by decide +kernel), ?_⟩
  refine ⟨ok_callV (ix := 55) hc_2 ms_A_add (tb_cwV tw_324 tw_325 tw_326 tw_5 tw_327 (by decide +kernel) (by decide) (by decide)) (by decide +kernel), ?_⟩
  refine ⟨ok_pop (by decide +kernel), ?_⟩
  refine ⟨ok_goto (off := 46) (by decide +kernel) (by decide), ?_⟩
  refine ⟨ok_aload_n (z := 1) (by decide +kernel) rfl, ?_⟩
  refine ⟨ok_getf (ix := 137) hc_8 (by decide) hi_8 tw_293 (Or.inl rfl) (by decide +kernel), ?_⟩
  refine ⟨ok_iconst (z := 2) (by decide +kernel) (by decide +kernel), ?_⟩
  refine ⟨ok_icmpne (off := 38) (by decide +kernel) (by decide), ?_⟩
  refine ⟨ok_aload_n (z := 0) (by decide +kernel) rfl, ?_⟩
  refine ⟨ok_getf (ix := 21) hc_3 (by decide) hi_3 tw_107 (Or.inl rfl) (by decide +kernel), ?_⟩
  refine ⟨ok_aload_n (z := 1) (by decide +kernel) rfl, ?_⟩
  refine ⟨ok_getf (ix := 80) hc_8 (by decide) hi_8 tw_283 (Or.inl rfl) (by decide +kernel), ?_⟩
  refine ⟨ok_callV (ix := 151) hc_4 ms_I_add (tb_cwV tw_599 tw_600 tw_601 tw_7 tw_602 (by decide +kernel) (by decide) (by decide)) (by decide +kernel), ?_⟩
  refine ⟨ok_aload_n (z := 0) (by decide +kernel) rfl, ?_⟩
  refine ⟨ok_getf (ix := 29) hc_3 (by decide) hi_3 tw_104 (Or.inl rfl) (by decide +kernel), ?_⟩
  refine ⟨ok_getf (ix := 46) hc_1 (by decide) hi_1 tw_68 (Or.inl rfl) (by decide +kernel), ?_⟩
  refine ⟨ok_newo (ix := 50) hc_8 hi_8 ht_8 hf_8 tw_597 tw_273 tw_13 (by decide +kernel), ?_⟩
  refine ⟨ok_dup (by decide +kernel), ?_⟩
  refine ⟨ok_iconst (z := 5) (by decide +kernel) (by decide +kernel), ?_⟩
  refine ⟨ok_aload_n (z := 1) (by decide +kernel) rfl, ?_⟩
  refine ⟨ok_getf (ix := 80) hc_8 (by decide) hi_8 tw_283 (Or.inl rfl) (by decide +kernel), ?_⟩
  refine ⟨ok_iconst (z := 0) (by decide +kernel) (by decide +kernel), ?_⟩
  refine ⟨ok_callI (ix := 148) ms_P_init (tb_cwI tw_598 tw_275 tw_13 tw_276 rfl (by decide +kernel) (by decide) (by decide)) (by decide +kernel), ?_⟩
  refine ⟨ok_callV (ix := 55) hc_2 ms_A_add (tb_cwV tw_324 tw_325 tw_326 tw_5 tw_327 (by decide +kernel) (by decide) (by decide)) (by decide +kernel), ?_⟩
  refine ⟨ok_pop (by decide +kernel), ?_⟩
  refine ⟨ok_vret rfl (by decide +kernel), ?_⟩
  exact trivial
theorem ms_C_receivePublish : ev_Met l vc_L vt_L (gw_G b Ls xs z) my_C_receivePublish (Cond.code my_C_receivePublish prog_3_method_11_code 2 none :: tb_T) 7 176 (mf_C_receivePublish z) := ev_sound (by decide +kernel) mg_C_receivePublish
def my_I_remove : MethodName := ⟨"MessageHub$HeldIds", "remove", "(I)V"⟩
def mk_I_remove (z : Nat × Nat) : ev_C := [(0, ev_fn (ev_aload 0 1)), (1, ev_fn (ev_dup 2)), (2, ev_fn (ev_getf 4 0 5)), (5, ev_fn (ev_ci 1 6)), (6, ev_fn (ev_iload 1 7)), (7, ev_fn (ev_ishl 8)), (8, ev_fn (ev_ci (-1) 9)), (9, ev_fn (ev_ixor 10)), (10, ev_fn (ev_iand 11)), (11, ev_fn (ev_putf 4 0 .int 14)), (14, ev_fn ev_vret)]
def mf_I_remove (z : Nat × Nat) : ev_F := ev_met (mk_I_remove z) 2
set_option maxHeartbeats 4000000 in
set_option maxRecDepth 100000 in
theorem mg_I_remove : ev_AllG (ev_Good l vc_L vt_L (gw_G b Ls xs z) prog_5_method_4_code 2 none my_I_remove.name my_I_remove.cls tb_T 0 0) (mk_I_remove z) := by
  refine ⟨ok_aload_n (z := 0) (by decide +kernel) rfl, ?_⟩
  refine ⟨ok_dup (by decide +kernel), ?_⟩
  refine ⟨ok_getf (ix := 7) hc_4 (by decide) hi_4 tw_100 (Or.inl rfl) (by decide +kernel), ?_⟩
  refine ⟨ok_iconst (z := 1) (by decide +kernel) (by decide +kernel), ?_⟩
  refine ⟨ok_iload_n (z := 1) (by decide +kernel) rfl, ?_⟩
  refine ⟨ok_ishl (by decide +kernel), ?_⟩
  refine ⟨ok_iconst (z := (-1)) (by decide +kernel) (by decide +kernel), ?_⟩
  refine ⟨ok_ixor (by decide +kernel), ?_⟩
  refine ⟨ok_iand (by decide +kernel), ?_⟩
  refine ⟨ok_putf (ix := 7) hc_4 (by decide) hi_4 ht_4 hn_4 tw_100 (Or.inl rfl) rfl (by decide +kernel) (by decide +kernel), ?_⟩
  refine ⟨ok_vret rfl (by decide +kernel), ?_⟩
  exact trivial
theorem ms_I_remove : ev_Met l vc_L vt_L (gw_G b Ls xs z) my_I_remove (Cond.code my_I_remove prog_5_method_4_code 2 none :: tb_T) 0 0 (mf_I_remove z) := ev_sound (by decide +kernel) mg_I_remove
def my_C_receivePubrel : MethodName := ⟨"MessageHub$Client", "receivePubrel", "(LMessageHub$Packet;)V"⟩
def mk_C_receivePubrel (z : Nat × Nat) : ev_C := [(0, ev_fn (ev_aload 0 1)), (1, ev_fn (ev_getf 3 2 4)), (4, ev_fn (ev_aload 1 5)), (5, ev_fn (ev_getf 8 1 8)), (8, ev_callR 4 (mf_I_remove z) 2 11), (11, ev_fn (ev_aload 0 12)), (12, ev_fn (ev_getf 3 0 15)), (15, ev_fn (ev_getf 1 0 18)), (18, ev_fn (ev_newo 8 10 ff_8 21)), (21, ev_fn (ev_dup 22)), (22, ev_fn (ev_ci 7 24)), (24, ev_fn (ev_aload 1 25)), (25, ev_fn (ev_getf 8 1 28)), (28, ev_fn (ev_ci 0 29)), (29, ev_callI (mf_P_init z) 4 32), (32, ev_callR 2 (mf_A_add z) 2 35), (35, ev_fn (ev_pop 36)), (36, ev_fn ev_vret)]
def mf_C_receivePubrel (z : Nat × Nat) : ev_F := ev_met (mk_C_receivePubrel z) 2
set_option maxHeartbeats 4000000 in
set_option maxRecDepth 100000 in
theorem mg_C_receivePubrel : ev_AllG (ev_Good l vc_L vt_L (gw_G b Ls xs z) prog_3_method_12_code 2 none my_C_receivePubrel.name my_C_receivePubrel.cls tb_T 7 176) (mk_C_receivePubrel z) := by
  refine ⟨ok_aload_n (z := 0) (by decide +kernel) rfl, ?_⟩
  refine ⟨ok_getf (ix := 21) hc_3 (by decide) hi_3 tw_107 (Or.inl rfl) (by decide +kernel), ?_⟩
  refine ⟨ok_aload_n (z := 1) (by decide +kernel) rfl, ?_⟩
  refine ⟨ok_getf (ix := 80) hc_8 (by decide) hi_8 tw_283 (Or.inl rfl) (by decide +kernel), ?_⟩
  refine ⟨ok_callV (ix := 153) hc_4 ms_I_remove (tb_cwV tw_607 tw_608 tw_609 tw_7 tw_610 (by decide +kernel) (by decide) (by decide)) (by decide +kernel), ?_⟩
  refine ⟨ok_aload_n (z := 0) (by decide +kernel) rfl, ?_⟩
  refine ⟨ok_getf (ix := 29) hc_3 (by decide) hi_3 tw_104 (Or.inl rfl) (by decide +kernel), ?_⟩
  refine ⟨ok_getf (ix := 46) hc_1 (by decide) hi_1 tw_68 (Or.inl rfl) (by decide +kernel), ?_⟩
  refine ⟨ok_newo (ix := 50) hc_8 hi_8 ht_8 hf_8 tw_597 tw_273 tw_13 (by decide +kernel), ?_⟩
  refine ⟨ok_dup (by decide +kernel), ?_⟩
  refine ⟨ok_bipush (z := 7) (by decide +kernel) (by decide +kernel), ?_⟩
  refine ⟨ok_aload_n (z := 1) (by decide +kernel) rfl, ?_⟩
  refine ⟨ok_getf (ix := 80) hc_8 (by decide) hi_8 tw_283 (Or.inl rfl) (by decide +kernel), ?_⟩
  refine ⟨ok_iconst (z := 0) (by decide +kernel) (by decide +kernel), ?_⟩
  refine ⟨ok_callI (ix := 148) ms_P_init (tb_cwI tw_598 tw_275 tw_13 tw_276 rfl (by decide +kernel) (by decide) (by decide)) (by decide +kernel), ?_⟩
  refine ⟨ok_callV (ix := 55) hc_2 ms_A_add (tb_cwV tw_324 tw_325 tw_326 tw_5 tw_327 (by decide +kernel) (by decide) (by decide)) (by decide +kernel), ?_⟩
  refine ⟨ok_pop (by decide +kernel), ?_⟩
  refine ⟨ok_vret rfl (by decide +kernel), ?_⟩
  exact trivial
theorem ms_C_receivePubrel : ev_Met l vc_L vt_L (gw_G b Ls xs z) my_C_receivePubrel (Cond.code my_C_receivePubrel prog_3_method_12_code 2 none :: tb_T) 7 176 (mf_C_receivePubrel z) := ev_sound (by decide +kernel) mg_C_receivePubrel
def my_R_finish : MethodName := ⟨"MessageHub$Parcel", "finish", "(Ljava/util/ArrayList;III)V"⟩
def mk_R_finish (z : Nat × Nat) : ev_C := [(0, ev_fn (ev_aload 0 1)), (1, ev_callR 2 (mf_A_size z) 1 4), (4, ev_fn (ev_ci 1 5)), (5, ev_fn (ev_isub 6)), (6, ev_fn (ev_istore 4 8)), (8, ev_fn (ev_iload 4 10)), (10, ev_fn (ev_iflt 67 13)), (13, ev_fn (ev_aload 0 14)), (14, ev_fn (ev_iload 4 16)), (16, ev_callR 2 (mf_A_get z) 2 19), (19, ev_fn (ev_castS 10 22)), (22, ev_fn (ev_astore 5 24)), (24, ev_fn (ev_aload 5 26)), (26, ev_fn (ev_getf 10 2 29)), (29, ev_fn (ev_iload 1 30)), (30, ev_fn (ev_icmpne 61 33)), (33, ev_fn (ev_aload 5 35)), (35, ev_fn (ev_getf 10 0 38)), (38, ev_fn (ev_getf 9 2 41)), (41, ev_fn (ev_iload 2 42)), (42, ev_fn (ev_icmpne 61 45)), (45, ev_fn (ev_aload 5 47)), (47, ev_fn (ev_getf 10 1 50)), (50, ev_fn (ev_iload 3 51)), (51, ev_fn (ev_icmpne 61 54)), (54, ev_fn (ev_aload 0 55)), (55, ev_fn (ev_iload 4 57)), (57, ev_callR 2 (mf_A_remove z) 2 60), (60, ev_fn (ev_pop 61)), (61, ev_fn (ev_iinc 4 (-1) 64)), (64, ev_fn (ev_goto 8)), (67, ev_fn ev_vret)]
def mf_R_finish (z : Nat × Nat) : ev_F := ev_met (mk_R_finish z) 6
set_option maxHeartbeats 4000000 in
set_option maxRecDepth 100000 in
theorem mg_R_finish : ev_AllG (ev_Good l vc_L vt_L (gw_G b Ls xs z) prog_9_method_7_code 6 none my_R_finish.name my_R_finish.cls tb_T 3 91) (mk_R_finish z) := by
  refine ⟨ok_aload_n (z := 0) (by decide +kernel) rfl, ?_⟩
  refine ⟨ok_callV (ix := 31) hc_2 ms_A_size (tb_cwV tw_505 tw_405 tw_406 tw_5 tw_407 (by decide +kernel) (by decide) (by decide)) (by decide +kernel), ?_⟩
  refine ⟨ok_iconst (z := 1) (by decide +kernel) (by decide +kernel), ?_⟩
  refine ⟨ok_isub (by decide +kernel), ?_⟩
  refine ⟨ok_istore (by decide) (by decide +kernel), ?_⟩
  refine ⟨ok_iload (by decide +kernel), ?_⟩
  refine ⟨ok_iflt (off := 57) (by decide +kernel) (by decide), ?_⟩
  refine ⟨ok_aload_n (z := 0) (by decide +kernel) rfl, ?_⟩
  refine ⟨ok_iload (by decide +kernel), ?_⟩
  refine ⟨ok_callV (ix := 37) hc_2 ms_A_get (tb_cwV tw_506 tw_507 tw_508 tw_5 tw_509 (by decide +kernel) (by decide) (by decide)) (by decide +kernel), ?_⟩
  refine ⟨ok_castS (ix := 10) hc_10 tw_520 (by decide +kernel), ?_⟩
  refine ⟨ok_astore (by decide) (by decide +kernel), ?_⟩
  refine ⟨ok_aload (by decide +kernel), ?_⟩
  refine ⟨ok_getf (ix := 19) hc_10 (by decide) hi_10 tw_488 (Or.inl rfl) (by decide +kernel), ?_⟩
  refine ⟨ok_iload_n (z := 1) (by decide +kernel) rfl, ?_⟩
  refine ⟨ok_icmpne (off := 31) (by decide +kernel) (by decide), ?_⟩
  refine ⟨ok_aload (by decide +kernel), ?_⟩
  refine ⟨ok_getf (ix := 15) hc_10 (by decide) hi_10 tw_483 (Or.inl rfl) (by decide +kernel), ?_⟩
  refine ⟨ok_getf (ix := 41) hc_9 (by decide) hi_9 tw_456 (Or.inl rfl) (by decide +kernel), ?_⟩
  refine ⟨ok_iload_n (z := 2) (by decide +kernel) rfl, ?_⟩
  refine ⟨ok_icmpne (off := 19) (by decide +kernel) (by decide), ?_⟩
  refine ⟨ok_aload (by decide +kernel), ?_⟩
  refine ⟨ok_getf (ix := 9) hc_10 (by decide) hi_10 tw_486 (Or.inl rfl) (by decide +kernel), ?_⟩
  refine ⟨ok_iload_n (z := 3) (by decide +kernel) rfl, ?_⟩
  refine ⟨ok_icmpne (off := 10) (by decide +kernel) (by decide), ?_⟩
  refine ⟨ok_aload_n (z := 0) (by decide +kernel) rfl, ?_⟩
  refine ⟨ok_iload (by decide +kernel), ?_⟩
  refine ⟨ok_callV (ix := 46) hc_2 ms_A_remove (tb_cwV tw_614 tw_544 tw_545 tw_5 tw_546 (by decide +kernel) (by decide) (by decide)) (by decide +kernel), ?_⟩
  refine ⟨ok_pop (by decide +kernel), ?_⟩
  refine ⟨ok_iinc (z := (-1)) (by decide) (by decide +kernel) (by decide +kernel), ?_⟩
  refine ⟨ok_goto (off := (-56)) (by decide +kernel) (by decide), ?_⟩
  refine ⟨ok_vret rfl (by decide +kernel), ?_⟩
  exact trivial
theorem ms_R_finish : ev_Met l vc_L vt_L (gw_G b Ls xs z) my_R_finish (Cond.code my_R_finish prog_9_method_7_code 6 none :: tb_T) 3 91 (mf_R_finish z) := ev_sound (by decide +kernel) mg_R_finish
def my_R_release : MethodName := ⟨"MessageHub$Parcel", "release", "(Ljava/util/ArrayList;I)Z"⟩
def mk_R_release (z : Nat × Nat) : ev_C := [(0, ev_fn (ev_ci 0 1)), (1, ev_fn (ev_istore 2 2)), (2, ev_fn (ev_iload 2 3)), (3, ev_fn (ev_aload 0 4)), (4, ev_callR 2 (mf_A_size z) 1 7), (7, ev_fn (ev_icmpge 58 10)), (10, ev_fn (ev_aload 0 11)), (11, ev_fn (ev_iload 2 12)), (12, ev_callR 2 (mf_A_get z) 2 15), (15, ev_fn (ev_castS 10 18)), (18, ev_fn (ev_astore 3 19)), (19, ev_fn (ev_aload 3 20)), (20, ev_fn (ev_getf 10 2 23)), (23, ev_fn (ev_iload 1 24)), (24, ev_fn (ev_icmpne 52 27)), (27, ev_fn (ev_aload 3 28)), (28, ev_fn (ev_getf 10 0 31)), (31, ev_fn (ev_getf 9 2 34)), (34, ev_fn (ev_ci 2 35)), (35, ev_fn (ev_icmpne 52 38)), (38, ev_fn (ev_aload 3 39)), (39, ev_fn (ev_getf 10 1 42)), (42, ev_fn (ev_ifeq 52 45)), (45, ev_fn (ev_aload 3 46)), (46, ev_fn (ev_ci 2 47)), (47, ev_fn (ev_putf 10 1 .int 50)), (50, ev_fn (ev_ci 1 51)), (51, ev_fn (ev_zret .boolean)), (52, ev_fn (ev_iinc 2 1 55)), (55, ev_fn (ev_goto 2)), (58, ev_fn (ev_ci 0 59)), (59, ev_fn (ev_zret .boolean))]
def mf_R_release (z : Nat × Nat) : ev_F := ev_met (mk_R_release z) 4
set_option maxHeartbeats 4000000 in
set_option maxRecDepth 100000 in
theorem mg_R_release : ev_AllG (ev_Good l vc_L vt_L (gw_G b Ls xs z) prog_9_method_8_code 4 (some .boolean) my_R_release.name my_R_release.cls tb_T 3 64) (mk_R_release z) := by
  refine ⟨ok_iconst (z := 0) (by decide +kernel) (by decide +kernel), ?_⟩
  refine ⟨ok_istore_n (z := 2) (by decide) (by decide +kernel) rfl, ?_⟩
  refine ⟨ok_iload_n (z := 2) (by decide +kernel) rfl, ?_⟩
  refine ⟨ok_aload_n (z := 0) (by decide +kernel) rfl, ?_⟩
  refine ⟨ok_callV (ix := 31) hc_2 ms_A_size (tb_cwV tw_505 tw_405 tw_406 tw_5 tw_407 (by decide +kernel) (by decide) (by decide)) (by decide +kernel), ?_⟩
  refine ⟨ok_icmpge (off := 51) (by decide +kernel) (by decide), ?_⟩
  refine ⟨ok_aload_n (z := 0) (by decide +kernel) rfl, ?_⟩
  refine ⟨ok_iload_n (z := 2) (by decide +kernel) rfl, ?_⟩
  refine ⟨ok_callV (ix := 37) hc_2 ms_A_get (tb_cwV tw_506 tw_507 tw_508 tw_5 tw_509 (by decide +kernel) (by decide) (by decide)) (by decide +kernel), ?_⟩
  refine ⟨ok_castS (ix := 10) hc_10 tw_520 (by decide +kernel), ?_⟩
  refine ⟨ok_astore_n (z := 3) (by decide) (by decide +kernel) rfl, ?_⟩
  refine ⟨ok_aload_n (z := 3) (by decide +kernel) rfl, ?_⟩
  refine ⟨ok_getf (ix := 19) hc_10 (by decide) hi_10 tw_488 (Or.inl rfl) (by decide +kernel), ?_⟩
  refine ⟨ok_iload_n (z := 1) (by decide +kernel) rfl, ?_⟩
  refine ⟨ok_icmpne (off := 28) (by decide +kernel) (by decide), ?_⟩
  refine ⟨ok_aload_n (z := 3) (by decide +kernel) rfl, ?_⟩
  refine ⟨ok_getf (ix := 15) hc_10 (by decide) hi_10 tw_483 (Or.inl rfl) (by decide +kernel), ?_⟩
  refine ⟨ok_getf (ix := 41) hc_9 (by decide) hi_9 tw_456 (Or.inl rfl) (by decide +kernel), ?_⟩
  refine ⟨ok_iconst (z := 2) (by decide +kernel) (by decide +kernel), ?_⟩
  refine ⟨ok_icmpne (off := 17) (by decide +kernel) (by decide), ?_⟩
  refine ⟨ok_aload_n (z := 3) (by decide +kernel) rfl, ?_⟩
  refine ⟨ok_getf (ix := 9) hc_10 (by decide) hi_10 tw_486 (Or.inl rfl) (by decide +kernel), ?_⟩
  refine ⟨ok_ifeq (off := 10) (by decide +kernel) (by decide), ?_⟩
  refine ⟨ok_aload_n (z := 3) (by decide +kernel) rfl, ?_⟩
  refine ⟨ok_iconst (z := 2) (by decide +kernel) (by decide +kernel), ?_⟩
  refine ⟨ok_putf (ix := 9) hc_10 (by decide) hi_10 ht_10 hn_10 tw_486 (Or.inl rfl) rfl (by decide +kernel) (by decide +kernel), ?_⟩
  refine ⟨ok_iconst (z := 1) (by decide +kernel) (by decide +kernel), ?_⟩
  refine ⟨ok_zret rfl (by decide +kernel), ?_⟩
  refine ⟨ok_iinc (z := 1) (by decide) (by decide +kernel) (by decide +kernel), ?_⟩
  refine ⟨ok_goto (off := (-53)) (by decide +kernel) (by decide), ?_⟩
  refine ⟨ok_iconst (z := 0) (by decide +kernel) (by decide +kernel), ?_⟩
  refine ⟨ok_zret rfl (by decide +kernel), ?_⟩
  exact trivial
theorem ms_R_release : ev_Met l vc_L vt_L (gw_G b Ls xs z) my_R_release (Cond.code my_R_release prog_9_method_8_code 4 (some .boolean) :: tb_T) 3 64 (mf_R_release z) := ev_sound (by decide +kernel) mg_R_release
end MT
