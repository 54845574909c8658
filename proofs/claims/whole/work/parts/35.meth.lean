/-! Methods as lists of steps, and that the machine does what they do (written by wip/whole/gen.py). -/
section MT
variable {l : Launch} {b Ls : Nat} {xs : Nat → Int32} {z : Nat × Nat}
def my_B_receiveUnsubscribe : MethodName := ⟨"MessageHub$Broker", "receiveUnsubscribe", "(ILMessageHub$Packet;)V"⟩
def mk_B_receiveUnsubscribe (z : Nat × Nat) : ev_C := [(0, ev_fn (ev_aload 0 1)), (1, ev_fn (ev_getf 5 2 4)), (4, ev_fn (ev_iload 1 5)), (5, ev_fn (ev_aaldR 6)), (6, ev_fn (ev_astore 3 7)), (7, ev_fn (ev_aload 3 8)), (8, ev_fn (ev_aload 2 9)), (9, ev_fn (ev_getf 8 3 12)), (12, ev_callR 7 (mf_S_find z) 2 15), (15, ev_fn (ev_istore 4 17)), (17, ev_fn (ev_iload 4 19)), (19, ev_fn (ev_iflt 32 22)), (22, ev_fn (ev_aload 3 23)), (23, ev_fn (ev_getf 7 0 26)), (26, ev_fn (ev_iload 4 28)), (28, ev_callR 2 (mf_A_remove z) 2 31), (31, ev_fn (ev_pop 32)), (32, ev_fn (ev_aload 0 33)), (33, ev_fn (ev_iload 1 34)), (34, ev_fn (ev_newo 8 10 ff_8 37)), (37, ev_fn (ev_dup 38)), (38, ev_fn (ev_ci 11 40)), (40, ev_fn (ev_ci 0 41)), (41, ev_fn (ev_iload 4 43)), (43, ev_fn (ev_iflt 50 46)), (46, ev_fn (ev_ci 0 47)), (47, ev_fn (ev_goto 52)), (50, ev_fn (ev_ci 17 52)), (52, ev_callI (mf_P_init z) 4 55), (55, ev_callR 5 (mf_B_send z) 3 58), (58, ev_fn ev_vret)]
def mf_B_receiveUnsubscribe (z : Nat × Nat) : ev_F := ev_met (mk_B_receiveUnsubscribe z) 5
set_option maxHeartbeats 4000000 in
set_option maxRecDepth 100000 in
theorem mg_B_receiveUnsubscribe : ev_AllG (ev_Good l vc_L vt_L (gw_G b Ls xs z) prog_2_method_13_code 5 none my_B_receiveUnsubscribe.name my_B_receiveUnsubscribe.cls tb_T 8 198) (mk_B_receiveUnsubscribe z) := by
  refine ⟨ok_aload_n (z := 0) (by decide +kernel) rfl, ?_⟩
  refine ⟨ok_getf (ix := 19) hc_5 (by decide) hi_5 tw_208 (Or.inl rfl) (by decide +kernel), ?_⟩
  refine ⟨ok_iload_n (z := 1) (by decide +kernel) rfl, ?_⟩
  refine ⟨ok_aaldR (by decide +kernel), ?_⟩
  refine ⟨ok_astore_n (z := 3) (by decide) (by decide +kernel) rfl, ?_⟩
  refine ⟨ok_aload_n (z := 3) (by decide +kernel) rfl, ?_⟩
  refine ⟨ok_aload_n (z := 2) (by decide +kernel) rfl, ?_⟩
  refine ⟨ok_getf (ix := 176) hc_8 (by decide) hi_8 tw_290 (Or.inl rfl) (by decide +kernel), ?_⟩
  refine ⟨ok_callV (ix := 230) hc_7 ms_S_find (tb_cwV tw_797 tw_765 tw_766 tw_10 tw_767 (by decide +kernel) (by decide) (by decide)) (by decide +kernel), ?_⟩
  refine ⟨ok_istore (by decide) (by decide +kernel), ?_⟩
  refine ⟨ok_iload (by decide +kernel), ?_⟩
  refine ⟨ok_iflt (off := 13) (by decide +kernel) (by decide), ?_⟩
  refine ⟨ok_aload_n (z := 3) (by decide +kernel) rfl, ?_⟩
  refine ⟨ok_getf (ix := 233) hc_7 (by decide) hi_7 tw_178 (Or.inl rfl) (by decide +kernel), ?_⟩
  refine ⟨ok_iload (by decide +kernel), ?_⟩
  refine ⟨ok_callV (ix := 236) hc_2 ms_A_remove (tb_cwV tw_720 tw_544 tw_545 tw_5 tw_546 (by decide +kernel) (by decide) (by decide)) (by decide +kernel), ?_⟩
  refine ⟨ok_pop (by decide +kernel), ?_⟩
  refine ⟨ok_aload_n (z := 0) (by decide +kernel) rfl, ?_⟩
  refine ⟨ok_iload_n (z := 1) (by decide +kernel) rfl, ?_⟩
  refine ⟨ok_newo (ix := 80) hc_8 hi_8 ht_8 hf_8 tw_743 tw_273 tw_13 (by decide +kernel), ?_⟩
  refine ⟨ok_dup (by decide +kernel), ?_⟩
  refine ⟨ok_bipush (z := 11) (by decide +kernel) (by decide +kernel), ?_⟩
  refine ⟨ok_iconst (z := 0) (by decide +kernel) (by decide +kernel), ?_⟩
  refine ⟨ok_iload (by decide +kernel), ?_⟩
  refine ⟨ok_iflt (off := 7) (by decide +kernel) (by decide), ?_⟩
  refine ⟨ok_iconst (z := 0) (by decide +kernel) (by decide +kernel), ?_⟩
  refine ⟨ok_goto (off := 5) (by decide +kernel) (by decide), ?_⟩
  refine ⟨ok_bipush (z := 17) (by decide +kernel) (by decide +kernel), ?_⟩
  refine ⟨ok_callI (ix := 103) ms_P_init (tb_cwI tw_744 tw_275 tw_13 tw_276 rfl (by decide +kernel) (by decide) (by decide)) (by decide +kernel), ?_⟩
  refine ⟨ok_callV (ix := 106) hc_5 ms_B_send (tb_cwV tw_706 tw_708 tv_19 tw_8 tw_709 (by decide +kernel) (by decide) (by decide)) (by decide +kernel), ?_⟩
  refine ⟨ok_vret rfl (by decide +kernel), ?_⟩
  exact trivial
theorem ms_B_receiveUnsubscribe : ev_Met l vc_L vt_L (gw_G b Ls xs z) my_B_receiveUnsubscribe (Cond.code my_B_receiveUnsubscribe prog_2_method_13_code 5 none :: tb_T) 8 198 (mf_B_receiveUnsubscribe z) := ev_sound (by decide +kernel) mg_B_receiveUnsubscribe
def my_B_receive : MethodName := ⟨"MessageHub$Broker", "receive", "(ILMessageHub$Packet;)V"⟩
def mk_B_receive_0 (z : Nat × Nat) : ev_C := [(0, ev_fn (ev_aload 0 1)), (1, ev_fn (ev_getf 5 1 4)), (4, ev_fn (ev_iload 1 5)), (5, ev_fn (ev_aaldR 6)), (6, ev_fn (ev_ci 0 7)), (7, ev_fn (ev_putf 6 2 .int 10)), (10, ev_fn (ev_aload 2 11)), (11, ev_fn (ev_getf 8 0 14)), (14, ev_fn (ev_tsw 14 284 1 14 #[70, 284, 96, 143, 169, 105, 213, 239, 284, 248, 284, 257, 284, 276])), (84, ev_fn (ev_aload 0 85)), (85, ev_fn (ev_getf 5 1 88)), (88, ev_fn (ev_iload 1 89)), (89, ev_fn (ev_aaldR 90)), (90, ev_fn (ev_getf 6 0 93)), (93, ev_fn (ev_ifeq 101 96)), (96, ev_fn (ev_aload 0 97)), (97, ev_fn (ev_iload 1 98)), (98, ev_callR 5 (mf_B_closeAbruptly z) 2 101), (101, ev_fn (ev_aload 0 102)), (102, ev_fn (ev_iload 1 103)), (103, ev_fn (ev_aload 2 104)), (104, ev_callR 5 (mf_B_receiveConnect z) 3 107), (107, ev_fn (ev_goto 298)), (110, ev_fn (ev_aload 0 111)), (111, ev_fn (ev_iload 1 112)), (112, ev_fn (ev_aload 2 113)), (113, ev_callR 5 (mf_B_receivePublish z) 3 116), (116, ev_fn (ev_goto 298)), (119, ev_fn (ev_aload 0 120)), (120, ev_fn (ev_getf 5 2 123)), (123, ev_fn (ev_iload 1 124)), (124, ev_fn (ev_aaldR 125)), (125, ev_fn (ev_getf 7 3 128)), (128, ev_fn (ev_aload 2 129)), (129, ev_fn (ev_getf 8 1 132)), (132, ev_callR 4 (mf_I_remove z) 2 135), (135, ev_fn (ev_aload 0 136)), (136, ev_fn (ev_iload 1 137)), (137, ev_fn (ev_newo 8 10 ff_8 140)), (140, ev_fn (ev_dup 141)), (141, ev_fn (ev_ci 7 143)), (143, ev_fn (ev_aload 2 144)), (144, ev_fn (ev_getf 8 1 147)), (147, ev_fn (ev_ci 0 148)), (148, ev_callI (mf_P_init z) 4 151), (151, ev_callR 5 (mf_B_send z) 3 154), (154, ev_fn (ev_goto 298)), (157, ev_fn (ev_aload 0 158)), (158, ev_fn (ev_getf 5 2 161)), (161, ev_fn (ev_iload 1 162)), (162, ev_fn (ev_aaldR 163)), (163, ev_fn (ev_getf 7 2 166)), (166, ev_fn (ev_aload 2 167)), (167, ev_fn (ev_getf 8 1 170)), (170, ev_fn (ev_ci 1 171)), (171, ev_fn (ev_ci 1 172)), (172, ev_call (mf_R_finish z) 4 175), (175, ev_fn (ev_aload 0 176)), (176, ev_fn (ev_iload 1 177)), (177, ev_callR 5 (mf_B_pump z) 2 180)]
def mk_B_receive_1 (z : Nat × Nat) : ev_C := [(180, ev_fn (ev_goto 298)), (183, ev_fn (ev_aload 0 184)), (184, ev_fn (ev_getf 5 2 187)), (187, ev_fn (ev_iload 1 188)), (188, ev_fn (ev_aaldR 189)), (189, ev_fn (ev_getf 7 2 192)), (192, ev_fn (ev_aload 2 193)), (193, ev_fn (ev_getf 8 1 196)), (196, ev_call (mf_R_release z) 2 199), (199, ev_fn (ev_pop 200)), (200, ev_fn (ev_aload 0 201)), (201, ev_fn (ev_iload 1 202)), (202, ev_fn (ev_newo 8 10 ff_8 205)), (205, ev_fn (ev_dup 206)), (206, ev_fn (ev_ci 6 208)), (208, ev_fn (ev_aload 2 209)), (209, ev_fn (ev_getf 8 1 212)), (212, ev_fn (ev_ci 0 213)), (213, ev_callI (mf_P_init z) 4 216), (216, ev_callR 5 (mf_B_send z) 3 219), (219, ev_fn (ev_aload 0 220)), (220, ev_fn (ev_iload 1 221)), (221, ev_callR 5 (mf_B_pump z) 2 224), (224, ev_fn (ev_goto 298)), (227, ev_fn (ev_aload 0 228)), (228, ev_fn (ev_getf 5 2 231)), (231, ev_fn (ev_iload 1 232)), (232, ev_fn (ev_aaldR 233)), (233, ev_fn (ev_getf 7 2 236)), (236, ev_fn (ev_aload 2 237)), (237, ev_fn (ev_getf 8 1 240)), (240, ev_fn (ev_ci 2 241)), (241, ev_fn (ev_ci 2 242)), (242, ev_call (mf_R_finish z) 4 245), (245, ev_fn (ev_aload 0 246)), (246, ev_fn (ev_iload 1 247)), (247, ev_callR 5 (mf_B_pump z) 2 250), (250, ev_fn (ev_goto 298)), (253, ev_fn (ev_aload 0 254)), (254, ev_fn (ev_iload 1 255)), (255, ev_fn (ev_aload 2 256)), (256, ev_callR 5 (mf_B_receiveSubscribe z) 3 259), (259, ev_fn (ev_goto 298)), (262, ev_fn (ev_aload 0 263)), (263, ev_fn (ev_iload 1 264)), (264, ev_fn (ev_aload 2 265)), (265, ev_callR 5 (mf_B_receiveUnsubscribe z) 3 268), (268, ev_fn (ev_goto 298)), (271, ev_fn (ev_aload 0 272)), (272, ev_fn (ev_iload 1 273)), (273, ev_fn (ev_newo 8 10 ff_8 276)), (276, ev_fn (ev_dup 277)), (277, ev_fn (ev_ci 13 279)), (279, ev_fn (ev_ci 0 280)), (280, ev_fn (ev_ci 0 281)), (281, ev_callI (mf_P_init z) 4 284), (284, ev_callR 5 (mf_B_send z) 3 287), (287, ev_fn (ev_goto 298)), (290, ev_fn (ev_aload 0 291)), (291, ev_fn (ev_iload 1 292))]
def mk_B_receive_2 (z : Nat × Nat) : ev_C := [(292, ev_callR 5 (mf_B_closeNormally z) 2 295), (295, ev_fn (ev_goto 298)), (298, ev_fn ev_vret)]
def mk_B_receive (z : Nat × Nat) : ev_C := mk_B_receive_0 z ++ (mk_B_receive_1 z ++ (mk_B_receive_2 z))
def mf_B_receive (z : Nat × Nat) : ev_F := ev_met (mk_B_receive z) 3
set_option maxHeartbeats 4000000 in
set_option maxRecDepth 100000 in
theorem mg_B_receive_0 : ev_AllG (ev_Good l vc_L vt_L (gw_G b Ls xs z) prog_2_method_6_code 3 none my_B_receive.name my_B_receive.cls tb_T 11 274) (mk_B_receive_0 z) := by
  refine ⟨ok_aload_n (z := 0) (by decide +kernel) rfl, ?_⟩
  refine ⟨ok_getf (ix := 11) hc_5 (by decide) hi_5 tw_206 (Or.inl rfl) (by decide +kernel), ?_⟩
  refine ⟨ok_iload_n (z := 1) (by decide +kernel) rfl, ?_⟩
  refine ⟨ok_aaldR (by decide +kernel), ?_⟩
  refine ⟨ok_iconst (z := 0) (by decide +kernel) (by decide +kernel), ?_⟩
  refine ⟨ok_putf (ix := 76) hc_6 (by decide) hi_6 ht_6 hn_6 tw_151 (Or.inl rfl) rfl (by decide +kernel) (by decide +kernel), ?_⟩
  refine ⟨ok_aload_n (z := 2) (by decide +kernel) rfl, ?_⟩
  refine ⟨ok_getf (ix := 79) hc_8 (by decide) hi_8 tw_280 (Or.inl rfl) (by decide +kernel), ?_⟩
  refine ⟨ok_tsw (len := 70) (by decide +kernel), ?_⟩
  refine ⟨ok_aload_n (z := 0) (by decide +kernel) rfl, ?_⟩
  refine ⟨ok_getf (ix := 11) hc_5 (by decide) hi_5 tw_206 (Or.inl rfl) (by decide +kernel), ?_⟩
  refine ⟨ok_iload_n (z := 1) (by decide +kernel) rfl, ?_⟩
  refine ⟨ok_aaldR (by decide +kernel), ?_⟩
  refine ⟨ok_getf (ix := 40) hc_6 (by decide) hi_6 tw_146 (Or.inl rfl) (by decide +kernel), ?_⟩
  refine ⟨ok_ifeq (off := 8) (by decide +kernel) (by decide), ?_⟩
  refine ⟨ok_aload_n (z := 0) (by decide +kernel) rfl, ?_⟩
  refine ⟨ok_iload_n (z := 1) (by decide +kernel) rfl, ?_⟩
  refine ⟨ok_callV (ix := 56) hc_5 ms_B_closeAbruptly (tb_cwV tw_630 tw_632 tv_14 tw_8 tw_633 (by decide +kernel) (by decide) (by decide)) (by decide +kernel), ?_⟩
  refine ⟨ok_aload_n (z := 0) (by decide +kernel) rfl, ?_⟩
  refine ⟨ok_iload_n (z := 1) (by decide +kernel) rfl, ?_⟩
  refine ⟨ok_aload_n (z := 2) (by decide +kernel) rfl, ?_⟩
  refine ⟨ok_callV (ix := 84) hc_5 ms_B_receiveConnect (tb_cwV tw_734 tw_736 tv_23 tw_8 tw_737 (by decide +kernel) (by decide) (by decide)) (by decide +kernel), ?_⟩
  refine ⟨ok_goto (off := 191) (by decide +kernel) (by decide), ?_⟩
  refine ⟨ok_aload_n (z := 0) (by decide +kernel) rfl, ?_⟩
  refine ⟨ok_iload_n (z := 1) (by decide +kernel) rfl, ?_⟩
  refine ⟨ok_aload_n (z := 2) (by decide +kernel) rfl, ?_⟩
  refine ⟨ok_callV (ix := 88) hc_5 ms_B_receivePublish (tb_cwV tw_746 tw_748 tv_24 tw_8 tw_749 (by decide +kernel) (by decide) (by decide)) (by decide +kernel), ?_⟩
  refine ⟨ok_goto (off := 182) (by decide +kernel) (by decide), ?_⟩
  refine ⟨ok_aload_n (z := 0) (by decide +kernel) rfl, ?_⟩
  refine ⟨ok_getf (ix := 19) hc_5 (by decide) hi_5 tw_208 (Or.inl rfl) (by decide +kernel), ?_⟩
  refine ⟨ok_iload_n (z := 1) (by decide +kernel) rfl, ?_⟩
  refine ⟨ok_aaldR (by decide +kernel), ?_⟩
  refine ⟨ok_getf (ix := 91) hc_7 (by decide) hi_7 tw_184 (Or.inl rfl) (by decide +kernel), ?_⟩
  refine ⟨ok_aload_n (z := 2) (by decide +kernel) rfl, ?_⟩
  refine ⟨ok_getf (ix := 95) hc_8 (by decide) hi_8 tw_284 (Or.inl rfl) (by decide +kernel), ?_⟩
  refine ⟨ok_callV (ix := 98) hc_4 ms_I_remove (tb_cwV tw_753 tw_608 tw_609 tw_7 tw_610 (by decide +kernel) (by decide) (by decide)) (by decide +kernel), ?_⟩
  refine ⟨ok_aload_n (z := 0) (by decide +kernel) rfl, ?_⟩
  refine ⟨ok_iload_n (z := 1) (by decide +kernel) rfl, ?_⟩
  refine ⟨ok_newo (ix := 80) hc_8 hi_8 ht_8 hf_8 tw_743 tw_273 tw_13 (by decide +kernel), ?_⟩
  refine ⟨ok_dup (by decide +kernel), ?_⟩
  refine ⟨ok_bipush (z := 7) (by decide +kernel) (by decide +kernel), ?_⟩
  refine ⟨ok_aload_n (z := 2) (by decide +kernel) rfl, ?_⟩
  refine ⟨ok_getf (ix := 95) hc_8 (by decide) hi_8 tw_284 (Or.inl rfl) (by decide +kernel), ?_⟩
  refine ⟨ok_iconst (z := 0) (by decide +kernel) (by decide +kernel), ?_⟩
  refine ⟨ok_callI (ix := 103) ms_P_init (tb_cwI tw_744 tw_275 tw_13 tw_276 rfl (by decide +kernel) (by decide) (by decide)) (by decide +kernel), ?_⟩
  refine ⟨ok_callV (ix := 106) hc_5 ms_B_send (tb_cwV tw_706 tw_708 tv_19 tw_8 tw_709 (by decide +kernel) (by decide) (by decide)) (by decide +kernel), ?_⟩
  refine ⟨ok_goto (off := 144) (by decide +kernel) (by decide), ?_⟩
  refine ⟨ok_aload_n (z := 0) (by decide +kernel) rfl, ?_⟩
  refine ⟨ok_getf (ix := 19) hc_5 (by decide) hi_5 tw_208 (Or.inl rfl) (by decide +kernel), ?_⟩
  refine ⟨ok_iload_n (z := 1) (by decide +kernel) rfl, ?_⟩
  refine ⟨ok_aaldR (by decide +kernel), ?_⟩
  refine ⟨ok_getf (ix := 109) hc_7 (by decide) hi_7 tw_182 (Or.inl rfl) (by decide +kernel), ?_⟩
  refine ⟨ok_aload_n (z := 2) (by decide +kernel) rfl, ?_⟩
  refine ⟨ok_getf (ix := 95) hc_8 (by decide) hi_8 tw_284 (Or.inl rfl) (by decide +kernel), ?_⟩
  refine ⟨ok_iconst (z := 1) (by decide +kernel) (by decide +kernel), ?_⟩
  refine ⟨ok_iconst (z := 1) (by decide +kernel) (by decide +kernel), ?_⟩
  refine ⟨ok_callS (ix := 112) ms_R_finish (tb_cwS tw_754 tw_612 tw_19 tw_613 (by decide +kernel) (by decide) (by decide)) (by decide +kernel), ?_⟩
  refine ⟨ok_aload_n (z := 0) (by decide +kernel) rfl, ?_⟩
  refine ⟨ok_iload_n (z := 1) (by decide +kernel) rfl, ?_⟩
  refine ⟨ok_callV (ix := 118) hc_5 ms_B_pump (tb_cwV tw_725 tw_727 tv_22 tw_8 tw_728 (by decide +kernel) (by decide) (by decide)) (by decide +kernel), ?_⟩
  exact trivial
set_option maxHeartbeats 4000000 in
set_option maxRecDepth 100000 in
theorem mg_B_receive_1 : ev_AllG (ev_Good l vc_L vt_L (gw_G b Ls xs z) prog_2_method_6_code 3 none my_B_receive.name my_B_receive.cls tb_T 11 274) (mk_B_receive_1 z) := by
  refine ⟨ok_goto (off := 118) (by decide +kernel) (by decide), ?_⟩
  refine ⟨ok_aload_n (z := 0) (by decide +kernel) rfl, ?_⟩
  refine ⟨ok_getf (ix := 19) hc_5 (by decide) hi_5 tw_208 (Or.inl rfl) (by decide +kernel), ?_⟩
  refine ⟨ok_iload_n (z := 1) (by decide +kernel) rfl, ?_⟩
  refine ⟨ok_aaldR (by decide +kernel), ?_⟩
  refine ⟨ok_getf (ix := 109) hc_7 (by decide) hi_7 tw_182 (Or.inl rfl) (by decide +kernel), ?_⟩
  refine ⟨ok_aload_n (z := 2) (by decide +kernel) rfl, ?_⟩
  refine ⟨ok_getf (ix := 95) hc_8 (by decide) hi_8 tw_284 (Or.inl rfl) (by decide +kernel), ?_⟩
  refine ⟨ok_callS (ix := 121) ms_R_release (tb_cwS tw_755 tw_620 tw_19 tw_621 (by decide +kernel) (by decide) (by decide)) (by decide +kernel), ?_⟩
  refine ⟨ok_pop (by decide +kernel), ?_⟩
  refine ⟨ok_aload_n (z := 0) (by decide +kernel) rfl, ?_⟩
  refine ⟨ok_iload_n (z := 1) (by decide +kernel) rfl, ?_⟩
  refine ⟨ok_newo (ix := 80) hc_8 hi_8 ht_8 hf_8 tw_743 tw_273 tw_13 (by decide +kernel), ?_⟩
  refine ⟨ok_dup (by decide +kernel), ?_⟩
  refine ⟨ok_bipush (z := 6) (by decide +kernel) (by decide +kernel), ?_⟩
  refine ⟨ok_aload_n (z := 2) (by decide +kernel) rfl, ?_⟩
  refine ⟨ok_getf (ix := 95) hc_8 (by decide) hi_8 tw_284 (Or.inl rfl) (by decide +kernel), ?_⟩
  refine ⟨ok_iconst (z := 0) (by decide +kernel) (by decide +kernel), ?_⟩
  refine ⟨ok_callI (ix := 103) ms_P_init (tb_cwI tw_744 tw_275 tw_13 tw_276 rfl (by decide +kernel) (by decide) (by decide)) (by decide +kernel), ?_⟩
  refine ⟨ok_callV (ix := 106) hc_5 ms_B_send (tb_cwV tw_706 tw_708 tv_19 tw_8 tw_709 (by decide +kernel) (by decide) (by decide)) (by decide +kernel), ?_⟩
  refine ⟨ok_aload_n (z := 0) (by decide +kernel) rfl, ?_⟩
  refine ⟨ok_iload_n (z := 1) (by decide +kernel) rfl, ?_⟩
  refine ⟨ok_callV (ix := 118) hc_5 ms_B_pump (tb_cwV tw_725 tw_727 tv_22 tw_8 tw_728 (by decide +kernel) (by decide) (by decide)) (by decide +kernel), ?_⟩
  refine ⟨ok_goto (off := 74) (by decide +kernel) (by decide), ?_⟩
  refine ⟨ok_aload_n (z := 0) (by decide +kernel) rfl, ?_⟩
  refine ⟨ok_getf (ix := 19) hc_5 (by decide) hi_5 tw_208 (Or.inl rfl) (by decide +kernel), ?_⟩
  refine ⟨ok_iload_n (z := 1) (by decide +kernel) rfl, ?_⟩
  refine ⟨ok_aaldR (by decide +kernel), ?_⟩
  refine ⟨ok_getf (ix := 109) hc_7 (by decide) hi_7 tw_182 (Or.inl rfl) (by decide +kernel), ?_⟩
  refine ⟨ok_aload_n (z := 2) (by decide +kernel) rfl, ?_⟩
  refine ⟨ok_getf (ix := 95) hc_8 (by decide) hi_8 tw_284 (Or.inl rfl) (by decide +kernel), ?_⟩
  refine ⟨ok_iconst (z := 2) (by decide +kernel) (by decide +kernel), ?_⟩
  refine ⟨ok_iconst (z := 2) (by decide +kernel) (by decide +kernel), ?_⟩
  refine ⟨ok_callS (ix := 112) ms_R_finish (tb_cwS tw_754 tw_612 tw_19 tw_613 (by decide +kernel) (by decide) (by decide)) (by decide +kernel), ?_⟩
  refine ⟨ok_aload_n (z := 0) (by decide +kernel) rfl, ?_⟩
  refine ⟨ok_iload_n (z := 1) (by decide +kernel) rfl, ?_⟩
  refine ⟨ok_callV (ix := 118) hc_5 ms_B_pump (tb_cwV tw_725 tw_727 tv_22 tw_8 tw_728 (by decide +kernel) (by decide) (by decide)) (by decide +kernel), ?_⟩
  refine ⟨ok_goto (off := 48) (by decide +kernel) (by decide), ?_⟩
  refine ⟨ok_aload_n (z := 0) (by decide +kernel) rfl, ?_⟩
  refine ⟨ok_iload_n (z := 1) (by decide +kernel) rfl, ?_⟩
  refine ⟨ok_aload_n (z := 2) (by decide +kernel) rfl, ?_⟩
  refine ⟨ok_callV (ix := 125) hc_5 ms_B_receiveSubscribe (tb_cwV tw_756 tw_758 tv_25 tw_8 tw_759 (by decide +kernel) (by decide) (by decide)) (by decide +kernel), ?_⟩
  refine ⟨ok_goto (off := 39) (by decide +kernel) (by decide), ?_⟩
  refine ⟨ok_aload_n (z := 0) (by decide +kernel) rfl, ?_⟩
  refine ⟨ok_iload_n (z := 1) (by decide +kernel) rfl, ?_⟩
  refine ⟨ok_aload_n (z := 2) (by decide +kernel) rfl, ?_⟩
  refine ⟨ok_callV (ix := 128) hc_5 ms_B_receiveUnsubscribe (tb_cwV tw_793 tw_795 tv_27 tw_8 tw_796 (by decide +kernel) (by decide) (by decide)) (by decide +kernel), ?_⟩
  refine ⟨ok_goto (off := 30) (by decide +kernel) (by decide), ?_⟩
  refine ⟨ok_aload_n (z := 0) (by decide +kernel) rfl, ?_⟩
  refine ⟨ok_iload_n (z := 1) (by decide +kernel) rfl, ?_⟩
  refine ⟨ok_newo (ix := 80) hc_8 hi_8 ht_8 hf_8 tw_743 tw_273 tw_13 (by decide +kernel), ?_⟩
  refine ⟨ok_dup (by decide +kernel), ?_⟩
  refine ⟨ok_bipush (z := 13) (by decide +kernel) (by decide +kernel), ?_⟩
  refine ⟨ok_iconst (z := 0) (by decide +kernel) (by decide +kernel), ?_⟩
  refine ⟨ok_iconst (z := 0) (by decide +kernel) (by decide +kernel), ?_⟩
  refine ⟨ok_callI (ix := 103) ms_P_init (tb_cwI tw_744 tw_275 tw_13 tw_276 rfl (by decide +kernel) (by decide) (by decide)) (by decide +kernel), ?_⟩
  refine ⟨ok_callV (ix := 106) hc_5 ms_B_send (tb_cwV tw_706 tw_708 tv_19 tw_8 tw_709 (by decide +kernel) (by decide) (by decide)) (by decide +kernel), ?_⟩
  refine ⟨ok_goto (off := 11) (by decide +kernel) (by decide), ?_⟩
  refine ⟨ok_aload_n (z := 0) (by decide +kernel) rfl, ?_⟩
  refine ⟨ok_iload_n (z := 1) (by decide +kernel) rfl, ?_⟩
  exact trivial
set_option maxHeartbeats 4000000 in
set_option maxRecDepth 100000 in
theorem mg_B_receive_2 : ev_AllG (ev_Good l vc_L vt_L (gw_G b Ls xs z) prog_2_method_6_code 3 none my_B_receive.name my_B_receive.cls tb_T 11 274) (mk_B_receive_2 z) := by
  refine ⟨ok_callV (ix := 131) hc_5 ms_B_closeNormally (tb_cwV tw_634 tw_636 tv_15 tw_8 tw_637 (by decide +kernel) (by decide) (by decide)) (by decide +kernel), ?_⟩
  refine ⟨ok_goto (off := 3) (by decide +kernel) (by decide), ?_⟩
  refine ⟨ok_vret rfl (by decide +kernel), ?_⟩
  exact trivial
theorem mg_B_receive : ev_AllG (ev_Good l vc_L vt_L (gw_G b Ls xs z) prog_2_method_6_code 3 none my_B_receive.name my_B_receive.cls tb_T 11 274) (mk_B_receive z) := ev_AllG.app mg_B_receive_0 (ev_AllG.app mg_B_receive_1 (mg_B_receive_2))
theorem ms_B_receive : ev_Met l vc_L vt_L (gw_G b Ls xs z) my_B_receive (Cond.code my_B_receive prog_2_method_6_code 3 none :: tb_T) 11 274 (mf_B_receive z) := ev_sound (by decide +kernel) mg_B_receive
def my_B_breakDown : MethodName := ⟨"MessageHub$Broker", "breakDown", "()V"⟩
def mk_B_breakDown (z : Nat × Nat) : ev_C := [(0, ev_fn (ev_ci 0 1)), (1, ev_fn (ev_istore 1 2)), (2, ev_fn (ev_iload 1 3)), (3, ev_fn (ev_ci 3 4)), (4, ev_fn (ev_icmpge 41 7)), (7, ev_fn (ev_aload 0 8)), (8, ev_fn (ev_getf 5 1 11)), (11, ev_fn (ev_iload 1 12)), (12, ev_fn (ev_aaldR 13)), (13, ev_fn (ev_ci 0 14)), (14, ev_fn (ev_putf 6 0 .boolean 17)), (17, ev_fn (ev_aload 0 18)), (18, ev_fn (ev_getf 5 0 21)), (21, ev_fn (ev_iload 1 22)), (22, ev_fn (ev_aaldR 23)), (23, ev_callR 1 (mf_L_close z) 1 26), (26, ev_fn (ev_aload 0 27)), (27, ev_fn (ev_getf 5 2 30)), (30, ev_fn (ev_iload 1 31)), (31, ev_fn (ev_aaldR 32)), (32, ev_callR 7 (mf_S_outlive z) 1 35), (35, ev_fn (ev_iinc 1 1 38)), (38, ev_fn (ev_goto 2)), (41, ev_fn ev_vret)]
def mf_B_breakDown (z : Nat × Nat) : ev_F := ev_met (mk_B_breakDown z) 2
set_option maxHeartbeats 4000000 in
set_option maxRecDepth 100000 in
theorem mg_B_breakDown : ev_AllG (ev_Good l vc_L vt_L (gw_G b Ls xs z) prog_2_method_3_code 2 none my_B_breakDown.name my_B_breakDown.cls tb_T 3 63) (mk_B_breakDown z) := by
  refine ⟨ok_iconst (z := 0) (by decide +kernel) (by decide +kernel), ?_⟩
  refine ⟨ok_istore_n (z := 1) (by decide) (by decide +kernel) rfl, ?_⟩
  refine ⟨ok_iload_n (z := 1) (by decide +kernel) rfl, ?_⟩
  refine ⟨ok_iconst (z := 3) (by decide +kernel) (by decide +kernel), ?_⟩
  refine ⟨ok_icmpge (off := 37) (by decide +kernel) (by decide), ?_⟩
  refine ⟨ok_aload_n (z := 0) (by decide +kernel) rfl, ?_⟩
  refine ⟨ok_getf (ix := 11) hc_5 (by decide) hi_5 tw_206 (Or.inl rfl) (by decide +kernel), ?_⟩
  refine ⟨ok_iload_n (z := 1) (by decide +kernel) rfl, ?_⟩
  refine ⟨ok_aaldR (by decide +kernel), ?_⟩
  refine ⟨ok_iconst (z := 0) (by decide +kernel) (by decide +kernel), ?_⟩
  refine ⟨ok_putf (ix := 40) hc_6 (by decide) hi_6 ht_6 hn_6 tw_146 (Or.inl rfl) rfl (by decide +kernel) (by decide +kernel), ?_⟩
  refine ⟨ok_aload_n (z := 0) (by decide +kernel) rfl, ?_⟩
  refine ⟨ok_getf (ix := 34) hc_5 (by decide) hi_5 tw_205 (Or.inl rfl) (by decide +kernel), ?_⟩
  refine ⟨ok_iload_n (z := 1) (by decide +kernel) rfl, ?_⟩
  refine ⟨ok_aaldR (by decide +kernel), ?_⟩
  refine ⟨ok_callV (ix := 44) hc_1 ms_L_close (tb_cwV tw_638 tw_389 tw_390 tw_2 tw_391 (by decide +kernel) (by decide) (by decide)) (by decide +kernel), ?_⟩
  refine ⟨ok_aload_n (z := 0) (by decide +kernel) rfl, ?_⟩
  refine ⟨ok_getf (ix := 19) hc_5 (by decide) hi_5 tw_208 (Or.inl rfl) (by decide +kernel), ?_⟩
  refine ⟨ok_iload_n (z := 1) (by decide +kernel) rfl, ?_⟩
  refine ⟨ok_aaldR (by decide +kernel), ?_⟩
  refine ⟨ok_callV (ix := 49) hc_7 ms_S_outlive (tb_cwV tw_639 tw_640 tw_641 tw_10 tw_642 (by decide +kernel) (by decide) (by decide)) (by decide +kernel), ?_⟩
  refine ⟨ok_iinc (z := 1) (by decide) (by decide +kernel) (by decide +kernel), ?_⟩
  refine ⟨ok_goto (off := (-36)) (by decide +kernel) (by decide), ?_⟩
  refine ⟨ok_vret rfl (by decide +kernel), ?_⟩
  exact trivial
theorem ms_B_breakDown : ev_Met l vc_L vt_L (gw_G b Ls xs z) my_B_breakDown (Cond.code my_B_breakDown prog_2_method_3_code 2 none :: tb_T) 3 63 (mf_B_breakDown z) := ev_sound (by decide +kernel) mg_B_breakDown
def my_H_deliver : MethodName := ⟨"MessageHub", "deliver", "(IZ)I"⟩
def mk_H_deliver_0 (z : Nat × Nat) : ev_C := [(0, ev_fn (ev_iload 1 1)), (1, ev_call (mf_H_isClient z) 1 4), (4, ev_fn (ev_ifeq 23 7)), (7, ev_fn (ev_aload 0 8)), (8, ev_fn (ev_getf 0 0 11)), (11, ev_fn (ev_iload 1 12)), (12, ev_fn (ev_aaldR 13)), (13, ev_fn (ev_iload 2 14)), (14, ev_callR 1 (mf_L_row z) 2 17), (17, ev_callR 2 (mf_A_isEmpty z) 1 20), (20, ev_fn (ev_ifeq 25 23)), (23, ev_fn (ev_ci 0 24)), (24, ev_fn ev_iret), (25, ev_fn (ev_iload 2 26)), (26, ev_fn (ev_ifne 46 29)), (29, ev_fn (ev_aload 0 30)), (30, ev_fn (ev_getf 0 0 33)), (33, ev_fn (ev_iload 1 34)), (34, ev_fn (ev_aaldR 35)), (35, ev_fn (ev_getf 1 2 38)), (38, ev_fn (ev_ci 3 39)), (39, ev_fn (ev_icmpne 46 42)), (42, ev_fn (ev_ci 1 43)), (43, ev_fn (ev_goto 47)), (46, ev_fn (ev_ci 0 47)), (47, ev_fn (ev_istore 3 48)), (48, ev_fn (ev_iload 3 49)), (49, ev_fn (ev_ifne 78 52)), (52, ev_fn (ev_aload 0 53)), (53, ev_fn (ev_getf 0 0 56)), (56, ev_fn (ev_iload 1 57)), (57, ev_fn (ev_aaldR 58)), (58, ev_fn (ev_iload 2 59)), (59, ev_fn (ev_ifne 66 62)), (62, ev_fn (ev_ci 1 63)), (63, ev_fn (ev_goto 67)), (66, ev_fn (ev_ci 0 67)), (67, ev_callR 1 (mf_L_row z) 2 70), (70, ev_callR 2 (mf_A_size z) 1 73), (73, ev_fn (ev_ci 12 75)), (75, ev_fn (ev_icmplt 80 78)), (78, ev_fn (ev_ci (-1) 79)), (79, ev_fn ev_iret), (80, ev_fn (ev_aload 0 81)), (81, ev_fn (ev_getf 0 0 84)), (84, ev_fn (ev_iload 1 85)), (85, ev_fn (ev_aaldR 86)), (86, ev_fn (ev_iload 2 87)), (87, ev_callR 1 (mf_L_row z) 2 90), (90, ev_fn (ev_ci 0 91)), (91, ev_callR 2 (mf_A_remove z) 2 94), (94, ev_fn (ev_castS 8 97)), (97, ev_fn (ev_astore 4 99)), (99, ev_fn (ev_iload 2 100)), (100, ev_fn (ev_ifne 120 103)), (103, ev_fn (ev_aload 0 104)), (104, ev_fn (ev_getf 0 1 107)), (107, ev_fn (ev_iload 1 108)), (108, ev_fn (ev_aaldR 109)), (109, ev_fn (ev_aload 4 111))]
def mk_H_deliver_1 (z : Nat × Nat) : ev_C := [(111, ev_callR 3 (mf_C_receive z) 2 114), (114, ev_fn (ev_aload 4 116)), (116, ev_fn (ev_getf 8 0 119)), (119, ev_fn ev_iret), (120, ev_fn (ev_aload 0 121)), (121, ev_fn (ev_getf 0 2 124)), (124, ev_callR 5 (mf_B_takeFailure z) 1 127), (127, ev_fn (ev_istore 5 129)), (129, ev_fn (ev_iload 5 131)), (131, ev_fn (ev_ci 1 132)), (132, ev_fn (ev_icmpeq 145 135)), (135, ev_fn (ev_aload 0 136)), (136, ev_fn (ev_getf 0 2 139)), (139, ev_fn (ev_iload 1 140)), (140, ev_fn (ev_aload 4 142)), (142, ev_callR 5 (mf_B_receive z) 3 145), (145, ev_fn (ev_iload 5 147)), (147, ev_fn (ev_ifeq 157 150)), (150, ev_fn (ev_aload 0 151)), (151, ev_fn (ev_getf 0 2 154)), (154, ev_callR 5 (mf_B_breakDown z) 1 157), (157, ev_fn (ev_aload 4 159)), (159, ev_fn (ev_getf 8 0 162)), (162, ev_fn ev_iret)]
def mk_H_deliver (z : Nat × Nat) : ev_C := mk_H_deliver_0 z ++ (mk_H_deliver_1 z)
def mf_H_deliver (z : Nat × Nat) : ev_F := ev_met (mk_H_deliver z) 6
set_option maxHeartbeats 4000000 in
set_option maxRecDepth 100000 in
theorem mg_H_deliver_0 : ev_AllG (ev_Good l vc_L vt_L (gw_G b Ls xs z) prog_1_method_10_code 6 (some .int) my_H_deliver.name my_H_deliver.cls tb_T 12 296) (mk_H_deliver_0 z) := by
  refine ⟨ok_iload_n (z := 1) (by decide +kernel) rfl, ?_⟩
  refine ⟨ok_callS (ix := 40) ms_H_isClient (tb_cwS tw_247 tw_248 tw_1 tw_249 (by decide +kernel) (by decide) (by decide)) (by decide +kernel), ?_⟩
  refine ⟨ok_ifeq (off := 19) (by decide +kernel) (by decide), ?_⟩
  refine ⟨ok_aload_n (z := 0) (by decide +kernel) rfl, ?_⟩
  refine ⟨ok_getf (ix := 11) hc_0 (by decide) hi_0 tw_224 (Or.inl rfl) (by decide +kernel), ?_⟩
  refine ⟨ok_iload_n (z := 1) (by decide +kernel) rfl, ?_⟩
  refine ⟨ok_aaldR (by decide +kernel), ?_⟩
  refine ⟨ok_iload_n (z := 2) (by decide +kernel) rfl, ?_⟩
  refine ⟨ok_callV (ix := 108) hc_1 ms_L_row (tb_cwV tw_535 tw_536 tw_537 tw_2 tw_538 (by decide +kernel) (by decide) (by decide)) (by decide +kernel), ?_⟩
  refine ⟨ok_callV (ix := 112) hc_2 ms_A_isEmpty (tb_cwV tw_539 tw_540 tw_541 tw_5 tw_542 (by decide +kernel) (by decide) (by decide)) (by decide +kernel), ?_⟩
  refine ⟨ok_ifeq (off := 5) (by decide +kernel) (by decide), ?_⟩
  refine ⟨ok_iconst (z := 0) (by decide +kernel) (by decide +kernel), ?_⟩
  refine ⟨ok_iret rfl (by decide +kernel), ?_⟩
  refine ⟨ok_iload_n (z := 2) (by decide +kernel) rfl, ?_⟩
  refine ⟨ok_ifne (off := 20) (by decide +kernel) (by decide), ?_⟩
  refine ⟨ok_aload_n (z := 0) (by decide +kernel) rfl, ?_⟩
  refine ⟨ok_getf (ix := 11) hc_0 (by decide) hi_0 tw_224 (Or.inl rfl) (by decide +kernel), ?_⟩
  refine ⟨ok_iload_n (z := 1) (by decide +kernel) rfl, ?_⟩
  refine ⟨ok_aaldR (by decide +kernel), ?_⟩
  refine ⟨ok_getf (ix := 52) hc_1 (by decide) hi_1 tw_74 (Or.inl rfl) (by decide +kernel), ?_⟩
  refine ⟨ok_iconst (z := 3) (by decide +kernel) (by decide +kernel), ?_⟩
  refine ⟨ok_icmpne (off := 7) (by decide +kernel) (by decide), ?_⟩
  refine ⟨ok_iconst (z := 1) (by decide +kernel) (by decide +kernel), ?_⟩
  refine ⟨ok_goto (off := 4) (by decide +kernel) (by decide), ?_⟩
  refine ⟨ok_iconst (z := 0) (by decide +kernel) (by decide +kernel), ?_⟩
  refine ⟨ok_istore_n (z := 3) (by decide) (by decide +kernel) rfl, ?_⟩
  refine ⟨ok_iload_n (z := 3) (by decide +kernel) rfl, ?_⟩
  refine ⟨ok_ifne (off := 29) (by decide +kernel) (by decide), ?_⟩
  refine ⟨ok_aload_n (z := 0) (by decide +kernel) rfl, ?_⟩
  refine ⟨ok_getf (ix := 11) hc_0 (by decide) hi_0 tw_224 (Or.inl rfl) (by decide +kernel), ?_⟩
  refine ⟨ok_iload_n (z := 1) (by decide +kernel) rfl, ?_⟩
  refine ⟨ok_aaldR (by decide +kernel), ?_⟩
  refine ⟨ok_iload_n (z := 2) (by decide +kernel) rfl, ?_⟩
  refine ⟨ok_ifne (off := 7) (by decide +kernel) (by decide), ?_⟩
  refine ⟨ok_iconst (z := 1) (by decide +kernel) (by decide +kernel), ?_⟩
  refine ⟨ok_goto (off := 4) (by decide +kernel) (by decide), ?_⟩
  refine ⟨ok_iconst (z := 0) (by decide +kernel) (by decide +kernel), ?_⟩
  refine ⟨ok_callV (ix := 108) hc_1 ms_L_row (tb_cwV tw_535 tw_536 tw_537 tw_2 tw_538 (by decide +kernel) (by decide) (by decide)) (by decide +kernel), ?_⟩
  refine ⟨ok_callV (ix := 116) hc_2 ms_A_size (tb_cwV tw_404 tw_405 tw_406 tw_5 tw_407 (by decide +kernel) (by decide) (by decide)) (by decide +kernel), ?_⟩
  refine ⟨ok_bipush (z := 12) (by decide +kernel) (by decide +kernel), ?_⟩
  refine ⟨ok_icmplt (off := 5) (by decide +kernel) (by decide), ?_⟩
  refine ⟨ok_iconst (z := (-1)) (by decide +kernel) (by decide +kernel), ?_⟩
  refine ⟨ok_iret rfl (by decide +kernel), ?_⟩
  refine ⟨ok_aload_n (z := 0) (by decide +kernel) rfl, ?_⟩
  refine ⟨ok_getf (ix := 11) hc_0 (by decide) hi_0 tw_224 (Or.inl rfl) (by decide +kernel), ?_⟩
  refine ⟨ok_iload_n (z := 1) (by decide +kernel) rfl, ?_⟩
  refine ⟨ok_aaldR (by decide +kernel), ?_⟩
  refine ⟨ok_iload_n (z := 2) (by decide +kernel) rfl, ?_⟩
  refine ⟨ok_callV (ix := 108) hc_1 ms_L_row (tb_cwV tw_535 tw_536 tw_537 tw_2 tw_538 (by decide +kernel) (by decide) (by decide)) (by decide +kernel), ?_⟩
  refine ⟨ok_iconst (z := 0) (by decide +kernel) (by decide +kernel), ?_⟩
  refine ⟨ok_callV (ix := 120) hc_2 ms_A_remove (tb_cwV tw_543 tw_544 tw_545 tw_5 tw_546 (by decide +kernel) (by decide) (by decide)) (by decide +kernel), ?_⟩
  refine ⟨ok_castS (ix := 74) hc_8 tw_408 (by decide +kernel), ?_⟩
  refine ⟨ok_astore (by decide) (by decide +kernel), ?_⟩
  refine ⟨ok_iload_n (z := 2) (by decide +kernel) rfl, ?_⟩
  refine ⟨ok_ifne (off := 20) (by decide +kernel) (by decide), ?_⟩
  refine ⟨ok_aload_n (z := 0) (by decide +kernel) rfl, ?_⟩
  refine ⟨ok_getf (ix := 17) hc_0 (by decide) hi_0 tw_225 (Or.inl rfl) (by decide +kernel), ?_⟩
  refine ⟨ok_iload_n (z := 1) (by decide +kernel) rfl, ?_⟩
  refine ⟨ok_aaldR (by decide +kernel), ?_⟩
  refine ⟨ok_aload (by decide +kernel), ?_⟩
  exact trivial
set_option maxHeartbeats 4000000 in
set_option maxRecDepth 100000 in
theorem mg_H_deliver_1 : ev_AllG (ev_Good l vc_L vt_L (gw_G b Ls xs z) prog_1_method_10_code 6 (some .int) my_H_deliver.name my_H_deliver.cls tb_T 12 296) (mk_H_deliver_1 z) := by
  refine ⟨ok_callV (ix := 124) hc_3 ms_C_receive (tb_cwV tw_552 tw_553 tw_554 tw_6 tw_555 (by decide +kernel) (by decide) (by decide)) (by decide +kernel), ?_⟩
  refine ⟨ok_aload (by decide +kernel), ?_⟩
  refine ⟨ok_getf (ix := 128) hc_8 (by decide) hi_8 tw_281 (Or.inl rfl) (by decide +kernel), ?_⟩
  refine ⟨ok_iret rfl (by decide +kernel), ?_⟩
  refine ⟨ok_aload_n (z := 0) (by decide +kernel) rfl, ?_⟩
  refine ⟨ok_getf (ix := 30) hc_0 (by decide) hi_0 tw_226 (Or.inl rfl) (by decide +kernel), ?_⟩
  refine ⟨ok_callV (ix := 131) hc_5 ms_B_takeFailure (tb_cwV tw_622 tw_623 tw_624 tw_8 tw_625 (by decide +kernel) (by decide) (by decide)) (by decide +kernel), ?_⟩
  refine ⟨ok_istore (by decide) (by decide +kernel), ?_⟩
  refine ⟨ok_iload (by decide +kernel), ?_⟩
  refine ⟨ok_iconst (z := 1) (by decide +kernel) (by decide +kernel), ?_⟩
  refine ⟨ok_icmpeq (off := 13) (by decide +kernel) (by decide), ?_⟩
  refine ⟨ok_aload_n (z := 0) (by decide +kernel) rfl, ?_⟩
  refine ⟨ok_getf (ix := 30) hc_0 (by decide) hi_0 tw_226 (Or.inl rfl) (by decide +kernel), ?_⟩
  refine ⟨ok_iload_n (z := 1) (by decide +kernel) rfl, ?_⟩
  refine ⟨ok_aload (by decide +kernel), ?_⟩
  refine ⟨ok_callV (ix := 134) hc_5 ms_B_receive (tb_cwV tw_626 tw_627 tw_628 tw_8 tw_629 (by decide +kernel) (by decide) (by decide)) (by decide +kernel), ?_⟩
  refine ⟨ok_iload (by decide +kernel), ?_⟩
  refine ⟨ok_ifeq (off := 10) (by decide +kernel) (by decide), ?_⟩
  refine ⟨ok_aload_n (z := 0) (by decide +kernel) rfl, ?_⟩
  refine ⟨ok_getf (ix := 30) hc_0 (by decide) hi_0 tw_226 (Or.inl rfl) (by decide +kernel), ?_⟩
  refine ⟨ok_callV (ix := 137) hc_5 ms_B_breakDown (tb_cwV tw_798 tw_799 tw_800 tw_8 tw_801 (by decide +kernel) (by decide) (by decide)) (by decide +kernel), ?_⟩
  refine ⟨ok_aload (by decide +kernel), ?_⟩
  refine ⟨ok_getf (ix := 128) hc_8 (by decide) hi_8 tw_281 (Or.inl rfl) (by decide +kernel), ?_⟩
  refine ⟨ok_iret rfl (by decide +kernel), ?_⟩
  exact trivial
theorem mg_H_deliver : ev_AllG (ev_Good l vc_L vt_L (gw_G b Ls xs z) prog_1_method_10_code 6 (some .int) my_H_deliver.name my_H_deliver.cls tb_T 12 296) (mk_H_deliver z) := ev_AllG.app mg_H_deliver_0 (mg_H_deliver_1)
theorem ms_H_deliver : ev_Met l vc_L vt_L (gw_G b Ls xs z) my_H_deliver (Cond.code my_H_deliver prog_1_method_10_code 6 (some .int) :: tb_T) 12 296 (mf_H_deliver z) := ev_sound (by decide +kernel) mg_H_deliver
def my_N_growSilent : MethodName := ⟨"MessageHub$Connection", "growSilent", "()Z"⟩
def mk_N_growSilent (z : Nat × Nat) : ev_C := [(0, ev_fn (ev_aload 0 1)), (1, ev_fn (ev_getf 6 3 4)), (4, ev_fn (ev_ifne 9 7)), (7, ev_fn (ev_ci 0 8)), (8, ev_fn (ev_zret .boolean)), (9, ev_fn (ev_aload 0 10)), (10, ev_fn (ev_dup 11)), (11, ev_fn (ev_getf 6 2 14)), (14, ev_fn (ev_ci 1 15)), (15, ev_fn (ev_iadd 16)), (16, ev_fn (ev_putf 6 2 .int 19)), (19, ev_fn (ev_aload 0 20)), (20, ev_fn (ev_getf 6 2 23)), (23, ev_fn (ev_aload 0 24)), (24, ev_fn (ev_getf 6 3 27)), (27, ev_fn (ev_icmple 34 30)), (30, ev_fn (ev_ci 1 31)), (31, ev_fn (ev_goto 35)), (34, ev_fn (ev_ci 0 35)), (35, ev_fn (ev_zret .boolean))]
def mf_N_growSilent (z : Nat × Nat) : ev_F := ev_met (mk_N_growSilent z) 1
set_option maxHeartbeats 4000000 in
set_option maxRecDepth 100000 in
theorem mg_N_growSilent : ev_AllG (ev_Good l vc_L vt_L (gw_G b Ls xs z) prog_4_method_5_code 1 (some .boolean) my_N_growSilent.name my_N_growSilent.cls tb_T 0 0) (mk_N_growSilent z) := by
  refine ⟨ok_aload_n (z := 0) (by decide +kernel) rfl, ?_⟩
  refine ⟨ok_getf (ix := 26) hc_6 (by decide) hi_6 tw_152 (Or.inl rfl) (by decide +kernel), ?_⟩
  refine ⟨ok_ifne (off := 5) (by decide +kernel) (by decide), ?_⟩
  refine ⟨ok_iconst (z := 0) (by decide +kernel) (by decide +kernel), ?_⟩
  refine ⟨ok_zret rfl (by decide +kernel), ?_⟩
  refine ⟨ok_aload_n (z := 0) (by decide +kernel) rfl, ?_⟩
  refine ⟨ok_dup (by decide +kernel), ?_⟩
  refine ⟨ok_getf (ix := 20) hc_6 (by decide) hi_6 tw_150 (Or.inl rfl) (by decide +kernel), ?_⟩
  refine ⟨ok_iconst (z := 1) (by decide +kernel) (by decide +kernel), ?_⟩
  refine ⟨ok_iadd (by decide +kernel), ?_⟩
  refine ⟨ok_putf (ix := 20) hc_6 (by decide) hi_6 ht_6 hn_6 tw_150 (Or.inl rfl) rfl (by decide +kernel) (by decide +kernel), ?_⟩
  refine ⟨ok_aload_n (z := 0) (by decide +kernel) rfl, ?_⟩
  refine ⟨ok_getf (ix := 20) hc_6 (by decide) hi_6 tw_150 (Or.inl rfl) (by decide +kernel), ?_⟩
  refine ⟨ok_aload_n (z := 0) (by decide +kernel) rfl, ?_⟩
  refine ⟨ok_getf (ix := 26) hc_6 (by decide) hi_6 tw_152 (Or.inl rfl) (by decide +kernel), ?_⟩
  refine ⟨ok_icmple (off := 7) (by decide +kernel) (by decide), ?_⟩
  refine ⟨ok_iconst (z := 1) (by decide +kernel) (by decide +kernel), ?_⟩
  refine ⟨ok_goto (off := 4) (by decide +kernel) (by decide), ?_⟩
  refine ⟨ok_iconst (z := 0) (by decide +kernel) (by decide +kernel), ?_⟩
  refine ⟨ok_zret rfl (by decide +kernel), ?_⟩
  exact trivial
theorem ms_N_growSilent : ev_Met l vc_L vt_L (gw_G b Ls xs z) my_N_growSilent (Cond.code my_N_growSilent prog_4_method_5_code 1 (some .boolean) :: tb_T) 0 0 (mf_N_growSilent z) := ev_sound (by decide +kernel) mg_N_growSilent
def my_S_countDown : MethodName := ⟨"MessageHub$Session", "countDown", "()Z"⟩
def mk_S_countDown (z : Nat × Nat) : ev_C := [(0, ev_fn (ev_aload 0 1)), (1, ev_fn (ev_getf 7 4 4)), (4, ev_fn (ev_ifne 9 7)), (7, ev_fn (ev_ci 0 8)), (8, ev_fn (ev_zret .boolean)), (9, ev_fn (ev_aload 0 10)), (10, ev_fn (ev_dup 11)), (11, ev_fn (ev_getf 7 6 14)), (14, ev_fn (ev_ci 1 15)), (15, ev_fn (ev_isub 16)), (16, ev_fn (ev_putf 7 6 .int 19)), (19, ev_fn (ev_aload 0 20)), (20, ev_fn (ev_getf 7 6 23)), (23, ev_fn (ev_ifgt 30 26)), (26, ev_fn (ev_aload 0 27)), (27, ev_callR 7 (mf_S_end z) 1 30), (30, ev_fn (ev_aload 0 31)), (31, ev_fn (ev_getf 7 4 34)), (34, ev_fn (ev_ifne 41 37)), (37, ev_fn (ev_ci 1 38)), (38, ev_fn (ev_goto 42)), (41, ev_fn (ev_ci 0 42)), (42, ev_fn (ev_zret .boolean))]
def mf_S_countDown (z : Nat × Nat) : ev_F := ev_met (mk_S_countDown z) 1
set_option maxHeartbeats 4000000 in
set_option maxRecDepth 100000 in
theorem mg_S_countDown : ev_AllG (ev_Good l vc_L vt_L (gw_G b Ls xs z) prog_10_method_4_code 1 (some .boolean) my_S_countDown.name my_S_countDown.cls tb_T 2 43) (mk_S_countDown z) := by
  refine ⟨ok_aload_n (z := 0) (by decide +kernel) rfl, ?_⟩
  refine ⟨ok_getf (ix := 35) hc_7 (by decide) hi_7 tw_185 (Or.inl rfl) (by decide +kernel), ?_⟩
  refine ⟨ok_ifne (off := 5) (by decide +kernel) (by decide), ?_⟩
  refine ⟨ok_iconst (z := 0) (by decide +kernel) (by decide +kernel), ?_⟩
  refine ⟨ok_zret rfl (by decide +kernel), ?_⟩
  refine ⟨ok_aload_n (z := 0) (by decide +kernel) rfl, ?_⟩
  refine ⟨ok_dup (by decide +kernel), ?_⟩
  refine ⟨ok_getf (ix := 43) hc_7 (by decide) hi_7 tw_189 (Or.inl rfl) (by decide +kernel), ?_⟩
  refine ⟨ok_iconst (z := 1) (by decide +kernel) (by decide +kernel), ?_⟩
  refine ⟨ok_isub (by decide +kernel), ?_⟩
  refine ⟨ok_putf (ix := 43) hc_7 (by decide) hi_7 ht_7 hn_7 tw_189 (Or.inl rfl) rfl (by decide +kernel) (by decide +kernel), ?_⟩
  refine ⟨ok_aload_n (z := 0) (by decide +kernel) rfl, ?_⟩
  refine ⟨ok_getf (ix := 43) hc_7 (by decide) hi_7 tw_189 (Or.inl rfl) (by decide +kernel), ?_⟩
  refine ⟨ok_ifgt (off := 7) (by decide +kernel) (by decide), ?_⟩
  refine ⟨ok_aload_n (z := 0) (by decide +kernel) rfl, ?_⟩
  refine ⟨ok_callV (ix := 46) hc_7 ms_S_end (tb_cwV tw_643 tw_644 tw_645 tw_10 tw_646 (by decide +kernel) (by decide) (by decide)) (by decide +kernel), ?_⟩
  refine ⟨ok_aload_n (z := 0) (by decide +kernel) rfl, ?_⟩
  refine ⟨ok_getf (ix := 35) hc_7 (by decide) hi_7 tw_185 (Or.inl rfl) (by decide +kernel), ?_⟩
  refine ⟨ok_ifne (off := 7) (by decide +kernel) (by decide), ?_⟩
  refine ⟨ok_iconst (z := 1) (by decide +kernel) (by decide +kernel), ?_⟩
  refine ⟨ok_goto (off := 4) (by decide +kernel) (by decide), ?_⟩
  refine ⟨ok_iconst (z := 0) (by decide +kernel) (by decide +kernel), ?_⟩
  refine ⟨ok_zret rfl (by decide +kernel), ?_⟩
  exact trivial
theorem ms_S_countDown : ev_Met l vc_L vt_L (gw_G b Ls xs z) my_S_countDown (Cond.code my_S_countDown prog_10_method_4_code 1 (some .boolean) :: tb_T) 2 43 (mf_S_countDown z) := ev_sound (by decide +kernel) mg_S_countDown
def my_B_passTick : MethodName := ⟨"MessageHub$Broker", "passTick", "()I"⟩
def mk_B_passTick (z : Nat × Nat) : ev_C := [(0, ev_fn (ev_ci 0 1)), (1, ev_fn (ev_istore 1 2)), (2, ev_fn (ev_ci 0 3)), (3, ev_fn (ev_istore 2 4)), (4, ev_fn (ev_iload 2 5)), (5, ev_fn (ev_ci 3 6)), (6, ev_fn (ev_icmpge 71 9)), (9, ev_fn (ev_aload 0 10)), (10, ev_fn (ev_getf 5 1 13)), (13, ev_fn (ev_iload 2 14)), (14, ev_fn (ev_aaldR 15)), (15, ev_fn (ev_getf 6 0 18)), (18, ev_fn (ev_istore 3 19)), (19, ev_fn (ev_iload 3 20)), (20, ev_fn (ev_ifeq 46 23)), (23, ev_fn (ev_aload 0 24)), (24, ev_fn (ev_getf 5 1 27)), (27, ev_fn (ev_iload 2 28)), (28, ev_fn (ev_aaldR 29)), (29, ev_callR 6 (mf_N_growSilent z) 1 32), (32, ev_fn (ev_ifeq 46 35)), (35, ev_fn (ev_aload 0 36)), (36, ev_fn (ev_iload 2 37)), (37, ev_callR 5 (mf_B_closeAbruptly z) 2 40), (40, ev_fn (ev_iinc 1 1 43)), (43, ev_fn (ev_goto 65)), (46, ev_fn (ev_iload 3 47)), (47, ev_fn (ev_ifne 65 50)), (50, ev_fn (ev_aload 0 51)), (51, ev_fn (ev_getf 5 2 54)), (54, ev_fn (ev_iload 2 55)), (55, ev_fn (ev_aaldR 56)), (56, ev_callR 7 (mf_S_countDown z) 1 59), (59, ev_fn (ev_ifeq 65 62)), (62, ev_fn (ev_iinc 1 1 65)), (65, ev_fn (ev_iinc 2 1 68)), (68, ev_fn (ev_goto 4)), (71, ev_fn (ev_iload 1 72)), (72, ev_fn ev_iret)]
def mf_B_passTick (z : Nat × Nat) : ev_F := ev_met (mk_B_passTick z) 4
set_option maxHeartbeats 4000000 in
set_option maxRecDepth 100000 in
theorem mg_B_passTick : ev_AllG (ev_Good l vc_L vt_L (gw_G b Ls xs z) prog_2_method_4_code 4 (some .int) my_B_passTick.name my_B_passTick.cls tb_T 11 268) (mk_B_passTick z) := by
  refine ⟨ok_iconst (z := 0) (by decide +kernel) (by decide +kernel), ?_⟩
  refine ⟨ok_istore_n (z := 1) (by decide) (by decide +kernel) rfl, ?_⟩
  refine ⟨ok_iconst (z := 0) (by decide +kernel) (by decide +kernel), ?_⟩
  refine ⟨ok_istore_n (z := 2) (by decide) (by decide +kernel) rfl, ?_⟩
  refine ⟨ok_iload_n (z := 2) (by decide +kernel) rfl, ?_⟩
  refine ⟨ok_iconst (z := 3) (by decide +kernel) (by decide +kernel), ?_⟩
  refine ⟨ok_icmpge (off := 65) (by decide +kernel) (by decide), ?_⟩
  refine ⟨ok_aload_n (z := 0) (by decide +kernel) rfl, ?_⟩
  refine ⟨ok_getf (ix := 11) hc_5 (by decide) hi_5 tw_206 (Or.inl rfl) (by decide +kernel), ?_⟩
  refine ⟨ok_iload_n (z := 2) (by decide +kernel) rfl, ?_⟩
  refine ⟨ok_aaldR (by decide +kernel), ?_⟩
  refine ⟨ok_getf (ix := 40) hc_6 (by decide) hi_6 tw_146 (Or.inl rfl) (by decide +kernel), ?_⟩
  refine ⟨ok_istore_n (z := 3) (by decide) (by decide +kernel) rfl, ?_⟩
  refine ⟨ok_iload_n (z := 3) (by decide +kernel) rfl, ?_⟩
  refine ⟨ok_ifeq (off := 26) (by decide +kernel) (by decide), ?_⟩
  refine ⟨ok_aload_n (z := 0) (by decide +kernel) rfl, ?_⟩
  refine ⟨ok_getf (ix := 11) hc_5 (by decide) hi_5 tw_206 (Or.inl rfl) (by decide +kernel), ?_⟩
  refine ⟨ok_iload_n (z := 2) (by decide +kernel) rfl, ?_⟩
  refine ⟨ok_aaldR (by decide +kernel), ?_⟩
  refine ⟨ok_callV (ix := 52) hc_6 ms_N_growSilent (tb_cwV tw_810 tw_811 tw_812 tw_9 tw_813 (by decide +kernel) (by decide) (by decide)) (by decide +kernel), ?_⟩
  refine ⟨ok_ifeq (off := 14) (by decide +kernel) (by decide), ?_⟩
  refine ⟨ok_aload_n (z := 0) (by decide +kernel) rfl, ?_⟩
  refine ⟨ok_iload_n (z := 2) (by decide +kernel) rfl, ?_⟩
  refine ⟨ok_callV (ix := 56) hc_5 ms_B_closeAbruptly (tb_cwV tw_630 tw_632 tv_14 tw_8 tw_633 (by decide +kernel) (by decide) (by decide)) (by decide +kernel), ?_⟩
  refine ⟨ok_iinc (z := 1) (by decide) (by decide +kernel) (by decide +kernel), ?_⟩
  refine ⟨ok_goto (off := 22) (by decide +kernel) (by decide), ?_⟩
  refine ⟨ok_iload_n (z := 3) (by decide +kernel) rfl, ?_⟩
  refine ⟨ok_ifne (off := 18) (by decide +kernel) (by decide), ?_⟩
  refine ⟨ok_aload_n (z := 0) (by decide +kernel) rfl, ?_⟩
  refine ⟨ok_getf (ix := 19) hc_5 (by decide) hi_5 tw_208 (Or.inl rfl) (by decide +kernel), ?_⟩
  refine ⟨ok_iload_n (z := 2) (by decide +kernel) rfl, ?_⟩
  refine ⟨ok_aaldR (by decide +kernel), ?_⟩
  refine ⟨ok_callV (ix := 60) hc_7 ms_S_countDown (tb_cwV tw_814 tw_815 tw_816 tw_10 tw_817 (by decide +kernel) (by decide) (by decide)) (by decide +kernel), ?_⟩
  refine ⟨ok_ifeq (off := 6) (by decide +kernel) (by decide), ?_⟩
  refine ⟨ok_iinc (z := 1) (by decide) (by decide +kernel) (by decide +kernel), ?_⟩
  refine ⟨ok_iinc (z := 1) (by decide) (by decide +kernel) (by decide +kernel), ?_⟩
  refine ⟨ok_goto (off := (-64)) (by decide +kernel) (by decide), ?_⟩
  refine ⟨ok_iload_n (z := 1) (by decide +kernel) rfl, ?_⟩
  refine ⟨ok_iret rfl (by decide +kernel), ?_⟩
  exact trivial
theorem ms_B_passTick : ev_Met l vc_L vt_L (gw_G b Ls xs z) my_B_passTick (Cond.code my_B_passTick prog_2_method_4_code 4 (some .int) :: tb_T) 11 268 (mf_B_passTick z) := ev_sound (by decide +kernel) mg_B_passTick
def my_H_tick : MethodName := ⟨"MessageHub", "tick", "()I"⟩
def mk_H_tick (z : Nat × Nat) : ev_C := [(0, ev_fn (ev_aload 0 1)), (1, ev_fn (ev_getf 0 2 4)), (4, ev_callR 5 (mf_B_passTick z) 1 7), (7, ev_fn ev_iret)]
def mf_H_tick (z : Nat × Nat) : ev_F := ev_met (mk_H_tick z) 1
set_option maxHeartbeats 4000000 in
set_option maxRecDepth 100000 in
theorem mg_H_tick : ev_AllG (ev_Good l vc_L vt_L (gw_G b Ls xs z) prog_1_method_11_code 1 (some .int) my_H_tick.name my_H_tick.cls tb_T 12 291) (mk_H_tick z) := by
  refine ⟨ok_aload_n (z := 0) (by decide +kernel) rfl, ?_⟩
  refine ⟨ok_getf (ix := 30) hc_0 (by decide) hi_0 tw_226 (Or.inl rfl) (by decide +kernel), ?_⟩
  refine ⟨ok_callV (ix := 140) hc_5 ms_B_passTick (tb_cwV tw_806 tw_807 tw_808 tw_8 tw_809 (by decide +kernel) (by decide) (by decide)) (by decide +kernel), ?_⟩
  refine ⟨ok_iret rfl (by decide +kernel), ?_⟩
  exact trivial
theorem ms_H_tick : ev_Met l vc_L vt_L (gw_G b Ls xs z) my_H_tick (Cond.code my_H_tick prog_1_method_11_code 1 (some .int) :: tb_T) 12 291 (mf_H_tick z) := ev_sound (by decide +kernel) mg_H_tick
def my_H_crash : MethodName := ⟨"MessageHub", "crash", "()V"⟩
def mk_H_crash (z : Nat × Nat) : ev_C := [(0, ev_fn (ev_aload 0 1)), (1, ev_fn (ev_getf 0 2 4)), (4, ev_callR 5 (mf_B_breakDown z) 1 7), (7, ev_fn ev_vret)]
def mf_H_crash (z : Nat × Nat) : ev_F := ev_met (mk_H_crash z) 1
set_option maxHeartbeats 4000000 in
set_option maxRecDepth 100000 in
theorem mg_H_crash : ev_AllG (ev_Good l vc_L vt_L (gw_G b Ls xs z) prog_1_method_12_code 1 none my_H_crash.name my_H_crash.cls tb_T 4 84) (mk_H_crash z) := by
  refine ⟨ok_aload_n (z := 0) (by decide +kernel) rfl, ?_⟩
  refine ⟨ok_getf (ix := 30) hc_0 (by decide) hi_0 tw_226 (Or.inl rfl) (by decide +kernel), ?_⟩
  refine ⟨ok_callV (ix := 137) hc_5 ms_B_breakDown (tb_cwV tw_798 tw_799 tw_800 tw_8 tw_801 (by decide +kernel) (by decide) (by decide)) (by decide +kernel), ?_⟩
  refine ⟨ok_vret rfl (by decide +kernel), ?_⟩
  exact trivial
theorem ms_H_crash : ev_Met l vc_L vt_L (gw_G b Ls xs z) my_H_crash (Cond.code my_H_crash prog_1_method_12_code 1 none :: tb_T) 4 84 (mf_H_crash z) := ev_sound (by decide +kernel) mg_H_crash
def my_H_fail : MethodName := ⟨"MessageHub", "fail", "(I)Z"⟩
def mk_H_fail (z : Nat × Nat) : ev_C := [(0, ev_fn (ev_iload 1 1)), (1, ev_fn (ev_ci 0 2)), (2, ev_fn (ev_ci 2 3)), (3, ev_call (mf_H_isWithin z) 3 6), (6, ev_fn (ev_ifne 11 9)), (9, ev_fn (ev_ci 0 10)), (10, ev_fn (ev_zret .boolean)), (11, ev_fn (ev_aload 0 12)), (12, ev_fn (ev_getf 0 2 15)), (15, ev_fn (ev_iload 1 16)), (16, ev_fn (ev_putf 5 4 .int 19)), (19, ev_fn (ev_ci 1 20)), (20, ev_fn (ev_zret .boolean))]
def mf_H_fail (z : Nat × Nat) : ev_F := ev_met (mk_H_fail z) 2
set_option maxHeartbeats 4000000 in
set_option maxRecDepth 100000 in
theorem mg_H_fail : ev_AllG (ev_Good l vc_L vt_L (gw_G b Ls xs z) prog_1_method_13_code 2 (some .boolean) my_H_fail.name my_H_fail.cls tb_T 1 22) (mk_H_fail z) := by
  refine ⟨ok_iload_n (z := 1) (by decide +kernel) rfl, ?_⟩
  refine ⟨ok_iconst (z := 0) (by decide +kernel) (by decide +kernel), ?_⟩
  refine ⟨ok_iconst (z := 2) (by decide +kernel) (by decide +kernel), ?_⟩
  refine ⟨ok_callS (ix := 56) ms_H_isWithin (tb_cwS tw_250 tw_245 tw_1 tw_246 (by decide +kernel) (by decide) (by decide)) (by decide +kernel), ?_⟩
  refine ⟨ok_ifne (off := 5) (by decide +kernel) (by decide), ?_⟩
  refine ⟨ok_iconst (z := 0) (by decide +kernel) (by decide +kernel), ?_⟩
  refine ⟨ok_zret rfl (by decide +kernel), ?_⟩
  refine ⟨ok_aload_n (z := 0) (by decide +kernel) rfl, ?_⟩
  refine ⟨ok_getf (ix := 30) hc_0 (by decide) hi_0 tw_226 (Or.inl rfl) (by decide +kernel), ?_⟩
  refine ⟨ok_iload_n (z := 1) (by decide +kernel) rfl, ?_⟩
  refine ⟨ok_putf (ix := 143) hc_5 (by decide) hi_5 ht_5 hn_5 tw_212 (Or.inl rfl) rfl (by decide +kernel) (by decide +kernel), ?_⟩
  refine ⟨ok_iconst (z := 1) (by decide +kernel) (by decide +kernel), ?_⟩
  refine ⟨ok_zret rfl (by decide +kernel), ?_⟩
  exact trivial
theorem ms_H_fail : ev_Met l vc_L vt_L (gw_G b Ls xs z) my_H_fail (Cond.code my_H_fail prog_1_method_13_code 2 (some .boolean) :: tb_T) 1 22 (mf_H_fail z) := ev_sound (by decide +kernel) mg_H_fail
def my_H_state : MethodName := ⟨"MessageHub", "state", "(I)I"⟩
def mk_H_state (z : Nat × Nat) : ev_C := [(0, ev_fn (ev_iload 1 1)), (1, ev_call (mf_H_isClient z) 1 4), (4, ev_fn (ev_ifne 9 7)), (7, ev_fn (ev_ci (-1) 8)), (8, ev_fn ev_iret), (9, ev_fn (ev_aload 0 10)), (10, ev_fn (ev_getf 0 0 13)), (13, ev_fn (ev_iload 1 14)), (14, ev_fn (ev_aaldR 15)), (15, ev_fn (ev_getf 1 2 18)), (18, ev_fn (ev_aload 0 19)), (19, ev_fn (ev_getf 0 2 22)), (22, ev_fn (ev_getf 5 1 25)), (25, ev_fn (ev_iload 1 26)), (26, ev_fn (ev_aaldR 27)), (27, ev_fn (ev_getf 6 0 30)), (30, ev_fn (ev_ifeq 37 33)), (33, ev_fn (ev_ci 4 34)), (34, ev_fn (ev_goto 38)), (37, ev_fn (ev_ci 0 38)), (38, ev_fn (ev_iadd 39)), (39, ev_fn (ev_aload 0 40)), (40, ev_fn (ev_getf 0 0 43)), (43, ev_fn (ev_iload 1 44)), (44, ev_fn (ev_aaldR 45)), (45, ev_fn (ev_getf 1 3 48)), (48, ev_fn (ev_ifeq 56 51)), (51, ev_fn (ev_ci 8 53)), (53, ev_fn (ev_goto 57)), (56, ev_fn (ev_ci 0 57)), (57, ev_fn (ev_iadd 58)), (58, ev_fn ev_iret)]
def mf_H_state (z : Nat × Nat) : ev_F := ev_met (mk_H_state z) 2
set_option maxHeartbeats 4000000 in
set_option maxRecDepth 100000 in
theorem mg_H_state : ev_AllG (ev_Good l vc_L vt_L (gw_G b Ls xs z) prog_1_method_14_code 2 (some .int) my_H_state.name my_H_state.cls tb_T 2 42) (mk_H_state z) := by
  refine ⟨ok_iload_n (z := 1) (by decide +kernel) rfl, ?_⟩
  refine ⟨ok_callS (ix := 40) ms_H_isClient (tb_cwS tw_247 tw_248 tw_1 tw_249 (by decide +kernel) (by decide) (by decide)) (by decide +kernel), ?_⟩
  refine ⟨ok_ifne (off := 5) (by decide +kernel) (by decide), ?_⟩
  refine ⟨ok_iconst (z := (-1)) (by decide +kernel) (by decide +kernel), ?_⟩
  refine ⟨ok_iret rfl (by decide +kernel), ?_⟩
  refine ⟨ok_aload_n (z := 0) (by decide +kernel) rfl, ?_⟩
  refine ⟨ok_getf (ix := 11) hc_0 (by decide) hi_0 tw_224 (Or.inl rfl) (by decide +kernel), ?_⟩
  refine ⟨ok_iload_n (z := 1) (by decide +kernel) rfl, ?_⟩
  refine ⟨ok_aaldR (by decide +kernel), ?_⟩
  refine ⟨ok_getf (ix := 52) hc_1 (by decide) hi_1 tw_74 (Or.inl rfl) (by decide +kernel), ?_⟩
  refine ⟨ok_aload_n (z := 0) (by decide +kernel) rfl, ?_⟩
  refine ⟨ok_getf (ix := 30) hc_0 (by decide) hi_0 tw_226 (Or.inl rfl) (by decide +kernel), ?_⟩
  refine ⟨ok_getf (ix := 146) hc_5 (by decide) hi_5 tw_207 (Or.inl rfl) (by decide +kernel), ?_⟩
  refine ⟨ok_iload_n (z := 1) (by decide +kernel) rfl, ?_⟩
  refine ⟨ok_aaldR (by decide +kernel), ?_⟩
  refine ⟨ok_getf (ix := 150) hc_6 (by decide) hi_6 tw_147 (Or.inl rfl) (by decide +kernel), ?_⟩
  refine ⟨ok_ifeq (off := 7) (by decide +kernel) (by decide), ?_⟩
  refine ⟨ok_iconst (z := 4) (by decide +kernel) (by decide +kernel), ?_⟩
  refine ⟨ok_goto (off := 4) (by decide +kernel) (by decide), ?_⟩
  refine ⟨ok_iconst (z := 0) (by decide +kernel) (by decide +kernel), ?_⟩
  refine ⟨ok_iadd (by decide +kernel), ?_⟩
  refine ⟨ok_aload_n (z := 0) (by decide +kernel) rfl, ?_⟩
  refine ⟨ok_getf (ix := 11) hc_0 (by decide) hi_0 tw_224 (Or.inl rfl) (by decide +kernel), ?_⟩
  refine ⟨ok_iload_n (z := 1) (by decide +kernel) rfl, ?_⟩
  refine ⟨ok_aaldR (by decide +kernel), ?_⟩
  refine ⟨ok_getf (ix := 156) hc_1 (by decide) hi_1 tw_77 (Or.inl rfl) (by decide +kernel), ?_⟩
  refine ⟨ok_ifeq (off := 8) (by decide +kernel) (by decide), ?_⟩
  refine ⟨ok_bipush (z := 8) (by decide +kernel) (by decide +kernel), ?_⟩
  refine ⟨ok_goto (off := 4) (by decide +kernel) (by decide), ?_⟩
  refine ⟨ok_iconst (z := 0) (by decide +kernel) (by decide +kernel), ?_⟩
  refine ⟨ok_iadd (by decide +kernel), ?_⟩
  refine ⟨ok_iret rfl (by decide +kernel), ?_⟩
  exact trivial
theorem ms_H_state : ev_Met l vc_L vt_L (gw_G b Ls xs z) my_H_state (Cond.code my_H_state prog_1_method_14_code 2 (some .int) :: tb_T) 2 42 (mf_H_state z) := ev_sound (by decide +kernel) mg_H_state
def my_JI_bitCount : MethodName := ⟨"java/lang/Integer", "bitCount", "(I)I"⟩
def mk_JI_bitCount (z : Nat × Nat) : ev_C := [(0, ev_fn (ev_iload 0 1)), (1, ev_fn (ev_iload 0 2)), (2, ev_fn (ev_ci 1 3)), (3, ev_fn (ev_iushr 4)), (4, ev_fn (ev_ci 1431655765 7)), (7, ev_fn (ev_iand 8)), (8, ev_fn (ev_isub 9)), (9, ev_fn (ev_istore 0 10)), (10, ev_fn (ev_iload 0 11)), (11, ev_fn (ev_ci 858993459 14)), (14, ev_fn (ev_iand 15)), (15, ev_fn (ev_iload 0 16)), (16, ev_fn (ev_ci 2 17)), (17, ev_fn (ev_iushr 18)), (18, ev_fn (ev_ci 858993459 21)), (21, ev_fn (ev_iand 22)), (22, ev_fn (ev_iadd 23)), (23, ev_fn (ev_istore 0 24)), (24, ev_fn (ev_iload 0 25)), (25, ev_fn (ev_iload 0 26)), (26, ev_fn (ev_ci 4 27)), (27, ev_fn (ev_iushr 28)), (28, ev_fn (ev_iadd 29)), (29, ev_fn (ev_ci 252645135 32)), (32, ev_fn (ev_iand 33)), (33, ev_fn (ev_istore 0 34)), (34, ev_fn (ev_iload 0 35)), (35, ev_fn (ev_iload 0 36)), (36, ev_fn (ev_ci 8 38)), (38, ev_fn (ev_iushr 39)), (39, ev_fn (ev_iadd 40)), (40, ev_fn (ev_istore 0 41)), (41, ev_fn (ev_iload 0 42)), (42, ev_fn (ev_iload 0 43)), (43, ev_fn (ev_ci 16 45)), (45, ev_fn (ev_iushr 46)), (46, ev_fn (ev_iadd 47)), (47, ev_fn (ev_istore 0 48)), (48, ev_fn (ev_iload 0 49)), (49, ev_fn (ev_ci 63 51)), (51, ev_fn (ev_iand 52)), (52, ev_fn ev_iret)]
def mf_JI_bitCount (z : Nat × Nat) : ev_F := ev_met (mk_JI_bitCount z) 1
set_option maxHeartbeats 4000000 in
set_option maxRecDepth 100000 in
theorem mg_JI_bitCount : ev_AllG (ev_Good l vc_L vt_L (gw_G b Ls xs z) prog_17_method_49_code 1 (some .int) my_JI_bitCount.name my_JI_bitCount.cls tb_T 0 0) (mk_JI_bitCount z) := by
  refine ⟨ok_iload_n (z := 0) (by decide +kernel) rfl, ?_⟩
  refine ⟨ok_iload_n (z := 0) (by decide +kernel) rfl, ?_⟩
  refine ⟨ok_iconst (z := 1) (by decide +kernel) (by decide +kernel), ?_⟩
  refine ⟨ok_iushr (by decide +kernel), ?_⟩
  refine ⟨ok_ldcw (ix := 265) tw_845 (by decide +kernel), ?_⟩
  refine ⟨ok_iand (by decide +kernel), ?_⟩
  refine ⟨ok_isub (by decide +kernel), ?_⟩
  refine ⟨ok_istore_n (z := 0) (by decide) (by decide +kernel) rfl, ?_⟩
  refine ⟨ok_iload_n (z := 0) (by decide +kernel) rfl, ?_⟩
  refine ⟨ok_ldcw (ix := 266) tw_846 (by decide +kernel), ?_⟩
  refine ⟨ok_iand (by decide +kernel), ?_⟩
  refine ⟨ok_iload_n (z := 0) (by decide +kernel) rfl, ?_⟩
  refine ⟨ok_iconst (z := 2) (by decide +kernel) (by decide +kernel), ?_⟩
  refine ⟨ok_iushr (by decide +kernel), ?_⟩
  refine ⟨ok_ldcw (ix := 266) tw_846 (by decide +kernel), ?_⟩
  refine ⟨ok_iand (by decide +kernel), ?_⟩
  refine ⟨ok_iadd (by decide +kernel), ?_⟩
  refine ⟨ok_istore_n (z := 0) (by decide) (by decide +kernel) rfl, ?_⟩
  refine ⟨ok_iload_n (z := 0) (by decide +kernel) rfl, ?_⟩
  refine ⟨ok_iload_n (z := 0) (by decide +kernel) rfl, ?_⟩
  refine ⟨ok_iconst (z := 4) (by decide +kernel) (by decide +kernel), ?_⟩
  refine ⟨ok_iushr (by decide +kernel), ?_⟩
  refine ⟨ok_iadd (by decide +kernel), ?_⟩
  refine ⟨ok_ldcw (ix := 267) tw_847 (by decide +kernel), ?_⟩
  refine ⟨ok_iand (by decide +kernel), ?_⟩
  refine ⟨ok_istore_n (z := 0) (by decide) (by decide +kernel) rfl, ?_⟩
  refine ⟨ok_iload_n (z := 0) (by decide +kernel) rfl, ?_⟩
  refine ⟨ok_iload_n (z := 0) (by decide +kernel) rfl, ?_⟩
  refine ⟨ok_bipush (z := 8) (by decide +kernel) (by decide +kernel), ?_⟩
  refine ⟨ok_iushr (by decide +kernel), ?_⟩
  refine ⟨ok_iadd (by decide +kernel), ?_⟩
  refine ⟨ok_istore_n (z := 0) (by decide) (by decide +kernel) rfl, ?_⟩
  refine ⟨ok_iload_n (z := 0) (by decide +kernel) rfl, ?_⟩
  refine ⟨ok_iload_n (z := 0) (by decide +kernel) rfl, ?_⟩
  refine ⟨ok_bipush (z := 16) (by decide +kernel) (by decide +kernel), ?_⟩
  refine ⟨ok_iushr (by decide +kernel), ?_⟩
  refine ⟨ok_iadd (by decide +kernel), ?_⟩
  refine ⟨ok_istore_n (z := 0) (by decide) (by decide +kernel) rfl, ?_⟩
  refine ⟨ok_iload_n (z := 0) (by decide +kernel) rfl, ?_⟩
  refine ⟨ok_bipush (z := 63) (by decide +kernel) (by decide +kernel), ?_⟩
  refine ⟨ok_iand (by decide +kernel), ?_⟩
  refine ⟨ok_iret rfl (by decide +kernel), ?_⟩
  exact trivial
theorem ms_JI_bitCount : ev_Met l vc_L vt_L (gw_G b Ls xs z) my_JI_bitCount (Cond.code my_JI_bitCount prog_17_method_49_code 1 (some .int) :: tb_T) 0 0 (mf_JI_bitCount z) := ev_sound (by decide +kernel) mg_JI_bitCount
def my_I_count : MethodName := ⟨"MessageHub$HeldIds", "count", "()I"⟩
def mk_I_count (z : Nat × Nat) : ev_C := [(0, ev_fn (ev_aload 0 1)), (1, ev_fn (ev_getf 4 0 4)), (4, ev_call (mf_JI_bitCount z) 1 7), (7, ev_fn ev_iret)]
def mf_I_count (z : Nat × Nat) : ev_F := ev_met (mk_I_count z) 1
set_option maxHeartbeats 4000000 in
set_option maxRecDepth 100000 in
theorem mg_I_count : ev_AllG (ev_Good l vc_L vt_L (gw_G b Ls xs z) prog_5_method_6_code 1 (some .int) my_I_count.name my_I_count.cls tb_T 1 20) (mk_I_count z) := by
  refine ⟨ok_aload_n (z := 0) (by decide +kernel) rfl, ?_⟩
  refine ⟨ok_getf (ix := 7) hc_4 (by decide) hi_4 tw_100 (Or.inl rfl) (by decide +kernel), ?_⟩
  refine ⟨ok_callS (ix := 13) ms_JI_bitCount (tb_cwS tw_842 tw_843 tw_23 tw_844 (by decide +kernel) (by decide) (by decide)) (by decide +kernel), ?_⟩
  refine ⟨ok_iret rfl (by decide +kernel), ?_⟩
  exact trivial
theorem ms_I_count : ev_Met l vc_L vt_L (gw_G b Ls xs z) my_I_count (Cond.code my_I_count prog_5_method_6_code 1 (some .int) :: tb_T) 1 20 (mf_I_count z) := ev_sound (by decide +kernel) mg_I_count
def my_S_summary : MethodName := ⟨"MessageHub$Session", "summary", "()I"⟩
def mk_S_summary (z : Nat × Nat) : ev_C := [(0, ev_fn (ev_aload 0 1)), (1, ev_fn (ev_getf 7 4 4)), (4, ev_fn (ev_ifne 9 7)), (7, ev_fn (ev_ci (-1) 8)), (8, ev_fn ev_iret), (9, ev_fn (ev_aload 0 10)), (10, ev_fn (ev_getf 7 0 13)), (13, ev_callR 2 (mf_A_size z) 1 16), (16, ev_fn (ev_ci 8 18)), (18, ev_fn (ev_aload 0 19)), (19, ev_fn (ev_getf 7 1 22)), (22, ev_callR 2 (mf_A_size z) 1 25), (25, ev_fn (ev_imul 26)), (26, ev_fn (ev_iadd 27)), (27, ev_fn (ev_ci 64 29)), (29, ev_fn (ev_aload 0 30)), (30, ev_fn (ev_getf 7 2 33)), (33, ev_callR 2 (mf_A_size z) 1 36), (36, ev_fn (ev_imul 37)), (37, ev_fn (ev_iadd 38)), (38, ev_fn (ev_ci 512 41)), (41, ev_fn (ev_aload 0 42)), (42, ev_fn (ev_getf 7 3 45)), (45, ev_callR 4 (mf_I_count z) 1 48), (48, ev_fn (ev_imul 49)), (49, ev_fn (ev_iadd 50)), (50, ev_fn ev_iret)]
def mf_S_summary (z : Nat × Nat) : ev_F := ev_met (mk_S_summary z) 1
set_option maxHeartbeats 4000000 in
set_option maxRecDepth 100000 in
theorem mg_S_summary : ev_AllG (ev_Good l vc_L vt_L (gw_G b Ls xs z) prog_10_method_9_code 1 (some .int) my_S_summary.name my_S_summary.cls tb_T 2 40) (mk_S_summary z) := by
  refine ⟨ok_aload_n (z := 0) (by decide +kernel) rfl, ?_⟩
  refine ⟨ok_getf (ix := 35) hc_7 (by decide) hi_7 tw_185 (Or.inl rfl) (by decide +kernel), ?_⟩
  refine ⟨ok_ifne (off := 5) (by decide +kernel) (by decide), ?_⟩
  refine ⟨ok_iconst (z := (-1)) (by decide +kernel) (by decide +kernel), ?_⟩
  refine ⟨ok_iret rfl (by decide +kernel), ?_⟩
  refine ⟨ok_aload_n (z := 0) (by decide +kernel) rfl, ?_⟩
  refine ⟨ok_getf (ix := 12) hc_7 (by decide) hi_7 tw_177 (Or.inl rfl) (by decide +kernel), ?_⟩
  refine ⟨ok_callV (ix := 49) hc_2 ms_A_size (tb_cwV tw_667 tw_405 tw_406 tw_5 tw_407 (by decide +kernel) (by decide) (by decide)) (by decide +kernel), ?_⟩
  refine ⟨ok_bipush (z := 8) (by decide +kernel) (by decide +kernel), ?_⟩
  refine ⟨ok_aload_n (z := 0) (by decide +kernel) rfl, ?_⟩
  refine ⟨ok_getf (ix := 18) hc_7 (by decide) hi_7 tw_179 (Or.inl rfl) (by decide +kernel), ?_⟩
  refine ⟨ok_callV (ix := 49) hc_2 ms_A_size (tb_cwV tw_667 tw_405 tw_406 tw_5 tw_407 (by decide +kernel) (by decide) (by decide)) (by decide +kernel), ?_⟩
  refine ⟨ok_imul (by decide +kernel), ?_⟩
  refine ⟨ok_iadd (by decide +kernel), ?_⟩
  refine ⟨ok_bipush (z := 64) (by decide +kernel) (by decide +kernel), ?_⟩
  refine ⟨ok_aload_n (z := 0) (by decide +kernel) rfl, ?_⟩
  refine ⟨ok_getf (ix := 21) hc_7 (by decide) hi_7 tw_181 (Or.inl rfl) (by decide +kernel), ?_⟩
  refine ⟨ok_callV (ix := 49) hc_2 ms_A_size (tb_cwV tw_667 tw_405 tw_406 tw_5 tw_407 (by decide +kernel) (by decide) (by decide)) (by decide +kernel), ?_⟩
  refine ⟨ok_imul (by decide +kernel), ?_⟩
  refine ⟨ok_iadd (by decide +kernel), ?_⟩
  refine ⟨ok_sipush (z := 512) (by decide +kernel) (by decide +kernel), ?_⟩
  refine ⟨ok_aload_n (z := 0) (by decide +kernel) rfl, ?_⟩
  refine ⟨ok_getf (ix := 27) hc_7 (by decide) hi_7 tw_183 (Or.inl rfl) (by decide +kernel), ?_⟩
  refine ⟨ok_callV (ix := 84) hc_4 ms_I_count (tb_cwV tw_838 tw_839 tw_840 tw_7 tw_841 (by decide +kernel) (by decide) (by decide)) (by decide +kernel), ?_⟩
  refine ⟨ok_imul (by decide +kernel), ?_⟩
  refine ⟨ok_iadd (by decide +kernel), ?_⟩
  refine ⟨ok_iret rfl (by decide +kernel), ?_⟩
  exact trivial
theorem ms_S_summary : ev_Met l vc_L vt_L (gw_G b Ls xs z) my_S_summary (Cond.code my_S_summary prog_10_method_9_code 1 (some .int) :: tb_T) 2 40 (mf_S_summary z) := ev_sound (by decide +kernel) mg_S_summary
def my_H_session : MethodName := ⟨"MessageHub", "session", "(I)I"⟩
def mk_H_session (z : Nat × Nat) : ev_C := [(0, ev_fn (ev_iload 1 1)), (1, ev_call (mf_H_isClient z) 1 4), (4, ev_fn (ev_ifeq 22 7)), (7, ev_fn (ev_aload 0 8)), (8, ev_fn (ev_getf 0 2 11)), (11, ev_fn (ev_getf 5 2 14)), (14, ev_fn (ev_iload 1 15)), (15, ev_fn (ev_aaldR 16)), (16, ev_callR 7 (mf_S_summary z) 1 19), (19, ev_fn (ev_goto 23)), (22, ev_fn (ev_ci (-1) 23)), (23, ev_fn ev_iret)]
def mf_H_session (z : Nat × Nat) : ev_F := ev_met (mk_H_session z) 2
set_option maxHeartbeats 4000000 in
set_option maxRecDepth 100000 in
theorem mg_H_session : ev_AllG (ev_Good l vc_L vt_L (gw_G b Ls xs z) prog_1_method_15_code 2 (some .int) my_H_session.name my_H_session.cls tb_T 3 60) (mk_H_session z) := by
  refine ⟨ok_iload_n (z := 1) (by decide +kernel) rfl, ?_⟩
  refine ⟨ok_callS (ix := 40) ms_H_isClient (tb_cwS tw_247 tw_248 tw_1 tw_249 (by decide +kernel) (by decide) (by decide)) (by decide +kernel), ?_⟩
  refine ⟨ok_ifeq (off := 18) (by decide +kernel) (by decide), ?_⟩
  refine ⟨ok_aload_n (z := 0) (by decide +kernel) rfl, ?_⟩
  refine ⟨ok_getf (ix := 30) hc_0 (by decide) hi_0 tw_226 (Or.inl rfl) (by decide +kernel), ?_⟩
  refine ⟨ok_getf (ix := 159) hc_5 (by decide) hi_5 tw_209 (Or.inl rfl) (by decide +kernel), ?_⟩
  refine ⟨ok_iload_n (z := 1) (by decide +kernel) rfl, ?_⟩
  refine ⟨ok_aaldR (by decide +kernel), ?_⟩
  refine ⟨ok_callV (ix := 163) hc_7 ms_S_summary (tb_cwV tw_834 tw_835 tw_836 tw_10 tw_837 (by decide +kernel) (by decide) (by decide)) (by decide +kernel), ?_⟩
  refine ⟨ok_goto (off := 4) (by decide +kernel) (by decide), ?_⟩
  refine ⟨ok_iconst (z := (-1)) (by decide +kernel) (by decide +kernel), ?_⟩
  refine ⟨ok_iret rfl (by decide +kernel), ?_⟩
  exact trivial
theorem ms_H_session : ev_Met l vc_L vt_L (gw_G b Ls xs z) my_H_session (Cond.code my_H_session prog_1_method_15_code 2 (some .int) :: tb_T) 3 60 (mf_H_session z) := ev_sound (by decide +kernel) mg_H_session
def my_H_line : MethodName := ⟨"MessageHub", "line", "(IZ)I"⟩
def mk_H_line (z : Nat × Nat) : ev_C := [(0, ev_fn (ev_iload 1 1)), (1, ev_call (mf_H_isClient z) 1 4), (4, ev_fn (ev_ifeq 23 7)), (7, ev_fn (ev_aload 0 8)), (8, ev_fn (ev_getf 0 0 11)), (11, ev_fn (ev_iload 1 12)), (12, ev_fn (ev_aaldR 13)), (13, ev_fn (ev_iload 2 14)), (14, ev_callR 1 (mf_L_row z) 2 17), (17, ev_callR 2 (mf_A_size z) 1 20), (20, ev_fn (ev_goto 24)), (23, ev_fn (ev_ci 0 24)), (24, ev_fn ev_iret)]
def mf_H_line (z : Nat × Nat) : ev_F := ev_met (mk_H_line z) 3
set_option maxHeartbeats 4000000 in
set_option maxRecDepth 100000 in
theorem mg_H_line : ev_AllG (ev_Good l vc_L vt_L (gw_G b Ls xs z) prog_1_method_16_code 3 (some .int) my_H_line.name my_H_line.cls tb_T 2 42) (mk_H_line z) := by
  refine ⟨ok_iload_n (z := 1) (by decide +kernel) rfl, ?_⟩
  refine ⟨ok_callS (ix := 40) ms_H_isClient (tb_cwS tw_247 tw_248 tw_1 tw_249 (by decide +kernel) (by decide) (by decide)) (by decide +kernel), ?_⟩
  refine ⟨ok_ifeq (off := 19) (by decide +kernel) (by decide), ?_⟩
  refine ⟨ok_aload_n (z := 0) (by decide +kernel) rfl, ?_⟩
  refine ⟨ok_getf (ix := 11) hc_0 (by decide) hi_0 tw_224 (Or.inl rfl) (by decide +kernel), ?_⟩
  refine ⟨ok_iload_n (z := 1) (by decide +kernel) rfl, ?_⟩
  refine ⟨ok_aaldR (by decide +kernel), ?_⟩
  refine ⟨ok_iload_n (z := 2) (by decide +kernel) rfl, ?_⟩
  refine ⟨ok_callV (ix := 108) hc_1 ms_L_row (tb_cwV tw_535 tw_536 tw_537 tw_2 tw_538 (by decide +kernel) (by decide) (by decide)) (by decide +kernel), ?_⟩
  refine ⟨ok_callV (ix := 116) hc_2 ms_A_size (tb_cwV tw_404 tw_405 tw_406 tw_5 tw_407 (by decide +kernel) (by decide) (by decide)) (by decide +kernel), ?_⟩
  refine ⟨ok_goto (off := 4) (by decide +kernel) (by decide), ?_⟩
  refine ⟨ok_iconst (z := 0) (by decide +kernel) (by decide +kernel), ?_⟩
  refine ⟨ok_iret rfl (by decide +kernel), ?_⟩
  exact trivial
theorem ms_H_line : ev_Met l vc_L vt_L (gw_G b Ls xs z) my_H_line (Cond.code my_H_line prog_1_method_16_code 3 (some .int) :: tb_T) 2 42 (mf_H_line z) := ev_sound (by decide +kernel) mg_H_line
end MT
