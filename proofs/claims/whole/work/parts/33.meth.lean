/-! Methods as lists of steps, and that the machine does what they do (written by wip/whole/gen.py). -/
section MT
variable {l : Launch} {b Ls : Nat} {xs : Nat → Int32} {z : Nat × Nat}
def my_C_receivePubrec : MethodName := ⟨"MessageHub$Client", "receivePubrec", "(LMessageHub$Packet;)V"⟩
def mk_C_receivePubrec (z : Nat × Nat) : ev_C := [(0, ev_fn (ev_aload 1 1)), (1, ev_fn (ev_getf 8 2 4)), (4, ev_fn (ev_ci 151 7)), (7, ev_fn (ev_icmpne 26 10)), (10, ev_fn (ev_aload 0 11)), (11, ev_fn (ev_getf 3 1 14)), (14, ev_fn (ev_aload 1 15)), (15, ev_fn (ev_getf 8 1 18)), (18, ev_fn (ev_ci 2 19)), (19, ev_fn (ev_ci 1 20)), (20, ev_call (mf_R_finish z) 4 23), (23, ev_fn (ev_goto 65)), (26, ev_fn (ev_aload 0 27)), (27, ev_fn (ev_getf 3 1 30)), (30, ev_fn (ev_aload 1 31)), (31, ev_fn (ev_getf 8 1 34)), (34, ev_call (mf_R_release z) 2 37), (37, ev_fn (ev_ifeq 65 40)), (40, ev_fn (ev_aload 0 41)), (41, ev_fn (ev_getf 3 0 44)), (44, ev_fn (ev_getf 1 0 47)), (47, ev_fn (ev_newo 8 10 ff_8 50)), (50, ev_fn (ev_dup 51)), (51, ev_fn (ev_ci 6 53)), (53, ev_fn (ev_aload 1 54)), (54, ev_fn (ev_getf 8 1 57)), (57, ev_fn (ev_ci 0 58)), (58, ev_callI (mf_P_init z) 4 61), (61, ev_callR 2 (mf_A_add z) 2 64), (64, ev_fn (ev_pop 65)), (65, ev_fn ev_vret)]
def mf_C_receivePubrec (z : Nat × Nat) : ev_F := ev_met (mk_C_receivePubrec z) 2
set_option maxHeartbeats 4000000 in
set_option maxRecDepth 100000 in
theorem mg_C_receivePubrec : ev_AllG (ev_Good l vc_L vt_L (gw_G b Ls xs z) prog_3_method_13_code 2 none my_C_receivePubrec.name my_C_receivePubrec.cls tb_T 7 176) (mk_C_receivePubrec z) := by
  refine ⟨ok_aload_n (z := 1) (by decide +kernel) rfl, ?_⟩
  refine ⟨ok_getf (ix := 108) hc_8 (by decide) hi_8 tw_286 (Or.inl rfl) (by decide +kernel), ?_⟩
  refine ⟨ok_sipush (z := 151) (by decide +kernel) (by decide +kernel), ?_⟩
  refine ⟨ok_icmpne (off := 19) (by decide +kernel) (by decide), ?_⟩
  refine ⟨ok_aload_n (z := 0) (by decide +kernel) rfl, ?_⟩
  refine ⟨ok_getf (ix := 12) hc_3 (by decide) hi_3 tw_105 (Or.inl rfl) (by decide +kernel), ?_⟩
  refine ⟨ok_aload_n (z := 1) (by decide +kernel) rfl, ?_⟩
  refine ⟨ok_getf (ix := 80) hc_8 (by decide) hi_8 tw_283 (Or.inl rfl) (by decide +kernel), ?_⟩
  refine ⟨ok_iconst (z := 2) (by decide +kernel) (by decide +kernel), ?_⟩
  refine ⟨ok_iconst (z := 1) (by decide +kernel) (by decide +kernel), ?_⟩
  refine ⟨ok_callS (ix := 83) ms_R_finish (tb_cwS tw_611 tw_612 tw_19 tw_613 (by decide +kernel) (by decide) (by decide)) (by decide +kernel), ?_⟩
  refine ⟨ok_goto (off := 42) (by decide +kernel) (by decide), ?_⟩
  refine ⟨ok_aload_n (z := 0) (by decide +kernel) rfl, ?_⟩
  refine ⟨ok_getf (ix := 12) hc_3 (by decide) hi_3 tw_105 (Or.inl rfl) (by decide +kernel), ?_⟩
  refine ⟨ok_aload_n (z := 1) (by decide +kernel) rfl, ?_⟩
  refine ⟨ok_getf (ix := 80) hc_8 (by decide) hi_8 tw_283 (Or.inl rfl) (by decide +kernel), ?_⟩
  refine ⟨ok_callS (ix := 155) ms_R_release (tb_cwS tw_619 tw_620 tw_19 tw_621 (by decide +kernel) (by decide) (by decide)) (by decide +kernel), ?_⟩
  refine ⟨ok_ifeq (off := 28) (by decide +kernel) (by decide), ?_⟩
  refine ⟨ok_aload_n (z := 0) (by decide +kernel) rfl, ?_⟩
  refine ⟨ok_getf (ix := 29) hc_3 (by decide) hi_3 tw_104 (Or.inl rfl) (by decide +kernel), ?_⟩
  refine ⟨ok_getf (ix := 46) hc_1 (by decide) hi_1 tw_68 (Or.inl rfl) (by decide +kernel), ?_⟩
  refine ⟨ok_newo (ix := 50) hc_8 hi_8 ht_8 hf_8 tw_597 tw_273 tw_13 (by decide +kernel), ?_⟩
  refine ⟨ok_dup (by decide +kernel), ?_⟩
  refine ⟨ok_bipush (z := 6) (by decide +kernel) (by decide +kernel), ?_⟩
  refine ⟨ok_aload_n (z := 1) (by decide +kernel) rfl, ?_⟩
  refine ⟨ok_getf (ix := 80) hc_8 (by decide) hi_8 tw_283 (Or.inl rfl) (by decide +kernel), ?_⟩
  refine ⟨ok_iconst (z := 0) (by decide +kernel) (by decide +kernel), ?_⟩
  refine ⟨ok_callI (ix := 148) ms_P_init (tb_cwI tw_598 tw_275 tw_13 tw_276 rfl (by decide +kernel) (by decide) (by decide)) (by decide +kernel), ?_⟩
  refine ⟨ok_callV (ix := 55) hc_2 ms_A_add (tb_cwV tw_324 tw_325 tw_326 tw_5 tw_327 (by decide +kernel) (by decide) (by decide)) (by decide +kernel), ?_⟩
  refine ⟨ok_pop (by decide +kernel), ?_⟩
  refine ⟨ok_vret rfl (by decide +kernel), ?_⟩
  exact trivial
theorem ms_C_receivePubrec : ev_Met l vc_L vt_L (gw_G b Ls xs z) my_C_receivePubrec (Cond.code my_C_receivePubrec prog_3_method_13_code 2 none :: tb_T) 7 176 (mf_C_receivePubrec z) := ev_sound (by decide +kernel) mg_C_receivePubrec
def my_C_receive : MethodName := ⟨"MessageHub$Client", "receive", "(LMessageHub$Packet;)V"⟩
def mk_C_receive (z : Nat × Nat) : ev_C := [(0, ev_fn (ev_aload 1 1)), (1, ev_fn (ev_getf 8 0 4)), (4, ev_fn (ev_tsw 4 116 2 7 #[40, 48, 64, 84, 56, 96])), (44, ev_fn (ev_aload 0 45)), (45, ev_fn (ev_aload 1 46)), (46, ev_callR 3 (mf_C_receiveConnack z) 2 49), (49, ev_fn (ev_goto 120)), (52, ev_fn (ev_aload 0 53)), (53, ev_fn (ev_aload 1 54)), (54, ev_callR 3 (mf_C_receivePublish z) 2 57), (57, ev_fn (ev_goto 120)), (60, ev_fn (ev_aload 0 61)), (61, ev_fn (ev_aload 1 62)), (62, ev_callR 3 (mf_C_receivePubrel z) 2 65), (65, ev_fn (ev_goto 120)), (68, ev_fn (ev_aload 0 69)), (69, ev_fn (ev_getf 3 1 72)), (72, ev_fn (ev_aload 1 73)), (73, ev_fn (ev_getf 8 1 76)), (76, ev_fn (ev_ci 1 77)), (77, ev_fn (ev_ci 1 78)), (78, ev_call (mf_R_finish z) 4 81), (81, ev_fn (ev_aload 0 82)), (82, ev_callR 3 (mf_C_pump z) 1 85), (85, ev_fn (ev_goto 120)), (88, ev_fn (ev_aload 0 89)), (89, ev_fn (ev_aload 1 90)), (90, ev_callR 3 (mf_C_receivePubrec z) 2 93), (93, ev_fn (ev_aload 0 94)), (94, ev_callR 3 (mf_C_pump z) 1 97), (97, ev_fn (ev_goto 120)), (100, ev_fn (ev_aload 0 101)), (101, ev_fn (ev_getf 3 1 104)), (104, ev_fn (ev_aload 1 105)), (105, ev_fn (ev_getf 8 1 108)), (108, ev_fn (ev_ci 2 109)), (109, ev_fn (ev_ci 2 110)), (110, ev_call (mf_R_finish z) 4 113), (113, ev_fn (ev_aload 0 114)), (114, ev_callR 3 (mf_C_pump z) 1 117), (117, ev_fn (ev_goto 120)), (120, ev_fn ev_vret)]
def mf_C_receive (z : Nat × Nat) : ev_F := ev_met (mk_C_receive z) 2
set_option maxHeartbeats 4000000 in
set_option maxRecDepth 100000 in
theorem mg_C_receive : ev_AllG (ev_Good l vc_L vt_L (gw_G b Ls xs z) prog_3_method_5_code 2 none my_C_receive.name my_C_receive.cls tb_T 9 220) (mk_C_receive z) := by
  refine ⟨ok_aload_n (z := 1) (by decide +kernel) rfl, ?_⟩
  refine ⟨ok_getf (ix := 67) hc_8 (by decide) hi_8 tw_279 (Or.inl rfl) (by decide +kernel), ?_⟩
  refine ⟨ok_tsw (len := 40) (by decide +kernel), ?_⟩
  refine ⟨ok_aload_n (z := 0) (by decide +kernel) rfl, ?_⟩
  refine ⟨ok_aload_n (z := 1) (by decide +kernel) rfl, ?_⟩
  refine ⟨ok_callV (ix := 70) hc_3 ms_C_receiveConnack (tb_cwV tw_556 tw_558 tv_7 tw_6 tw_559 (by decide +kernel) (by decide) (by decide)) (by decide +kernel), ?_⟩
  refine ⟨ok_goto (off := 71) (by decide +kernel) (by decide), ?_⟩
  refine ⟨ok_aload_n (z := 0) (by decide +kernel) rfl, ?_⟩
  refine ⟨ok_aload_n (z := 1) (by decide +kernel) rfl, ?_⟩
  refine ⟨ok_callV (ix := 74) hc_3 ms_C_receivePublish (tb_cwV tw_584 tw_586 tv_10 tw_6 tw_587 (by decide +kernel) (by decide) (by decide)) (by decide +kernel), ?_⟩
  refine ⟨ok_goto (off := 63) (by decide +kernel) (by decide), ?_⟩
  refine ⟨ok_aload_n (z := 0) (by decide +kernel) rfl, ?_⟩
  refine ⟨ok_aload_n (z := 1) (by decide +kernel) rfl, ?_⟩
  refine ⟨ok_callV (ix := 77) hc_3 ms_C_receivePubrel (tb_cwV tw_603 tw_605 tv_12 tw_6 tw_606 (by decide +kernel) (by decide) (by decide)) (by decide +kernel), ?_⟩
  refine ⟨ok_goto (off := 55) (by decide +kernel) (by decide), ?_⟩
  refine ⟨ok_aload_n (z := 0) (by decide +kernel) rfl, ?_⟩
  refine ⟨ok_getf (ix := 12) hc_3 (by decide) hi_3 tw_105 (Or.inl rfl) (by decide +kernel), ?_⟩
  refine ⟨ok_aload_n (z := 1) (by decide +kernel) rfl, ?_⟩
  refine ⟨ok_getf (ix := 80) hc_8 (by decide) hi_8 tw_283 (Or.inl rfl) (by decide +kernel), ?_⟩
  refine ⟨ok_iconst (z := 1) (by decide +kernel) (by decide +kernel), ?_⟩
  refine ⟨ok_iconst (z := 1) (by decide +kernel) (by decide +kernel), ?_⟩
  refine ⟨ok_callS (ix := 83) ms_R_finish (tb_cwS tw_611 tw_612 tw_19 tw_613 (by decide +kernel) (by decide) (by decide)) (by decide +kernel), ?_⟩
  refine ⟨ok_aload_n (z := 0) (by decide +kernel) rfl, ?_⟩
  refine ⟨ok_callV (ix := 64) hc_3 ms_C_pump (tb_cwV tw_498 tw_500 tv_5 tw_6 tw_501 (by decide +kernel) (by decide) (by decide)) (by decide +kernel), ?_⟩
  refine ⟨ok_goto (off := 35) (by decide +kernel) (by decide), ?_⟩
  refine ⟨ok_aload_n (z := 0) (by decide +kernel) rfl, ?_⟩
  refine ⟨ok_aload_n (z := 1) (by decide +kernel) rfl, ?_⟩
  refine ⟨ok_callV (ix := 87) hc_3 ms_C_receivePubrec (tb_cwV tw_615 tw_617 tv_13 tw_6 tw_618 (by decide +kernel) (by decide) (by decide)) (by decide +kernel), ?_⟩
  refine ⟨ok_aload_n (z := 0) (by decide +kernel) rfl, ?_⟩
  refine ⟨ok_callV (ix := 64) hc_3 ms_C_pump (tb_cwV tw_498 tw_500 tv_5 tw_6 tw_501 (by decide +kernel) (by decide) (by decide)) (by decide +kernel), ?_⟩
  refine ⟨ok_goto (off := 23) (by decide +kernel) (by decide), ?_⟩
  refine ⟨ok_aload_n (z := 0) (by decide +kernel) rfl, ?_⟩
  refine ⟨ok_getf (ix := 12) hc_3 (by decide) hi_3 tw_105 (Or.inl rfl) (by decide +kernel), ?_⟩
  refine ⟨ok_aload_n (z := 1) (by decide +kernel) rfl, ?_⟩
  refine ⟨ok_getf (ix := 80) hc_8 (by decide) hi_8 tw_283 (Or.inl rfl) (by decide +kernel), ?_⟩
  refine ⟨ok_iconst (z := 2) (by decide +kernel) (by decide +kernel), ?_⟩
  refine ⟨ok_iconst (z := 2) (by decide +kernel) (by decide +kernel), ?_⟩
  refine ⟨ok_callS (ix := 83) ms_R_finish (tb_cwS tw_611 tw_612 tw_19 tw_613 (by decide +kernel) (by decide) (by decide)) (by decide +kernel), ?_⟩
  refine ⟨ok_aload_n (z := 0) (by decide +kernel) rfl, ?_⟩
  refine ⟨ok_callV (ix := 64) hc_3 ms_C_pump (tb_cwV tw_498 tw_500 tv_5 tw_6 tw_501 (by decide +kernel) (by decide) (by decide)) (by decide +kernel), ?_⟩
  refine ⟨ok_goto (off := 3) (by decide +kernel) (by decide), ?_⟩
  refine ⟨ok_vret rfl (by decide +kernel), ?_⟩
  exact trivial
theorem ms_C_receive : ev_Met l vc_L vt_L (gw_G b Ls xs z) my_C_receive (Cond.code my_C_receive prog_3_method_5_code 2 none :: tb_T) 9 220 (mf_C_receive z) := ev_sound (by decide +kernel) mg_C_receive
def my_B_takeFailure : MethodName := ⟨"MessageHub$Broker", "takeFailure", "()I"⟩
def mk_B_takeFailure (z : Nat × Nat) : ev_C := [(0, ev_fn (ev_aload 0 1)), (1, ev_fn (ev_getf 5 4 4)), (4, ev_fn (ev_istore 1 5)), (5, ev_fn (ev_aload 0 6)), (6, ev_fn (ev_ci 0 7)), (7, ev_fn (ev_putf 5 4 .int 10)), (10, ev_fn (ev_iload 1 11)), (11, ev_fn ev_iret)]
def mf_B_takeFailure (z : Nat × Nat) : ev_F := ev_met (mk_B_takeFailure z) 2
set_option maxHeartbeats 4000000 in
set_option maxRecDepth 100000 in
theorem mg_B_takeFailure : ev_AllG (ev_Good l vc_L vt_L (gw_G b Ls xs z) prog_2_method_2_code 2 (some .int) my_B_takeFailure.name my_B_takeFailure.cls tb_T 0 0) (mk_B_takeFailure z) := by
  refine ⟨ok_aload_n (z := 0) (by decide +kernel) rfl, ?_⟩
  refine ⟨ok_getf (ix := 30) hc_5 (by decide) hi_5 tw_211 (Or.inl rfl) (by decide +kernel), ?_⟩
  refine ⟨ok_istore_n (z := 1) (by decide) (by decide +kernel) rfl, ?_⟩
  refine ⟨ok_aload_n (z := 0) (by decide +kernel) rfl, ?_⟩
  refine ⟨ok_iconst (z := 0) (by decide +kernel) (by decide +kernel), ?_⟩
  refine ⟨ok_putf (ix := 30) hc_5 (by decide) hi_5 ht_5 hn_5 tw_211 (Or.inl rfl) rfl (by decide +kernel) (by decide +kernel), ?_⟩
  refine ⟨ok_iload_n (z := 1) (by decide +kernel) rfl, ?_⟩
  refine ⟨ok_iret rfl (by decide +kernel), ?_⟩
  exact trivial
theorem ms_B_takeFailure : ev_Met l vc_L vt_L (gw_G b Ls xs z) my_B_takeFailure (Cond.code my_B_takeFailure prog_2_method_2_code 2 (some .int) :: tb_T) 0 0 (mf_B_takeFailure z) := ev_sound (by decide +kernel) mg_B_takeFailure
def my_S_end : MethodName := ⟨"MessageHub$Session", "end", "()V"⟩
def mk_S_end (z : Nat × Nat) : ev_C := [(0, ev_fn (ev_aload 0 1)), (1, ev_fn (ev_getf 7 0 4)), (4, ev_callR 2 (mf_A_clear z) 1 7), (7, ev_fn (ev_aload 0 8)), (8, ev_fn (ev_getf 7 1 11)), (11, ev_callR 2 (mf_A_clear z) 1 14), (14, ev_fn (ev_aload 0 15)), (15, ev_fn (ev_getf 7 2 18)), (18, ev_callR 2 (mf_A_clear z) 1 21), (21, ev_fn (ev_aload 0 22)), (22, ev_fn (ev_getf 7 3 25)), (25, ev_callR 4 (mf_I_clear z) 1 28), (28, ev_fn (ev_aload 0 29)), (29, ev_fn (ev_ci 0 30)), (30, ev_fn (ev_putf 7 4 .boolean 33)), (33, ev_fn ev_vret)]
def mf_S_end (z : Nat × Nat) : ev_F := ev_met (mk_S_end z) 1
set_option maxHeartbeats 4000000 in
set_option maxRecDepth 100000 in
theorem mg_S_end : ev_AllG (ev_Good l vc_L vt_L (gw_G b Ls xs z) prog_10_method_2_code 1 none my_S_end.name my_S_end.cls tb_T 1 23) (mk_S_end z) := by
  refine ⟨ok_aload_n (z := 0) (by decide +kernel) rfl, ?_⟩
  refine ⟨ok_getf (ix := 12) hc_7 (by decide) hi_7 tw_177 (Or.inl rfl) (by decide +kernel), ?_⟩
  refine ⟨ok_callV (ix := 31) hc_2 ms_A_clear (tb_cwV tw_647 tw_393 tw_394 tw_5 tw_395 (by decide +kernel) (by decide) (by decide)) (by decide +kernel), ?_⟩
  refine ⟨ok_aload_n (z := 0) (by decide +kernel) rfl, ?_⟩
  refine ⟨ok_getf (ix := 18) hc_7 (by decide) hi_7 tw_179 (Or.inl rfl) (by decide +kernel), ?_⟩
  refine ⟨ok_callV (ix := 31) hc_2 ms_A_clear (tb_cwV tw_647 tw_393 tw_394 tw_5 tw_395 (by decide +kernel) (by decide) (by decide)) (by decide +kernel), ?_⟩
  refine ⟨ok_aload_n (z := 0) (by decide +kernel) rfl, ?_⟩
  refine ⟨ok_getf (ix := 21) hc_7 (by decide) hi_7 tw_181 (Or.inl rfl) (by decide +kernel), ?_⟩
  refine ⟨ok_callV (ix := 31) hc_2 ms_A_clear (tb_cwV tw_647 tw_393 tw_394 tw_5 tw_395 (by decide +kernel) (by decide) (by decide)) (by decide +kernel), ?_⟩
  refine ⟨ok_aload_n (z := 0) (by decide +kernel) rfl, ?_⟩
  refine ⟨ok_getf (ix := 27) hc_7 (by decide) hi_7 tw_183 (Or.inl rfl) (by decide +kernel), ?_⟩
  refine ⟨ok_callV (ix := 34) hc_4 ms_I_clear (tb_cwV tw_648 tw_561 tw_562 tw_7 tw_563 (by decide +kernel) (by decide) (by decide)) (by decide +kernel), ?_⟩
  refine ⟨ok_aload_n (z := 0) (by decide +kernel) rfl, ?_⟩
  refine ⟨ok_iconst (z := 0) (by decide +kernel) (by decide +kernel), ?_⟩
  refine ⟨ok_putf (ix := 35) hc_7 (by decide) hi_7 ht_7 hn_7 tw_185 (Or.inl rfl) rfl (by decide +kernel) (by decide +kernel), ?_⟩
  refine ⟨ok_vret rfl (by decide +kernel), ?_⟩
  exact trivial
theorem ms_S_end : ev_Met l vc_L vt_L (gw_G b Ls xs z) my_S_end (Cond.code my_S_end prog_10_method_2_code 1 none :: tb_T) 1 23 (mf_S_end z) := ev_sound (by decide +kernel) mg_S_end
def my_S_outlive : MethodName := ⟨"MessageHub$Session", "outlive", "()V"⟩
def mk_S_outlive (z : Nat × Nat) : ev_C := [(0, ev_fn (ev_aload 0 1)), (1, ev_fn (ev_aload 0 2)), (2, ev_fn (ev_getf 7 5 5)), (5, ev_fn (ev_putf 7 6 .int 8)), (8, ev_fn (ev_aload 0 9)), (9, ev_fn (ev_getf 7 5 12)), (12, ev_fn (ev_ifne 19 15)), (15, ev_fn (ev_aload 0 16)), (16, ev_callR 7 (mf_S_end z) 1 19), (19, ev_fn ev_vret)]
def mf_S_outlive (z : Nat × Nat) : ev_F := ev_met (mk_S_outlive z) 1
set_option maxHeartbeats 4000000 in
set_option maxRecDepth 100000 in
theorem mg_S_outlive : ev_AllG (ev_Good l vc_L vt_L (gw_G b Ls xs z) prog_10_method_3_code 1 none my_S_outlive.name my_S_outlive.cls tb_T 2 43) (mk_S_outlive z) := by
  refine ⟨ok_aload_n (z := 0) (by decide +kernel) rfl, ?_⟩
  refine ⟨ok_aload_n (z := 0) (by decide +kernel) rfl, ?_⟩
  refine ⟨ok_getf (ix := 39) hc_7 (by decide) hi_7 tw_187 (Or.inl rfl) (by decide +kernel), ?_⟩
  refine ⟨ok_putf (ix := 43) hc_7 (by decide) hi_7 ht_7 hn_7 tw_189 (Or.inl rfl) rfl (by decide +kernel) (by decide +kernel), ?_⟩
  refine ⟨ok_aload_n (z := 0) (by decide +kernel) rfl, ?_⟩
  refine ⟨ok_getf (ix := 39) hc_7 (by decide) hi_7 tw_187 (Or.inl rfl) (by decide +kernel), ?_⟩
  refine ⟨ok_ifne (off := 7) (by decide +kernel) (by decide), ?_⟩
  refine ⟨ok_aload_n (z := 0) (by decide +kernel) rfl, ?_⟩
  refine ⟨ok_callV (ix := 46) hc_7 ms_S_end (tb_cwV tw_643 tw_644 tw_645 tw_10 tw_646 (by decide +kernel) (by decide) (by decide)) (by decide +kernel), ?_⟩
  refine ⟨ok_vret rfl (by decide +kernel), ?_⟩
  exact trivial
theorem ms_S_outlive : ev_Met l vc_L vt_L (gw_G b Ls xs z) my_S_outlive (Cond.code my_S_outlive prog_10_method_3_code 1 none :: tb_T) 2 43 (mf_S_outlive z) := ev_sound (by decide +kernel) mg_S_outlive
def my_B_closeNormally : MethodName := ⟨"MessageHub$Broker", "closeNormally", "(I)V"⟩
def mk_B_closeNormally (z : Nat × Nat) : ev_C := [(0, ev_fn (ev_aload 0 1)), (1, ev_fn (ev_getf 5 1 4)), (4, ev_fn (ev_iload 1 5)), (5, ev_fn (ev_aaldR 6)), (6, ev_fn (ev_ci 0 7)), (7, ev_fn (ev_putf 6 0 .boolean 10)), (10, ev_fn (ev_aload 0 11)), (11, ev_fn (ev_getf 5 0 14)), (14, ev_fn (ev_iload 1 15)), (15, ev_fn (ev_aaldR 16)), (16, ev_fn (ev_getf 1 3 19)), (19, ev_fn (ev_ifeq 31 22)), (22, ev_fn (ev_aload 0 23)), (23, ev_fn (ev_getf 5 0 26)), (26, ev_fn (ev_iload 1 27)), (27, ev_fn (ev_aaldR 28)), (28, ev_callR 1 (mf_L_close z) 1 31), (31, ev_fn (ev_aload 0 32)), (32, ev_fn (ev_getf 5 2 35)), (35, ev_fn (ev_iload 1 36)), (36, ev_fn (ev_aaldR 37)), (37, ev_callR 7 (mf_S_outlive z) 1 40), (40, ev_fn ev_vret)]
def mf_B_closeNormally (z : Nat × Nat) : ev_F := ev_met (mk_B_closeNormally z) 2
set_option maxHeartbeats 4000000 in
set_option maxRecDepth 100000 in
theorem mg_B_closeNormally : ev_AllG (ev_Good l vc_L vt_L (gw_G b Ls xs z) prog_2_method_14_code 2 none my_B_closeNormally.name my_B_closeNormally.cls tb_T 3 63) (mk_B_closeNormally z) := by
  refine ⟨ok_aload_n (z := 0) (by decide +kernel) rfl, ?_⟩
  refine ⟨ok_getf (ix := 11) hc_5 (by decide) hi_5 tw_206 (Or.inl rfl) (by decide +kernel), ?_⟩
  refine ⟨ok_iload_n (z := 1) (by decide +kernel) rfl, ?_⟩
  refine ⟨ok_aaldR (by decide +kernel), ?_⟩
  refine ⟨ok_iconst (z := 0) (by decide +kernel) (by decide +kernel), ?_⟩
  refine ⟨ok_putf (ix := 40) hc_6 (by decide) hi_6 ht_6 hn_6 tw_146 (Or.inl rfl) rfl (by decide +kernel) (by decide +kernel), ?_⟩
  refine ⟨ok_aload_n (z := 0) (by decide +kernel) rfl, ?_⟩
  refine ⟨ok_getf (ix := 34) hc_5 (by decide) hi_5 tw_205 (Or.inl rfl) (by decide +kernel), ?_⟩
  refine ⟨ok_iload_n (z := 1) (by decide +kernel) rfl, ?_⟩
  refine ⟨ok_aaldR (by decide +kernel), ?_⟩
  refine ⟨ok_getf (ix := 134) hc_1 (by decide) hi_1 tw_76 (Or.inl rfl) (by decide +kernel), ?_⟩
  refine ⟨ok_ifeq (off := 12) (by decide +kernel) (by decide), ?_⟩
  refine ⟨ok_aload_n (z := 0) (by decide +kernel) rfl, ?_⟩
  refine ⟨ok_getf (ix := 34) hc_5 (by decide) hi_5 tw_205 (Or.inl rfl) (by decide +kernel), ?_⟩
  refine ⟨ok_iload_n (z := 1) (by decide +kernel) rfl, ?_⟩
  refine ⟨ok_aaldR (by decide +kernel), ?_⟩
  refine ⟨ok_callV (ix := 44) hc_1 ms_L_close (tb_cwV tw_638 tw_389 tw_390 tw_2 tw_391 (by decide +kernel) (by decide) (by decide)) (by decide +kernel), ?_⟩
  refine ⟨ok_aload_n (z := 0) (by decide +kernel) rfl, ?_⟩
  refine ⟨ok_getf (ix := 19) hc_5 (by decide) hi_5 tw_208 (Or.inl rfl) (by decide +kernel), ?_⟩
  refine ⟨ok_iload_n (z := 1) (by decide +kernel) rfl, ?_⟩
  refine ⟨ok_aaldR (by decide +kernel), ?_⟩
  refine ⟨ok_callV (ix := 49) hc_7 ms_S_outlive (tb_cwV tw_639 tw_640 tw_641 tw_10 tw_642 (by decide +kernel) (by decide) (by decide)) (by decide +kernel), ?_⟩
  refine ⟨ok_vret rfl (by decide +kernel), ?_⟩
  exact trivial
theorem ms_B_closeNormally : ev_Met l vc_L vt_L (gw_G b Ls xs z) my_B_closeNormally (Cond.code my_B_closeNormally prog_2_method_14_code 2 none :: tb_T) 3 63 (mf_B_closeNormally z) := ev_sound (by decide +kernel) mg_B_closeNormally
def my_N_hasWill : MethodName := ⟨"MessageHub$Connection", "hasWill", "()Z"⟩
def mk_N_hasWill (z : Nat × Nat) : ev_C := [(0, ev_fn (ev_aload 0 1)), (1, ev_fn (ev_getf 6 4 4)), (4, ev_fn (ev_cl 0 5)), (5, ev_fn (ev_lcmp 6)), (6, ev_fn (ev_ifeq 13 9)), (9, ev_fn (ev_ci 1 10)), (10, ev_fn (ev_goto 14)), (13, ev_fn (ev_ci 0 14)), (14, ev_fn (ev_zret .boolean))]
def mf_N_hasWill (z : Nat × Nat) : ev_F := ev_met (mk_N_hasWill z) 1
set_option maxHeartbeats 4000000 in
set_option maxRecDepth 100000 in
theorem mg_N_hasWill : ev_AllG (ev_Good l vc_L vt_L (gw_G b Ls xs z) prog_4_method_3_code 1 (some .boolean) my_N_hasWill.name my_N_hasWill.cls tb_T 0 0) (mk_N_hasWill z) := by
  refine ⟨ok_aload_n (z := 0) (by decide +kernel) rfl, ?_⟩
  refine ⟨ok_getf (ix := 31) hc_6 (by decide) hi_6 tw_153 (Or.inl rfl) (by decide +kernel), ?_⟩
  refine ⟨ok_lconst (z := 0) (by decide +kernel) (by decide +kernel), ?_⟩
  refine ⟨ok_lcmp (by decide +kernel), ?_⟩
  refine ⟨ok_ifeq (off := 7) (by decide +kernel) (by decide), ?_⟩
  refine ⟨ok_iconst (z := 1) (by decide +kernel) (by decide +kernel), ?_⟩
  refine ⟨ok_goto (off := 4) (by decide +kernel) (by decide), ?_⟩
  refine ⟨ok_iconst (z := 0) (by decide +kernel) (by decide +kernel), ?_⟩
  refine ⟨ok_zret rfl (by decide +kernel), ?_⟩
  exact trivial
theorem ms_N_hasWill : ev_Met l vc_L vt_L (gw_G b Ls xs z) my_N_hasWill (Cond.code my_N_hasWill prog_4_method_3_code 1 (some .boolean) :: tb_T) 0 0 (mf_N_hasWill z) := ev_sound (by decide +kernel) mg_N_hasWill
def my_N_willMessage : MethodName := ⟨"MessageHub$Connection", "willMessage", "()LMessageHub$Message;"⟩
def mk_N_willMessage (z : Nat × Nat) : ev_C := [(0, ev_fn (ev_newo 9 4 ff_9 3)), (3, ev_fn (ev_dup 4)), (4, ev_fn (ev_aload 0 5)), (5, ev_fn (ev_getf 6 4 8)), (8, ev_fn (ev_aload 0 9)), (9, ev_fn (ev_getf 6 5 12)), (12, ev_fn (ev_ci 1 13)), (13, ev_fn (ev_ci 0 14)), (14, ev_callI (mf_M_init z) 5 17), (17, ev_fn ev_aret)]
def mf_N_willMessage (z : Nat × Nat) : ev_F := ev_met (mk_N_willMessage z) 1
set_option maxHeartbeats 4000000 in
set_option maxRecDepth 100000 in
theorem mg_N_willMessage : ev_AllG (ev_Good l vc_L vt_L (gw_G b Ls xs z) prog_4_method_4_code 1 (some (.object "MessageHub$Message")) my_N_willMessage.name my_N_willMessage.cls tb_T 2 45) (mk_N_willMessage z) := by
  refine ⟨ok_newo (ix := 38) hc_9 hi_9 ht_9 hf_9 tw_657 tw_441 tw_18 (by decide +kernel), ?_⟩
  refine ⟨ok_dup (by decide +kernel), ?_⟩
  refine ⟨ok_aload_n (z := 0) (by decide +kernel) rfl, ?_⟩
  refine ⟨ok_getf (ix := 31) hc_6 (by decide) hi_6 tw_153 (Or.inl rfl) (by decide +kernel), ?_⟩
  refine ⟨ok_aload_n (z := 0) (by decide +kernel) rfl, ?_⟩
  refine ⟨ok_getf (ix := 37) hc_6 (by decide) hi_6 tw_154 (Or.inl rfl) (by decide +kernel), ?_⟩
  refine ⟨ok_iconst (z := 1) (by decide +kernel) (by decide +kernel), ?_⟩
  refine ⟨ok_iconst (z := 0) (by decide +kernel) (by decide +kernel), ?_⟩
  refine ⟨ok_callI (ix := 40) ms_M_init (tb_cwI tw_658 tw_443 tw_18 tw_444 rfl (by decide +kernel) (by decide) (by decide)) (by decide +kernel), ?_⟩
  refine ⟨ok_aret rfl (Or.inl ⟨_, rfl⟩) (by decide +kernel), ?_⟩
  exact trivial
theorem ms_N_willMessage : ev_Met l vc_L vt_L (gw_G b Ls xs z) my_N_willMessage (Cond.code my_N_willMessage prog_4_method_4_code 1 (some (.object "MessageHub$Message")) :: tb_T) 2 45 (mf_N_willMessage z) := ev_sound (by decide +kernel) mg_N_willMessage
def my_S_load : MethodName := ⟨"MessageHub$Session", "load", "()I"⟩
def mk_S_load (z : Nat × Nat) : ev_C := [(0, ev_fn (ev_aload 0 1)), (1, ev_fn (ev_getf 7 1 4)), (4, ev_callR 2 (mf_A_size z) 1 7), (7, ev_fn (ev_aload 0 8)), (8, ev_fn (ev_getf 7 2 11)), (11, ev_callR 2 (mf_A_size z) 1 14), (14, ev_fn (ev_iadd 15)), (15, ev_fn ev_iret)]
def mf_S_load (z : Nat × Nat) : ev_F := ev_met (mk_S_load z) 1
set_option maxHeartbeats 4000000 in
set_option maxRecDepth 100000 in
theorem mg_S_load : ev_AllG (ev_Good l vc_L vt_L (gw_G b Ls xs z) prog_10_method_5_code 1 (some .int) my_S_load.name my_S_load.cls tb_T 1 20) (mk_S_load z) := by
  refine ⟨ok_aload_n (z := 0) (by decide +kernel) rfl, ?_⟩
  refine ⟨ok_getf (ix := 18) hc_7 (by decide) hi_7 tw_179 (Or.inl rfl) (by decide +kernel), ?_⟩
  refine ⟨ok_callV (ix := 49) hc_2 ms_A_size (tb_cwV tw_667 tw_405 tw_406 tw_5 tw_407 (by decide +kernel) (by decide) (by decide)) (by decide +kernel), ?_⟩
  refine ⟨ok_aload_n (z := 0) (by decide +kernel) rfl, ?_⟩
  refine ⟨ok_getf (ix := 21) hc_7 (by decide) hi_7 tw_181 (Or.inl rfl) (by decide +kernel), ?_⟩
  refine ⟨ok_callV (ix := 49) hc_2 ms_A_size (tb_cwV tw_667 tw_405 tw_406 tw_5 tw_407 (by decide +kernel) (by decide) (by decide)) (by decide +kernel), ?_⟩
  refine ⟨ok_iadd (by decide +kernel), ?_⟩
  refine ⟨ok_iret rfl (by decide +kernel), ?_⟩
  exact trivial
theorem ms_S_load : ev_Met l vc_L vt_L (gw_G b Ls xs z) my_S_load (Cond.code my_S_load prog_10_method_5_code 1 (some .int) :: tb_T) 1 20 (mf_S_load z) := ev_sound (by decide +kernel) mg_S_load
def my_T_covers : MethodName := ⟨"MessageHub$Text", "covers", "(JJ)Z"⟩
def mk_T_covers_0 (z : Nat × Nat) : ev_C := [(0, ev_fn (ev_lload 0 1)), (1, ev_fn (ev_ci 56 3)), (3, ev_fn (ev_lushr 4)), (4, ev_fn (ev_lstore 4 6)), (6, ev_fn (ev_lload 4 8)), (8, ev_fn (ev_cl 43 11)), (11, ev_fn (ev_lcmp 12)), (12, ev_fn (ev_ifeq 24 15)), (15, ev_fn (ev_lload 4 17)), (17, ev_fn (ev_cl 35 20)), (20, ev_fn (ev_lcmp 21)), (21, ev_fn (ev_ifne 37 24)), (24, ev_fn (ev_lload 2 25)), (25, ev_fn (ev_ci 56 27)), (27, ev_fn (ev_lushr 28)), (28, ev_fn (ev_cl 36 31)), (31, ev_fn (ev_lcmp 32)), (32, ev_fn (ev_ifne 37 35)), (35, ev_fn (ev_ci 0 36)), (36, ev_fn (ev_zret .boolean)), (37, ev_fn (ev_lload 0 38)), (38, ev_fn (ev_lstore 6 40)), (40, ev_fn (ev_lload 2 41)), (41, ev_fn (ev_lstore 8 43)), (43, ev_fn (ev_ci 0 44)), (44, ev_fn (ev_istore 10 46)), (46, ev_fn (ev_iload 10 48)), (48, ev_fn (ev_ci 16 50)), (50, ev_fn (ev_icmpge 188 53)), (53, ev_fn (ev_lload 6 55)), (55, ev_fn (ev_cl 0 56)), (56, ev_fn (ev_lcmp 57)), (57, ev_fn (ev_ifeq 188 60)), (60, ev_fn (ev_lload 6 62)), (62, ev_fn (ev_ci 56 64)), (64, ev_fn (ev_lushr 65)), (65, ev_fn (ev_lstore 11 67)), (67, ev_fn (ev_lload 8 69)), (69, ev_fn (ev_ci 56 71)), (71, ev_fn (ev_lushr 72)), (72, ev_fn (ev_lstore 13 74)), (74, ev_fn (ev_lload 11 76)), (76, ev_fn (ev_cl 35 79)), (79, ev_fn (ev_lcmp 80)), (80, ev_fn (ev_ifeq 99 83)), (83, ev_fn (ev_lload 8 85)), (85, ev_fn (ev_cl 0 86)), (86, ev_fn (ev_lcmp 87)), (87, ev_fn (ev_ifne 101 90)), (90, ev_fn (ev_lload 6 92)), (92, ev_fn (ev_cl 3396558543967485952 95)), (95, ev_fn (ev_lcmp 96)), (96, ev_fn (ev_ifne 101 99)), (99, ev_fn (ev_ci 1 100)), (100, ev_fn (ev_zret .boolean)), (101, ev_fn (ev_lload 11 103)), (103, ev_fn (ev_cl 43 106)), (106, ev_fn (ev_lcmp 107)), (107, ev_fn (ev_ifne 136 110)), (110, ev_fn (ev_lload 13 112))]
def mk_T_covers_1 (z : Nat × Nat) : ev_C := [(112, ev_fn (ev_cl 0 113)), (113, ev_fn (ev_lcmp 114)), (114, ev_fn (ev_ifeq 136 117)), (117, ev_fn (ev_lload 13 119)), (119, ev_fn (ev_cl 47 122)), (122, ev_fn (ev_lcmp 123)), (123, ev_fn (ev_ifeq 136 126)), (126, ev_fn (ev_lload 8 128)), (128, ev_fn (ev_ci 8 130)), (130, ev_fn (ev_lshl 131)), (131, ev_fn (ev_lstore 8 133)), (133, ev_fn (ev_goto 182)), (136, ev_fn (ev_lload 11 138)), (138, ev_fn (ev_cl 43 141)), (141, ev_fn (ev_lcmp 142)), (142, ev_fn (ev_ifne 155 145)), (145, ev_fn (ev_lload 6 147)), (147, ev_fn (ev_ci 8 149)), (149, ev_fn (ev_lshl 150)), (150, ev_fn (ev_lstore 6 152)), (152, ev_fn (ev_goto 182)), (155, ev_fn (ev_lload 11 157)), (157, ev_fn (ev_lload 13 159)), (159, ev_fn (ev_lcmp 160)), (160, ev_fn (ev_ifne 180 163)), (163, ev_fn (ev_lload 6 165)), (165, ev_fn (ev_ci 8 167)), (167, ev_fn (ev_lshl 168)), (168, ev_fn (ev_lstore 6 170)), (170, ev_fn (ev_lload 8 172)), (172, ev_fn (ev_ci 8 174)), (174, ev_fn (ev_lshl 175)), (175, ev_fn (ev_lstore 8 177)), (177, ev_fn (ev_goto 182)), (180, ev_fn (ev_ci 0 181)), (181, ev_fn (ev_zret .boolean)), (182, ev_fn (ev_iinc 10 1 185)), (185, ev_fn (ev_goto 46)), (188, ev_fn (ev_lload 8 190)), (190, ev_fn (ev_cl 0 191)), (191, ev_fn (ev_lcmp 192)), (192, ev_fn (ev_ifne 199 195)), (195, ev_fn (ev_ci 1 196)), (196, ev_fn (ev_goto 200)), (199, ev_fn (ev_ci 0 200)), (200, ev_fn (ev_zret .boolean))]
def mk_T_covers (z : Nat × Nat) : ev_C := mk_T_covers_0 z ++ (mk_T_covers_1 z)
def mf_T_covers (z : Nat × Nat) : ev_F := ev_met (mk_T_covers z) 15
set_option maxHeartbeats 4000000 in
set_option maxRecDepth 100000 in
theorem mg_T_covers_0 : ev_AllG (ev_Good l vc_L vt_L (gw_G b Ls xs z) prog_12_method_5_code 15 (some .boolean) my_T_covers.name my_T_covers.cls tb_T 0 0) (mk_T_covers_0 z) := by
  refine ⟨ok_lload_n (z := 0) (by decide +kernel) rfl, ?_⟩
  refine ⟨ok_bipush (z := 56) (by decide +kernel) (by decide +kernel), ?_⟩
  refine ⟨ok_lushr (by decide +kernel), ?_⟩
  refine ⟨ok_lstore (by decide) (by decide +kernel), ?_⟩
  refine ⟨ok_lload (by decide +kernel), ?_⟩
  refine ⟨ok_ldc2 (ix := 23) tw_681 (by decide +kernel), ?_⟩
  refine ⟨ok_lcmp (by decide +kernel), ?_⟩
  refine ⟨ok_ifeq (off := 12) (by decide +kernel) (by decide), ?_⟩
  refine ⟨ok_lload (by decide +kernel), ?_⟩
  refine ⟨ok_ldc2 (ix := 25) tw_682 (by decide +kernel), ?_⟩
  refine ⟨ok_lcmp (by decide +kernel), ?_⟩
  refine ⟨ok_ifne (off := 16) (by decide +kernel) (by decide), ?_⟩
  refine ⟨ok_lload_n (z := 2) (by decide +kernel) rfl, ?_⟩
  refine ⟨ok_bipush (z := 56) (by decide +kernel) (by decide +kernel), ?_⟩
  refine ⟨ok_lushr (by decide +kernel), ?_⟩
  refine ⟨ok_ldc2 (ix := 27) tw_683 (by decide +kernel), ?_⟩
  refine ⟨ok_lcmp (by decide +kernel), ?_⟩
  refine ⟨ok_ifne (off := 5) (by decide +kernel) (by decide), ?_⟩
  refine ⟨ok_iconst (z := 0) (by decide +kernel) (by decide +kernel), ?_⟩
  refine ⟨ok_zret rfl (by decide +kernel), ?_⟩
  refine ⟨ok_lload_n (z := 0) (by decide +kernel) rfl, ?_⟩
  refine ⟨ok_lstore (by decide) (by decide +kernel), ?_⟩
  refine ⟨ok_lload_n (z := 2) (by decide +kernel) rfl, ?_⟩
  refine ⟨ok_lstore (by decide) (by decide +kernel), ?_⟩
  refine ⟨ok_iconst (z := 0) (by decide +kernel) (by decide +kernel), ?_⟩
  refine ⟨ok_istore (by decide) (by decide +kernel), ?_⟩
  refine ⟨ok_iload (by decide +kernel), ?_⟩
  refine ⟨ok_bipush (z := 16) (by decide +kernel) (by decide +kernel), ?_⟩
  refine ⟨ok_icmpge (off := 138) (by decide +kernel) (by decide), ?_⟩
  refine ⟨ok_lload (by decide +kernel), ?_⟩
  refine ⟨ok_lconst (z := 0) (by decide +kernel) (by decide +kernel), ?_⟩
  refine ⟨ok_lcmp (by decide +kernel), ?_⟩
  refine ⟨ok_ifeq (off := 131) (by decide +kernel) (by decide), ?_⟩
  refine ⟨ok_lload (by decide +kernel), ?_⟩
  refine ⟨ok_bipush (z := 56) (by decide +kernel) (by decide +kernel), ?_⟩
  refine ⟨ok_lushr (by decide +kernel), ?_⟩
  refine ⟨ok_lstore (by decide) (by decide +kernel), ?_⟩
  refine ⟨ok_lload (by decide +kernel), ?_⟩
  refine ⟨ok_bipush (z := 56) (by decide +kernel) (by decide +kernel), ?_⟩
  refine ⟨ok_lushr (by decide +kernel), ?_⟩
  refine ⟨ok_lstore (by decide) (by decide +kernel), ?_⟩
  refine ⟨ok_lload (by decide +kernel), ?_⟩
  refine ⟨ok_ldc2 (ix := 25) tw_682 (by decide +kernel), ?_⟩
  refine ⟨ok_lcmp (by decide +kernel), ?_⟩
  refine ⟨ok_ifeq (off := 19) (by decide +kernel) (by decide), ?_⟩
  refine ⟨ok_lload (by decide +kernel), ?_⟩
  refine ⟨ok_lconst (z := 0) (by decide +kernel) (by decide +kernel), ?_⟩
  refine ⟨ok_lcmp (by decide +kernel), ?_⟩
  refine ⟨ok_ifne (off := 14) (by decide +kernel) (by decide), ?_⟩
  refine ⟨ok_lload (by decide +kernel), ?_⟩
  refine ⟨ok_ldc2 (ix := 29) tw_684 (by decide +kernel), ?_⟩
  refine ⟨ok_lcmp (by decide +kernel), ?_⟩
  refine ⟨ok_ifne (off := 5) (by decide +kernel) (by decide), ?_⟩
  refine ⟨ok_iconst (z := 1) (by decide +kernel) (by decide +kernel), ?_⟩
  refine ⟨ok_zret rfl (by decide +kernel), ?_⟩
  refine ⟨ok_lload (by decide +kernel), ?_⟩
  refine ⟨ok_ldc2 (ix := 23) tw_681 (by decide +kernel), ?_⟩
  refine ⟨ok_lcmp (by decide +kernel), ?_⟩
  refine ⟨ok_ifne (off := 29) (by decide +kernel) (by decide), ?_⟩
  refine ⟨ok_lload (by decide +kernel), ?_⟩
  exact trivial
set_option maxHeartbeats 4000000 in
set_option maxRecDepth 100000 in
theorem mg_T_covers_1 : ev_AllG (ev_Good l vc_L vt_L (gw_G b Ls xs z) prog_12_method_5_code 15 (some .boolean) my_T_covers.name my_T_covers.cls tb_T 0 0) (mk_T_covers_1 z) := by
  refine ⟨ok_lconst (z := 0) (by decide +kernel) (by decide +kernel), ?_⟩
  refine ⟨ok_lcmp (by decide +kernel), ?_⟩
  refine ⟨ok_ifeq (off := 22) (by decide +kernel) (by decide), ?_⟩
  refine ⟨ok_lload (by decide +kernel), ?_⟩
  refine ⟨ok_ldc2 (ix := 31) tw_685 (by decide +kernel), ?_⟩
  refine ⟨ok_lcmp (by decide +kernel), ?_⟩
  refine ⟨ok_ifeq (off := 13) (by decide +kernel) (by decide), ?_⟩
  refine ⟨ok_lload (by decide +kernel), ?_⟩
  refine ⟨ok_bipush (z := 8) (by decide +kernel) (by decide +kernel), ?_⟩
  refine ⟨ok_lshl (by decide +kernel), ?_⟩
  refine ⟨ok_lstore (by decide) (by decide +kernel), ?_⟩
  refine ⟨ok_goto (off := 49) (by decide +kernel) (by decide), ?_⟩
  refine ⟨ok_lload (by decide +kernel), ?_⟩
  refine ⟨ok_ldc2 (ix := 23) tw_681 (by decide +kernel), ?_⟩
  refine ⟨ok_lcmp (by decide +kernel), ?_⟩
  refine ⟨ok_ifne (off := 13) (by decide +kernel) (by decide), ?_⟩
  refine ⟨ok_lload (by decide +kernel), ?_⟩
  refine ⟨ok_bipush (z := 8) (by decide +kernel) (by decide +kernel), ?_⟩
  refine ⟨ok_lshl (by decide +kernel), ?_⟩
  refine ⟨ok_lstore (by decide) (by decide +kernel), ?_⟩
  refine ⟨ok_goto (off := 30) (by decide +kernel) (by decide), ?_⟩
  refine ⟨ok_lload (by decide +kernel), ?_⟩
  refine ⟨ok_lload (by decide +kernel), ?_⟩
  refine ⟨ok_lcmp (by decide +kernel), ?_⟩
  refine ⟨ok_ifne (off := 20) (by decide +kernel) (by decide), ?_⟩
  refine ⟨ok_lload (by decide +kernel), ?_⟩
  refine ⟨ok_bipush (z := 8) (by decide +kernel) (by decide +kernel), ?_⟩
  refine ⟨ok_lshl (by decide +kernel), ?_⟩
  refine ⟨ok_lstore (by decide) (by decide +kernel), ?_⟩
  refine ⟨ok_lload (by decide +kernel), ?_⟩
  refine ⟨ok_bipush (z := 8) (by decide +kernel) (by decide +kernel), ?_⟩
  refine ⟨ok_lshl (by decide +kernel), ?_⟩
  refine ⟨ok_lstore (by decide) (by decide +kernel), ?_⟩
  refine ⟨ok_goto (off := 5) (by decide +kernel) (by decide), ?_⟩
  refine ⟨ok_iconst (z := 0) (by decide +kernel) (by decide +kernel), ?_⟩
  refine ⟨ok_zret rfl (by decide +kernel), ?_⟩
  refine ⟨ok_iinc (z := 1) (by decide) (by decide +kernel) (by decide +kernel), ?_⟩
  refine ⟨ok_goto (off := (-139)) (by decide +kernel) (by decide), ?_⟩
  refine ⟨ok_lload (by decide +kernel), ?_⟩
  refine ⟨ok_lconst (z := 0) (by decide +kernel) (by decide +kernel), ?_⟩
  refine ⟨ok_lcmp (by decide +kernel), ?_⟩
  refine ⟨ok_ifne (off := 7) (by decide +kernel) (by decide), ?_⟩
  refine ⟨ok_iconst (z := 1) (by decide +kernel) (by decide +kernel), ?_⟩
  refine ⟨ok_goto (off := 4) (by decide +kernel) (by decide), ?_⟩
  refine ⟨ok_iconst (z := 0) (by decide +kernel) (by decide +kernel), ?_⟩
  refine ⟨ok_zret rfl (by decide +kernel), ?_⟩
  exact trivial
theorem mg_T_covers : ev_AllG (ev_Good l vc_L vt_L (gw_G b Ls xs z) prog_12_method_5_code 15 (some .boolean) my_T_covers.name my_T_covers.cls tb_T 0 0) (mk_T_covers z) := ev_AllG.app mg_T_covers_0 (mg_T_covers_1)
theorem ms_T_covers : ev_Met l vc_L vt_L (gw_G b Ls xs z) my_T_covers (Cond.code my_T_covers prog_12_method_5_code 15 (some .boolean) :: tb_T) 0 0 (mf_T_covers z) := ev_sound (by decide +kernel) mg_T_covers
def my_U_copyQuality : MethodName := ⟨"MessageHub$Subscription", "copyQuality", "(LMessageHub$Message;Z)I"⟩
def mk_U_copyQuality (z : Nat × Nat) : ev_C := [(0, ev_fn (ev_iload 2 1)), (1, ev_fn (ev_ifeq 11 4)), (4, ev_fn (ev_aload 0 5)), (5, ev_fn (ev_getf 11 2 8)), (8, ev_fn (ev_ifne 25 11)), (11, ev_fn (ev_aload 0 12)), (12, ev_fn (ev_getf 11 0 15)), (15, ev_fn (ev_aload 1 16)), (16, ev_fn (ev_getf 9 0 19)), (19, ev_call (mf_T_covers z) 2 22), (22, ev_fn (ev_ifne 27 25)), (25, ev_fn (ev_ci (-1) 26)), (26, ev_fn ev_iret), (27, ev_fn (ev_aload 0 28)), (28, ev_fn (ev_getf 11 1 31)), (31, ev_fn (ev_aload 1 32)), (32, ev_fn (ev_getf 9 2 35)), (35, ev_fn (ev_mmin 38)), (38, ev_fn ev_iret)]
def mf_U_copyQuality (z : Nat × Nat) : ev_F := ev_met (mk_U_copyQuality z) 3
set_option maxHeartbeats 4000000 in
set_option maxRecDepth 100000 in
theorem mg_U_copyQuality : ev_AllG (ev_Good l vc_L vt_L (gw_G b Ls xs z) prog_11_method_2_code 3 (some .int) my_U_copyQuality.name my_U_copyQuality.cls tb_T 1 34) (mk_U_copyQuality z) := by
  refine ⟨ok_iload_n (z := 2) (by decide +kernel) rfl, ?_⟩
  refine ⟨ok_ifeq (off := 10) (by decide +kernel) (by decide), ?_⟩
  refine ⟨ok_aload_n (z := 0) (by decide +kernel) rfl, ?_⟩
  refine ⟨ok_getf (ix := 15) hc_11 (by decide) hi_11 tw_777 (Or.inl rfl) (by decide +kernel), ?_⟩
  refine ⟨ok_ifne (off := 17) (by decide +kernel) (by decide), ?_⟩
  refine ⟨ok_aload_n (z := 0) (by decide +kernel) rfl, ?_⟩
  refine ⟨ok_getf (ix := 9) hc_11 (by decide) hi_11 tw_773 (Or.inl rfl) (by decide +kernel), ?_⟩
  refine ⟨ok_aload_n (z := 1) (by decide +kernel) rfl, ?_⟩
  refine ⟨ok_getf (ix := 19) hc_9 (by decide) hi_9 tw_448 (Or.inl rfl) (by decide +kernel), ?_⟩
  refine ⟨ok_callS (ix := 24) ms_T_covers (tb_cwS tw_678 tw_679 tw_12 tw_680 (by decide +kernel) (by decide) (by decide)) (by decide +kernel), ?_⟩
  refine ⟨ok_ifne (off := 5) (by decide +kernel) (by decide), ?_⟩
  refine ⟨ok_iconst (z := (-1)) (by decide +kernel) (by decide +kernel), ?_⟩
  refine ⟨ok_iret rfl (by decide +kernel), ?_⟩
  refine ⟨ok_aload_n (z := 0) (by decide +kernel) rfl, ?_⟩
  refine ⟨ok_getf (ix := 30) hc_11 (by decide) hi_11 tw_775 (Or.inl rfl) (by decide +kernel), ?_⟩
  refine ⟨ok_aload_n (z := 1) (by decide +kernel) rfl, ?_⟩
  refine ⟨ok_getf (ix := 34) hc_9 (by decide) hi_9 tw_455 (Or.inl rfl) (by decide +kernel), ?_⟩
  refine ⟨ok_mmin (ix := 35) (by decide) (by decide) tw_686 tw_377 tw_15 tw_378 (by decide +kernel), ?_⟩
  refine ⟨ok_iret rfl (by decide +kernel), ?_⟩
  exact trivial
theorem ms_U_copyQuality : ev_Met l vc_L vt_L (gw_G b Ls xs z) my_U_copyQuality (Cond.code my_U_copyQuality prog_11_method_2_code 3 (some .int) :: tb_T) 1 34 (mf_U_copyQuality z) := ev_sound (by decide +kernel) mg_U_copyQuality
def my_S_countKept : MethodName := ⟨"MessageHub$Session", "countKept", "(LMessageHub$Message;Z)I"⟩
def mk_S_countKept (z : Nat × Nat) : ev_C := [(0, ev_fn (ev_ci 0 1)), (1, ev_fn (ev_istore 3 2)), (2, ev_fn (ev_ci 0 3)), (3, ev_fn (ev_istore 4 5)), (5, ev_fn (ev_iload 4 7)), (7, ev_fn (ev_aload 0 8)), (8, ev_fn (ev_getf 7 0 11)), (11, ev_callR 2 (mf_A_size z) 1 14), (14, ev_fn (ev_icmpge 46 17)), (17, ev_fn (ev_aload 0 18)), (18, ev_fn (ev_getf 7 0 21)), (21, ev_fn (ev_iload 4 23)), (23, ev_callR 2 (mf_A_get z) 2 26), (26, ev_fn (ev_castS 11 29)), (29, ev_fn (ev_aload 1 30)), (30, ev_fn (ev_iload 2 31)), (31, ev_callR 11 (mf_U_copyQuality z) 3 34), (34, ev_fn (ev_ifle 40 37)), (37, ev_fn (ev_iinc 3 1 40)), (40, ev_fn (ev_iinc 4 1 43)), (43, ev_fn (ev_goto 5)), (46, ev_fn (ev_iload 3 47)), (47, ev_fn ev_iret)]
def mf_S_countKept (z : Nat × Nat) : ev_F := ev_met (mk_S_countKept z) 5
set_option maxHeartbeats 4000000 in
set_option maxRecDepth 100000 in
theorem mg_S_countKept : ev_AllG (ev_Good l vc_L vt_L (gw_G b Ls xs z) prog_10_method_8_code 5 (some .int) my_S_countKept.name my_S_countKept.cls tb_T 3 64) (mk_S_countKept z) := by
  refine ⟨ok_iconst (z := 0) (by decide +kernel) (by decide +kernel), ?_⟩
  refine ⟨ok_istore_n (z := 3) (by decide) (by decide +kernel) rfl, ?_⟩
  refine ⟨ok_iconst (z := 0) (by decide +kernel) (by decide +kernel), ?_⟩
  refine ⟨ok_istore (by decide) (by decide +kernel), ?_⟩
  refine ⟨ok_iload (by decide +kernel), ?_⟩
  refine ⟨ok_aload_n (z := 0) (by decide +kernel) rfl, ?_⟩
  refine ⟨ok_getf (ix := 12) hc_7 (by decide) hi_7 tw_177 (Or.inl rfl) (by decide +kernel), ?_⟩
  refine ⟨ok_callV (ix := 49) hc_2 ms_A_size (tb_cwV tw_667 tw_405 tw_406 tw_5 tw_407 (by decide +kernel) (by decide) (by decide)) (by decide +kernel), ?_⟩
  refine ⟨ok_icmpge (off := 32) (by decide +kernel) (by decide), ?_⟩
  refine ⟨ok_aload_n (z := 0) (by decide +kernel) rfl, ?_⟩
  refine ⟨ok_getf (ix := 12) hc_7 (by decide) hi_7 tw_177 (Or.inl rfl) (by decide +kernel), ?_⟩
  refine ⟨ok_iload (by decide +kernel), ?_⟩
  refine ⟨ok_callV (ix := 53) hc_2 ms_A_get (tb_cwV tw_672 tw_507 tw_508 tw_5 tw_509 (by decide +kernel) (by decide) (by decide)) (by decide +kernel), ?_⟩
  refine ⟨ok_castS (ix := 57) hc_11 tw_673 (by decide +kernel), ?_⟩
  refine ⟨ok_aload_n (z := 1) (by decide +kernel) rfl, ?_⟩
  refine ⟨ok_iload_n (z := 2) (by decide +kernel) rfl, ?_⟩
  refine ⟨ok_callV (ix := 80) hc_11 ms_U_copyQuality (tb_cwV tw_674 tw_675 tw_676 tw_22 tw_677 (by decide +kernel) (by decide) (by decide)) (by decide +kernel), ?_⟩
  refine ⟨ok_ifle (off := 6) (by decide +kernel) (by decide), ?_⟩
  refine ⟨ok_iinc (z := 1) (by decide) (by decide +kernel) (by decide +kernel), ?_⟩
  refine ⟨ok_iinc (z := 1) (by decide) (by decide +kernel) (by decide +kernel), ?_⟩
  refine ⟨ok_goto (off := (-38)) (by decide +kernel) (by decide), ?_⟩
  refine ⟨ok_iload_n (z := 3) (by decide +kernel) rfl, ?_⟩
  refine ⟨ok_iret rfl (by decide +kernel), ?_⟩
  exact trivial
theorem ms_S_countKept : ev_Met l vc_L vt_L (gw_G b Ls xs z) my_S_countKept (Cond.code my_S_countKept prog_10_method_8_code 5 (some .int) :: tb_T) 3 64 (mf_S_countKept z) := ev_sound (by decide +kernel) mg_S_countKept
def my_B_hasLineRoom : MethodName := ⟨"MessageHub$Broker", "hasLineRoom", "(I)Z"⟩
def mk_B_hasLineRoom (z : Nat × Nat) : ev_C := [(0, ev_fn (ev_aload 0 1)), (1, ev_fn (ev_getf 5 0 4)), (4, ev_fn (ev_iload 1 5)), (5, ev_fn (ev_aaldR 6)), (6, ev_fn (ev_getf 1 1 9)), (9, ev_callR 2 (mf_A_size z) 1 12), (12, ev_fn (ev_ci 12 14)), (14, ev_fn (ev_icmpge 21 17)), (17, ev_fn (ev_ci 1 18)), (18, ev_fn (ev_goto 22)), (21, ev_fn (ev_ci 0 22)), (22, ev_fn (ev_zret .boolean))]
def mf_B_hasLineRoom (z : Nat × Nat) : ev_F := ev_met (mk_B_hasLineRoom z) 2
set_option maxHeartbeats 4000000 in
set_option maxRecDepth 100000 in
theorem mg_B_hasLineRoom : ev_AllG (ev_Good l vc_L vt_L (gw_G b Ls xs z) prog_2_method_8_code 2 (some .boolean) my_B_hasLineRoom.name my_B_hasLineRoom.cls tb_T 1 20) (mk_B_hasLineRoom z) := by
  refine ⟨ok_aload_n (z := 0) (by decide +kernel) rfl, ?_⟩
  refine ⟨ok_getf (ix := 34) hc_5 (by decide) hi_5 tw_205 (Or.inl rfl) (by decide +kernel), ?_⟩
  refine ⟨ok_iload_n (z := 1) (by decide +kernel) rfl, ?_⟩
  refine ⟨ok_aaldR (by decide +kernel), ?_⟩
  refine ⟨ok_getf (ix := 137) hc_1 (by decide) hi_1 tw_71 (Or.inl rfl) (by decide +kernel), ?_⟩
  refine ⟨ok_callV (ix := 144) hc_2 ms_A_size (tb_cwV tw_691 tw_405 tw_406 tw_5 tw_407 (by decide +kernel) (by decide) (by decide)) (by decide +kernel), ?_⟩
  refine ⟨ok_bipush (z := 12) (by decide +kernel) (by decide +kernel), ?_⟩
  refine ⟨ok_icmpge (off := 7) (by decide +kernel) (by decide), ?_⟩
  refine ⟨ok_iconst (z := 1) (by decide +kernel) (by decide +kernel), ?_⟩
  refine ⟨ok_goto (off := 4) (by decide +kernel) (by decide), ?_⟩
  refine ⟨ok_iconst (z := 0) (by decide +kernel) (by decide +kernel), ?_⟩
  refine ⟨ok_zret rfl (by decide +kernel), ?_⟩
  exact trivial
theorem ms_B_hasLineRoom : ev_Met l vc_L vt_L (gw_G b Ls xs z) my_B_hasLineRoom (Cond.code my_B_hasLineRoom prog_2_method_8_code 2 (some .boolean) :: tb_T) 1 20 (mf_B_hasLineRoom z) := ev_sound (by decide +kernel) mg_B_hasLineRoom
def my_M_copy : MethodName := ⟨"MessageHub$Message", "copy", "(IZ)LMessageHub$Message;"⟩
def mk_M_copy (z : Nat × Nat) : ev_C := [(0, ev_fn (ev_newo 9 4 ff_9 3)), (3, ev_fn (ev_dup 4)), (4, ev_fn (ev_aload 0 5)), (5, ev_fn (ev_getf 9 0 8)), (8, ev_fn (ev_aload 0 9)), (9, ev_fn (ev_getf 9 1 12)), (12, ev_fn (ev_iload 1 13)), (13, ev_fn (ev_iload 2 14)), (14, ev_callI (mf_M_init z) 5 17), (17, ev_fn ev_aret)]
def mf_M_copy (z : Nat × Nat) : ev_F := ev_met (mk_M_copy z) 3
set_option maxHeartbeats 4000000 in
set_option maxRecDepth 100000 in
theorem mg_M_copy : ev_AllG (ev_Good l vc_L vt_L (gw_G b Ls xs z) prog_7_method_2_code 3 (some (.object "MessageHub$Message")) my_M_copy.name my_M_copy.cls tb_T 2 45) (mk_M_copy z) := by
  refine ⟨ok_newo (ix := 8) hc_9 hi_9 ht_9 hf_9 tw_703 tw_441 tw_18 (by decide +kernel), ?_⟩
  refine ⟨ok_dup (by decide +kernel), ?_⟩
  refine ⟨ok_aload_n (z := 0) (by decide +kernel) rfl, ?_⟩
  refine ⟨ok_getf (ix := 7) hc_9 (by decide) hi_9 tw_446 (Or.inl rfl) (by decide +kernel), ?_⟩
  refine ⟨ok_aload_n (z := 0) (by decide +kernel) rfl, ?_⟩
  refine ⟨ok_getf (ix := 13) hc_9 (by decide) hi_9 tw_450 (Or.inl rfl) (by decide +kernel), ?_⟩
  refine ⟨ok_iload_n (z := 1) (by decide +kernel) rfl, ?_⟩
  refine ⟨ok_iload_n (z := 2) (by decide +kernel) rfl, ?_⟩
  refine ⟨ok_callI (ix := 24) ms_M_init (tb_cwI tw_704 tw_443 tw_18 tw_444 rfl (by decide +kernel) (by decide) (by decide)) (by decide +kernel), ?_⟩
  refine ⟨ok_aret rfl (Or.inl ⟨_, rfl⟩) (by decide +kernel), ?_⟩
  exact trivial
theorem ms_M_copy : ev_Met l vc_L vt_L (gw_G b Ls xs z) my_M_copy (Cond.code my_M_copy prog_7_method_2_code 3 (some (.object "MessageHub$Message")) :: tb_T) 2 45 (mf_M_copy z) := ev_sound (by decide +kernel) mg_M_copy
def my_B_send : MethodName := ⟨"MessageHub$Broker", "send", "(ILMessageHub$Packet;)V"⟩
def mk_B_send (z : Nat × Nat) : ev_C := [(0, ev_fn (ev_aload 0 1)), (1, ev_fn (ev_getf 5 0 4)), (4, ev_fn (ev_iload 1 5)), (5, ev_fn (ev_aaldR 6)), (6, ev_fn (ev_getf 1 3 9)), (9, ev_fn (ev_ifeq 26 12)), (12, ev_fn (ev_aload 0 13)), (13, ev_fn (ev_getf 5 0 16)), (16, ev_fn (ev_iload 1 17)), (17, ev_fn (ev_aaldR 18)), (18, ev_fn (ev_getf 1 1 21)), (21, ev_fn (ev_aload 2 22)), (22, ev_callR 2 (mf_A_add z) 2 25), (25, ev_fn (ev_pop 26)), (26, ev_fn ev_vret)]
def mf_B_send (z : Nat × Nat) : ev_F := ev_met (mk_B_send z) 3
set_option maxHeartbeats 4000000 in
set_option maxRecDepth 100000 in
theorem mg_B_send : ev_AllG (ev_Good l vc_L vt_L (gw_G b Ls xs z) prog_2_method_7_code 3 none my_B_send.name my_B_send.cls tb_T 7 176) (mk_B_send z) := by
  refine ⟨ok_aload_n (z := 0) (by decide +kernel) rfl, ?_⟩
  refine ⟨ok_getf (ix := 34) hc_5 (by decide) hi_5 tw_205 (Or.inl rfl) (by decide +kernel), ?_⟩
  refine ⟨ok_iload_n (z := 1) (by decide +kernel) rfl, ?_⟩
  refine ⟨ok_aaldR (by decide +kernel), ?_⟩
  refine ⟨ok_getf (ix := 134) hc_1 (by decide) hi_1 tw_76 (Or.inl rfl) (by decide +kernel), ?_⟩
  refine ⟨ok_ifeq (off := 17) (by decide +kernel) (by decide), ?_⟩
  refine ⟨ok_aload_n (z := 0) (by decide +kernel) rfl, ?_⟩
  refine ⟨ok_getf (ix := 34) hc_5 (by decide) hi_5 tw_205 (Or.inl rfl) (by decide +kernel), ?_⟩
  refine ⟨ok_iload_n (z := 1) (by decide +kernel) rfl, ?_⟩
  refine ⟨ok_aaldR (by decide +kernel), ?_⟩
  refine ⟨ok_getf (ix := 137) hc_1 (by decide) hi_1 tw_71 (Or.inl rfl) (by decide +kernel), ?_⟩
  refine ⟨ok_aload_n (z := 2) (by decide +kernel) rfl, ?_⟩
  refine ⟨ok_callV (ix := 140) hc_2 ms_A_add (tb_cwV tw_710 tw_325 tw_326 tw_5 tw_327 (by decide +kernel) (by decide) (by decide)) (by decide +kernel), ?_⟩
  refine ⟨ok_pop (by decide +kernel), ?_⟩
  refine ⟨ok_vret rfl (by decide +kernel), ?_⟩
  exact trivial
theorem ms_B_send : ev_Met l vc_L vt_L (gw_G b Ls xs z) my_B_send (Cond.code my_B_send prog_2_method_7_code 3 none :: tb_T) 7 176 (mf_B_send z) := ev_sound (by decide +kernel) mg_B_send
def my_B_spread : MethodName := ⟨"MessageHub$Broker", "spread", "(ILMessageHub$Message;Z)V"⟩
def mk_B_spread (z : Nat × Nat) : ev_C := [(0, ev_fn (ev_aload 0 1)), (1, ev_fn (ev_getf 5 2 4)), (4, ev_fn (ev_iload 1 5)), (5, ev_fn (ev_aaldR 6)), (6, ev_fn (ev_getf 7 0 9)), (9, ev_fn (ev_astore 4 11)), (11, ev_fn (ev_ci 0 12)), (12, ev_fn (ev_istore 5 14)), (14, ev_fn (ev_iload 5 16)), (16, ev_fn (ev_aload 4 18)), (18, ev_callR 2 (mf_A_size z) 1 21), (21, ev_fn (ev_icmpge 104 24)), (24, ev_fn (ev_aload 4 26)), (26, ev_fn (ev_iload 5 28)), (28, ev_callR 2 (mf_A_get z) 2 31), (31, ev_fn (ev_castS 11 34)), (34, ev_fn (ev_aload 2 35)), (35, ev_fn (ev_iload 3 36)), (36, ev_callR 11 (mf_U_copyQuality z) 3 39), (39, ev_fn (ev_istore 6 41)), (41, ev_fn (ev_iload 6 43)), (43, ev_fn (ev_ifne 73 46)), (46, ev_fn (ev_aload 0 47)), (47, ev_fn (ev_iload 1 48)), (48, ev_callR 5 (mf_B_hasLineRoom z) 2 51), (51, ev_fn (ev_ifeq 73 54)), (54, ev_fn (ev_aload 0 55)), (55, ev_fn (ev_iload 1 56)), (56, ev_fn (ev_aload 2 57)), (57, ev_fn (ev_ci 0 58)), (58, ev_fn (ev_ci 0 59)), (59, ev_callR 9 (mf_M_copy z) 3 62), (62, ev_fn (ev_ci 0 63)), (63, ev_fn (ev_ci 0 64)), (64, ev_call (mf_P_ofMessage z) 3 67), (67, ev_callR 5 (mf_B_send z) 3 70), (70, ev_fn (ev_goto 98)), (73, ev_fn (ev_iload 6 75)), (75, ev_fn (ev_ifle 98 78)), (78, ev_fn (ev_aload 0 79)), (79, ev_fn (ev_getf 5 2 82)), (82, ev_fn (ev_iload 1 83)), (83, ev_fn (ev_aaldR 84)), (84, ev_fn (ev_getf 7 1 87)), (87, ev_fn (ev_aload 2 88)), (88, ev_fn (ev_iload 6 90)), (90, ev_fn (ev_ci 0 91)), (91, ev_callR 9 (mf_M_copy z) 3 94), (94, ev_callR 2 (mf_A_add z) 2 97), (97, ev_fn (ev_pop 98)), (98, ev_fn (ev_iinc 5 1 101)), (101, ev_fn (ev_goto 14)), (104, ev_fn ev_vret)]
def mf_B_spread (z : Nat × Nat) : ev_F := ev_met (mk_B_spread z) 7
set_option maxHeartbeats 4000000 in
set_option maxRecDepth 100000 in
theorem mg_B_spread : ev_AllG (ev_Good l vc_L vt_L (gw_G b Ls xs z) prog_2_method_17_code 7 none my_B_spread.name my_B_spread.cls tb_T 8 198) (mk_B_spread z) := by
  refine ⟨ok_aload_n (z := 0) (by decide +kernel) rfl, ?_⟩
  refine ⟨ok_getf (ix := 19) hc_5 (by decide) hi_5 tw_208 (Or.inl rfl) (by decide +kernel), ?_⟩
  refine ⟨ok_iload_n (z := 1) (by decide +kernel) rfl, ?_⟩
  refine ⟨ok_aaldR (by decide +kernel), ?_⟩
  refine ⟨ok_getf (ix := 233) hc_7 (by decide) hi_7 tw_178 (Or.inl rfl) (by decide +kernel), ?_⟩
  refine ⟨ok_astore (by decide) (by decide +kernel), ?_⟩
  refine ⟨ok_iconst (z := 0) (by decide +kernel) (by decide +kernel), ?_⟩
  refine ⟨ok_istore (by decide) (by decide +kernel), ?_⟩
  refine ⟨ok_iload (by decide +kernel), ?_⟩
  refine ⟨ok_aload (by decide +kernel), ?_⟩
  refine ⟨ok_callV (ix := 144) hc_2 ms_A_size (tb_cwV tw_691 tw_405 tw_406 tw_5 tw_407 (by decide +kernel) (by decide) (by decide)) (by decide +kernel), ?_⟩
  refine ⟨ok_icmpge (off := 83) (by decide +kernel) (by decide), ?_⟩
  refine ⟨ok_aload (by decide +kernel), ?_⟩
  refine ⟨ok_iload (by decide +kernel), ?_⟩
  refine ⟨ok_callV (ix := 67) hc_2 ms_A_get (tb_cwV tw_692 tw_507 tw_508 tw_5 tw_509 (by decide +kernel) (by decide) (by decide)) (by decide +kernel), ?_⟩
  refine ⟨ok_castS (ix := 259) hc_11 tw_693 (by decide +kernel), ?_⟩
  refine ⟨ok_aload_n (z := 2) (by decide +kernel) rfl, ?_⟩
  refine ⟨ok_iload_n (z := 3) (by decide +kernel) rfl, ?_⟩
  refine ⟨ok_callV (ix := 261) hc_11 ms_U_copyQuality (tb_cwV tw_694 tw_675 tw_676 tw_22 tw_677 (by decide +kernel) (by decide) (by decide)) (by decide +kernel), ?_⟩
  refine ⟨ok_istore (by decide) (by decide +kernel), ?_⟩
  refine ⟨ok_iload (by decide +kernel), ?_⟩
  refine ⟨ok_ifne (off := 30) (by decide +kernel) (by decide), ?_⟩
  refine ⟨ok_aload_n (z := 0) (by decide +kernel) rfl, ?_⟩
  refine ⟨ok_iload_n (z := 1) (by decide +kernel) rfl, ?_⟩
  refine ⟨ok_callV (ix := 217) hc_5 ms_B_hasLineRoom (tb_cwV tw_695 tw_697 tv_18 tw_8 tw_698 (by decide +kernel) (by decide) (by decide)) (by decide +kernel), ?_⟩
  refine ⟨ok_ifeq (off := 22) (by decide +kernel) (by decide), ?_⟩
  refine ⟨ok_aload_n (z := 0) (by decide +kernel) rfl, ?_⟩
  refine ⟨ok_iload_n (z := 1) (by decide +kernel) rfl, ?_⟩
  refine ⟨ok_aload_n (z := 2) (by decide +kernel) rfl, ?_⟩
  refine ⟨ok_iconst (z := 0) (by decide +kernel) (by decide +kernel), ?_⟩
  refine ⟨ok_iconst (z := 0) (by decide +kernel) (by decide +kernel), ?_⟩
  refine ⟨ok_callV (ix := 209) hc_9 ms_M_copy (tb_cwV tw_699 tw_700 tw_701 tw_18 tw_702 (by decide +kernel) (by decide) (by decide)) (by decide +kernel), ?_⟩
  refine ⟨ok_iconst (z := 0) (by decide +kernel) (by decide +kernel), ?_⟩
  refine ⟨ok_iconst (z := 0) (by decide +kernel) (by decide +kernel), ?_⟩
  refine ⟨ok_callS (ix := 220) ms_P_ofMessage (tb_cwS tw_705 tw_471 tw_13 tw_472 (by decide +kernel) (by decide) (by decide)) (by decide +kernel), ?_⟩
  refine ⟨ok_callV (ix := 106) hc_5 ms_B_send (tb_cwV tw_706 tw_708 tv_19 tw_8 tw_709 (by decide +kernel) (by decide) (by decide)) (by decide +kernel), ?_⟩
  refine ⟨ok_goto (off := 28) (by decide +kernel) (by decide), ?_⟩
  refine ⟨ok_iload (by decide +kernel), ?_⟩
  refine ⟨ok_ifle (off := 23) (by decide +kernel) (by decide), ?_⟩
  refine ⟨ok_aload_n (z := 0) (by decide +kernel) rfl, ?_⟩
  refine ⟨ok_getf (ix := 19) hc_5 (by decide) hi_5 tw_208 (Or.inl rfl) (by decide +kernel), ?_⟩
  refine ⟨ok_iload_n (z := 1) (by decide +kernel) rfl, ?_⟩
  refine ⟨ok_aaldR (by decide +kernel), ?_⟩
  refine ⟨ok_getf (ix := 227) hc_7 (by decide) hi_7 tw_180 (Or.inl rfl) (by decide +kernel), ?_⟩
  refine ⟨ok_aload_n (z := 2) (by decide +kernel) rfl, ?_⟩
  refine ⟨ok_iload (by decide +kernel), ?_⟩
  refine ⟨ok_iconst (z := 0) (by decide +kernel) (by decide +kernel), ?_⟩
  refine ⟨ok_callV (ix := 209) hc_9 ms_M_copy (tb_cwV tw_699 tw_700 tw_701 tw_18 tw_702 (by decide +kernel) (by decide) (by decide)) (by decide +kernel), ?_⟩
  refine ⟨ok_callV (ix := 140) hc_2 ms_A_add (tb_cwV tw_710 tw_325 tw_326 tw_5 tw_327 (by decide +kernel) (by decide) (by decide)) (by decide +kernel), ?_⟩
  refine ⟨ok_pop (by decide +kernel), ?_⟩
  refine ⟨ok_iinc (z := 1) (by decide) (by decide +kernel) (by decide +kernel), ?_⟩
  refine ⟨ok_goto (off := (-87)) (by decide +kernel) (by decide), ?_⟩
  refine ⟨ok_vret rfl (by decide +kernel), ?_⟩
  exact trivial
theorem ms_B_spread : ev_Met l vc_L vt_L (gw_G b Ls xs z) my_B_spread (Cond.code my_B_spread prog_2_method_17_code 7 none :: tb_T) 8 198 (mf_B_spread z) := ev_sound (by decide +kernel) mg_B_spread
def my_B_findRetained : MethodName := ⟨"MessageHub$Broker", "findRetained", "(J)I"⟩
def mk_B_findRetained (z : Nat × Nat) : ev_C := [(0, ev_fn (ev_ci 0 1)), (1, ev_fn (ev_istore 3 2)), (2, ev_fn (ev_iload 3 3)), (3, ev_fn (ev_aload 0 4)), (4, ev_fn (ev_getf 5 3 7)), (7, ev_callR 2 (mf_A_size z) 1 10), (10, ev_fn (ev_icmpge 40 13)), (13, ev_fn (ev_aload 0 14)), (14, ev_fn (ev_getf 5 3 17)), (17, ev_fn (ev_iload 3 18)), (18, ev_callR 2 (mf_A_get z) 2 21), (21, ev_fn (ev_castS 9 24)), (24, ev_fn (ev_getf 9 0 27)), (27, ev_fn (ev_lload 1 28)), (28, ev_fn (ev_lcmp 29)), (29, ev_fn (ev_ifne 34 32)), (32, ev_fn (ev_iload 3 33)), (33, ev_fn ev_iret), (34, ev_fn (ev_iinc 3 1 37)), (37, ev_fn (ev_goto 2)), (40, ev_fn (ev_ci (-1) 41)), (41, ev_fn ev_iret)]
def mf_B_findRetained (z : Nat × Nat) : ev_F := ev_met (mk_B_findRetained z) 4
set_option maxHeartbeats 4000000 in
set_option maxRecDepth 100000 in
theorem mg_B_findRetained : ev_AllG (ev_Good l vc_L vt_L (gw_G b Ls xs z) prog_2_method_18_code 4 (some .int) my_B_findRetained.name my_B_findRetained.cls tb_T 3 64) (mk_B_findRetained z) := by
  refine ⟨ok_iconst (z := 0) (by decide +kernel) (by decide +kernel), ?_⟩
  refine ⟨ok_istore_n (z := 3) (by decide) (by decide +kernel) rfl, ?_⟩
  refine ⟨ok_iload_n (z := 3) (by decide +kernel) rfl, ?_⟩
  refine ⟨ok_aload_n (z := 0) (by decide +kernel) rfl, ?_⟩
  refine ⟨ok_getf (ix := 26) hc_5 (by decide) hi_5 tw_210 (Or.inl rfl) (by decide +kernel), ?_⟩
  refine ⟨ok_callV (ix := 144) hc_2 ms_A_size (tb_cwV tw_691 tw_405 tw_406 tw_5 tw_407 (by decide +kernel) (by decide) (by decide)) (by decide +kernel), ?_⟩
  refine ⟨ok_icmpge (off := 30) (by decide +kernel) (by decide), ?_⟩
  refine ⟨ok_aload_n (z := 0) (by decide +kernel) rfl, ?_⟩
  refine ⟨ok_getf (ix := 26) hc_5 (by decide) hi_5 tw_210 (Or.inl rfl) (by decide +kernel), ?_⟩
  refine ⟨ok_iload_n (z := 3) (by decide +kernel) rfl, ?_⟩
  refine ⟨ok_callV (ix := 67) hc_2 ms_A_get (tb_cwV tw_692 tw_507 tw_508 tw_5 tw_509 (by decide +kernel) (by decide) (by decide)) (by decide +kernel), ?_⟩
  refine ⟨ok_castS (ix := 71) hc_9 tw_719 (by decide +kernel), ?_⟩
  refine ⟨ok_getf (ix := 193) hc_9 (by decide) hi_9 tw_449 (Or.inl rfl) (by decide +kernel), ?_⟩
  refine ⟨ok_lload_n (z := 1) (by decide +kernel) rfl, ?_⟩
  refine ⟨ok_lcmp (by decide +kernel), ?_⟩
  refine ⟨ok_ifne (off := 5) (by decide +kernel) (by decide), ?_⟩
  refine ⟨ok_iload_n (z := 3) (by decide +kernel) rfl, ?_⟩
  refine ⟨ok_iret rfl (by decide +kernel), ?_⟩
  refine ⟨ok_iinc (z := 1) (by decide) (by decide +kernel) (by decide +kernel), ?_⟩
  refine ⟨ok_goto (off := (-35)) (by decide +kernel) (by decide), ?_⟩
  refine ⟨ok_iconst (z := (-1)) (by decide +kernel) (by decide +kernel), ?_⟩
  refine ⟨ok_iret rfl (by decide +kernel), ?_⟩
  exact trivial
theorem ms_B_findRetained : ev_Met l vc_L vt_L (gw_G b Ls xs z) my_B_findRetained (Cond.code my_B_findRetained prog_2_method_18_code 4 (some .int) :: tb_T) 3 64 (mf_B_findRetained z) := ev_sound (by decide +kernel) mg_B_findRetained
def my_A_set : MethodName := ⟨"java/util/ArrayList", "set", "(ILjava/lang/Object;)Ljava/lang/Object;"⟩
def mk_A_set (z : Nat × Nat) : ev_C := [(0, ev_fn (ev_iload 1 1)), (1, ev_fn (ev_aload 0 2)), (2, ev_fn (ev_getf 2 1 5)), (5, ev_call (mf_JO_checkIndex z) 2 8), (8, ev_fn (ev_pop 9)), (9, ev_fn (ev_aload 0 10)), (10, ev_fn (ev_iload 1 11)), (11, ev_callR 2 (mf_A_elementData z) 2 14), (14, ev_fn (ev_astore 3 15)), (15, ev_fn (ev_aload 0 16)), (16, ev_fn (ev_getf 2 0 19)), (19, ev_fn (ev_iload 1 20)), (20, ev_fn (ev_aload 2 21)), (21, ev_fn (ev_aastR 22)), (22, ev_fn (ev_aload 3 23)), (23, ev_fn ev_aret)]
def mf_A_set (z : Nat × Nat) : ev_F := ev_met (mk_A_set z) 4
set_option maxHeartbeats 4000000 in
set_option maxRecDepth 100000 in
theorem mg_A_set : ev_AllG (ev_Good l vc_L vt_L (gw_G b Ls xs z) prog_23_method_23_code 4 (some (.object "java/lang/Object")) my_A_set.name my_A_set.cls tb_T 2 43) (mk_A_set z) := by
  refine ⟨ok_iload_n (z := 1) (by decide +kernel) rfl, ?_⟩
  refine ⟨ok_aload_n (z := 0) (by decide +kernel) rfl, ?_⟩
  refine ⟨ok_getf (ix := 48) hc_2 (by decide) hi_2 tw_56 (Or.inl rfl) (by decide +kernel), ?_⟩
  refine ⟨ok_callS (ix := 118) ms_JO_checkIndex (tb_cwS tw_510 tw_511 tw_20 tw_512 (by decide +kernel) (by decide) (by decide)) (by decide +kernel), ?_⟩
  refine ⟨ok_pop (by decide +kernel), ?_⟩
  refine ⟨ok_aload_n (z := 0) (by decide +kernel) rfl, ?_⟩
  refine ⟨ok_iload_n (z := 1) (by decide +kernel) rfl, ?_⟩
  refine ⟨ok_callV (ix := 123) hc_2 ms_A_elementData (tb_cwV tw_516 tw_517 tw_518 tw_5 tw_519 (by decide +kernel) (by decide) (by decide)) (by decide +kernel), ?_⟩
  refine ⟨ok_astore_n (z := 3) (by decide) (by decide +kernel) rfl, ?_⟩
  refine ⟨ok_aload_n (z := 0) (by decide +kernel) rfl, ?_⟩
  refine ⟨ok_getf (ix := 9) hc_2 (by decide) hi_2 tw_55 (Or.inl rfl) (by decide +kernel), ?_⟩
  refine ⟨ok_iload_n (z := 1) (by decide +kernel) rfl, ?_⟩
  refine ⟨ok_aload_n (z := 2) (by decide +kernel) rfl, ?_⟩
  refine ⟨ok_aastR (by decide +kernel), ?_⟩
  refine ⟨ok_aload_n (z := 3) (by decide +kernel) rfl, ?_⟩
  refine ⟨ok_aret rfl (Or.inl ⟨_, rfl⟩) (by decide +kernel), ?_⟩
  exact trivial
theorem ms_A_set : ev_Met l vc_L vt_L (gw_G b Ls xs z) my_A_set (Cond.code my_A_set prog_23_method_23_code 4 (some (.object "java/lang/Object")) :: tb_T) 2 43 (mf_A_set z) := ev_sound (by decide +kernel) mg_A_set
def my_B_retain : MethodName := ⟨"MessageHub$Broker", "retain", "(LMessageHub$Message;)V"⟩
def mk_B_retain (z : Nat × Nat) : ev_C := [(0, ev_fn (ev_aload 0 1)), (1, ev_fn (ev_aload 1 2)), (2, ev_fn (ev_getf 9 0 5)), (5, ev_callR 5 (mf_B_findRetained z) 2 8), (8, ev_fn (ev_istore 2 9)), (9, ev_fn (ev_iload 2 10)), (10, ev_fn (ev_iflt 32 13)), (13, ev_fn (ev_aload 1 14)), (14, ev_fn (ev_getf 9 1 17)), (17, ev_fn (ev_ifne 32 20)), (20, ev_fn (ev_aload 0 21)), (21, ev_fn (ev_getf 5 3 24)), (24, ev_fn (ev_iload 2 25)), (25, ev_callR 2 (mf_A_remove z) 2 28), (28, ev_fn (ev_pop 29)), (29, ev_fn (ev_goto 76)), (32, ev_fn (ev_iload 2 33)), (33, ev_fn (ev_iflt 49 36)), (36, ev_fn (ev_aload 0 37)), (37, ev_fn (ev_getf 5 3 40)), (40, ev_fn (ev_iload 2 41)), (41, ev_fn (ev_aload 1 42)), (42, ev_callR 2 (mf_A_set z) 3 45), (45, ev_fn (ev_pop 46)), (46, ev_fn (ev_goto 76)), (49, ev_fn (ev_aload 1 50)), (50, ev_fn (ev_getf 9 1 53)), (53, ev_fn (ev_ifeq 76 56)), (56, ev_fn (ev_aload 0 57)), (57, ev_fn (ev_getf 5 3 60)), (60, ev_callR 2 (mf_A_size z) 1 63), (63, ev_fn (ev_ci 4 64)), (64, ev_fn (ev_icmpge 76 67)), (67, ev_fn (ev_aload 0 68)), (68, ev_fn (ev_getf 5 3 71)), (71, ev_fn (ev_aload 1 72)), (72, ev_callR 2 (mf_A_add z) 2 75), (75, ev_fn (ev_pop 76)), (76, ev_fn ev_vret)]
def mf_B_retain (z : Nat × Nat) : ev_F := ev_met (mk_B_retain z) 3
set_option maxHeartbeats 4000000 in
set_option maxRecDepth 100000 in
theorem mg_B_retain : ev_AllG (ev_Good l vc_L vt_L (gw_G b Ls xs z) prog_2_method_19_code 3 none my_B_retain.name my_B_retain.cls tb_T 7 176) (mk_B_retain z) := by
  refine ⟨ok_aload_n (z := 0) (by decide +kernel) rfl, ?_⟩
  refine ⟨ok_aload_n (z := 1) (by decide +kernel) rfl, ?_⟩
  refine ⟨ok_getf (ix := 193) hc_9 (by decide) hi_9 tw_449 (Or.inl rfl) (by decide +kernel), ?_⟩
  refine ⟨ok_callV (ix := 63) hc_5 ms_B_findRetained (tb_cwV tw_715 tw_717 tv_21 tw_8 tw_718 (by decide +kernel) (by decide) (by decide)) (by decide +kernel), ?_⟩
  refine ⟨ok_istore_n (z := 2) (by decide) (by decide +kernel) rfl, ?_⟩
  refine ⟨ok_iload_n (z := 2) (by decide +kernel) rfl, ?_⟩
  refine ⟨ok_iflt (off := 22) (by decide +kernel) (by decide), ?_⟩
  refine ⟨ok_aload_n (z := 1) (by decide +kernel) rfl, ?_⟩
  refine ⟨ok_getf (ix := 73) hc_9 (by decide) hi_9 tw_452 (Or.inl rfl) (by decide +kernel), ?_⟩
  refine ⟨ok_ifne (off := 15) (by decide +kernel) (by decide), ?_⟩
  refine ⟨ok_aload_n (z := 0) (by decide +kernel) rfl, ?_⟩
  refine ⟨ok_getf (ix := 26) hc_5 (by decide) hi_5 tw_210 (Or.inl rfl) (by decide +kernel), ?_⟩
  refine ⟨ok_iload_n (z := 2) (by decide +kernel) rfl, ?_⟩
  refine ⟨ok_callV (ix := 236) hc_2 ms_A_remove (tb_cwV tw_720 tw_544 tw_545 tw_5 tw_546 (by decide +kernel) (by decide) (by decide)) (by decide +kernel), ?_⟩
  refine ⟨ok_pop (by decide +kernel), ?_⟩
  refine ⟨ok_goto (off := 47) (by decide +kernel) (by decide), ?_⟩
  refine ⟨ok_iload_n (z := 2) (by decide +kernel) rfl, ?_⟩
  refine ⟨ok_iflt (off := 16) (by decide +kernel) (by decide), ?_⟩
  refine ⟨ok_aload_n (z := 0) (by decide +kernel) rfl, ?_⟩
  refine ⟨ok_getf (ix := 26) hc_5 (by decide) hi_5 tw_210 (Or.inl rfl) (by decide +kernel), ?_⟩
  refine ⟨ok_iload_n (z := 2) (by decide +kernel) rfl, ?_⟩
  refine ⟨ok_aload_n (z := 1) (by decide +kernel) rfl, ?_⟩
  refine ⟨ok_callV (ix := 264) hc_2 ms_A_set (tb_cwV tw_721 tw_722 tw_723 tw_5 tw_724 (by decide +kernel) (by decide) (by decide)) (by decide +kernel), ?_⟩
  refine ⟨ok_pop (by decide +kernel), ?_⟩
  refine ⟨ok_goto (off := 30) (by decide +kernel) (by decide), ?_⟩
  refine ⟨ok_aload_n (z := 1) (by decide +kernel) rfl, ?_⟩
  refine ⟨ok_getf (ix := 73) hc_9 (by decide) hi_9 tw_452 (Or.inl rfl) (by decide +kernel), ?_⟩
  refine ⟨ok_ifeq (off := 23) (by decide +kernel) (by decide), ?_⟩
  refine ⟨ok_aload_n (z := 0) (by decide +kernel) rfl, ?_⟩
  refine ⟨ok_getf (ix := 26) hc_5 (by decide) hi_5 tw_210 (Or.inl rfl) (by decide +kernel), ?_⟩
  refine ⟨ok_callV (ix := 144) hc_2 ms_A_size (tb_cwV tw_691 tw_405 tw_406 tw_5 tw_407 (by decide +kernel) (by decide) (by decide)) (by decide +kernel), ?_⟩
  refine ⟨ok_iconst (z := 4) (by decide +kernel) (by decide +kernel), ?_⟩
  refine ⟨ok_icmpge (off := 12) (by decide +kernel) (by decide), ?_⟩
  refine ⟨ok_aload_n (z := 0) (by decide +kernel) rfl, ?_⟩
  refine ⟨ok_getf (ix := 26) hc_5 (by decide) hi_5 tw_210 (Or.inl rfl) (by decide +kernel), ?_⟩
  refine ⟨ok_aload_n (z := 1) (by decide +kernel) rfl, ?_⟩
  refine ⟨ok_callV (ix := 140) hc_2 ms_A_add (tb_cwV tw_710 tw_325 tw_326 tw_5 tw_327 (by decide +kernel) (by decide) (by decide)) (by decide +kernel), ?_⟩
  refine ⟨ok_pop (by decide +kernel), ?_⟩
  refine ⟨ok_vret rfl (by decide +kernel), ?_⟩
  exact trivial
theorem ms_B_retain : ev_Met l vc_L vt_L (gw_G b Ls xs z) my_B_retain (Cond.code my_B_retain prog_2_method_19_code 3 none :: tb_T) 7 176 (mf_B_retain z) := ev_sound (by decide +kernel) mg_B_retain
end MT
