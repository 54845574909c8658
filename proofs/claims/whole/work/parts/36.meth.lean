/-! Methods as lists of steps, and that the machine does what they do (written by wip/whole/gen.py). -/
section MT
variable {l : Launch} {b Ls : Nat} {xs : Nat → Int32} {z : Nat × Nat}
def my_P_number : MethodName := ⟨"MessageHub$Packet", "number", "()J"⟩
def mk_P_number (z : Nat × Nat) : ev_C := [(0, ev_fn (ev_aload 0 1)), (1, ev_fn (ev_getf 8 0 4)), (4, ev_fn (ev_ci 16 6)), (6, ev_fn (ev_aload 0 7)), (7, ev_fn (ev_getf 8 4 10)), (10, ev_fn (ev_imul 11)), (11, ev_fn (ev_iadd 12)), (12, ev_fn (ev_aload 0 13)), (13, ev_fn (ev_getf 8 5 16)), (16, ev_fn (ev_ifeq 24 19)), (19, ev_fn (ev_ci 64 21)), (21, ev_fn (ev_goto 25)), (24, ev_fn (ev_ci 0 25)), (25, ev_fn (ev_iadd 26)), (26, ev_fn (ev_aload 0 27)), (27, ev_fn (ev_getf 8 6 30)), (30, ev_fn (ev_ifeq 39 33)), (33, ev_fn (ev_ci 128 36)), (36, ev_fn (ev_goto 40)), (39, ev_fn (ev_ci 0 40)), (40, ev_fn (ev_iadd 41)), (41, ev_fn (ev_ci 256 44)), (44, ev_fn (ev_aload 0 45)), (45, ev_fn (ev_getf 8 1 48)), (48, ev_fn (ev_imul 49)), (49, ev_fn (ev_iadd 50)), (50, ev_fn (ev_i2l 51)), (51, ev_fn (ev_cl 65536 54)), (54, ev_fn (ev_aload 0 55)), (55, ev_fn (ev_getf 8 2 58)), (58, ev_fn (ev_i2l 59)), (59, ev_fn (ev_lmul 60)), (60, ev_fn (ev_ladd 61)), (61, ev_fn ev_lret)]
def mf_P_number (z : Nat × Nat) : ev_F := ev_met (mk_P_number z) 1
set_option maxHeartbeats 4000000 in
set_option maxRecDepth 100000 in
theorem mg_P_number : ev_AllG (ev_Good l vc_L vt_L (gw_G b Ls xs z) prog_8_method_5_code 1 (some .long) my_P_number.name my_P_number.cls tb_T 0 0) (mk_P_number z) := by
  refine ⟨ok_aload_n (z := 0) (by decide +kernel) rfl, ?_⟩
  refine ⟨ok_getf (ix := 9) hc_8 (by decide) hi_8 tw_278 (Or.inl rfl) (by decide +kernel), ?_⟩
  refine ⟨ok_bipush (z := 16) (by decide +kernel) (by decide +kernel), ?_⟩
  refine ⟨ok_aload_n (z := 0) (by decide +kernel) rfl, ?_⟩
  refine ⟨ok_getf (ix := 37) hc_8 (by decide) hi_8 tw_291 (Or.inl rfl) (by decide +kernel), ?_⟩
  refine ⟨ok_imul (by decide +kernel), ?_⟩
  refine ⟨ok_iadd (by decide +kernel), ?_⟩
  refine ⟨ok_aload_n (z := 0) (by decide +kernel) rfl, ?_⟩
  refine ⟨ok_getf (ix := 38) hc_8 (by decide) hi_8 tw_294 (Or.inl rfl) (by decide +kernel), ?_⟩
  refine ⟨ok_ifeq (off := 8) (by decide +kernel) (by decide), ?_⟩
  refine ⟨ok_bipush (z := 64) (by decide +kernel) (by decide +kernel), ?_⟩
  refine ⟨ok_goto (off := 4) (by decide +kernel) (by decide), ?_⟩
  refine ⟨ok_iconst (z := 0) (by decide +kernel) (by decide +kernel), ?_⟩
  refine ⟨ok_iadd (by decide +kernel), ?_⟩
  refine ⟨ok_aload_n (z := 0) (by decide +kernel) rfl, ?_⟩
  refine ⟨ok_getf (ix := 45) hc_8 (by decide) hi_8 tw_295 (Or.inl rfl) (by decide +kernel), ?_⟩
  refine ⟨ok_ifeq (off := 9) (by decide +kernel) (by decide), ?_⟩
  refine ⟨ok_sipush (z := 128) (by decide +kernel) (by decide +kernel), ?_⟩
  refine ⟨ok_goto (off := 4) (by decide +kernel) (by decide), ?_⟩
  refine ⟨ok_iconst (z := 0) (by decide +kernel) (by decide +kernel), ?_⟩
  refine ⟨ok_iadd (by decide +kernel), ?_⟩
  refine ⟨ok_sipush (z := 256) (by decide +kernel) (by decide +kernel), ?_⟩
  refine ⟨ok_aload_n (z := 0) (by decide +kernel) rfl, ?_⟩
  refine ⟨ok_getf (ix := 15) hc_8 (by decide) hi_8 tw_282 (Or.inl rfl) (by decide +kernel), ?_⟩
  refine ⟨ok_imul (by decide +kernel), ?_⟩
  refine ⟨ok_iadd (by decide +kernel), ?_⟩
  refine ⟨ok_i2l (by decide +kernel), ?_⟩
  refine ⟨ok_ldc2 (ix := 57) tw_861 (by decide +kernel), ?_⟩
  refine ⟨ok_aload_n (z := 0) (by decide +kernel) rfl, ?_⟩
  refine ⟨ok_getf (ix := 18) hc_8 (by decide) hi_8 tw_285 (Or.inl rfl) (by decide +kernel), ?_⟩
  refine ⟨ok_i2l (by decide +kernel), ?_⟩
  refine ⟨ok_lmul (by decide +kernel), ?_⟩
  refine ⟨ok_ladd (by decide +kernel), ?_⟩
  refine ⟨ok_lret rfl (by decide +kernel), ?_⟩
  exact trivial
theorem ms_P_number : ev_Met l vc_L vt_L (gw_G b Ls xs z) my_P_number (Cond.code my_P_number prog_8_method_5_code 1 (some .long) :: tb_T) 0 0 (mf_P_number z) := ev_sound (by decide +kernel) mg_P_number
def my_H_packet : MethodName := ⟨"MessageHub", "packet", "(IZI)J"⟩
def mk_H_packet (z : Nat × Nat) : ev_C := [(0, ev_fn (ev_iload 1 1)), (1, ev_call (mf_H_isClient z) 1 4), (4, ev_fn (ev_ifeq 30 7)), (7, ev_fn (ev_iload 3 8)), (8, ev_fn (ev_ci 0 9)), (9, ev_fn (ev_aload 0 10)), (10, ev_fn (ev_getf 0 0 13)), (13, ev_fn (ev_iload 1 14)), (14, ev_fn (ev_aaldR 15)), (15, ev_fn (ev_iload 2 16)), (16, ev_callR 1 (mf_L_row z) 2 19), (19, ev_callR 2 (mf_A_size z) 1 22), (22, ev_fn (ev_ci 1 23)), (23, ev_fn (ev_isub 24)), (24, ev_call (mf_H_isWithin z) 3 27), (27, ev_fn (ev_ifne 32 30)), (30, ev_fn (ev_cl 0 31)), (31, ev_fn ev_lret), (32, ev_fn (ev_aload 0 33)), (33, ev_fn (ev_getf 0 0 36)), (36, ev_fn (ev_iload 1 37)), (37, ev_fn (ev_aaldR 38)), (38, ev_fn (ev_iload 2 39)), (39, ev_callR 1 (mf_L_row z) 2 42), (42, ev_fn (ev_iload 3 43)), (43, ev_callR 2 (mf_A_get z) 2 46), (46, ev_fn (ev_castS 8 49)), (49, ev_callR 8 (mf_P_number z) 1 52), (52, ev_fn ev_lret)]
def mf_H_packet (z : Nat × Nat) : ev_F := ev_met (mk_H_packet z) 4
set_option maxHeartbeats 4000000 in
set_option maxRecDepth 100000 in
theorem mg_H_packet : ev_AllG (ev_Good l vc_L vt_L (gw_G b Ls xs z) prog_1_method_17_code 4 (some .long) my_H_packet.name my_H_packet.cls tb_T 3 64) (mk_H_packet z) := by
  refine ⟨ok_iload_n (z := 1) (by decide +kernel) rfl, ?_⟩
  refine ⟨ok_callS (ix := 40) ms_H_isClient (tb_cwS tw_247 tw_248 tw_1 tw_249 (by decide +kernel) (by decide) (by decide)) (by decide +kernel), ?_⟩
  refine ⟨ok_ifeq (off := 26) (by decide +kernel) (by decide), ?_⟩
  refine ⟨ok_iload_n (z := 3) (by decide +kernel) rfl, ?_⟩
  refine ⟨ok_iconst (z := 0) (by decide +kernel) (by decide +kernel), ?_⟩
  refine ⟨ok_aload_n (z := 0) (by decide +kernel) rfl, ?_⟩
  refine ⟨ok_getf (ix := 11) hc_0 (by decide) hi_0 tw_224 (Or.inl rfl) (by decide +kernel), ?_⟩
  refine ⟨ok_iload_n (z := 1) (by decide +kernel) rfl, ?_⟩
  refine ⟨ok_aaldR (by decide +kernel), ?_⟩
  refine ⟨ok_iload_n (z := 2) (by decide +kernel) rfl, ?_⟩
  refine ⟨ok_callV (ix := 108) hc_1 ms_L_row (tb_cwV tw_535 tw_536 tw_537 tw_2 tw_538 (by decide +kernel) (by decide) (by decide)) (by decide +kernel), ?_⟩
  refine ⟨ok_callV (ix := 116) hc_2 ms_A_size (tb_cwV tw_404 tw_405 tw_406 tw_5 tw_407 (by decide +kernel) (by decide) (by decide)) (by decide +kernel), ?_⟩
  refine ⟨ok_iconst (z := 1) (by decide +kernel) (by decide +kernel), ?_⟩
  refine ⟨ok_isub (by decide +kernel), ?_⟩
  refine ⟨ok_callS (ix := 56) ms_H_isWithin (tb_cwS tw_250 tw_245 tw_1 tw_246 (by decide +kernel) (by decide) (by decide)) (by decide +kernel), ?_⟩
  refine ⟨ok_ifne (off := 5) (by decide +kernel) (by decide), ?_⟩
  refine ⟨ok_lconst (z := 0) (by decide +kernel) (by decide +kernel), ?_⟩
  refine ⟨ok_lret rfl (by decide +kernel), ?_⟩
  refine ⟨ok_aload_n (z := 0) (by decide +kernel) rfl, ?_⟩
  refine ⟨ok_getf (ix := 11) hc_0 (by decide) hi_0 tw_224 (Or.inl rfl) (by decide +kernel), ?_⟩
  refine ⟨ok_iload_n (z := 1) (by decide +kernel) rfl, ?_⟩
  refine ⟨ok_aaldR (by decide +kernel), ?_⟩
  refine ⟨ok_iload_n (z := 2) (by decide +kernel) rfl, ?_⟩
  refine ⟨ok_callV (ix := 108) hc_1 ms_L_row (tb_cwV tw_535 tw_536 tw_537 tw_2 tw_538 (by decide +kernel) (by decide) (by decide)) (by decide +kernel), ?_⟩
  refine ⟨ok_iload_n (z := 3) (by decide +kernel) rfl, ?_⟩
  refine ⟨ok_callV (ix := 168) hc_2 ms_A_get (tb_cwV tw_856 tw_507 tw_508 tw_5 tw_509 (by decide +kernel) (by decide) (by decide)) (by decide +kernel), ?_⟩
  refine ⟨ok_castS (ix := 74) hc_8 tw_408 (by decide +kernel), ?_⟩
  refine ⟨ok_callV (ix := 171) hc_8 ms_P_number (tb_cwV tw_857 tw_858 tw_859 tw_13 tw_860 (by decide +kernel) (by decide) (by decide)) (by decide +kernel), ?_⟩
  refine ⟨ok_lret rfl (by decide +kernel), ?_⟩
  exact trivial
theorem ms_H_packet : ev_Met l vc_L vt_L (gw_G b Ls xs z) my_H_packet (Cond.code my_H_packet prog_1_method_17_code 4 (some .long) :: tb_T) 3 64 (mf_H_packet z) := ev_sound (by decide +kernel) mg_H_packet
def my_C_received : MethodName := ⟨"MessageHub$Client", "received", "(I)I"⟩
def mk_C_received (z : Nat × Nat) : ev_C := [(0, ev_fn (ev_iload 1 1)), (1, ev_fn (ev_ci (-1) 2)), (2, ev_fn (ev_icmpne 10 5)), (5, ev_fn (ev_aload 0 6)), (6, ev_fn (ev_getf 3 4 9)), (9, ev_fn ev_iret), (10, ev_fn (ev_iload 1 11)), (11, ev_fn (ev_ci 0 12)), (12, ev_fn (ev_ci 99 14)), (14, ev_call (mf_H_isWithin z) 3 17), (17, ev_fn (ev_ifeq 37 20)), (20, ev_fn (ev_iload 1 21)), (21, ev_fn (ev_aload 0 22)), (22, ev_fn (ev_getf 3 4 25)), (25, ev_fn (ev_icmpge 37 28)), (28, ev_fn (ev_aload 0 29)), (29, ev_fn (ev_getf 3 3 32)), (32, ev_fn (ev_iload 1 33)), (33, ev_fn (ev_iald 34)), (34, ev_fn (ev_goto 38)), (37, ev_fn (ev_ci 0 38)), (38, ev_fn ev_iret)]
def mf_C_received (z : Nat × Nat) : ev_F := ev_met (mk_C_received z) 2
set_option maxHeartbeats 4000000 in
set_option maxRecDepth 100000 in
theorem mg_C_received : ev_AllG (ev_Good l vc_L vt_L (gw_G b Ls xs z) prog_3_method_6_code 2 (some .int) my_C_received.name my_C_received.cls tb_T 1 22) (mk_C_received z) := by
  refine ⟨ok_iload_n (z := 1) (by decide +kernel) rfl, ?_⟩
  refine ⟨ok_iconst (z := (-1)) (by decide +kernel) (by decide +kernel), ?_⟩
  refine ⟨ok_icmpne (off := 8) (by decide +kernel) (by decide), ?_⟩
  refine ⟨ok_aload_n (z := 0) (by decide +kernel) rfl, ?_⟩
  refine ⟨ok_getf (ix := 90) hc_3 (by decide) hi_3 tw_109 (Or.inl rfl) (by decide +kernel), ?_⟩
  refine ⟨ok_iret rfl (by decide +kernel), ?_⟩
  refine ⟨ok_iload_n (z := 1) (by decide +kernel) rfl, ?_⟩
  refine ⟨ok_iconst (z := 0) (by decide +kernel) (by decide +kernel), ?_⟩
  refine ⟨ok_bipush (z := 99) (by decide +kernel) (by decide +kernel), ?_⟩
  refine ⟨ok_callSN (ix := 93) ms_H_isWithin (tb_cwSN gw_n596 tw_245 tw_1 tw_246 (by decide +kernel) (by decide) (by decide)) (by decide +kernel), ?_⟩
  refine ⟨ok_ifeq (off := 20) (by decide +kernel) (by decide), ?_⟩
  refine ⟨ok_iload_n (z := 1) (by decide +kernel) rfl, ?_⟩
  refine ⟨ok_aload_n (z := 0) (by decide +kernel) rfl, ?_⟩
  refine ⟨ok_getf (ix := 90) hc_3 (by decide) hi_3 tw_109 (Or.inl rfl) (by decide +kernel), ?_⟩
  refine ⟨ok_icmpge (off := 12) (by decide +kernel) (by decide), ?_⟩
  refine ⟨ok_aload_n (z := 0) (by decide +kernel) rfl, ?_⟩
  refine ⟨ok_getf (ix := 25) hc_3 (by decide) hi_3 tw_108 (Or.inl rfl) (by decide +kernel), ?_⟩
  refine ⟨ok_iload_n (z := 1) (by decide +kernel) rfl, ?_⟩
  refine ⟨ok_iald rfl (by decide +kernel), ?_⟩
  refine ⟨ok_goto (off := 4) (by decide +kernel) (by decide), ?_⟩
  refine ⟨ok_iconst (z := 0) (by decide +kernel) (by decide +kernel), ?_⟩
  refine ⟨ok_iret rfl (by decide +kernel), ?_⟩
  exact trivial
theorem ms_C_received : ev_Met l vc_L vt_L (gw_G b Ls xs z) my_C_received (Cond.code my_C_received prog_3_method_6_code 2 (some .int) :: tb_T) 1 22 (mf_C_received z) := ev_sound (by decide +kernel) mg_C_received
def my_H_inbox : MethodName := ⟨"MessageHub", "inbox", "(II)I"⟩
def mk_H_inbox (z : Nat × Nat) : ev_C := [(0, ev_fn (ev_iload 1 1)), (1, ev_call (mf_H_isClient z) 1 4), (4, ev_fn (ev_ifeq 20 7)), (7, ev_fn (ev_aload 0 8)), (8, ev_fn (ev_getf 0 1 11)), (11, ev_fn (ev_iload 1 12)), (12, ev_fn (ev_aaldR 13)), (13, ev_fn (ev_iload 2 14)), (14, ev_callR 3 (mf_C_received z) 2 17), (17, ev_fn (ev_goto 21)), (20, ev_fn (ev_ci 0 21)), (21, ev_fn ev_iret)]
def mf_H_inbox (z : Nat × Nat) : ev_F := ev_met (mk_H_inbox z) 3
set_option maxHeartbeats 4000000 in
set_option maxRecDepth 100000 in
theorem mg_H_inbox : ev_AllG (ev_Good l vc_L vt_L (gw_G b Ls xs z) prog_1_method_18_code 3 (some .int) my_H_inbox.name my_H_inbox.cls tb_T 2 43) (mk_H_inbox z) := by
  refine ⟨ok_iload_n (z := 1) (by decide +kernel) rfl, ?_⟩
  refine ⟨ok_callS (ix := 40) ms_H_isClient (tb_cwS tw_247 tw_248 tw_1 tw_249 (by decide +kernel) (by decide) (by decide)) (by decide +kernel), ?_⟩
  refine ⟨ok_ifeq (off := 16) (by decide +kernel) (by decide), ?_⟩
  refine ⟨ok_aload_n (z := 0) (by decide +kernel) rfl, ?_⟩
  refine ⟨ok_getf (ix := 17) hc_0 (by decide) hi_0 tw_225 (Or.inl rfl) (by decide +kernel), ?_⟩
  refine ⟨ok_iload_n (z := 1) (by decide +kernel) rfl, ?_⟩
  refine ⟨ok_aaldR (by decide +kernel), ?_⟩
  refine ⟨ok_iload_n (z := 2) (by decide +kernel) rfl, ?_⟩
  refine ⟨ok_callV (ix := 175) hc_3 ms_C_received (tb_cwV tw_866 tw_867 tw_868 tw_6 tw_869 (by decide +kernel) (by decide) (by decide)) (by decide +kernel), ?_⟩
  refine ⟨ok_goto (off := 4) (by decide +kernel) (by decide), ?_⟩
  refine ⟨ok_iconst (z := 0) (by decide +kernel) (by decide +kernel), ?_⟩
  refine ⟨ok_iret rfl (by decide +kernel), ?_⟩
  exact trivial
theorem ms_H_inbox : ev_Met l vc_L vt_L (gw_G b Ls xs z) my_H_inbox (Cond.code my_H_inbox prog_1_method_18_code 3 (some .int) :: tb_T) 2 43 (mf_H_inbox z) := ev_sound (by decide +kernel) mg_H_inbox
def my_C_summary : MethodName := ⟨"MessageHub$Client", "summary", "()I"⟩
def mk_C_summary (z : Nat × Nat) : ev_C := [(0, ev_fn (ev_aload 0 1)), (1, ev_fn (ev_getf 3 1 4)), (4, ev_callR 2 (mf_A_size z) 1 7), (7, ev_fn (ev_ci 8 9)), (9, ev_fn (ev_aload 0 10)), (10, ev_fn (ev_getf 3 1 13)), (13, ev_call (mf_R_countUnderWay z) 1 16), (16, ev_fn (ev_imul 17)), (17, ev_fn (ev_iadd 18)), (18, ev_fn (ev_ci 64 20)), (20, ev_fn (ev_aload 0 21)), (21, ev_fn (ev_getf 3 2 24)), (24, ev_callR 4 (mf_I_count z) 1 27), (27, ev_fn (ev_imul 28)), (28, ev_fn (ev_iadd 29)), (29, ev_fn ev_iret)]
def mf_C_summary (z : Nat × Nat) : ev_F := ev_met (mk_C_summary z) 1
set_option maxHeartbeats 4000000 in
set_option maxRecDepth 100000 in
theorem mg_C_summary : ev_AllG (ev_Good l vc_L vt_L (gw_G b Ls xs z) prog_3_method_7_code 1 (some .int) my_C_summary.name my_C_summary.cls tb_T 4 86) (mk_C_summary z) := by
  refine ⟨ok_aload_n (z := 0) (by decide +kernel) rfl, ?_⟩
  refine ⟨ok_getf (ix := 12) hc_3 (by decide) hi_3 tw_105 (Or.inl rfl) (by decide +kernel), ?_⟩
  refine ⟨ok_callV (ix := 97) hc_2 ms_A_size (tb_cwV tw_521 tw_405 tw_406 tw_5 tw_407 (by decide +kernel) (by decide) (by decide)) (by decide +kernel), ?_⟩
  refine ⟨ok_bipush (z := 8) (by decide +kernel) (by decide +kernel), ?_⟩
  refine ⟨ok_aload_n (z := 0) (by decide +kernel) rfl, ?_⟩
  refine ⟨ok_getf (ix := 12) hc_3 (by decide) hi_3 tw_105 (Or.inl rfl) (by decide +kernel), ?_⟩
  refine ⟨ok_callS (ix := 101) ms_R_countUnderWay (tb_cwS tw_502 tw_503 tw_19 tw_504 (by decide +kernel) (by decide) (by decide)) (by decide +kernel), ?_⟩
  refine ⟨ok_imul (by decide +kernel), ?_⟩
  refine ⟨ok_iadd (by decide +kernel), ?_⟩
  refine ⟨ok_bipush (z := 64) (by decide +kernel) (by decide +kernel), ?_⟩
  refine ⟨ok_aload_n (z := 0) (by decide +kernel) rfl, ?_⟩
  refine ⟨ok_getf (ix := 21) hc_3 (by decide) hi_3 tw_107 (Or.inl rfl) (by decide +kernel), ?_⟩
  refine ⟨ok_callV (ix := 105) hc_4 ms_I_count (tb_cwV tw_878 tw_839 tw_840 tw_7 tw_841 (by decide +kernel) (by decide) (by decide)) (by decide +kernel), ?_⟩
  refine ⟨ok_imul (by decide +kernel), ?_⟩
  refine ⟨ok_iadd (by decide +kernel), ?_⟩
  refine ⟨ok_iret rfl (by decide +kernel), ?_⟩
  exact trivial
theorem ms_C_summary : ev_Met l vc_L vt_L (gw_G b Ls xs z) my_C_summary (Cond.code my_C_summary prog_3_method_7_code 1 (some .int) :: tb_T) 4 86 (mf_C_summary z) := ev_sound (by decide +kernel) mg_C_summary
def my_H_store : MethodName := ⟨"MessageHub", "store", "(I)I"⟩
def mk_H_store (z : Nat × Nat) : ev_C := [(0, ev_fn (ev_iload 1 1)), (1, ev_call (mf_H_isClient z) 1 4), (4, ev_fn (ev_ifeq 19 7)), (7, ev_fn (ev_aload 0 8)), (8, ev_fn (ev_getf 0 1 11)), (11, ev_fn (ev_iload 1 12)), (12, ev_fn (ev_aaldR 13)), (13, ev_callR 3 (mf_C_summary z) 1 16), (16, ev_fn (ev_goto 20)), (19, ev_fn (ev_ci (-1) 20)), (20, ev_fn ev_iret)]
def mf_H_store (z : Nat × Nat) : ev_F := ev_met (mk_H_store z) 2
set_option maxHeartbeats 4000000 in
set_option maxRecDepth 100000 in
theorem mg_H_store : ev_AllG (ev_Good l vc_L vt_L (gw_G b Ls xs z) prog_1_method_19_code 2 (some .int) my_H_store.name my_H_store.cls tb_T 5 106) (mk_H_store z) := by
  refine ⟨ok_iload_n (z := 1) (by decide +kernel) rfl, ?_⟩
  refine ⟨ok_callS (ix := 40) ms_H_isClient (tb_cwS tw_247 tw_248 tw_1 tw_249 (by decide +kernel) (by decide) (by decide)) (by decide +kernel), ?_⟩
  refine ⟨ok_ifeq (off := 15) (by decide +kernel) (by decide), ?_⟩
  refine ⟨ok_aload_n (z := 0) (by decide +kernel) rfl, ?_⟩
  refine ⟨ok_getf (ix := 17) hc_0 (by decide) hi_0 tw_225 (Or.inl rfl) (by decide +kernel), ?_⟩
  refine ⟨ok_iload_n (z := 1) (by decide +kernel) rfl, ?_⟩
  refine ⟨ok_aaldR (by decide +kernel), ?_⟩
  refine ⟨ok_callV (ix := 179) hc_3 ms_C_summary (tb_cwV tw_874 tw_875 tw_876 tw_6 tw_877 (by decide +kernel) (by decide) (by decide)) (by decide +kernel), ?_⟩
  refine ⟨ok_goto (off := 4) (by decide +kernel) (by decide), ?_⟩
  refine ⟨ok_iconst (z := (-1)) (by decide +kernel) (by decide +kernel), ?_⟩
  refine ⟨ok_iret rfl (by decide +kernel), ?_⟩
  exact trivial
theorem ms_H_store : ev_Met l vc_L vt_L (gw_G b Ls xs z) my_H_store (Cond.code my_H_store prog_1_method_19_code 2 (some .int) :: tb_T) 5 106 (mf_H_store z) := ev_sound (by decide +kernel) mg_H_store
def my_B_retainedValue : MethodName := ⟨"MessageHub$Broker", "retainedValue", "(J)I"⟩
def mk_B_retainedValue (z : Nat × Nat) : ev_C := [(0, ev_fn (ev_aload 0 1)), (1, ev_fn (ev_lload 1 2)), (2, ev_callR 5 (mf_B_findRetained z) 2 5), (5, ev_fn (ev_istore 3 6)), (6, ev_fn (ev_iload 3 7)), (7, ev_fn (ev_ifge 14 10)), (10, ev_fn (ev_ci 0 11)), (11, ev_fn (ev_goto 28)), (14, ev_fn (ev_aload 0 15)), (15, ev_fn (ev_getf 5 3 18)), (18, ev_fn (ev_iload 3 19)), (19, ev_callR 2 (mf_A_get z) 2 22), (22, ev_fn (ev_castS 9 25)), (25, ev_fn (ev_getf 9 1 28)), (28, ev_fn ev_iret)]
def mf_B_retainedValue (z : Nat × Nat) : ev_F := ev_met (mk_B_retainedValue z) 4
set_option maxHeartbeats 4000000 in
set_option maxRecDepth 100000 in
theorem mg_B_retainedValue : ev_AllG (ev_Good l vc_L vt_L (gw_G b Ls xs z) prog_2_method_5_code 4 (some .int) my_B_retainedValue.name my_B_retainedValue.cls tb_T 4 87) (mk_B_retainedValue z) := by
  refine ⟨ok_aload_n (z := 0) (by decide +kernel) rfl, ?_⟩
  refine ⟨ok_lload_n (z := 1) (by decide +kernel) rfl, ?_⟩
  refine ⟨ok_callV (ix := 63) hc_5 ms_B_findRetained (tb_cwV tw_715 tw_717 tv_21 tw_8 tw_718 (by decide +kernel) (by decide) (by decide)) (by decide +kernel), ?_⟩
  refine ⟨ok_istore_n (z := 3) (by decide) (by decide +kernel) rfl, ?_⟩
  refine ⟨ok_iload_n (z := 3) (by decide +kernel) rfl, ?_⟩
  refine ⟨ok_ifge (off := 7) (by decide +kernel) (by decide), ?_⟩
  refine ⟨ok_iconst (z := 0) (by decide +kernel) (by decide +kernel), ?_⟩
  refine ⟨ok_goto (off := 17) (by decide +kernel) (by decide), ?_⟩
  refine ⟨ok_aload_n (z := 0) (by decide +kernel) rfl, ?_⟩
  refine ⟨ok_getf (ix := 26) hc_5 (by decide) hi_5 tw_210 (Or.inl rfl) (by decide +kernel), ?_⟩
  refine ⟨ok_iload_n (z := 3) (by decide +kernel) rfl, ?_⟩
  refine ⟨ok_callV (ix := 67) hc_2 ms_A_get (tb_cwV tw_692 tw_507 tw_508 tw_5 tw_509 (by decide +kernel) (by decide) (by decide)) (by decide +kernel), ?_⟩
  refine ⟨ok_castS (ix := 71) hc_9 tw_719 (by decide +kernel), ?_⟩
  refine ⟨ok_getf (ix := 73) hc_9 (by decide) hi_9 tw_452 (Or.inl rfl) (by decide +kernel), ?_⟩
  refine ⟨ok_iret rfl (by decide +kernel), ?_⟩
  exact trivial
theorem ms_B_retainedValue : ev_Met l vc_L vt_L (gw_G b Ls xs z) my_B_retainedValue (Cond.code my_B_retainedValue prog_2_method_5_code 4 (some .int) :: tb_T) 4 87 (mf_B_retainedValue z) := ev_sound (by decide +kernel) mg_B_retainedValue
def my_H_retained : MethodName := ⟨"MessageHub", "retained", "(J)I"⟩
def mk_H_retained (z : Nat × Nat) : ev_C := [(0, ev_fn (ev_aload 0 1)), (1, ev_fn (ev_getf 0 2 4)), (4, ev_fn (ev_lload 1 5)), (5, ev_call (mf_T_read z) 1 8), (8, ev_callR 5 (mf_B_retainedValue z) 2 11), (11, ev_fn ev_iret)]
def mf_H_retained (z : Nat × Nat) : ev_F := ev_met (mk_H_retained z) 3
set_option maxHeartbeats 4000000 in
set_option maxRecDepth 100000 in
theorem mg_H_retained : ev_AllG (ev_Good l vc_L vt_L (gw_G b Ls xs z) prog_1_method_20_code 3 (some .int) my_H_retained.name my_H_retained.cls tb_T 5 110) (mk_H_retained z) := by
  refine ⟨ok_aload_n (z := 0) (by decide +kernel) rfl, ?_⟩
  refine ⟨ok_getf (ix := 30) hc_0 (by decide) hi_0 tw_226 (Or.inl rfl) (by decide +kernel), ?_⟩
  refine ⟨ok_lload_n (z := 1) (by decide +kernel) rfl, ?_⟩
  refine ⟨ok_callS (ix := 34) ms_T_read (tb_cwS tw_238 tw_239 tw_12 tw_240 (by decide +kernel) (by decide) (by decide)) (by decide +kernel), ?_⟩
  refine ⟨ok_callV (ix := 180) hc_5 ms_B_retainedValue (tb_cwV tw_883 tw_884 tw_885 tw_8 tw_886 (by decide +kernel) (by decide) (by decide)) (by decide +kernel), ?_⟩
  refine ⟨ok_iret rfl (by decide +kernel), ?_⟩
  exact trivial
theorem ms_H_retained : ev_Met l vc_L vt_L (gw_G b Ls xs z) my_H_retained (Cond.code my_H_retained prog_1_method_20_code 3 (some .int) :: tb_T) 5 110 (mf_H_retained z) := ev_sound (by decide +kernel) mg_H_retained
def my_H_matches : MethodName := ⟨"MessageHub", "matches", "(JJ)Z"⟩
def mk_H_matches (z : Nat × Nat) : ev_C := [(0, ev_fn (ev_lload 1 1)), (1, ev_call (mf_T_read z) 1 4), (4, ev_fn (ev_lstore 5 6)), (6, ev_fn (ev_lload 3 7)), (7, ev_call (mf_T_read z) 1 10), (10, ev_fn (ev_lstore 7 12)), (12, ev_fn (ev_lload 5 14)), (14, ev_call (mf_T_isFilter z) 1 17), (17, ev_fn (ev_ifeq 42 20)), (20, ev_fn (ev_lload 7 22)), (22, ev_call (mf_T_isTopic z) 1 25), (25, ev_fn (ev_ifeq 42 28)), (28, ev_fn (ev_lload 5 30)), (30, ev_fn (ev_lload 7 32)), (32, ev_call (mf_T_covers z) 2 35), (35, ev_fn (ev_ifeq 42 38)), (38, ev_fn (ev_ci 1 39)), (39, ev_fn (ev_goto 43)), (42, ev_fn (ev_ci 0 43)), (43, ev_fn (ev_zret .boolean))]
def mf_H_matches (z : Nat × Nat) : ev_F := ev_met (mk_H_matches z) 9
set_option maxHeartbeats 4000000 in
set_option maxRecDepth 100000 in
theorem mg_H_matches : ev_AllG (ev_Good l vc_L vt_L (gw_G b Ls xs z) prog_1_method_21_code 9 (some .boolean) my_H_matches.name my_H_matches.cls tb_T 4 92) (mk_H_matches z) := by
  refine ⟨ok_lload_n (z := 1) (by decide +kernel) rfl, ?_⟩
  refine ⟨ok_callS (ix := 34) ms_T_read (tb_cwS tw_238 tw_239 tw_12 tw_240 (by decide +kernel) (by decide) (by decide)) (by decide +kernel), ?_⟩
  refine ⟨ok_lstore (by decide) (by decide +kernel), ?_⟩
  refine ⟨ok_lload_n (z := 3) (by decide +kernel) rfl, ?_⟩
  refine ⟨ok_callS (ix := 34) ms_T_read (tb_cwS tw_238 tw_239 tw_12 tw_240 (by decide +kernel) (by decide) (by decide)) (by decide +kernel), ?_⟩
  refine ⟨ok_lstore (by decide) (by decide +kernel), ?_⟩
  refine ⟨ok_lload (by decide +kernel), ?_⟩
  refine ⟨ok_callS (ix := 85) ms_T_isFilter (tb_cwS tw_419 tw_420 tw_12 tw_421 (by decide +kernel) (by decide) (by decide)) (by decide +kernel), ?_⟩
  refine ⟨ok_ifeq (off := 25) (by decide +kernel) (by decide), ?_⟩
  refine ⟨ok_lload (by decide +kernel), ?_⟩
  refine ⟨ok_callS (ix := 44) ms_T_isTopic (tb_cwS tw_251 tw_252 tw_12 tw_253 (by decide +kernel) (by decide) (by decide)) (by decide +kernel), ?_⟩
  refine ⟨ok_ifeq (off := 17) (by decide +kernel) (by decide), ?_⟩
  refine ⟨ok_lload (by decide +kernel), ?_⟩
  refine ⟨ok_lload (by decide +kernel), ?_⟩
  refine ⟨ok_callS (ix := 184) ms_T_covers (tb_cwS tw_891 tw_679 tw_12 tw_680 (by decide +kernel) (by decide) (by decide)) (by decide +kernel), ?_⟩
  refine ⟨ok_ifeq (off := 7) (by decide +kernel) (by decide), ?_⟩
  refine ⟨ok_iconst (z := 1) (by decide +kernel) (by decide +kernel), ?_⟩
  refine ⟨ok_goto (off := 4) (by decide +kernel) (by decide), ?_⟩
  refine ⟨ok_iconst (z := 0) (by decide +kernel) (by decide +kernel), ?_⟩
  refine ⟨ok_zret rfl (by decide +kernel), ?_⟩
  exact trivial
theorem ms_H_matches : ev_Met l vc_L vt_L (gw_G b Ls xs z) my_H_matches (Cond.code my_H_matches prog_1_method_21_code 9 (some .boolean) :: tb_T) 4 92 (mf_H_matches z) := ev_sound (by decide +kernel) mg_H_matches
def my_Z_init : MethodName := ⟨"MessageHubModel", "<init>", "()V"⟩
def mk_Z_init_0 (z : Nat × Nat) : ev_C := [(0, ev_fn (ev_aload 0 1)), (1, ev_fn (ev_obji 4)), (4, ev_fn (ev_aload 0 5)), (5, ev_fn (ev_ci 6 7)), (7, ev_fn (ev_newi 9)), (9, ev_fn (ev_putf 12 0 (.array .int) 12)), (12, ev_fn (ev_aload 0 13)), (13, ev_fn (ev_ci 192 16)), (16, ev_fn (ev_newi 18)), (18, ev_fn (ev_putf 12 1 (.array .int) 21)), (21, ev_fn (ev_aload 0 22)), (22, ev_fn (ev_ci 192 25)), (25, ev_fn (ev_newi 27)), (27, ev_fn (ev_putf 12 2 (.array .int) 30)), (30, ev_fn (ev_aload 0 31)), (31, ev_fn (ev_ci 192 34)), (34, ev_fn (ev_newi 36)), (36, ev_fn (ev_putf 12 3 (.array .int) 39)), (39, ev_fn (ev_aload 0 40)), (40, ev_fn (ev_ci 192 43)), (43, ev_fn (ev_newi 45)), (45, ev_fn (ev_putf 12 4 (.array .int) 48)), (48, ev_fn (ev_aload 0 49)), (49, ev_fn (ev_ci 192 52)), (52, ev_fn (ev_newz 54)), (54, ev_fn (ev_putf 12 5 (.array .boolean) 57)), (57, ev_fn (ev_aload 0 58)), (58, ev_fn (ev_ci 192 61)), (61, ev_fn (ev_newz 63)), (63, ev_fn (ev_putf 12 6 (.array .boolean) 66)), (66, ev_fn (ev_aload 0 67)), (67, ev_fn (ev_ci 192 70)), (70, ev_fn (ev_newl 72)), (72, ev_fn (ev_putf 12 7 (.array .long) 75)), (75, ev_fn (ev_aload 0 76)), (76, ev_fn (ev_ci 192 79)), (79, ev_fn (ev_newi 81)), (81, ev_fn (ev_putf 12 8 (.array .int) 84)), (84, ev_fn (ev_aload 0 85)), (85, ev_fn (ev_ci 192 88)), (88, ev_fn (ev_newi 90)), (90, ev_fn (ev_putf 12 9 (.array .int) 93)), (93, ev_fn (ev_aload 0 94)), (94, ev_fn (ev_ci 192 97)), (97, ev_fn (ev_newl 99)), (99, ev_fn (ev_putf 12 10 (.array .long) 102)), (102, ev_fn (ev_aload 0 103)), (103, ev_fn (ev_ci 192 106)), (106, ev_fn (ev_newi 108)), (108, ev_fn (ev_putf 12 11 (.array .int) 111)), (111, ev_fn (ev_aload 0 112)), (112, ev_fn (ev_ci 3 113)), (113, ev_fn (ev_newi 115)), (115, ev_fn (ev_putf 12 22 (.array .int) 118)), (118, ev_fn (ev_aload 0 119)), (119, ev_fn (ev_ci 3 120)), (120, ev_fn (ev_newi 122)), (122, ev_fn (ev_putf 12 23 (.array .int) 125)), (125, ev_fn (ev_aload 0 126)), (126, ev_fn (ev_ci 12 128))]
def mk_Z_init_1 (z : Nat × Nat) : ev_C := [(128, ev_fn (ev_newl 130)), (130, ev_fn (ev_putf 12 24 (.array .long) 133)), (133, ev_fn (ev_aload 0 134)), (134, ev_fn (ev_ci 12 136)), (136, ev_fn (ev_newi 138)), (138, ev_fn (ev_putf 12 25 (.array .int) 141)), (141, ev_fn (ev_aload 0 142)), (142, ev_fn (ev_ci 12 144)), (144, ev_fn (ev_newi 146)), (146, ev_fn (ev_putf 12 26 (.array .int) 149)), (149, ev_fn (ev_aload 0 150)), (150, ev_fn (ev_ci 12 152)), (152, ev_fn (ev_newz 154)), (154, ev_fn (ev_putf 12 27 (.array .boolean) 157)), (157, ev_fn (ev_aload 0 158)), (158, ev_fn (ev_ci 12 160)), (160, ev_fn (ev_newi 162)), (162, ev_fn (ev_putf 12 28 (.array .int) 165)), (165, ev_fn (ev_aload 0 166)), (166, ev_fn (ev_ci 12 168)), (168, ev_fn (ev_newi 170)), (170, ev_fn (ev_putf 12 29 (.array .int) 173)), (173, ev_fn (ev_aload 0 174)), (174, ev_fn (ev_ci 27 176)), (176, ev_fn (ev_newz 178)), (178, ev_fn (ev_putf 12 30 (.array .boolean) 181)), (181, ev_fn (ev_aload 0 182)), (182, ev_fn (ev_ci 3 183)), (183, ev_fn (ev_newi 185)), (185, ev_fn (ev_putf 12 31 (.array .int) 188)), (188, ev_fn (ev_aload 0 189)), (189, ev_fn (ev_ci 300 192)), (192, ev_fn (ev_newi 194)), (194, ev_fn (ev_putf 12 32 (.array .int) 197)), (197, ev_fn (ev_aload 0 198)), (198, ev_fn (ev_ci 3 199)), (199, ev_fn (ev_newl 201)), (201, ev_fn (ev_putf 12 33 (.array .long) 204)), (204, ev_fn (ev_aload 0 205)), (205, ev_fn (ev_ci 3 206)), (206, ev_fn (ev_newi 208)), (208, ev_fn (ev_putf 12 34 (.array .int) 211)), (211, ev_fn (ev_aload 0 212)), (212, ev_fn (ev_ci 3 213)), (213, ev_fn (ev_newz 215)), (215, ev_fn (ev_putf 12 35 (.array .boolean) 218)), (218, ev_fn (ev_aload 0 219)), (219, ev_fn (ev_ci 3 220)), (220, ev_fn (ev_newz 222)), (222, ev_fn (ev_putf 12 36 (.array .boolean) 225)), (225, ev_fn (ev_aload 0 226)), (226, ev_fn (ev_ci 3 227)), (227, ev_fn (ev_newi 229)), (229, ev_fn (ev_putf 12 37 (.array .int) 232)), (232, ev_fn (ev_aload 0 233)), (233, ev_fn (ev_ci 3 234)), (234, ev_fn (ev_newi 236)), (236, ev_fn (ev_putf 12 38 (.array .int) 239)), (239, ev_fn (ev_aload 0 240)), (240, ev_fn (ev_ci 3 241))]
def mk_Z_init_2 (z : Nat × Nat) : ev_C := [(241, ev_fn (ev_newi 243)), (243, ev_fn (ev_putf 12 39 (.array .int) 246)), (246, ev_fn (ev_aload 0 247)), (247, ev_fn (ev_ci 3 248)), (248, ev_fn (ev_newl 250)), (250, ev_fn (ev_putf 12 40 (.array .long) 253)), (253, ev_fn (ev_aload 0 254)), (254, ev_fn (ev_ci 3 255)), (255, ev_fn (ev_newi 257)), (257, ev_fn (ev_putf 12 41 (.array .int) 260)), (260, ev_fn (ev_aload 0 261)), (261, ev_fn (ev_ci 3 262)), (262, ev_fn (ev_newz 264)), (264, ev_fn (ev_putf 12 42 (.array .boolean) 267)), (267, ev_fn (ev_aload 0 268)), (268, ev_fn (ev_ci 3 269)), (269, ev_fn (ev_newi 271)), (271, ev_fn (ev_putf 12 43 (.array .int) 274)), (274, ev_fn (ev_aload 0 275)), (275, ev_fn (ev_ci 12 277)), (277, ev_fn (ev_newl 279)), (279, ev_fn (ev_putf 12 44 (.array .long) 282)), (282, ev_fn (ev_aload 0 283)), (283, ev_fn (ev_ci 12 285)), (285, ev_fn (ev_newi 287)), (287, ev_fn (ev_putf 12 45 (.array .int) 290)), (290, ev_fn (ev_aload 0 291)), (291, ev_fn (ev_ci 12 293)), (293, ev_fn (ev_newz 295)), (295, ev_fn (ev_putf 12 46 (.array .boolean) 298)), (298, ev_fn (ev_aload 0 299)), (299, ev_fn (ev_ci 3 300)), (300, ev_fn (ev_newi 302)), (302, ev_fn (ev_putf 12 47 (.array .int) 305)), (305, ev_fn (ev_aload 0 306)), (306, ev_fn (ev_ci 3 307)), (307, ev_fn (ev_newi 309)), (309, ev_fn (ev_putf 12 48 (.array .int) 312)), (312, ev_fn (ev_aload 0 313)), (313, ev_fn (ev_ci 24 315)), (315, ev_fn (ev_newl 317)), (317, ev_fn (ev_putf 12 49 (.array .long) 320)), (320, ev_fn (ev_aload 0 321)), (321, ev_fn (ev_ci 24 323)), (323, ev_fn (ev_newi 325)), (325, ev_fn (ev_putf 12 50 (.array .int) 328)), (328, ev_fn (ev_aload 0 329)), (329, ev_fn (ev_ci 24 331)), (331, ev_fn (ev_newi 333)), (333, ev_fn (ev_putf 12 51 (.array .int) 336)), (336, ev_fn (ev_aload 0 337)), (337, ev_fn (ev_ci 24 339)), (339, ev_fn (ev_newz 341)), (341, ev_fn (ev_putf 12 52 (.array .boolean) 344)), (344, ev_fn (ev_aload 0 345)), (345, ev_fn (ev_ci 24 347)), (347, ev_fn (ev_newi 349)), (349, ev_fn (ev_putf 12 53 (.array .int) 352)), (352, ev_fn (ev_aload 0 353)), (353, ev_fn (ev_ci 24 355))]
def mk_Z_init_3 (z : Nat × Nat) : ev_C := [(355, ev_fn (ev_newi 357)), (357, ev_fn (ev_putf 12 54 (.array .int) 360)), (360, ev_fn (ev_aload 0 361)), (361, ev_fn (ev_ci 27 363)), (363, ev_fn (ev_newz 365)), (365, ev_fn (ev_putf 12 55 (.array .boolean) 368)), (368, ev_fn (ev_aload 0 369)), (369, ev_fn (ev_ci 3 370)), (370, ev_fn (ev_newi 372)), (372, ev_fn (ev_putf 12 56 (.array .int) 375)), (375, ev_fn (ev_aload 0 376)), (376, ev_fn (ev_ci 3 377)), (377, ev_fn (ev_newi 379)), (379, ev_fn (ev_putf 12 57 (.array .int) 382)), (382, ev_fn (ev_aload 0 383)), (383, ev_fn (ev_ci 4 384)), (384, ev_fn (ev_newl 386)), (386, ev_fn (ev_putf 12 59 (.array .long) 389)), (389, ev_fn (ev_aload 0 390)), (390, ev_fn (ev_ci 4 391)), (391, ev_fn (ev_newi 393)), (393, ev_fn (ev_putf 12 60 (.array .int) 396)), (396, ev_fn (ev_aload 0 397)), (397, ev_fn (ev_ci 4 398)), (398, ev_fn (ev_newi 400)), (400, ev_fn (ev_putf 12 61 (.array .int) 403)), (403, ev_fn (ev_aload 0 404)), (404, ev_fn (ev_ci 8 406)), (406, ev_fn (ev_newi 408)), (408, ev_fn (ev_putf 12 63 (.array .int) 411)), (411, ev_fn (ev_aload 0 412)), (412, ev_fn (ev_ci 8 414)), (414, ev_fn (ev_newi 416)), (416, ev_fn (ev_putf 12 64 (.array .int) 419)), (419, ev_fn ev_vret)]
def mk_Z_init (z : Nat × Nat) : ev_C := mk_Z_init_0 z ++ (mk_Z_init_1 z ++ (mk_Z_init_2 z ++ (mk_Z_init_3 z)))
def mf_Z_init (z : Nat × Nat) : ev_F := ev_met (mk_Z_init z) 1
set_option maxHeartbeats 4000000 in
set_option maxRecDepth 100000 in
theorem mg_Z_init_0 : ev_AllG (ev_Good l vc_L vt_L (gw_G b Ls xs z) prog_14_method_1_code 1 none my_Z_init.name my_Z_init.cls tb_T 1 20) (mk_Z_init_0 z) := by
  refine ⟨ok_aload_n (z := 0) (by decide +kernel) rfl, ?_⟩
  refine ⟨ok_obji (ix := 1) (by decide) (by decide) tw_897 tw_30 tw_31 (by decide +kernel), ?_⟩
  refine ⟨ok_aload_n (z := 0) (by decide +kernel) rfl, ?_⟩
  refine ⟨ok_bipush (z := 6) (by decide +kernel) (by decide +kernel), ?_⟩
  refine ⟨ok_newi rfl tw_ai (by decide +kernel), ?_⟩
  refine ⟨ok_putF (ix := 7) hc_12 (by decide) hi_12 ht_12 hn_12 tw_898 rfl rfl rfl rfl (by decide +kernel) (by decide +kernel), ?_⟩
  refine ⟨ok_aload_n (z := 0) (by decide +kernel) rfl, ?_⟩
  refine ⟨ok_sipush (z := 192) (by decide +kernel) (by decide +kernel), ?_⟩
  refine ⟨ok_newi rfl tw_ai (by decide +kernel), ?_⟩
  refine ⟨ok_putF (ix := 13) hc_12 (by decide) hi_12 ht_12 hn_12 tw_899 rfl rfl rfl rfl (by decide +kernel) (by decide +kernel), ?_⟩
  refine ⟨ok_aload_n (z := 0) (by decide +kernel) rfl, ?_⟩
  refine ⟨ok_sipush (z := 192) (by decide +kernel) (by decide +kernel), ?_⟩
  refine ⟨ok_newi rfl tw_ai (by decide +kernel), ?_⟩
  refine ⟨ok_putF (ix := 16) hc_12 (by decide) hi_12 ht_12 hn_12 tw_900 rfl rfl rfl rfl (by decide +kernel) (by decide +kernel), ?_⟩
  refine ⟨ok_aload_n (z := 0) (by decide +kernel) rfl, ?_⟩
  refine ⟨ok_sipush (z := 192) (by decide +kernel) (by decide +kernel), ?_⟩
  refine ⟨ok_newi rfl tw_ai (by decide +kernel), ?_⟩
  refine ⟨ok_putF (ix := 19) hc_12 (by decide) hi_12 ht_12 hn_12 tw_901 rfl rfl rfl rfl (by decide +kernel) (by decide +kernel), ?_⟩
  refine ⟨ok_aload_n (z := 0) (by decide +kernel) rfl, ?_⟩
  refine ⟨ok_sipush (z := 192) (by decide +kernel) (by decide +kernel), ?_⟩
  refine ⟨ok_newi rfl tw_ai (by decide +kernel), ?_⟩
  refine ⟨ok_putF (ix := 22) hc_12 (by decide) hi_12 ht_12 hn_12 tw_902 rfl rfl rfl rfl (by decide +kernel) (by decide +kernel), ?_⟩
  refine ⟨ok_aload_n (z := 0) (by decide +kernel) rfl, ?_⟩
  refine ⟨ok_sipush (z := 192) (by decide +kernel) (by decide +kernel), ?_⟩
  refine ⟨ok_newz rfl tw_az (by decide +kernel), ?_⟩
  refine ⟨ok_putF (ix := 25) hc_12 (by decide) hi_12 ht_12 hn_12 tw_903 rfl rfl rfl rfl (by decide +kernel) (by decide +kernel), ?_⟩
  refine ⟨ok_aload_n (z := 0) (by decide +kernel) rfl, ?_⟩
  refine ⟨ok_sipush (z := 192) (by decide +kernel) (by decide +kernel), ?_⟩
  refine ⟨ok_newz rfl tw_az (by decide +kernel), ?_⟩
  refine ⟨ok_putF (ix := 29) hc_12 (by decide) hi_12 ht_12 hn_12 tw_904 rfl rfl rfl rfl (by decide +kernel) (by decide +kernel), ?_⟩
  refine ⟨ok_aload_n (z := 0) (by decide +kernel) rfl, ?_⟩
  refine ⟨ok_sipush (z := 192) (by decide +kernel) (by decide +kernel), ?_⟩
  refine ⟨ok_newl rfl tw_al (by decide +kernel), ?_⟩
  refine ⟨ok_putF (ix := 32) hc_12 (by decide) hi_12 ht_12 hn_12 tw_905 rfl rfl rfl rfl (by decide +kernel) (by decide +kernel), ?_⟩
  refine ⟨ok_aload_n (z := 0) (by decide +kernel) rfl, ?_⟩
  refine ⟨ok_sipush (z := 192) (by decide +kernel) (by decide +kernel), ?_⟩
  refine ⟨ok_newi rfl tw_ai (by decide +kernel), ?_⟩
  refine ⟨ok_putF (ix := 36) hc_12 (by decide) hi_12 ht_12 hn_12 tw_906 rfl rfl rfl rfl (by decide +kernel) (by decide +kernel), ?_⟩
  refine ⟨ok_aload_n (z := 0) (by decide +kernel) rfl, ?_⟩
  refine ⟨ok_sipush (z := 192) (by decide +kernel) (by decide +kernel), ?_⟩
  refine ⟨ok_newi rfl tw_ai (by decide +kernel), ?_⟩
  refine ⟨ok_putF (ix := 39) hc_12 (by decide) hi_12 ht_12 hn_12 tw_907 rfl rfl rfl rfl (by decide +kernel) (by decide +kernel), ?_⟩
  refine ⟨ok_aload_n (z := 0) (by decide +kernel) rfl, ?_⟩
  refine ⟨ok_sipush (z := 192) (by decide +kernel) (by decide +kernel), ?_⟩
  refine ⟨ok_newl rfl tw_al (by decide +kernel), ?_⟩
  refine ⟨ok_putF (ix := 42) hc_12 (by decide) hi_12 ht_12 hn_12 tw_908 rfl rfl rfl rfl (by decide +kernel) (by decide +kernel), ?_⟩
  refine ⟨ok_aload_n (z := 0) (by decide +kernel) rfl, ?_⟩
  refine ⟨ok_sipush (z := 192) (by decide +kernel) (by decide +kernel), ?_⟩
  refine ⟨ok_newi rfl tw_ai (by decide +kernel), ?_⟩
  refine ⟨ok_putF (ix := 45) hc_12 (by decide) hi_12 ht_12 hn_12 tw_909 rfl rfl rfl rfl (by decide +kernel) (by decide +kernel), ?_⟩
  refine ⟨ok_aload_n (z := 0) (by decide +kernel) rfl, ?_⟩
  refine ⟨ok_iconst (z := 3) (by decide +kernel) (by decide +kernel), ?_⟩
  refine ⟨ok_newi rfl tw_ai (by decide +kernel), ?_⟩
  refine ⟨ok_putF (ix := 48) hc_12 (by decide) hi_12 ht_12 hn_12 tw_920 rfl rfl rfl rfl (by decide +kernel) (by decide +kernel), ?_⟩
  refine ⟨ok_aload_n (z := 0) (by decide +kernel) rfl, ?_⟩
  refine ⟨ok_iconst (z := 3) (by decide +kernel) (by decide +kernel), ?_⟩
  refine ⟨ok_newi rfl tw_ai (by decide +kernel), ?_⟩
  refine ⟨ok_putF (ix := 51) hc_12 (by decide) hi_12 ht_12 hn_12 tw_921 rfl rfl rfl rfl (by decide +kernel) (by decide +kernel), ?_⟩
  refine ⟨ok_aload_n (z := 0) (by decide +kernel) rfl, ?_⟩
  refine ⟨ok_bipush (z := 12) (by decide +kernel) (by decide +kernel), ?_⟩
  exact trivial
set_option maxHeartbeats 4000000 in
set_option maxRecDepth 100000 in
theorem mg_Z_init_1 : ev_AllG (ev_Good l vc_L vt_L (gw_G b Ls xs z) prog_14_method_1_code 1 none my_Z_init.name my_Z_init.cls tb_T 1 20) (mk_Z_init_1 z) := by
  refine ⟨ok_newl rfl tw_al (by decide +kernel), ?_⟩
  refine ⟨ok_putF (ix := 54) hc_12 (by decide) hi_12 ht_12 hn_12 tw_922 rfl rfl rfl rfl (by decide +kernel) (by decide +kernel), ?_⟩
  refine ⟨ok_aload_n (z := 0) (by decide +kernel) rfl, ?_⟩
  refine ⟨ok_bipush (z := 12) (by decide +kernel) (by decide +kernel), ?_⟩
  refine ⟨ok_newi rfl tw_ai (by decide +kernel), ?_⟩
  refine ⟨ok_putF (ix := 57) hc_12 (by decide) hi_12 ht_12 hn_12 tw_923 rfl rfl rfl rfl (by decide +kernel) (by decide +kernel), ?_⟩
  refine ⟨ok_aload_n (z := 0) (by decide +kernel) rfl, ?_⟩
  refine ⟨ok_bipush (z := 12) (by decide +kernel) (by decide +kernel), ?_⟩
  refine ⟨ok_newi rfl tw_ai (by decide +kernel), ?_⟩
  refine ⟨ok_putF (ix := 60) hc_12 (by decide) hi_12 ht_12 hn_12 tw_924 rfl rfl rfl rfl (by decide +kernel) (by decide +kernel), ?_⟩
  refine ⟨ok_aload_n (z := 0) (by decide +kernel) rfl, ?_⟩
  refine ⟨ok_bipush (z := 12) (by decide +kernel) (by decide +kernel), ?_⟩
  refine ⟨ok_newz rfl tw_az (by decide +kernel), ?_⟩
  refine ⟨ok_putF (ix := 63) hc_12 (by decide) hi_12 ht_12 hn_12 tw_925 rfl rfl rfl rfl (by decide +kernel) (by decide +kernel), ?_⟩
  refine ⟨ok_aload_n (z := 0) (by decide +kernel) rfl, ?_⟩
  refine ⟨ok_bipush (z := 12) (by decide +kernel) (by decide +kernel), ?_⟩
  refine ⟨ok_newi rfl tw_ai (by decide +kernel), ?_⟩
  refine ⟨ok_putF (ix := 66) hc_12 (by decide) hi_12 ht_12 hn_12 tw_926 rfl rfl rfl rfl (by decide +kernel) (by decide +kernel), ?_⟩
  refine ⟨ok_aload_n (z := 0) (by decide +kernel) rfl, ?_⟩
  refine ⟨ok_bipush (z := 12) (by decide +kernel) (by decide +kernel), ?_⟩
  refine ⟨ok_newi rfl tw_ai (by decide +kernel), ?_⟩
  refine ⟨ok_putF (ix := 69) hc_12 (by decide) hi_12 ht_12 hn_12 tw_927 rfl rfl rfl rfl (by decide +kernel) (by decide +kernel), ?_⟩
  refine ⟨ok_aload_n (z := 0) (by decide +kernel) rfl, ?_⟩
  refine ⟨ok_bipush (z := 27) (by decide +kernel) (by decide +kernel), ?_⟩
  refine ⟨ok_newz rfl tw_az (by decide +kernel), ?_⟩
  refine ⟨ok_putF (ix := 72) hc_12 (by decide) hi_12 ht_12 hn_12 tw_928 rfl rfl rfl rfl (by decide +kernel) (by decide +kernel), ?_⟩
  refine ⟨ok_aload_n (z := 0) (by decide +kernel) rfl, ?_⟩
  refine ⟨ok_iconst (z := 3) (by decide +kernel) (by decide +kernel), ?_⟩
  refine ⟨ok_newi rfl tw_ai (by decide +kernel), ?_⟩
  refine ⟨ok_putF (ix := 75) hc_12 (by decide) hi_12 ht_12 hn_12 tw_929 rfl rfl rfl rfl (by decide +kernel) (by decide +kernel), ?_⟩
  refine ⟨ok_aload_n (z := 0) (by decide +kernel) rfl, ?_⟩
  refine ⟨ok_sipush (z := 300) (by decide +kernel) (by decide +kernel), ?_⟩
  refine ⟨ok_newi rfl tw_ai (by decide +kernel), ?_⟩
  refine ⟨ok_putF (ix := 78) hc_12 (by decide) hi_12 ht_12 hn_12 tw_930 rfl rfl rfl rfl (by decide +kernel) (by decide +kernel), ?_⟩
  refine ⟨ok_aload_n (z := 0) (by decide +kernel) rfl, ?_⟩
  refine ⟨ok_iconst (z := 3) (by decide +kernel) (by decide +kernel), ?_⟩
  refine ⟨ok_newl rfl tw_al (by decide +kernel), ?_⟩
  refine ⟨ok_putF (ix := 81) hc_12 (by decide) hi_12 ht_12 hn_12 tw_931 rfl rfl rfl rfl (by decide +kernel) (by decide +kernel), ?_⟩
  refine ⟨ok_aload_n (z := 0) (by decide +kernel) rfl, ?_⟩
  refine ⟨ok_iconst (z := 3) (by decide +kernel) (by decide +kernel), ?_⟩
  refine ⟨ok_newi rfl tw_ai (by decide +kernel), ?_⟩
  refine ⟨ok_putF (ix := 84) hc_12 (by decide) hi_12 ht_12 hn_12 tw_932 rfl rfl rfl rfl (by decide +kernel) (by decide +kernel), ?_⟩
  refine ⟨ok_aload_n (z := 0) (by decide +kernel) rfl, ?_⟩
  refine ⟨ok_iconst (z := 3) (by decide +kernel) (by decide +kernel), ?_⟩
  refine ⟨ok_newz rfl tw_az (by decide +kernel), ?_⟩
  refine ⟨ok_putF (ix := 87) hc_12 (by decide) hi_12 ht_12 hn_12 tw_933 rfl rfl rfl rfl (by decide +kernel) (by decide +kernel), ?_⟩
  refine ⟨ok_aload_n (z := 0) (by decide +kernel) rfl, ?_⟩
  refine ⟨ok_iconst (z := 3) (by decide +kernel) (by decide +kernel), ?_⟩
  refine ⟨ok_newz rfl tw_az (by decide +kernel), ?_⟩
  refine ⟨ok_putF (ix := 90) hc_12 (by decide) hi_12 ht_12 hn_12 tw_934 rfl rfl rfl rfl (by decide +kernel) (by decide +kernel), ?_⟩
  refine ⟨ok_aload_n (z := 0) (by decide +kernel) rfl, ?_⟩
  refine ⟨ok_iconst (z := 3) (by decide +kernel) (by decide +kernel), ?_⟩
  refine ⟨ok_newi rfl tw_ai (by decide +kernel), ?_⟩
  refine ⟨ok_putF (ix := 93) hc_12 (by decide) hi_12 ht_12 hn_12 tw_935 rfl rfl rfl rfl (by decide +kernel) (by decide +kernel), ?_⟩
  refine ⟨ok_aload_n (z := 0) (by decide +kernel) rfl, ?_⟩
  refine ⟨ok_iconst (z := 3) (by decide +kernel) (by decide +kernel), ?_⟩
  refine ⟨ok_newi rfl tw_ai (by decide +kernel), ?_⟩
  refine ⟨ok_putF (ix := 96) hc_12 (by decide) hi_12 ht_12 hn_12 tw_936 rfl rfl rfl rfl (by decide +kernel) (by decide +kernel), ?_⟩
  refine ⟨ok_aload_n (z := 0) (by decide +kernel) rfl, ?_⟩
  refine ⟨ok_iconst (z := 3) (by decide +kernel) (by decide +kernel), ?_⟩
  exact trivial
set_option maxHeartbeats 4000000 in
set_option maxRecDepth 100000 in
theorem mg_Z_init_2 : ev_AllG (ev_Good l vc_L vt_L (gw_G b Ls xs z) prog_14_method_1_code 1 none my_Z_init.name my_Z_init.cls tb_T 1 20) (mk_Z_init_2 z) := by
  refine ⟨ok_newi rfl tw_ai (by decide +kernel), ?_⟩
  refine ⟨ok_putF (ix := 99) hc_12 (by decide) hi_12 ht_12 hn_12 tw_937 rfl rfl rfl rfl (by decide +kernel) (by decide +kernel), ?_⟩
  refine ⟨ok_aload_n (z := 0) (by decide +kernel) rfl, ?_⟩
  refine ⟨ok_iconst (z := 3) (by decide +kernel) (by decide +kernel), ?_⟩
  refine ⟨ok_newl rfl tw_al (by decide +kernel), ?_⟩
  refine ⟨ok_putF (ix := 102) hc_12 (by decide) hi_12 ht_12 hn_12 tw_938 rfl rfl rfl rfl (by decide +kernel) (by decide +kernel), ?_⟩
  refine ⟨ok_aload_n (z := 0) (by decide +kernel) rfl, ?_⟩
  refine ⟨ok_iconst (z := 3) (by decide +kernel) (by decide +kernel), ?_⟩
  refine ⟨ok_newi rfl tw_ai (by decide +kernel), ?_⟩
  refine ⟨ok_putF (ix := 105) hc_12 (by decide) hi_12 ht_12 hn_12 tw_939 rfl rfl rfl rfl (by decide +kernel) (by decide +kernel), ?_⟩
  refine ⟨ok_aload_n (z := 0) (by decide +kernel) rfl, ?_⟩
  refine ⟨ok_iconst (z := 3) (by decide +kernel) (by decide +kernel), ?_⟩
  refine ⟨ok_newz rfl tw_az (by decide +kernel), ?_⟩
  refine ⟨ok_putF (ix := 108) hc_12 (by decide) hi_12 ht_12 hn_12 tw_940 rfl rfl rfl rfl (by decide +kernel) (by decide +kernel), ?_⟩
  refine ⟨ok_aload_n (z := 0) (by decide +kernel) rfl, ?_⟩
  refine ⟨ok_iconst (z := 3) (by decide +kernel) (by decide +kernel), ?_⟩
  refine ⟨ok_newi rfl tw_ai (by decide +kernel), ?_⟩
  refine ⟨ok_putF (ix := 111) hc_12 (by decide) hi_12 ht_12 hn_12 tw_941 rfl rfl rfl rfl (by decide +kernel) (by decide +kernel), ?_⟩
  refine ⟨ok_aload_n (z := 0) (by decide +kernel) rfl, ?_⟩
  refine ⟨ok_bipush (z := 12) (by decide +kernel) (by decide +kernel), ?_⟩
  refine ⟨ok_newl rfl tw_al (by decide +kernel), ?_⟩
  refine ⟨ok_putF (ix := 114) hc_12 (by decide) hi_12 ht_12 hn_12 tw_942 rfl rfl rfl rfl (by decide +kernel) (by decide +kernel), ?_⟩
  refine ⟨ok_aload_n (z := 0) (by decide +kernel) rfl, ?_⟩
  refine ⟨ok_bipush (z := 12) (by decide +kernel) (by decide +kernel), ?_⟩
  refine ⟨ok_newi rfl tw_ai (by decide +kernel), ?_⟩
  refine ⟨ok_putF (ix := 117) hc_12 (by decide) hi_12 ht_12 hn_12 tw_943 rfl rfl rfl rfl (by decide +kernel) (by decide +kernel), ?_⟩
  refine ⟨ok_aload_n (z := 0) (by decide +kernel) rfl, ?_⟩
  refine ⟨ok_bipush (z := 12) (by decide +kernel) (by decide +kernel), ?_⟩
  refine ⟨ok_newz rfl tw_az (by decide +kernel), ?_⟩
  refine ⟨ok_putF (ix := 120) hc_12 (by decide) hi_12 ht_12 hn_12 tw_944 rfl rfl rfl rfl (by decide +kernel) (by decide +kernel), ?_⟩
  refine ⟨ok_aload_n (z := 0) (by decide +kernel) rfl, ?_⟩
  refine ⟨ok_iconst (z := 3) (by decide +kernel) (by decide +kernel), ?_⟩
  refine ⟨ok_newi rfl tw_ai (by decide +kernel), ?_⟩
  refine ⟨ok_putF (ix := 123) hc_12 (by decide) hi_12 ht_12 hn_12 tw_945 rfl rfl rfl rfl (by decide +kernel) (by decide +kernel), ?_⟩
  refine ⟨ok_aload_n (z := 0) (by decide +kernel) rfl, ?_⟩
  refine ⟨ok_iconst (z := 3) (by decide +kernel) (by decide +kernel), ?_⟩
  refine ⟨ok_newi rfl tw_ai (by decide +kernel), ?_⟩
  refine ⟨ok_putF (ix := 126) hc_12 (by decide) hi_12 ht_12 hn_12 tw_946 rfl rfl rfl rfl (by decide +kernel) (by decide +kernel), ?_⟩
  refine ⟨ok_aload_n (z := 0) (by decide +kernel) rfl, ?_⟩
  refine ⟨ok_bipush (z := 24) (by decide +kernel) (by decide +kernel), ?_⟩
  refine ⟨ok_newl rfl tw_al (by decide +kernel), ?_⟩
  refine ⟨ok_putF (ix := 129) hc_12 (by decide) hi_12 ht_12 hn_12 tw_947 rfl rfl rfl rfl (by decide +kernel) (by decide +kernel), ?_⟩
  refine ⟨ok_aload_n (z := 0) (by decide +kernel) rfl, ?_⟩
  refine ⟨ok_bipush (z := 24) (by decide +kernel) (by decide +kernel), ?_⟩
  refine ⟨ok_newi rfl tw_ai (by decide +kernel), ?_⟩
  refine ⟨ok_putF (ix := 132) hc_12 (by decide) hi_12 ht_12 hn_12 tw_948 rfl rfl rfl rfl (by decide +kernel) (by decide +kernel), ?_⟩
  refine ⟨ok_aload_n (z := 0) (by decide +kernel) rfl, ?_⟩
  refine ⟨ok_bipush (z := 24) (by decide +kernel) (by decide +kernel), ?_⟩
  refine ⟨ok_newi rfl tw_ai (by decide +kernel), ?_⟩
  refine ⟨ok_putF (ix := 135) hc_12 (by decide) hi_12 ht_12 hn_12 tw_949 rfl rfl rfl rfl (by decide +kernel) (by decide +kernel), ?_⟩
  refine ⟨ok_aload_n (z := 0) (by decide +kernel) rfl, ?_⟩
  refine ⟨ok_bipush (z := 24) (by decide +kernel) (by decide +kernel), ?_⟩
  refine ⟨ok_newz rfl tw_az (by decide +kernel), ?_⟩
  refine ⟨ok_putF (ix := 138) hc_12 (by decide) hi_12 ht_12 hn_12 tw_950 rfl rfl rfl rfl (by decide +kernel) (by decide +kernel), ?_⟩
  refine ⟨ok_aload_n (z := 0) (by decide +kernel) rfl, ?_⟩
  refine ⟨ok_bipush (z := 24) (by decide +kernel) (by decide +kernel), ?_⟩
  refine ⟨ok_newi rfl tw_ai (by decide +kernel), ?_⟩
  refine ⟨ok_putF (ix := 141) hc_12 (by decide) hi_12 ht_12 hn_12 tw_951 rfl rfl rfl rfl (by decide +kernel) (by decide +kernel), ?_⟩
  refine ⟨ok_aload_n (z := 0) (by decide +kernel) rfl, ?_⟩
  refine ⟨ok_bipush (z := 24) (by decide +kernel) (by decide +kernel), ?_⟩
  exact trivial
set_option maxHeartbeats 4000000 in
set_option maxRecDepth 100000 in
theorem mg_Z_init_3 : ev_AllG (ev_Good l vc_L vt_L (gw_G b Ls xs z) prog_14_method_1_code 1 none my_Z_init.name my_Z_init.cls tb_T 1 20) (mk_Z_init_3 z) := by
  refine ⟨ok_newi rfl tw_ai (by decide +kernel), ?_⟩
  refine ⟨ok_putF (ix := 144) hc_12 (by decide) hi_12 ht_12 hn_12 tw_952 rfl rfl rfl rfl (by decide +kernel) (by decide +kernel), ?_⟩
  refine ⟨ok_aload_n (z := 0) (by decide +kernel) rfl, ?_⟩
  refine ⟨ok_bipush (z := 27) (by decide +kernel) (by decide +kernel), ?_⟩
  refine ⟨ok_newz rfl tw_az (by decide +kernel), ?_⟩
  refine ⟨ok_putF (ix := 147) hc_12 (by decide) hi_12 ht_12 hn_12 tw_953 rfl rfl rfl rfl (by decide +kernel) (by decide +kernel), ?_⟩
  refine ⟨ok_aload_n (z := 0) (by decide +kernel) rfl, ?_⟩
  refine ⟨ok_iconst (z := 3) (by decide +kernel) (by decide +kernel), ?_⟩
  refine ⟨ok_newi rfl tw_ai (by decide +kernel), ?_⟩
  refine ⟨ok_putF (ix := 150) hc_12 (by decide) hi_12 ht_12 hn_12 tw_954 rfl rfl rfl rfl (by decide +kernel) (by decide +kernel), ?_⟩
  refine ⟨ok_aload_n (z := 0) (by decide +kernel) rfl, ?_⟩
  refine ⟨ok_iconst (z := 3) (by decide +kernel) (by decide +kernel), ?_⟩
  refine ⟨ok_newi rfl tw_ai (by decide +kernel), ?_⟩
  refine ⟨ok_putF (ix := 153) hc_12 (by decide) hi_12 ht_12 hn_12 tw_955 rfl rfl rfl rfl (by decide +kernel) (by decide +kernel), ?_⟩
  refine ⟨ok_aload_n (z := 0) (by decide +kernel) rfl, ?_⟩
  refine ⟨ok_iconst (z := 4) (by decide +kernel) (by decide +kernel), ?_⟩
  refine ⟨ok_newl rfl tw_al (by decide +kernel), ?_⟩
  refine ⟨ok_putF (ix := 156) hc_12 (by decide) hi_12 ht_12 hn_12 tw_957 rfl rfl rfl rfl (by decide +kernel) (by decide +kernel), ?_⟩
  refine ⟨ok_aload_n (z := 0) (by decide +kernel) rfl, ?_⟩
  refine ⟨ok_iconst (z := 4) (by decide +kernel) (by decide +kernel), ?_⟩
  refine ⟨ok_newi rfl tw_ai (by decide +kernel), ?_⟩
  refine ⟨ok_putF (ix := 159) hc_12 (by decide) hi_12 ht_12 hn_12 tw_958 rfl rfl rfl rfl (by decide +kernel) (by decide +kernel), ?_⟩
  refine ⟨ok_aload_n (z := 0) (by decide +kernel) rfl, ?_⟩
  refine ⟨ok_iconst (z := 4) (by decide +kernel) (by decide +kernel), ?_⟩
  refine ⟨ok_newi rfl tw_ai (by decide +kernel), ?_⟩
  refine ⟨ok_putF (ix := 162) hc_12 (by decide) hi_12 ht_12 hn_12 tw_959 rfl rfl rfl rfl (by decide +kernel) (by decide +kernel), ?_⟩
  refine ⟨ok_aload_n (z := 0) (by decide +kernel) rfl, ?_⟩
  refine ⟨ok_bipush (z := 8) (by decide +kernel) (by decide +kernel), ?_⟩
  refine ⟨ok_newi rfl tw_ai (by decide +kernel), ?_⟩
  refine ⟨ok_putF (ix := 165) hc_12 (by decide) hi_12 ht_12 hn_12 tw_961 rfl rfl rfl rfl (by decide +kernel) (by decide +kernel), ?_⟩
  refine ⟨ok_aload_n (z := 0) (by decide +kernel) rfl, ?_⟩
  refine ⟨ok_bipush (z := 8) (by decide +kernel) (by decide +kernel), ?_⟩
  refine ⟨ok_newi rfl tw_ai (by decide +kernel), ?_⟩
  refine ⟨ok_putF (ix := 168) hc_12 (by decide) hi_12 ht_12 hn_12 tw_962 rfl rfl rfl rfl (by decide +kernel) (by decide +kernel), ?_⟩
  refine ⟨ok_vret rfl (by decide +kernel), ?_⟩
  exact trivial
theorem mg_Z_init : ev_AllG (ev_Good l vc_L vt_L (gw_G b Ls xs z) prog_14_method_1_code 1 none my_Z_init.name my_Z_init.cls tb_T 1 20) (mk_Z_init z) := ev_AllG.app mg_Z_init_0 (ev_AllG.app mg_Z_init_1 (ev_AllG.app mg_Z_init_2 (mg_Z_init_3)))
theorem ms_Z_init : ev_Met l vc_L vt_L (gw_G b Ls xs z) my_Z_init (Cond.code my_Z_init prog_14_method_1_code 1 none :: tb_T) 1 20 (mf_Z_init z) := ev_sound (by decide +kernel) mg_Z_init
def my_Z_split : MethodName := ⟨"MessageHubModel", "split", "(J[I)I"⟩
def mk_Z_split (z : Nat × Nat) : ev_C := [(0, ev_fn (ev_ci 0 1)), (1, ev_fn (ev_istore 3 2)), (2, ev_fn (ev_ci 56 4)), (4, ev_fn (ev_istore 4 6)), (6, ev_fn (ev_iload 4 8)), (8, ev_fn (ev_iflt 41 11)), (11, ev_fn (ev_lload 0 12)), (12, ev_fn (ev_iload 4 14)), (14, ev_fn (ev_lushr 15)), (15, ev_fn (ev_cl 255 18)), (18, ev_fn (ev_land 19)), (19, ev_fn (ev_l2i 20)), (20, ev_fn (ev_istore 5 22)), (22, ev_fn (ev_iload 5 24)), (24, ev_fn (ev_ifeq 35 27)), (27, ev_fn (ev_aload 2 28)), (28, ev_fn (ev_iload 3 29)), (29, ev_fn (ev_iload 5 31)), (31, ev_fn (ev_iast 32)), (32, ev_fn (ev_iinc 3 1 35)), (35, ev_fn (ev_iinc 4 (-8) 38)), (38, ev_fn (ev_goto 6)), (41, ev_fn (ev_iload 3 42)), (42, ev_fn ev_iret)]
def mf_Z_split (z : Nat × Nat) : ev_F := ev_met (mk_Z_split z) 6
set_option maxHeartbeats 4000000 in
set_option maxRecDepth 100000 in
theorem mg_Z_split : ev_AllG (ev_Good l vc_L vt_L (gw_G b Ls xs z) prog_14_method_4_code 6 (some .int) my_Z_split.name my_Z_split.cls tb_T 0 0) (mk_Z_split z) := by
  refine ⟨ok_iconst (z := 0) (by decide +kernel) (by decide +kernel), ?_⟩
  refine ⟨ok_istore_n (z := 3) (by decide) (by decide +kernel) rfl, ?_⟩
  refine ⟨ok_bipush (z := 56) (by decide +kernel) (by decide +kernel), ?_⟩
  refine ⟨ok_istore (by decide) (by decide +kernel), ?_⟩
  refine ⟨ok_iload (by decide +kernel), ?_⟩
  refine ⟨ok_iflt (off := 33) (by decide +kernel) (by decide), ?_⟩
  refine ⟨ok_lload_n (z := 0) (by decide +kernel) rfl, ?_⟩
  refine ⟨ok_iload (by decide +kernel), ?_⟩
  refine ⟨ok_lushr (by decide +kernel), ?_⟩
  refine ⟨ok_ldc2 (ix := 171) tw_1107 (by decide +kernel), ?_⟩
  refine ⟨ok_land (by decide +kernel), ?_⟩
  refine ⟨ok_l2i (by decide +kernel), ?_⟩
  refine ⟨ok_istore (by decide) (by decide +kernel), ?_⟩
  refine ⟨ok_iload (by decide +kernel), ?_⟩
  refine ⟨ok_ifeq (off := 11) (by decide +kernel) (by decide), ?_⟩
  refine ⟨ok_aload_n (z := 2) (by decide +kernel) rfl, ?_⟩
  refine ⟨ok_iload_n (z := 3) (by decide +kernel) rfl, ?_⟩
  refine ⟨ok_iload (by decide +kernel), ?_⟩
  refine ⟨ok_iast rfl (by decide +kernel), ?_⟩
  refine ⟨ok_iinc (z := 1) (by decide) (by decide +kernel) (by decide +kernel), ?_⟩
  refine ⟨ok_iinc (z := (-8)) (by decide) (by decide +kernel) (by decide +kernel), ?_⟩
  refine ⟨ok_goto (off := (-32)) (by decide +kernel) (by decide), ?_⟩
  refine ⟨ok_iload_n (z := 3) (by decide +kernel) rfl, ?_⟩
  refine ⟨ok_iret rfl (by decide +kernel), ?_⟩
  exact trivial
theorem ms_Z_split : ev_Met l vc_L vt_L (gw_G b Ls xs z) my_Z_split (Cond.code my_Z_split prog_14_method_4_code 6 (some .int) :: tb_T) 0 0 (mf_Z_split z) := ev_sound (by decide +kernel) mg_Z_split
def my_Z_isLetter : MethodName := ⟨"MessageHubModel", "isLetter", "(I)Z"⟩
def mk_Z_isLetter (z : Nat × Nat) : ev_C := [(0, ev_fn (ev_iload 0 1)), (1, ev_fn (ev_ci 97 3)), (3, ev_fn (ev_icmplt 12 6)), (6, ev_fn (ev_iload 0 7)), (7, ev_fn (ev_ci 122 9)), (9, ev_fn (ev_icmple 36 12)), (12, ev_fn (ev_iload 0 13)), (13, ev_fn (ev_ci 48 15)), (15, ev_fn (ev_icmplt 24 18)), (18, ev_fn (ev_iload 0 19)), (19, ev_fn (ev_ci 57 21)), (21, ev_fn (ev_icmple 36 24)), (24, ev_fn (ev_iload 0 25)), (25, ev_fn (ev_ci 36 27)), (27, ev_fn (ev_icmpeq 36 30)), (30, ev_fn (ev_iload 0 31)), (31, ev_fn (ev_ci 47 33)), (33, ev_fn (ev_icmpne 40 36)), (36, ev_fn (ev_ci 1 37)), (37, ev_fn (ev_goto 41)), (40, ev_fn (ev_ci 0 41)), (41, ev_fn (ev_zret .boolean))]
def mf_Z_isLetter (z : Nat × Nat) : ev_F := ev_met (mk_Z_isLetter z) 1
set_option maxHeartbeats 4000000 in
set_option maxRecDepth 100000 in
theorem mg_Z_isLetter : ev_AllG (ev_Good l vc_L vt_L (gw_G b Ls xs z) prog_14_method_5_code 1 (some .boolean) my_Z_isLetter.name my_Z_isLetter.cls tb_T 0 0) (mk_Z_isLetter z) := by
  refine ⟨ok_iload_n (z := 0) (by decide +kernel) rfl, ?_⟩
  refine ⟨ok_bipush (z := 97) (by decide +kernel) (by decide +kernel), ?_⟩
  refine ⟨ok_icmplt (off := 9) (by decide +kernel) (by decide), ?_⟩
  refine ⟨ok_iload_n (z := 0) (by decide +kernel) rfl, ?_⟩
  refine ⟨ok_bipush (z := 122) (by decide +kernel) (by decide +kernel), ?_⟩
  refine ⟨ok_icmple (off := 27) (by decide +kernel) (by decide), ?_⟩
  refine ⟨ok_iload_n (z := 0) (by decide +kernel) rfl, ?_⟩
  refine ⟨ok_bipush (z := 48) (by decide +kernel) (by decide +kernel), ?_⟩
  refine ⟨ok_icmplt (off := 9) (by decide +kernel) (by decide), ?_⟩
  refine ⟨ok_iload_n (z := 0) (by decide +kernel) rfl, ?_⟩
  refine ⟨ok_bipush (z := 57) (by decide +kernel) (by decide +kernel), ?_⟩
  refine ⟨ok_icmple (off := 15) (by decide +kernel) (by decide), ?_⟩
  refine ⟨ok_iload_n (z := 0) (by decide +kernel) rfl, ?_⟩
  refine ⟨ok_bipush (z := 36) (by decide +kernel) (by decide +kernel), ?_⟩
  refine ⟨ok_icmpeq (off := 9) (by decide +kernel) (by decide), ?_⟩
  refine ⟨ok_iload_n (z := 0) (by decide +kernel) rfl, ?_⟩
  refine ⟨ok_bipush (z := 47) (by decide +kernel) (by decide +kernel), ?_⟩
  refine ⟨ok_icmpne (off := 7) (by decide +kernel) (by decide), ?_⟩
  refine ⟨ok_iconst (z := 1) (by decide +kernel) (by decide +kernel), ?_⟩
  refine ⟨ok_goto (off := 4) (by decide +kernel) (by decide), ?_⟩
  refine ⟨ok_iconst (z := 0) (by decide +kernel) (by decide +kernel), ?_⟩
  refine ⟨ok_zret rfl (by decide +kernel), ?_⟩
  exact trivial
theorem ms_Z_isLetter : ev_Met l vc_L vt_L (gw_G b Ls xs z) my_Z_isLetter (Cond.code my_Z_isLetter prog_14_method_5_code 1 (some .boolean) :: tb_T) 0 0 (mf_Z_isLetter z) := ev_sound (by decide +kernel) mg_Z_isLetter
end MT
