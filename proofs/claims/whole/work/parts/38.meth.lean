/-! Methods as lists of steps, and that the machine does what they do (written by wip/whole/gen.py). -/
section MT
variable {l : Launch} {b Ls : Nat} {xs : Nat → Int32} {z : Nat × Nat}
def my_Z_closeLink : MethodName := ⟨"MessageHubModel", "closeLink", "(I)V"⟩
def mk_Z_closeLink (z : Nat × Nat) : ev_C := [(0, ev_fn (ev_aload 0 1)), (1, ev_fn (ev_getf 12 22 4)), (4, ev_fn (ev_iload 1 5)), (5, ev_fn (ev_ci 0 6)), (6, ev_fn (ev_iast 7)), (7, ev_fn (ev_aload 0 8)), (8, ev_fn (ev_getf 12 36 11)), (11, ev_fn (ev_iload 1 12)), (12, ev_fn (ev_ci 0 13)), (13, ev_fn (ev_zast 14)), (14, ev_fn (ev_aload 0 15)), (15, ev_fn (ev_getf 12 0 18)), (18, ev_fn (ev_ci 2 19)), (19, ev_fn (ev_iload 1 20)), (20, ev_fn (ev_imul 21)), (21, ev_fn (ev_ci 0 22)), (22, ev_fn (ev_iast 23)), (23, ev_fn (ev_aload 0 24)), (24, ev_fn (ev_getf 12 0 27)), (27, ev_fn (ev_ci 2 28)), (28, ev_fn (ev_iload 1 29)), (29, ev_fn (ev_imul 30)), (30, ev_fn (ev_ci 1 31)), (31, ev_fn (ev_iadd 32)), (32, ev_fn (ev_ci 0 33)), (33, ev_fn (ev_iast 34)), (34, ev_fn ev_vret)]
def mf_Z_closeLink (z : Nat × Nat) : ev_F := ev_met (mk_Z_closeLink z) 2
set_option maxHeartbeats 4000000 in
set_option maxRecDepth 100000 in
theorem mg_Z_closeLink : ev_AllG (ev_Good l vc_L vt_L (gw_G b Ls xs z) prog_14_method_15_code 2 none my_Z_closeLink.name my_Z_closeLink.cls tb_T 0 0) (mk_Z_closeLink z) := by
  refine ⟨ok_aload_n (z := 0) (by decide +kernel) rfl, ?_⟩
  refine ⟨ok_getf (ix := 48) hc_12 (by decide) hi_12 tw_920 (Or.inl rfl) (by decide +kernel), ?_⟩
  refine ⟨ok_iload_n (z := 1) (by decide +kernel) rfl, ?_⟩
  refine ⟨ok_iconst (z := 0) (by decide +kernel) (by decide +kernel), ?_⟩
  refine ⟨ok_iast rfl (by decide +kernel), ?_⟩
  refine ⟨ok_aload_n (z := 0) (by decide +kernel) rfl, ?_⟩
  refine ⟨ok_getf (ix := 90) hc_12 (by decide) hi_12 tw_934 (Or.inl rfl) (by decide +kernel), ?_⟩
  refine ⟨ok_iload_n (z := 1) (by decide +kernel) rfl, ?_⟩
  refine ⟨ok_iconst (z := 0) (by decide +kernel) (by decide +kernel), ?_⟩
  refine ⟨ok_zast rfl (by decide +kernel), ?_⟩
  refine ⟨ok_aload_n (z := 0) (by decide +kernel) rfl, ?_⟩
  refine ⟨ok_getf (ix := 7) hc_12 (by decide) hi_12 tw_898 (Or.inl rfl) (by decide +kernel), ?_⟩
  refine ⟨ok_iconst (z := 2) (by decide +kernel) (by decide +kernel), ?_⟩
  refine ⟨ok_iload_n (z := 1) (by decide +kernel) rfl, ?_⟩
  refine ⟨ok_imul (by decide +kernel), ?_⟩
  refine ⟨ok_iconst (z := 0) (by decide +kernel) (by decide +kernel), ?_⟩
  refine ⟨ok_iast rfl (by decide +kernel), ?_⟩
  refine ⟨ok_aload_n (z := 0) (by decide +kernel) rfl, ?_⟩
  refine ⟨ok_getf (ix := 7) hc_12 (by decide) hi_12 tw_898 (Or.inl rfl) (by decide +kernel), ?_⟩
  refine ⟨ok_iconst (z := 2) (by decide +kernel) (by decide +kernel), ?_⟩
  refine ⟨ok_iload_n (z := 1) (by decide +kernel) rfl, ?_⟩
  refine ⟨ok_imul (by decide +kernel), ?_⟩
  refine ⟨ok_iconst (z := 1) (by decide +kernel) (by decide +kernel), ?_⟩
  refine ⟨ok_iadd (by decide +kernel), ?_⟩
  refine ⟨ok_iconst (z := 0) (by decide +kernel) (by decide +kernel), ?_⟩
  refine ⟨ok_iast rfl (by decide +kernel), ?_⟩
  refine ⟨ok_vret rfl (by decide +kernel), ?_⟩
  exact trivial
theorem ms_Z_closeLink : ev_Met l vc_L vt_L (gw_G b Ls xs z) my_Z_closeLink (Cond.code my_Z_closeLink prog_14_method_15_code 2 none :: tb_T) 0 0 (mf_Z_closeLink z) := ev_sound (by decide +kernel) mg_Z_closeLink
def my_Z_drop : MethodName := ⟨"MessageHubModel", "drop", "(I)Z"⟩
def mk_Z_drop (z : Nat × Nat) : ev_C := [(0, ev_fn (ev_iload 1 1)), (1, ev_call (mf_Z_isClient z) 1 4), (4, ev_fn (ev_ifeq 16 7)), (7, ev_fn (ev_aload 0 8)), (8, ev_fn (ev_getf 12 22 11)), (11, ev_fn (ev_iload 1 12)), (12, ev_fn (ev_iald 13)), (13, ev_fn (ev_ifne 18 16)), (16, ev_fn (ev_ci 0 17)), (17, ev_fn (ev_zret .boolean)), (18, ev_fn (ev_aload 0 19)), (19, ev_fn (ev_iload 1 20)), (20, ev_callR 12 (mf_Z_closeLink z) 2 23), (23, ev_fn (ev_ci 1 24)), (24, ev_fn (ev_zret .boolean))]
def mf_Z_drop (z : Nat × Nat) : ev_F := ev_met (mk_Z_drop z) 2
set_option maxHeartbeats 4000000 in
set_option maxRecDepth 100000 in
theorem mg_Z_drop : ev_AllG (ev_Good l vc_L vt_L (gw_G b Ls xs z) prog_14_method_49_code 2 (some .boolean) my_Z_drop.name my_Z_drop.cls tb_T 1 21) (mk_Z_drop z) := by
  refine ⟨ok_iload_n (z := 1) (by decide +kernel) rfl, ?_⟩
  refine ⟨ok_callS (ix := 348) ms_Z_isClient (tb_cwS tw_1126 tw_1127 tw_11 tw_1128 (by decide +kernel) (by decide) (by decide)) (by decide +kernel), ?_⟩
  refine ⟨ok_ifeq (off := 12) (by decide +kernel) (by decide), ?_⟩
  refine ⟨ok_aload_n (z := 0) (by decide +kernel) rfl, ?_⟩
  refine ⟨ok_getf (ix := 48) hc_12 (by decide) hi_12 tw_920 (Or.inl rfl) (by decide +kernel), ?_⟩
  refine ⟨ok_iload_n (z := 1) (by decide +kernel) rfl, ?_⟩
  refine ⟨ok_iald rfl (by decide +kernel), ?_⟩
  refine ⟨ok_ifne (off := 5) (by decide +kernel) (by decide), ?_⟩
  refine ⟨ok_iconst (z := 0) (by decide +kernel) (by decide +kernel), ?_⟩
  refine ⟨ok_zret rfl (by decide +kernel), ?_⟩
  refine ⟨ok_aload_n (z := 0) (by decide +kernel) rfl, ?_⟩
  refine ⟨ok_iload_n (z := 1) (by decide +kernel) rfl, ?_⟩
  refine ⟨ok_callV (ix := 274) hc_12 ms_Z_closeLink (tb_cwV tw_1145 tw_1147 tv_32 tw_11 tw_1148 (by decide +kernel) (by decide) (by decide)) (by decide +kernel), ?_⟩
  refine ⟨ok_iconst (z := 1) (by decide +kernel) (by decide +kernel), ?_⟩
  refine ⟨ok_zret rfl (by decide +kernel), ?_⟩
  exact trivial
theorem ms_Z_drop : ev_Met l vc_L vt_L (gw_G b Ls xs z) my_Z_drop (Cond.code my_Z_drop prog_14_method_49_code 2 (some .boolean) :: tb_T) 1 21 (mf_Z_drop z) := ev_sound (by decide +kernel) mg_Z_drop
def my_Z_speaks : MethodName := ⟨"MessageHubModel", "speaks", "(I)Z"⟩
def mk_Z_speaks (z : Nat × Nat) : ev_C := [(0, ev_fn (ev_iload 1 1)), (1, ev_call (mf_Z_isClient z) 1 4), (4, ev_fn (ev_ifeq 34 7)), (7, ev_fn (ev_aload 0 8)), (8, ev_fn (ev_getf 12 22 11)), (11, ev_fn (ev_iload 1 12)), (12, ev_fn (ev_iald 13)), (13, ev_fn (ev_ci 2 14)), (14, ev_fn (ev_icmpne 34 17)), (17, ev_fn (ev_aload 0 18)), (18, ev_fn (ev_getf 12 0 21)), (21, ev_fn (ev_ci 2 22)), (22, ev_fn (ev_iload 1 23)), (23, ev_fn (ev_imul 24)), (24, ev_fn (ev_iald 25)), (25, ev_fn (ev_ci 12 27)), (27, ev_fn (ev_icmpge 34 30)), (30, ev_fn (ev_ci 1 31)), (31, ev_fn (ev_goto 35)), (34, ev_fn (ev_ci 0 35)), (35, ev_fn (ev_zret .boolean))]
def mf_Z_speaks (z : Nat × Nat) : ev_F := ev_met (mk_Z_speaks z) 2
set_option maxHeartbeats 4000000 in
set_option maxRecDepth 100000 in
theorem mg_Z_speaks : ev_AllG (ev_Good l vc_L vt_L (gw_G b Ls xs z) prog_14_method_50_code 2 (some .boolean) my_Z_speaks.name my_Z_speaks.cls tb_T 1 20) (mk_Z_speaks z) := by
  refine ⟨ok_iload_n (z := 1) (by decide +kernel) rfl, ?_⟩
  refine ⟨ok_callS (ix := 348) ms_Z_isClient (tb_cwS tw_1126 tw_1127 tw_11 tw_1128 (by decide +kernel) (by decide) (by decide)) (by decide +kernel), ?_⟩
  refine ⟨ok_ifeq (off := 30) (by decide +kernel) (by decide), ?_⟩
  refine ⟨ok_aload_n (z := 0) (by decide +kernel) rfl, ?_⟩
  refine ⟨ok_getf (ix := 48) hc_12 (by decide) hi_12 tw_920 (Or.inl rfl) (by decide +kernel), ?_⟩
  refine ⟨ok_iload_n (z := 1) (by decide +kernel) rfl, ?_⟩
  refine ⟨ok_iald rfl (by decide +kernel), ?_⟩
  refine ⟨ok_iconst (z := 2) (by decide +kernel) (by decide +kernel), ?_⟩
  refine ⟨ok_icmpne (off := 20) (by decide +kernel) (by decide), ?_⟩
  refine ⟨ok_aload_n (z := 0) (by decide +kernel) rfl, ?_⟩
  refine ⟨ok_getf (ix := 7) hc_12 (by decide) hi_12 tw_898 (Or.inl rfl) (by decide +kernel), ?_⟩
  refine ⟨ok_iconst (z := 2) (by decide +kernel) (by decide +kernel), ?_⟩
  refine ⟨ok_iload_n (z := 1) (by decide +kernel) rfl, ?_⟩
  refine ⟨ok_imul (by decide +kernel), ?_⟩
  refine ⟨ok_iald rfl (by decide +kernel), ?_⟩
  refine ⟨ok_bipush (z := 12) (by decide +kernel) (by decide +kernel), ?_⟩
  refine ⟨ok_icmpge (off := 7) (by decide +kernel) (by decide), ?_⟩
  refine ⟨ok_iconst (z := 1) (by decide +kernel) (by decide +kernel), ?_⟩
  refine ⟨ok_goto (off := 4) (by decide +kernel) (by decide), ?_⟩
  refine ⟨ok_iconst (z := 0) (by decide +kernel) (by decide +kernel), ?_⟩
  refine ⟨ok_zret rfl (by decide +kernel), ?_⟩
  exact trivial
theorem ms_Z_speaks : ev_Met l vc_L vt_L (gw_G b Ls xs z) my_Z_speaks (Cond.code my_Z_speaks prog_14_method_50_code 2 (some .boolean) :: tb_T) 1 20 (mf_Z_speaks z) := ev_sound (by decide +kernel) mg_Z_speaks
def my_Z_leave : MethodName := ⟨"MessageHubModel", "leave", "(I)Z"⟩
def mk_Z_leave (z : Nat × Nat) : ev_C := [(0, ev_fn (ev_aload 0 1)), (1, ev_fn (ev_iload 1 2)), (2, ev_callR 12 (mf_Z_speaks z) 2 5), (5, ev_fn (ev_ifne 10 8)), (8, ev_fn (ev_ci 0 9)), (9, ev_fn (ev_zret .boolean)), (10, ev_fn (ev_aload 0 11)), (11, ev_fn (ev_getf 12 22 14)), (14, ev_fn (ev_iload 1 15)), (15, ev_fn (ev_ci 3 16)), (16, ev_fn (ev_iast 17)), (17, ev_fn (ev_aload 0 18)), (18, ev_fn (ev_ci 2 19)), (19, ev_fn (ev_iload 1 20)), (20, ev_fn (ev_imul 21)), (21, ev_fn (ev_ci 14 23)), (23, ev_fn (ev_ci 0 24)), (24, ev_fn (ev_ci 0 25)), (25, ev_callR 12 (mf_Z_send z) 5 28), (28, ev_fn (ev_pop 29)), (29, ev_fn (ev_ci 1 30)), (30, ev_fn (ev_zret .boolean))]
def mf_Z_leave (z : Nat × Nat) : ev_F := ev_met (mk_Z_leave z) 2
set_option maxHeartbeats 4000000 in
set_option maxRecDepth 100000 in
theorem mg_Z_leave : ev_AllG (ev_Good l vc_L vt_L (gw_G b Ls xs z) prog_14_method_51_code 2 (some .boolean) my_Z_leave.name my_Z_leave.cls tb_T 2 41) (mk_Z_leave z) := by
  refine ⟨ok_aload_n (z := 0) (by decide +kernel) rfl, ?_⟩
  refine ⟨ok_iload_n (z := 1) (by decide +kernel) rfl, ?_⟩
  refine ⟨ok_callV (ix := 355) hc_12 ms_Z_speaks (tb_cwV tw_1153 tw_1155 tv_33 tw_11 tw_1156 (by decide +kernel) (by decide) (by decide)) (by decide +kernel), ?_⟩
  refine ⟨ok_ifne (off := 5) (by decide +kernel) (by decide), ?_⟩
  refine ⟨ok_iconst (z := 0) (by decide +kernel) (by decide +kernel), ?_⟩
  refine ⟨ok_zret rfl (by decide +kernel), ?_⟩
  refine ⟨ok_aload_n (z := 0) (by decide +kernel) rfl, ?_⟩
  refine ⟨ok_getf (ix := 48) hc_12 (by decide) hi_12 tw_920 (Or.inl rfl) (by decide +kernel), ?_⟩
  refine ⟨ok_iload_n (z := 1) (by decide +kernel) rfl, ?_⟩
  refine ⟨ok_iconst (z := 3) (by decide +kernel) (by decide +kernel), ?_⟩
  refine ⟨ok_iast rfl (by decide +kernel), ?_⟩
  refine ⟨ok_aload_n (z := 0) (by decide +kernel) rfl, ?_⟩
  refine ⟨ok_iconst (z := 2) (by decide +kernel) (by decide +kernel), ?_⟩
  refine ⟨ok_iload_n (z := 1) (by decide +kernel) rfl, ?_⟩
  refine ⟨ok_imul (by decide +kernel), ?_⟩
  refine ⟨ok_bipush (z := 14) (by decide +kernel) (by decide +kernel), ?_⟩
  refine ⟨ok_iconst (z := 0) (by decide +kernel) (by decide +kernel), ?_⟩
  refine ⟨ok_iconst (z := 0) (by decide +kernel) (by decide +kernel), ?_⟩
  refine ⟨ok_callV (ix := 198) hc_12 ms_Z_send (tb_cwV tw_1137 tw_1139 tv_31 tw_11 tw_1140 (by decide +kernel) (by decide) (by decide)) (by decide +kernel), ?_⟩
  refine ⟨ok_pop (by decide +kernel), ?_⟩
  refine ⟨ok_iconst (z := 1) (by decide +kernel) (by decide +kernel), ?_⟩
  refine ⟨ok_zret rfl (by decide +kernel), ?_⟩
  exact trivial
theorem ms_Z_leave : ev_Met l vc_L vt_L (gw_G b Ls xs z) my_Z_leave (Cond.code my_Z_leave prog_14_method_51_code 2 (some .boolean) :: tb_T) 2 41 (mf_Z_leave z) := ev_sound (by decide +kernel) mg_Z_leave
def my_Z_ping : MethodName := ⟨"MessageHubModel", "ping", "(I)Z"⟩
def mk_Z_ping (z : Nat × Nat) : ev_C := [(0, ev_fn (ev_aload 0 1)), (1, ev_fn (ev_iload 1 2)), (2, ev_callR 12 (mf_Z_speaks z) 2 5), (5, ev_fn (ev_ifne 10 8)), (8, ev_fn (ev_ci 0 9)), (9, ev_fn (ev_zret .boolean)), (10, ev_fn (ev_aload 0 11)), (11, ev_fn (ev_ci 2 12)), (12, ev_fn (ev_iload 1 13)), (13, ev_fn (ev_imul 14)), (14, ev_fn (ev_ci 12 16)), (16, ev_fn (ev_ci 0 17)), (17, ev_fn (ev_ci 0 18)), (18, ev_callR 12 (mf_Z_send z) 5 21), (21, ev_fn (ev_pop 22)), (22, ev_fn (ev_ci 1 23)), (23, ev_fn (ev_zret .boolean))]
def mf_Z_ping (z : Nat × Nat) : ev_F := ev_met (mk_Z_ping z) 2
set_option maxHeartbeats 4000000 in
set_option maxRecDepth 100000 in
theorem mg_Z_ping : ev_AllG (ev_Good l vc_L vt_L (gw_G b Ls xs z) prog_14_method_52_code 2 (some .boolean) my_Z_ping.name my_Z_ping.cls tb_T 2 41) (mk_Z_ping z) := by
  refine ⟨ok_aload_n (z := 0) (by decide +kernel) rfl, ?_⟩
  refine ⟨ok_iload_n (z := 1) (by decide +kernel) rfl, ?_⟩
  refine ⟨ok_callV (ix := 355) hc_12 ms_Z_speaks (tb_cwV tw_1153 tw_1155 tv_33 tw_11 tw_1156 (by decide +kernel) (by decide) (by decide)) (by decide +kernel), ?_⟩
  refine ⟨ok_ifne (off := 5) (by decide +kernel) (by decide), ?_⟩
  refine ⟨ok_iconst (z := 0) (by decide +kernel) (by decide +kernel), ?_⟩
  refine ⟨ok_zret rfl (by decide +kernel), ?_⟩
  refine ⟨ok_aload_n (z := 0) (by decide +kernel) rfl, ?_⟩
  refine ⟨ok_iconst (z := 2) (by decide +kernel) (by decide +kernel), ?_⟩
  refine ⟨ok_iload_n (z := 1) (by decide +kernel) rfl, ?_⟩
  refine ⟨ok_imul (by decide +kernel), ?_⟩
  refine ⟨ok_bipush (z := 12) (by decide +kernel) (by decide +kernel), ?_⟩
  refine ⟨ok_iconst (z := 0) (by decide +kernel) (by decide +kernel), ?_⟩
  refine ⟨ok_iconst (z := 0) (by decide +kernel) (by decide +kernel), ?_⟩
  refine ⟨ok_callV (ix := 198) hc_12 ms_Z_send (tb_cwV tw_1137 tw_1139 tv_31 tw_11 tw_1140 (by decide +kernel) (by decide) (by decide)) (by decide +kernel), ?_⟩
  refine ⟨ok_pop (by decide +kernel), ?_⟩
  refine ⟨ok_iconst (z := 1) (by decide +kernel) (by decide +kernel), ?_⟩
  refine ⟨ok_zret rfl (by decide +kernel), ?_⟩
  exact trivial
theorem ms_Z_ping : ev_Met l vc_L vt_L (gw_G b Ls xs z) my_Z_ping (Cond.code my_Z_ping prog_14_method_52_code 2 (some .boolean) :: tb_T) 2 41 (mf_Z_ping z) := ev_sound (by decide +kernel) mg_Z_ping
def my_Z_subscribe : MethodName := ⟨"MessageHubModel", "subscribe", "(IJIZ)Z"⟩
def mk_Z_subscribe (z : Nat × Nat) : ev_C := [(0, ev_fn (ev_aload 0 1)), (1, ev_fn (ev_iload 1 2)), (2, ev_callR 12 (mf_Z_speaks z) 2 5), (5, ev_fn (ev_ifeq 27 8)), (8, ev_fn (ev_aload 0 9)), (9, ev_fn (ev_lload 2 10)), (10, ev_callR 12 (mf_Z_isFilter z) 2 13), (13, ev_fn (ev_ifeq 27 16)), (16, ev_fn (ev_iload 4 18)), (18, ev_fn (ev_iflt 27 21)), (21, ev_fn (ev_iload 4 23)), (23, ev_fn (ev_ci 2 24)), (24, ev_fn (ev_icmple 29 27)), (27, ev_fn (ev_ci 0 28)), (28, ev_fn (ev_zret .boolean)), (29, ev_fn (ev_aload 0 30)), (30, ev_fn (ev_ci 2 31)), (31, ev_fn (ev_iload 1 32)), (32, ev_fn (ev_imul 33)), (33, ev_fn (ev_ci 8 35)), (35, ev_fn (ev_ci 0 36)), (36, ev_fn (ev_iload 4 38)), (38, ev_callR 12 (mf_Z_send z) 5 41), (41, ev_fn (ev_istore 6 43)), (43, ev_fn (ev_aload 0 44)), (44, ev_fn (ev_getf 12 7 47)), (47, ev_fn (ev_iload 6 49)), (49, ev_fn (ev_lload 2 50)), (50, ev_call (mf_Z_plain z) 1 53), (53, ev_fn (ev_last 54)), (54, ev_fn (ev_aload 0 55)), (55, ev_fn (ev_getf 12 6 58)), (58, ev_fn (ev_iload 6 60)), (60, ev_fn (ev_iload 5 62)), (62, ev_fn (ev_zast 63)), (63, ev_fn (ev_ci 1 64)), (64, ev_fn (ev_zret .boolean))]
def mf_Z_subscribe (z : Nat × Nat) : ev_F := ev_met (mk_Z_subscribe z) 7
set_option maxHeartbeats 4000000 in
set_option maxRecDepth 100000 in
theorem mg_Z_subscribe : ev_AllG (ev_Good l vc_L vt_L (gw_G b Ls xs z) prog_14_method_53_code 7 (some .boolean) my_Z_subscribe.name my_Z_subscribe.cls tb_T 2 51) (mk_Z_subscribe z) := by
  refine ⟨ok_aload_n (z := 0) (by decide +kernel) rfl, ?_⟩
  refine ⟨ok_iload_n (z := 1) (by decide +kernel) rfl, ?_⟩
  refine ⟨ok_callV (ix := 355) hc_12 ms_Z_speaks (tb_cwV tw_1153 tw_1155 tv_33 tw_11 tw_1156 (by decide +kernel) (by decide) (by decide)) (by decide +kernel), ?_⟩
  refine ⟨ok_ifeq (off := 22) (by decide +kernel) (by decide), ?_⟩
  refine ⟨ok_aload_n (z := 0) (by decide +kernel) rfl, ?_⟩
  refine ⟨ok_lload_n (z := 2) (by decide +kernel) rfl, ?_⟩
  refine ⟨ok_callV (ix := 187) hc_12 ms_Z_isFilter (tb_cwV tw_1100 tw_1102 tv_28 tw_11 tw_1103 (by decide +kernel) (by decide) (by decide)) (by decide +kernel), ?_⟩
  refine ⟨ok_ifeq (off := 14) (by decide +kernel) (by decide), ?_⟩
  refine ⟨ok_iload (by decide +kernel), ?_⟩
  refine ⟨ok_iflt (off := 9) (by decide +kernel) (by decide), ?_⟩
  refine ⟨ok_iload (by decide +kernel), ?_⟩
  refine ⟨ok_iconst (z := 2) (by decide +kernel) (by decide +kernel), ?_⟩
  refine ⟨ok_icmple (off := 5) (by decide +kernel) (by decide), ?_⟩
  refine ⟨ok_iconst (z := 0) (by decide +kernel) (by decide +kernel), ?_⟩
  refine ⟨ok_zret rfl (by decide +kernel), ?_⟩
  refine ⟨ok_aload_n (z := 0) (by decide +kernel) rfl, ?_⟩
  refine ⟨ok_iconst (z := 2) (by decide +kernel) (by decide +kernel), ?_⟩
  refine ⟨ok_iload_n (z := 1) (by decide +kernel) rfl, ?_⟩
  refine ⟨ok_imul (by decide +kernel), ?_⟩
  refine ⟨ok_bipush (z := 8) (by decide +kernel) (by decide +kernel), ?_⟩
  refine ⟨ok_iconst (z := 0) (by decide +kernel) (by decide +kernel), ?_⟩
  refine ⟨ok_iload (by decide +kernel), ?_⟩
  refine ⟨ok_callV (ix := 198) hc_12 ms_Z_send (tb_cwV tw_1137 tw_1139 tv_31 tw_11 tw_1140 (by decide +kernel) (by decide) (by decide)) (by decide +kernel), ?_⟩
  refine ⟨ok_istore (by decide) (by decide +kernel), ?_⟩
  refine ⟨ok_aload_n (z := 0) (by decide +kernel) rfl, ?_⟩
  refine ⟨ok_getf (ix := 32) hc_12 (by decide) hi_12 tw_905 (Or.inl rfl) (by decide +kernel), ?_⟩
  refine ⟨ok_iload (by decide +kernel), ?_⟩
  refine ⟨ok_lload_n (z := 2) (by decide +kernel) rfl, ?_⟩
  refine ⟨ok_callS (ix := 351) ms_Z_plain (tb_cwS tw_1129 tw_1130 tw_11 tw_1131 (by decide +kernel) (by decide) (by decide)) (by decide +kernel), ?_⟩
  refine ⟨ok_last rfl (by decide +kernel), ?_⟩
  refine ⟨ok_aload_n (z := 0) (by decide +kernel) rfl, ?_⟩
  refine ⟨ok_getf (ix := 29) hc_12 (by decide) hi_12 tw_904 (Or.inl rfl) (by decide +kernel), ?_⟩
  refine ⟨ok_iload (by decide +kernel), ?_⟩
  refine ⟨ok_iload (by decide +kernel), ?_⟩
  refine ⟨ok_zast rfl (by decide +kernel), ?_⟩
  refine ⟨ok_iconst (z := 1) (by decide +kernel) (by decide +kernel), ?_⟩
  refine ⟨ok_zret rfl (by decide +kernel), ?_⟩
  exact trivial
theorem ms_Z_subscribe : ev_Met l vc_L vt_L (gw_G b Ls xs z) my_Z_subscribe (Cond.code my_Z_subscribe prog_14_method_53_code 7 (some .boolean) :: tb_T) 2 51 (mf_Z_subscribe z) := ev_sound (by decide +kernel) mg_Z_subscribe
def my_Z_unsubscribe : MethodName := ⟨"MessageHubModel", "unsubscribe", "(IJ)Z"⟩
def mk_Z_unsubscribe (z : Nat × Nat) : ev_C := [(0, ev_fn (ev_aload 0 1)), (1, ev_fn (ev_iload 1 2)), (2, ev_callR 12 (mf_Z_speaks z) 2 5), (5, ev_fn (ev_ifeq 16 8)), (8, ev_fn (ev_aload 0 9)), (9, ev_fn (ev_lload 2 10)), (10, ev_callR 12 (mf_Z_isFilter z) 2 13), (13, ev_fn (ev_ifne 18 16)), (16, ev_fn (ev_ci 0 17)), (17, ev_fn (ev_zret .boolean)), (18, ev_fn (ev_aload 0 19)), (19, ev_fn (ev_ci 2 20)), (20, ev_fn (ev_iload 1 21)), (21, ev_fn (ev_imul 22)), (22, ev_fn (ev_ci 10 24)), (24, ev_fn (ev_ci 0 25)), (25, ev_fn (ev_ci 0 26)), (26, ev_callR 12 (mf_Z_send z) 5 29), (29, ev_fn (ev_istore 4 31)), (31, ev_fn (ev_aload 0 32)), (32, ev_fn (ev_getf 12 7 35)), (35, ev_fn (ev_iload 4 37)), (37, ev_fn (ev_lload 2 38)), (38, ev_call (mf_Z_plain z) 1 41), (41, ev_fn (ev_last 42)), (42, ev_fn (ev_ci 1 43)), (43, ev_fn (ev_zret .boolean))]
def mf_Z_unsubscribe (z : Nat × Nat) : ev_F := ev_met (mk_Z_unsubscribe z) 5
set_option maxHeartbeats 4000000 in
set_option maxRecDepth 100000 in
theorem mg_Z_unsubscribe : ev_AllG (ev_Good l vc_L vt_L (gw_G b Ls xs z) prog_14_method_54_code 5 (some .boolean) my_Z_unsubscribe.name my_Z_unsubscribe.cls tb_T 2 51) (mk_Z_unsubscribe z) := by
  refine ⟨ok_aload_n (z := 0) (by decide +kernel) rfl, ?_⟩
  refine ⟨ok_iload_n (z := 1) (by decide +kernel) rfl, ?_⟩
  refine ⟨ok_callV (ix := 355) hc_12 ms_Z_speaks (tb_cwV tw_1153 tw_1155 tv_33 tw_11 tw_1156 (by decide +kernel) (by decide) (by decide)) (by decide +kernel), ?_⟩
  refine ⟨ok_ifeq (off := 11) (by decide +kernel) (by decide), ?_⟩
  refine ⟨ok_aload_n (z := 0) (by decide +kernel) rfl, ?_⟩
  refine ⟨ok_lload_n (z := 2) (by decide +kernel) rfl, ?_⟩
  refine ⟨ok_callV (ix := 187) hc_12 ms_Z_isFilter (tb_cwV tw_1100 tw_1102 tv_28 tw_11 tw_1103 (by decide +kernel) (by decide) (by decide)) (by decide +kernel), ?_⟩
  refine ⟨ok_ifne (off := 5) (by decide +kernel) (by decide), ?_⟩
  refine ⟨ok_iconst (z := 0) (by decide +kernel) (by decide +kernel), ?_⟩
  refine ⟨ok_zret rfl (by decide +kernel), ?_⟩
  refine ⟨ok_aload_n (z := 0) (by decide +kernel) rfl, ?_⟩
  refine ⟨ok_iconst (z := 2) (by decide +kernel) (by decide +kernel), ?_⟩
  refine ⟨ok_iload_n (z := 1) (by decide +kernel) rfl, ?_⟩
  refine ⟨ok_imul (by decide +kernel), ?_⟩
  refine ⟨ok_bipush (z := 10) (by decide +kernel) (by decide +kernel), ?_⟩
  refine ⟨ok_iconst (z := 0) (by decide +kernel) (by decide +kernel), ?_⟩
  refine ⟨ok_iconst (z := 0) (by decide +kernel) (by decide +kernel), ?_⟩
  refine ⟨ok_callV (ix := 198) hc_12 ms_Z_send (tb_cwV tw_1137 tw_1139 tv_31 tw_11 tw_1140 (by decide +kernel) (by decide) (by decide)) (by decide +kernel), ?_⟩
  refine ⟨ok_istore (by decide) (by decide +kernel), ?_⟩
  refine ⟨ok_aload_n (z := 0) (by decide +kernel) rfl, ?_⟩
  refine ⟨ok_getf (ix := 32) hc_12 (by decide) hi_12 tw_905 (Or.inl rfl) (by decide +kernel), ?_⟩
  refine ⟨ok_iload (by decide +kernel), ?_⟩
  refine ⟨ok_lload_n (z := 2) (by decide +kernel) rfl, ?_⟩
  refine ⟨ok_callS (ix := 351) ms_Z_plain (tb_cwS tw_1129 tw_1130 tw_11 tw_1131 (by decide +kernel) (by decide) (by decide)) (by decide +kernel), ?_⟩
  refine ⟨ok_last rfl (by decide +kernel), ?_⟩
  refine ⟨ok_iconst (z := 1) (by decide +kernel) (by decide +kernel), ?_⟩
  refine ⟨ok_zret rfl (by decide +kernel), ?_⟩
  exact trivial
theorem ms_Z_unsubscribe : ev_Met l vc_L vt_L (gw_G b Ls xs z) my_Z_unsubscribe (Cond.code my_Z_unsubscribe prog_14_method_54_code 5 (some .boolean) :: tb_T) 2 51 (mf_Z_unsubscribe z) := ev_sound (by decide +kernel) mg_Z_unsubscribe
def my_Z_sendPublish : MethodName := ⟨"MessageHubModel", "sendPublish", "(IJIII)V"⟩
def mk_Z_sendPublish (z : Nat × Nat) : ev_C := [(0, ev_fn (ev_aload 0 1)), (1, ev_fn (ev_iload 1 2)), (2, ev_fn (ev_ci 3 3)), (3, ev_fn (ev_iload 6 5)), (5, ev_fn (ev_iload 4 7)), (7, ev_callR 12 (mf_Z_send z) 5 10), (10, ev_fn (ev_istore 7 12)), (12, ev_fn (ev_aload 0 13)), (13, ev_fn (ev_getf 12 7 16)), (16, ev_fn (ev_iload 7 18)), (18, ev_fn (ev_lload 2 19)), (19, ev_fn (ev_last 20)), (20, ev_fn (ev_aload 0 21)), (21, ev_fn (ev_getf 12 4 24)), (24, ev_fn (ev_iload 7 26)), (26, ev_fn (ev_iload 5 28)), (28, ev_fn (ev_iast 29)), (29, ev_fn ev_vret)]
def mf_Z_sendPublish (z : Nat × Nat) : ev_F := ev_met (mk_Z_sendPublish z) 8
set_option maxHeartbeats 4000000 in
set_option maxRecDepth 100000 in
theorem mg_Z_sendPublish : ev_AllG (ev_Good l vc_L vt_L (gw_G b Ls xs z) prog_14_method_12_code 8 none my_Z_sendPublish.name my_Z_sendPublish.cls tb_T 1 25) (mk_Z_sendPublish z) := by
  refine ⟨ok_aload_n (z := 0) (by decide +kernel) rfl, ?_⟩
  refine ⟨ok_iload_n (z := 1) (by decide +kernel) rfl, ?_⟩
  refine ⟨ok_iconst (z := 3) (by decide +kernel) (by decide +kernel), ?_⟩
  refine ⟨ok_iload (by decide +kernel), ?_⟩
  refine ⟨ok_iload (by decide +kernel), ?_⟩
  refine ⟨ok_callV (ix := 198) hc_12 ms_Z_send (tb_cwV tw_1137 tw_1139 tv_31 tw_11 tw_1140 (by decide +kernel) (by decide) (by decide)) (by decide +kernel), ?_⟩
  refine ⟨ok_istore (by decide) (by decide +kernel), ?_⟩
  refine ⟨ok_aload_n (z := 0) (by decide +kernel) rfl, ?_⟩
  refine ⟨ok_getf (ix := 32) hc_12 (by decide) hi_12 tw_905 (Or.inl rfl) (by decide +kernel), ?_⟩
  refine ⟨ok_iload (by decide +kernel), ?_⟩
  refine ⟨ok_lload_n (z := 2) (by decide +kernel) rfl, ?_⟩
  refine ⟨ok_last rfl (by decide +kernel), ?_⟩
  refine ⟨ok_aload_n (z := 0) (by decide +kernel) rfl, ?_⟩
  refine ⟨ok_getf (ix := 22) hc_12 (by decide) hi_12 tw_902 (Or.inl rfl) (by decide +kernel), ?_⟩
  refine ⟨ok_iload (by decide +kernel), ?_⟩
  refine ⟨ok_iload (by decide +kernel), ?_⟩
  refine ⟨ok_iast rfl (by decide +kernel), ?_⟩
  refine ⟨ok_vret rfl (by decide +kernel), ?_⟩
  exact trivial
theorem ms_Z_sendPublish : ev_Met l vc_L vt_L (gw_G b Ls xs z) my_Z_sendPublish (Cond.code my_Z_sendPublish prog_14_method_12_code 8 none :: tb_T) 1 25 (mf_Z_sendPublish z) := ev_sound (by decide +kernel) mg_Z_sendPublish
def my_Z_marked : MethodName := ⟨"MessageHubModel", "marked", "(IZZ)V"⟩
def mk_Z_marked (z : Nat × Nat) : ev_C := [(0, ev_fn (ev_ci 32 2)), (2, ev_fn (ev_iload 1 3)), (3, ev_fn (ev_imul 4)), (4, ev_fn (ev_aload 0 5)), (5, ev_fn (ev_getf 12 0 8)), (8, ev_fn (ev_iload 1 9)), (9, ev_fn (ev_iald 10)), (10, ev_fn (ev_iadd 11)), (11, ev_fn (ev_ci 1 12)), (12, ev_fn (ev_isub 13)), (13, ev_fn (ev_istore 4 15)), (15, ev_fn (ev_aload 0 16)), (16, ev_fn (ev_getf 12 5 19)), (19, ev_fn (ev_iload 4 21)), (21, ev_fn (ev_iload 2 22)), (22, ev_fn (ev_zast 23)), (23, ev_fn (ev_aload 0 24)), (24, ev_fn (ev_getf 12 6 27)), (27, ev_fn (ev_iload 4 29)), (29, ev_fn (ev_iload 3 30)), (30, ev_fn (ev_zast 31)), (31, ev_fn ev_vret)]
def mf_Z_marked (z : Nat × Nat) : ev_F := ev_met (mk_Z_marked z) 5
set_option maxHeartbeats 4000000 in
set_option maxRecDepth 100000 in
theorem mg_Z_marked : ev_AllG (ev_Good l vc_L vt_L (gw_G b Ls xs z) prog_14_method_13_code 5 none my_Z_marked.name my_Z_marked.cls tb_T 0 0) (mk_Z_marked z) := by
  refine ⟨ok_bipush (z := 32) (by decide +kernel) (by decide +kernel), ?_⟩
  refine ⟨ok_iload_n (z := 1) (by decide +kernel) rfl, ?_⟩
  refine ⟨ok_imul (by decide +kernel), ?_⟩
  refine ⟨ok_aload_n (z := 0) (by decide +kernel) rfl, ?_⟩
  refine ⟨ok_getf (ix := 7) hc_12 (by decide) hi_12 tw_898 (Or.inl rfl) (by decide +kernel), ?_⟩
  refine ⟨ok_iload_n (z := 1) (by decide +kernel) rfl, ?_⟩
  refine ⟨ok_iald rfl (by decide +kernel), ?_⟩
  refine ⟨ok_iadd (by decide +kernel), ?_⟩
  refine ⟨ok_iconst (z := 1) (by decide +kernel) (by decide +kernel), ?_⟩
  refine ⟨ok_isub (by decide +kernel), ?_⟩
  refine ⟨ok_istore (by decide) (by decide +kernel), ?_⟩
  refine ⟨ok_aload_n (z := 0) (by decide +kernel) rfl, ?_⟩
  refine ⟨ok_getf (ix := 25) hc_12 (by decide) hi_12 tw_903 (Or.inl rfl) (by decide +kernel), ?_⟩
  refine ⟨ok_iload (by decide +kernel), ?_⟩
  refine ⟨ok_iload_n (z := 2) (by decide +kernel) rfl, ?_⟩
  refine ⟨ok_zast rfl (by decide +kernel), ?_⟩
  refine ⟨ok_aload_n (z := 0) (by decide +kernel) rfl, ?_⟩
  refine ⟨ok_getf (ix := 29) hc_12 (by decide) hi_12 tw_904 (Or.inl rfl) (by decide +kernel), ?_⟩
  refine ⟨ok_iload (by decide +kernel), ?_⟩
  refine ⟨ok_iload_n (z := 3) (by decide +kernel) rfl, ?_⟩
  refine ⟨ok_zast rfl (by decide +kernel), ?_⟩
  refine ⟨ok_vret rfl (by decide +kernel), ?_⟩
  exact trivial
theorem ms_Z_marked : ev_Met l vc_L vt_L (gw_G b Ls xs z) my_Z_marked (Cond.code my_Z_marked prog_14_method_13_code 5 none :: tb_T) 0 0 (mf_Z_marked z) := ev_sound (by decide +kernel) mg_Z_marked
def my_Z_underWay : MethodName := ⟨"MessageHubModel", "underWay", "(I)I"⟩
def mk_Z_underWay (z : Nat × Nat) : ev_C := [(0, ev_fn (ev_ci 0 1)), (1, ev_fn (ev_istore 2 2)), (2, ev_fn (ev_ci 0 3)), (3, ev_fn (ev_istore 3 4)), (4, ev_fn (ev_iload 3 5)), (5, ev_fn (ev_aload 0 6)), (6, ev_fn (ev_getf 12 23 9)), (9, ev_fn (ev_iload 1 10)), (10, ev_fn (ev_iald 11)), (11, ev_fn (ev_icmpge 41 14)), (14, ev_fn (ev_aload 0 15)), (15, ev_fn (ev_getf 12 28 18)), (18, ev_fn (ev_ci 4 19)), (19, ev_fn (ev_iload 1 20)), (20, ev_fn (ev_imul 21)), (21, ev_fn (ev_iload 3 22)), (22, ev_fn (ev_iadd 23)), (23, ev_fn (ev_iald 24)), (24, ev_fn (ev_ifle 33 27)), (27, ev_fn (ev_iload 2 28)), (28, ev_fn (ev_ci 1 29)), (29, ev_fn (ev_iadd 30)), (30, ev_fn (ev_goto 34)), (33, ev_fn (ev_iload 2 34)), (34, ev_fn (ev_istore 2 35)), (35, ev_fn (ev_iinc 3 1 38)), (38, ev_fn (ev_goto 4)), (41, ev_fn (ev_iload 2 42)), (42, ev_fn ev_iret)]
def mf_Z_underWay (z : Nat × Nat) : ev_F := ev_met (mk_Z_underWay z) 4
set_option maxHeartbeats 4000000 in
set_option maxRecDepth 100000 in
theorem mg_Z_underWay : ev_AllG (ev_Good l vc_L vt_L (gw_G b Ls xs z) prog_14_method_17_code 4 (some .int) my_Z_underWay.name my_Z_underWay.cls tb_T 0 0) (mk_Z_underWay z) := by
  refine ⟨ok_iconst (z := 0) (by decide +kernel) (by decide +kernel), ?_⟩
  refine ⟨ok_istore_n (z := 2) (by decide) (by decide +kernel) rfl, ?_⟩
  refine ⟨ok_iconst (z := 0) (by decide +kernel) (by decide +kernel), ?_⟩
  refine ⟨ok_istore_n (z := 3) (by decide) (by decide +kernel) rfl, ?_⟩
  refine ⟨ok_iload_n (z := 3) (by decide +kernel) rfl, ?_⟩
  refine ⟨ok_aload_n (z := 0) (by decide +kernel) rfl, ?_⟩
  refine ⟨ok_getf (ix := 51) hc_12 (by decide) hi_12 tw_921 (Or.inl rfl) (by decide +kernel), ?_⟩
  refine ⟨ok_iload_n (z := 1) (by decide +kernel) rfl, ?_⟩
  refine ⟨ok_iald rfl (by decide +kernel), ?_⟩
  refine ⟨ok_icmpge (off := 30) (by decide +kernel) (by decide), ?_⟩
  refine ⟨ok_aload_n (z := 0) (by decide +kernel) rfl, ?_⟩
  refine ⟨ok_getf (ix := 66) hc_12 (by decide) hi_12 tw_926 (Or.inl rfl) (by decide +kernel), ?_⟩
  refine ⟨ok_iconst (z := 4) (by decide +kernel) (by decide +kernel), ?_⟩
  refine ⟨ok_iload_n (z := 1) (by decide +kernel) rfl, ?_⟩
  refine ⟨ok_imul (by decide +kernel), ?_⟩
  refine ⟨ok_iload_n (z := 3) (by decide +kernel) rfl, ?_⟩
  refine ⟨ok_iadd (by decide +kernel), ?_⟩
  refine ⟨ok_iald rfl (by decide +kernel), ?_⟩
  refine ⟨ok_ifle (off := 9) (by decide +kernel) (by decide), ?_⟩
  refine ⟨ok_iload_n (z := 2) (by decide +kernel) rfl, ?_⟩
  refine ⟨ok_iconst (z := 1) (by decide +kernel) (by decide +kernel), ?_⟩
  refine ⟨ok_iadd (by decide +kernel), ?_⟩
  refine ⟨ok_goto (off := 4) (by decide +kernel) (by decide), ?_⟩
  refine ⟨ok_iload_n (z := 2) (by decide +kernel) rfl, ?_⟩
  refine ⟨ok_istore_n (z := 2) (by decide) (by decide +kernel) rfl, ?_⟩
  refine ⟨ok_iinc (z := 1) (by decide) (by decide +kernel) (by decide +kernel), ?_⟩
  refine ⟨ok_goto (off := (-34)) (by decide +kernel) (by decide), ?_⟩
  refine ⟨ok_iload_n (z := 2) (by decide +kernel) rfl, ?_⟩
  refine ⟨ok_iret rfl (by decide +kernel), ?_⟩
  exact trivial
theorem ms_Z_underWay : ev_Met l vc_L vt_L (gw_G b Ls xs z) my_Z_underWay (Cond.code my_Z_underWay prog_14_method_17_code 4 (some .int) :: tb_T) 0 0 (mf_Z_underWay z) := ev_sound (by decide +kernel) mg_Z_underWay
def my_Z_freeId : MethodName := ⟨"MessageHubModel", "freeId", "(I)I"⟩
def mk_Z_freeId (z : Nat × Nat) : ev_C := [(0, ev_fn (ev_ci 1 1)), (1, ev_fn (ev_istore 2 2)), (2, ev_fn (ev_ci 0 3)), (3, ev_fn (ev_istore 3 4)), (4, ev_fn (ev_iload 3 5)), (5, ev_fn (ev_ci 4 6)), (6, ev_fn (ev_icmpge 72 9)), (9, ev_fn (ev_ci 0 10)), (10, ev_fn (ev_istore 4 12)), (12, ev_fn (ev_iload 4 14)), (14, ev_fn (ev_aload 0 15)), (15, ev_fn (ev_getf 12 23 18)), (18, ev_fn (ev_iload 1 19)), (19, ev_fn (ev_iald 20)), (20, ev_fn (ev_icmpge 66 23)), (23, ev_fn (ev_aload 0 24)), (24, ev_fn (ev_getf 12 28 27)), (27, ev_fn (ev_ci 4 28)), (28, ev_fn (ev_iload 1 29)), (29, ev_fn (ev_imul 30)), (30, ev_fn (ev_iload 4 32)), (32, ev_fn (ev_iadd 33)), (33, ev_fn (ev_iald 34)), (34, ev_fn (ev_ifle 58 37)), (37, ev_fn (ev_aload 0 38)), (38, ev_fn (ev_getf 12 29 41)), (41, ev_fn (ev_ci 4 42)), (42, ev_fn (ev_iload 1 43)), (43, ev_fn (ev_imul 44)), (44, ev_fn (ev_iload 4 46)), (46, ev_fn (ev_iadd 47)), (47, ev_fn (ev_iald 48)), (48, ev_fn (ev_iload 2 49)), (49, ev_fn (ev_icmpne 58 52)), (52, ev_fn (ev_iload 2 53)), (53, ev_fn (ev_ci 1 54)), (54, ev_fn (ev_iadd 55)), (55, ev_fn (ev_goto 59)), (58, ev_fn (ev_iload 2 59)), (59, ev_fn (ev_istore 2 60)), (60, ev_fn (ev_iinc 4 1 63)), (63, ev_fn (ev_goto 12)), (66, ev_fn (ev_iinc 3 1 69)), (69, ev_fn (ev_goto 4)), (72, ev_fn (ev_iload 2 73)), (73, ev_fn ev_iret)]
def mf_Z_freeId (z : Nat × Nat) : ev_F := ev_met (mk_Z_freeId z) 5
set_option maxHeartbeats 4000000 in
set_option maxRecDepth 100000 in
theorem mg_Z_freeId : ev_AllG (ev_Good l vc_L vt_L (gw_G b Ls xs z) prog_14_method_18_code 5 (some .int) my_Z_freeId.name my_Z_freeId.cls tb_T 0 0) (mk_Z_freeId z) := by
  refine ⟨ok_iconst (z := 1) (by decide +kernel) (by decide +kernel), ?_⟩
  refine ⟨ok_istore_n (z := 2) (by decide) (by decide +kernel) rfl, ?_⟩
  refine ⟨ok_iconst (z := 0) (by decide +kernel) (by decide +kernel), ?_⟩
  refine ⟨ok_istore_n (z := 3) (by decide) (by decide +kernel) rfl, ?_⟩
  refine ⟨ok_iload_n (z := 3) (by decide +kernel) rfl, ?_⟩
  refine ⟨ok_iconst (z := 4) (by decide +kernel) (by decide +kernel), ?_⟩
  refine ⟨ok_icmpge (off := 66) (by decide +kernel) (by decide), ?_⟩
  refine ⟨ok_iconst (z := 0) (by decide +kernel) (by decide +kernel), ?_⟩
  refine ⟨ok_istore (by decide) (by decide +kernel), ?_⟩
  refine ⟨ok_iload (by decide +kernel), ?_⟩
  refine ⟨ok_aload_n (z := 0) (by decide +kernel) rfl, ?_⟩
  refine ⟨ok_getf (ix := 51) hc_12 (by decide) hi_12 tw_921 (Or.inl rfl) (by decide +kernel), ?_⟩
  refine ⟨ok_iload_n (z := 1) (by decide +kernel) rfl, ?_⟩
  refine ⟨ok_iald rfl (by decide +kernel), ?_⟩
  refine ⟨ok_icmpge (off := 46) (by decide +kernel) (by decide), ?_⟩
  refine ⟨ok_aload_n (z := 0) (by decide +kernel) rfl, ?_⟩
  refine ⟨ok_getf (ix := 66) hc_12 (by decide) hi_12 tw_926 (Or.inl rfl) (by decide +kernel), ?_⟩
  refine ⟨ok_iconst (z := 4) (by decide +kernel) (by decide +kernel), ?_⟩
  refine ⟨ok_iload_n (z := 1) (by decide +kernel) rfl, ?_⟩
  refine ⟨ok_imul (by decide +kernel), ?_⟩
  refine ⟨ok_iload (by decide +kernel), ?_⟩
  refine ⟨ok_iadd (by decide +kernel), ?_⟩
  refine ⟨ok_iald rfl (by decide +kernel), ?_⟩
  refine ⟨ok_ifle (off := 24) (by decide +kernel) (by decide), ?_⟩
  refine ⟨ok_aload_n (z := 0) (by decide +kernel) rfl, ?_⟩
  refine ⟨ok_getf (ix := 69) hc_12 (by decide) hi_12 tw_927 (Or.inl rfl) (by decide +kernel), ?_⟩
  refine ⟨ok_iconst (z := 4) (by decide +kernel) (by decide +kernel), ?_⟩
  refine ⟨ok_iload_n (z := 1) (by decide +kernel) rfl, ?_⟩
  refine ⟨ok_imul (by decide +kernel), ?_⟩
  refine ⟨ok_iload (by decide +kernel), ?_⟩
  refine ⟨ok_iadd (by decide +kernel), ?_⟩
  refine ⟨ok_iald rfl (by decide +kernel), ?_⟩
  refine ⟨ok_iload_n (z := 2) (by decide +kernel) rfl, ?_⟩
  refine ⟨ok_icmpne (off := 9) (by decide +kernel) (by decide), ?_⟩
  refine ⟨ok_iload_n (z := 2) (by decide +kernel) rfl, ?_⟩
  refine ⟨ok_iconst (z := 1) (by decide +kernel) (by decide +kernel), ?_⟩
  refine ⟨ok_iadd (by decide +kernel), ?_⟩
  refine ⟨ok_goto (off := 4) (by decide +kernel) (by decide), ?_⟩
  refine ⟨ok_iload_n (z := 2) (by decide +kernel) rfl, ?_⟩
  refine ⟨ok_istore_n (z := 2) (by decide) (by decide +kernel) rfl, ?_⟩
  refine ⟨ok_iinc (z := 1) (by decide) (by decide +kernel) (by decide +kernel), ?_⟩
  refine ⟨ok_goto (off := (-51)) (by decide +kernel) (by decide), ?_⟩
  refine ⟨ok_iinc (z := 1) (by decide) (by decide +kernel) (by decide +kernel), ?_⟩
  refine ⟨ok_goto (off := (-65)) (by decide +kernel) (by decide), ?_⟩
  refine ⟨ok_iload_n (z := 2) (by decide +kernel) rfl, ?_⟩
  refine ⟨ok_iret rfl (by decide +kernel), ?_⟩
  exact trivial
theorem ms_Z_freeId : ev_Met l vc_L vt_L (gw_G b Ls xs z) my_Z_freeId (Cond.code my_Z_freeId prog_14_method_18_code 5 (some .int) :: tb_T) 0 0 (mf_Z_freeId z) := ev_sound (by decide +kernel) mg_Z_freeId
def my_Z_sendStored : MethodName := ⟨"MessageHubModel", "sendStored", "(IIZ)V"⟩
def mk_Z_sendStored (z : Nat × Nat) : ev_C := [(0, ev_fn (ev_aload 0 1)), (1, ev_fn (ev_ci 2 2)), (2, ev_fn (ev_iload 1 3)), (3, ev_fn (ev_imul 4)), (4, ev_fn (ev_aload 0 5)), (5, ev_fn (ev_getf 12 24 8)), (8, ev_fn (ev_iload 2 9)), (9, ev_fn (ev_lald 10)), (10, ev_fn (ev_aload 0 11)), (11, ev_fn (ev_getf 12 25 14)), (14, ev_fn (ev_iload 2 15)), (15, ev_fn (ev_iald 16)), (16, ev_fn (ev_aload 0 17)), (17, ev_fn (ev_getf 12 26 20)), (20, ev_fn (ev_iload 2 21)), (21, ev_fn (ev_iald 22)), (22, ev_fn (ev_aload 0 23)), (23, ev_fn (ev_getf 12 29 26)), (26, ev_fn (ev_iload 2 27)), (27, ev_fn (ev_iald 28)), (28, ev_callR 12 (mf_Z_sendPublish z) 6 31), (31, ev_fn (ev_aload 0 32)), (32, ev_fn (ev_ci 2 33)), (33, ev_fn (ev_iload 1 34)), (34, ev_fn (ev_imul 35)), (35, ev_fn (ev_iload 3 36)), (36, ev_fn (ev_aload 0 37)), (37, ev_fn (ev_getf 12 27 40)), (40, ev_fn (ev_iload 2 41)), (41, ev_fn (ev_zald 42)), (42, ev_callR 12 (mf_Z_marked z) 4 45), (45, ev_fn ev_vret)]
def mf_Z_sendStored (z : Nat × Nat) : ev_F := ev_met (mk_Z_sendStored z) 4
set_option maxHeartbeats 4000000 in
set_option maxRecDepth 100000 in
theorem mg_Z_sendStored : ev_AllG (ev_Good l vc_L vt_L (gw_G b Ls xs z) prog_14_method_19_code 4 none my_Z_sendStored.name my_Z_sendStored.cls tb_T 2 52) (mk_Z_sendStored z) := by
  refine ⟨ok_aload_n (z := 0) (by decide +kernel) rfl, ?_⟩
  refine ⟨ok_iconst (z := 2) (by decide +kernel) (by decide +kernel), ?_⟩
  refine ⟨ok_iload_n (z := 1) (by decide +kernel) rfl, ?_⟩
  refine ⟨ok_imul (by decide +kernel), ?_⟩
  refine ⟨ok_aload_n (z := 0) (by decide +kernel) rfl, ?_⟩
  refine ⟨ok_getf (ix := 54) hc_12 (by decide) hi_12 tw_922 (Or.inl rfl) (by decide +kernel), ?_⟩
  refine ⟨ok_iload_n (z := 2) (by decide +kernel) rfl, ?_⟩
  refine ⟨ok_lald rfl (by decide +kernel), ?_⟩
  refine ⟨ok_aload_n (z := 0) (by decide +kernel) rfl, ?_⟩
  refine ⟨ok_getf (ix := 57) hc_12 (by decide) hi_12 tw_923 (Or.inl rfl) (by decide +kernel), ?_⟩
  refine ⟨ok_iload_n (z := 2) (by decide +kernel) rfl, ?_⟩
  refine ⟨ok_iald rfl (by decide +kernel), ?_⟩
  refine ⟨ok_aload_n (z := 0) (by decide +kernel) rfl, ?_⟩
  refine ⟨ok_getf (ix := 60) hc_12 (by decide) hi_12 tw_924 (Or.inl rfl) (by decide +kernel), ?_⟩
  refine ⟨ok_iload_n (z := 2) (by decide +kernel) rfl, ?_⟩
  refine ⟨ok_iald rfl (by decide +kernel), ?_⟩
  refine ⟨ok_aload_n (z := 0) (by decide +kernel) rfl, ?_⟩
  refine ⟨ok_getf (ix := 69) hc_12 (by decide) hi_12 tw_927 (Or.inl rfl) (by decide +kernel), ?_⟩
  refine ⟨ok_iload_n (z := 2) (by decide +kernel) rfl, ?_⟩
  refine ⟨ok_iald rfl (by decide +kernel), ?_⟩
  refine ⟨ok_callV (ix := 235) hc_12 ms_Z_sendPublish (tb_cwV tw_1173 tw_1175 tv_34 tw_11 tw_1176 (by decide +kernel) (by decide) (by decide)) (by decide +kernel), ?_⟩
  refine ⟨ok_aload_n (z := 0) (by decide +kernel) rfl, ?_⟩
  refine ⟨ok_iconst (z := 2) (by decide +kernel) (by decide +kernel), ?_⟩
  refine ⟨ok_iload_n (z := 1) (by decide +kernel) rfl, ?_⟩
  refine ⟨ok_imul (by decide +kernel), ?_⟩
  refine ⟨ok_iload_n (z := 3) (by decide +kernel) rfl, ?_⟩
  refine ⟨ok_aload_n (z := 0) (by decide +kernel) rfl, ?_⟩
  refine ⟨ok_getf (ix := 63) hc_12 (by decide) hi_12 tw_925 (Or.inl rfl) (by decide +kernel), ?_⟩
  refine ⟨ok_iload_n (z := 2) (by decide +kernel) rfl, ?_⟩
  refine ⟨ok_zald rfl (by decide +kernel), ?_⟩
  refine ⟨ok_callV (ix := 239) hc_12 ms_Z_marked (tb_cwV tw_1177 tw_1179 tv_35 tw_11 tw_1180 (by decide +kernel) (by decide) (by decide)) (by decide +kernel), ?_⟩
  refine ⟨ok_vret rfl (by decide +kernel), ?_⟩
  exact trivial
theorem ms_Z_sendStored : ev_Met l vc_L vt_L (gw_G b Ls xs z) my_Z_sendStored (Cond.code my_Z_sendStored prog_14_method_19_code 4 none :: tb_T) 2 52 (mf_Z_sendStored z) := ev_sound (by decide +kernel) mg_Z_sendStored
def my_Z_pumpClient : MethodName := ⟨"MessageHubModel", "pumpClient", "(I)V"⟩
def mk_Z_pumpClient (z : Nat × Nat) : ev_C := [(0, ev_fn (ev_ci 0 1)), (1, ev_fn (ev_istore 2 2)), (2, ev_fn (ev_iload 2 3)), (3, ev_fn (ev_aload 0 4)), (4, ev_fn (ev_getf 12 23 7)), (7, ev_fn (ev_iload 1 8)), (8, ev_fn (ev_iald 9)), (9, ev_fn (ev_icmpge 77 12)), (12, ev_fn (ev_ci 4 13)), (13, ev_fn (ev_iload 1 14)), (14, ev_fn (ev_imul 15)), (15, ev_fn (ev_iload 2 16)), (16, ev_fn (ev_iadd 17)), (17, ev_fn (ev_istore 3 18)), (18, ev_fn (ev_aload 0 19)), (19, ev_fn (ev_getf 12 22 22)), (22, ev_fn (ev_iload 1 23)), (23, ev_fn (ev_iald 24)), (24, ev_fn (ev_ci 2 25)), (25, ev_fn (ev_icmpne 71 28)), (28, ev_fn (ev_aload 0 29)), (29, ev_fn (ev_getf 12 28 32)), (32, ev_fn (ev_iload 3 33)), (33, ev_fn (ev_iald 34)), (34, ev_fn (ev_ifne 71 37)), (37, ev_fn (ev_aload 0 38)), (38, ev_fn (ev_iload 1 39)), (39, ev_callR 12 (mf_Z_underWay z) 2 42), (42, ev_fn (ev_ci 2 43)), (43, ev_fn (ev_icmpge 71 46)), (46, ev_fn (ev_aload 0 47)), (47, ev_fn (ev_getf 12 29 50)), (50, ev_fn (ev_iload 3 51)), (51, ev_fn (ev_aload 0 52)), (52, ev_fn (ev_iload 1 53)), (53, ev_callR 12 (mf_Z_freeId z) 2 56), (56, ev_fn (ev_iast 57)), (57, ev_fn (ev_aload 0 58)), (58, ev_fn (ev_getf 12 28 61)), (61, ev_fn (ev_iload 3 62)), (62, ev_fn (ev_ci 1 63)), (63, ev_fn (ev_iast 64)), (64, ev_fn (ev_aload 0 65)), (65, ev_fn (ev_iload 1 66)), (66, ev_fn (ev_iload 3 67)), (67, ev_fn (ev_ci 0 68)), (68, ev_callR 12 (mf_Z_sendStored z) 4 71), (71, ev_fn (ev_iinc 2 1 74)), (74, ev_fn (ev_goto 2)), (77, ev_fn ev_vret)]
def mf_Z_pumpClient (z : Nat × Nat) : ev_F := ev_met (mk_Z_pumpClient z) 4
set_option maxHeartbeats 4000000 in
set_option maxRecDepth 100000 in
theorem mg_Z_pumpClient : ev_AllG (ev_Good l vc_L vt_L (gw_G b Ls xs z) prog_14_method_20_code 4 none my_Z_pumpClient.name my_Z_pumpClient.cls tb_T 3 75) (mk_Z_pumpClient z) := by
  refine ⟨ok_iconst (z := 0) (by decide +kernel) (by decide +kernel), ?_⟩
  refine ⟨ok_istore_n (z := 2) (by decide) (by decide +kernel) rfl, ?_⟩
  refine ⟨ok_iload_n (z := 2) (by decide +kernel) rfl, ?_⟩
  refine ⟨ok_aload_n (z := 0) (by decide +kernel) rfl, ?_⟩
  refine ⟨ok_getf (ix := 51) hc_12 (by decide) hi_12 tw_921 (Or.inl rfl) (by decide +kernel), ?_⟩
  refine ⟨ok_iload_n (z := 1) (by decide +kernel) rfl, ?_⟩
  refine ⟨ok_iald rfl (by decide +kernel), ?_⟩
  refine ⟨ok_icmpge (off := 68) (by decide +kernel) (by decide), ?_⟩
  refine ⟨ok_iconst (z := 4) (by decide +kernel) (by decide +kernel), ?_⟩
  refine ⟨ok_iload_n (z := 1) (by decide +kernel) rfl, ?_⟩
  refine ⟨ok_imul (by decide +kernel), ?_⟩
  refine ⟨ok_iload_n (z := 2) (by decide +kernel) rfl, ?_⟩
  refine ⟨ok_iadd (by decide +kernel), ?_⟩
  refine ⟨ok_istore_n (z := 3) (by decide) (by decide +kernel) rfl, ?_⟩
  refine ⟨ok_aload_n (z := 0) (by decide +kernel) rfl, ?_⟩
  refine ⟨ok_getf (ix := 48) hc_12 (by decide) hi_12 tw_920 (Or.inl rfl) (by decide +kernel), ?_⟩
  refine ⟨ok_iload_n (z := 1) (by decide +kernel) rfl, ?_⟩
  refine ⟨ok_iald rfl (by decide +kernel), ?_⟩
  refine ⟨ok_iconst (z := 2) (by decide +kernel) (by decide +kernel), ?_⟩
  refine ⟨ok_icmpne (off := 46) (by decide +kernel) (by decide), ?_⟩
  refine ⟨ok_aload_n (z := 0) (by decide +kernel) rfl, ?_⟩
  refine ⟨ok_getf (ix := 66) hc_12 (by decide) hi_12 tw_926 (Or.inl rfl) (by decide +kernel), ?_⟩
  refine ⟨ok_iload_n (z := 3) (by decide +kernel) rfl, ?_⟩
  refine ⟨ok_iald rfl (by decide +kernel), ?_⟩
  refine ⟨ok_ifne (off := 37) (by decide +kernel) (by decide), ?_⟩
  refine ⟨ok_aload_n (z := 0) (by decide +kernel) rfl, ?_⟩
  refine ⟨ok_iload_n (z := 1) (by decide +kernel) rfl, ?_⟩
  refine ⟨ok_callV (ix := 243) hc_12 ms_Z_underWay (tb_cwV tw_1185 tw_1187 tv_37 tw_11 tw_1188 (by decide +kernel) (by decide) (by decide)) (by decide +kernel), ?_⟩
  refine ⟨ok_iconst (z := 2) (by decide +kernel) (by decide +kernel), ?_⟩
  refine ⟨ok_icmpge (off := 28) (by decide +kernel) (by decide), ?_⟩
  refine ⟨ok_aload_n (z := 0) (by decide +kernel) rfl, ?_⟩
  refine ⟨ok_getf (ix := 69) hc_12 (by decide) hi_12 tw_927 (Or.inl rfl) (by decide +kernel), ?_⟩
  refine ⟨ok_iload_n (z := 3) (by decide +kernel) rfl, ?_⟩
  refine ⟨ok_aload_n (z := 0) (by decide +kernel) rfl, ?_⟩
  refine ⟨ok_iload_n (z := 1) (by decide +kernel) rfl, ?_⟩
  refine ⟨ok_callV (ix := 247) hc_12 ms_Z_freeId (tb_cwV tw_1189 tw_1191 tv_38 tw_11 tw_1192 (by decide +kernel) (by decide) (by decide)) (by decide +kernel), ?_⟩
  refine ⟨ok_iast rfl (by decide +kernel), ?_⟩
  refine ⟨ok_aload_n (z := 0) (by decide +kernel) rfl, ?_⟩
  refine ⟨ok_getf (ix := 66) hc_12 (by decide) hi_12 tw_926 (Or.inl rfl) (by decide +kernel), ?_⟩
  refine ⟨ok_iload_n (z := 3) (by decide +kernel) rfl, ?_⟩
  refine ⟨ok_iconst (z := 1) (by decide +kernel) (by decide +kernel), ?_⟩
  refine ⟨ok_iast rfl (by decide +kernel), ?_⟩
  refine ⟨ok_aload_n (z := 0) (by decide +kernel) rfl, ?_⟩
  refine ⟨ok_iload_n (z := 1) (by decide +kernel) rfl, ?_⟩
  refine ⟨ok_iload_n (z := 3) (by decide +kernel) rfl, ?_⟩
  refine ⟨ok_iconst (z := 0) (by decide +kernel) (by decide +kernel), ?_⟩
  refine ⟨ok_callV (ix := 250) hc_12 ms_Z_sendStored (tb_cwV tw_1193 tw_1195 tv_39 tw_11 tw_1196 (by decide +kernel) (by decide) (by decide)) (by decide +kernel), ?_⟩
  refine ⟨ok_iinc (z := 1) (by decide) (by decide +kernel) (by decide +kernel), ?_⟩
  refine ⟨ok_goto (off := (-72)) (by decide +kernel) (by decide), ?_⟩
  refine ⟨ok_vret rfl (by decide +kernel), ?_⟩
  exact trivial
theorem ms_Z_pumpClient : ev_Met l vc_L vt_L (gw_G b Ls xs z) my_Z_pumpClient (Cond.code my_Z_pumpClient prog_14_method_20_code 4 none :: tb_T) 3 75 (mf_Z_pumpClient z) := ev_sound (by decide +kernel) mg_Z_pumpClient
def my_Z_publish : MethodName := ⟨"MessageHubModel", "publish", "(IJIIZ)Z"⟩
def mk_Z_publish_0 (z : Nat × Nat) : ev_C := [(0, ev_fn (ev_iload 1 1)), (1, ev_call (mf_Z_isClient z) 1 4), (4, ev_fn (ev_ifeq 39 7)), (7, ev_fn (ev_aload 0 8)), (8, ev_fn (ev_lload 2 9)), (9, ev_callR 12 (mf_Z_isTopic z) 2 12), (12, ev_fn (ev_ifeq 39 15)), (15, ev_fn (ev_iload 5 17)), (17, ev_fn (ev_iflt 39 20)), (20, ev_fn (ev_iload 5 22)), (22, ev_fn (ev_ci 2 23)), (23, ev_fn (ev_icmpgt 39 26)), (26, ev_fn (ev_aload 0 27)), (27, ev_fn (ev_getf 12 0 30)), (30, ev_fn (ev_ci 2 31)), (31, ev_fn (ev_iload 1 32)), (32, ev_fn (ev_imul 33)), (33, ev_fn (ev_iald 34)), (34, ev_fn (ev_ci 12 36)), (36, ev_fn (ev_icmplt 41 39)), (39, ev_fn (ev_ci 0 40)), (40, ev_fn (ev_zret .boolean)), (41, ev_fn (ev_iload 5 43)), (43, ev_fn (ev_ifne 59 46)), (46, ev_fn (ev_aload 0 47)), (47, ev_fn (ev_getf 12 22 50)), (50, ev_fn (ev_iload 1 51)), (51, ev_fn (ev_iald 52)), (52, ev_fn (ev_ci 2 53)), (53, ev_fn (ev_icmpeq 71 56)), (56, ev_fn (ev_goto 69)), (59, ev_fn (ev_aload 0 60)), (60, ev_fn (ev_getf 12 23 63)), (63, ev_fn (ev_iload 1 64)), (64, ev_fn (ev_iald 65)), (65, ev_fn (ev_ci 4 66)), (66, ev_fn (ev_icmpne 71 69)), (69, ev_fn (ev_ci 0 70)), (70, ev_fn (ev_zret .boolean)), (71, ev_fn (ev_lload 2 72)), (72, ev_call (mf_Z_plain z) 1 75), (75, ev_fn (ev_lstore 7 77)), (77, ev_fn (ev_iload 5 79)), (79, ev_fn (ev_ifne 107 82)), (82, ev_fn (ev_aload 0 83)), (83, ev_fn (ev_ci 2 84)), (84, ev_fn (ev_iload 1 85)), (85, ev_fn (ev_imul 86)), (86, ev_fn (ev_lload 7 88)), (88, ev_fn (ev_iload 4 90)), (90, ev_fn (ev_ci 0 91)), (91, ev_fn (ev_ci 0 92)), (92, ev_callR 12 (mf_Z_sendPublish z) 6 95), (95, ev_fn (ev_aload 0 96)), (96, ev_fn (ev_ci 2 97)), (97, ev_fn (ev_iload 1 98)), (98, ev_fn (ev_imul 99)), (99, ev_fn (ev_ci 0 100)), (100, ev_fn (ev_iload 6 102)), (102, ev_callR 12 (mf_Z_marked z) 4 105)]
def mk_Z_publish_1 (z : Nat × Nat) : ev_C := [(105, ev_fn (ev_ci 1 106)), (106, ev_fn (ev_zret .boolean)), (107, ev_fn (ev_ci 4 108)), (108, ev_fn (ev_iload 1 109)), (109, ev_fn (ev_imul 110)), (110, ev_fn (ev_aload 0 111)), (111, ev_fn (ev_getf 12 23 114)), (114, ev_fn (ev_iload 1 115)), (115, ev_fn (ev_iald 116)), (116, ev_fn (ev_iadd 117)), (117, ev_fn (ev_istore 9 119)), (119, ev_fn (ev_aload 0 120)), (120, ev_fn (ev_getf 12 24 123)), (123, ev_fn (ev_iload 9 125)), (125, ev_fn (ev_lload 7 127)), (127, ev_fn (ev_last 128)), (128, ev_fn (ev_aload 0 129)), (129, ev_fn (ev_getf 12 25 132)), (132, ev_fn (ev_iload 9 134)), (134, ev_fn (ev_iload 4 136)), (136, ev_fn (ev_iast 137)), (137, ev_fn (ev_aload 0 138)), (138, ev_fn (ev_getf 12 26 141)), (141, ev_fn (ev_iload 9 143)), (143, ev_fn (ev_iload 5 145)), (145, ev_fn (ev_iast 146)), (146, ev_fn (ev_aload 0 147)), (147, ev_fn (ev_getf 12 27 150)), (150, ev_fn (ev_iload 9 152)), (152, ev_fn (ev_iload 6 154)), (154, ev_fn (ev_zast 155)), (155, ev_fn (ev_aload 0 156)), (156, ev_fn (ev_getf 12 28 159)), (159, ev_fn (ev_iload 9 161)), (161, ev_fn (ev_ci 0 162)), (162, ev_fn (ev_iast 163)), (163, ev_fn (ev_aload 0 164)), (164, ev_fn (ev_getf 12 23 167)), (167, ev_fn (ev_iload 1 168)), (168, ev_fn (ev_dup2 169)), (169, ev_fn (ev_iald 170)), (170, ev_fn (ev_ci 1 171)), (171, ev_fn (ev_iadd 172)), (172, ev_fn (ev_iast 173)), (173, ev_fn (ev_aload 0 174)), (174, ev_fn (ev_iload 1 175)), (175, ev_callR 12 (mf_Z_pumpClient z) 2 178), (178, ev_fn (ev_ci 1 179)), (179, ev_fn (ev_zret .boolean))]
def mk_Z_publish (z : Nat × Nat) : ev_C := mk_Z_publish_0 z ++ (mk_Z_publish_1 z)
def mf_Z_publish (z : Nat × Nat) : ev_F := ev_met (mk_Z_publish z) 10
set_option maxHeartbeats 4000000 in
set_option maxRecDepth 100000 in
theorem mg_Z_publish_0 : ev_AllG (ev_Good l vc_L vt_L (gw_G b Ls xs z) prog_14_method_55_code 10 (some .boolean) my_Z_publish.name my_Z_publish.cls tb_T 4 98) (mk_Z_publish_0 z) := by
  refine ⟨ok_iload_n (z := 1) (by decide +kernel) rfl, ?_⟩
  refine ⟨ok_callS (ix := 348) ms_Z_isClient (tb_cwS tw_1126 tw_1127 tw_11 tw_1128 (by decide +kernel) (by decide) (by decide)) (by decide +kernel), ?_⟩
  refine ⟨ok_ifeq (off := 35) (by decide +kernel) (by decide), ?_⟩
  refine ⟨ok_aload_n (z := 0) (by decide +kernel) rfl, ?_⟩
  refine ⟨ok_lload_n (z := 2) (by decide +kernel) rfl, ?_⟩
  refine ⟨ok_callV (ix := 191) hc_12 ms_Z_isTopic (tb_cwV tw_1111 tw_1113 tv_29 tw_11 tw_1114 (by decide +kernel) (by decide) (by decide)) (by decide +kernel), ?_⟩
  refine ⟨ok_ifeq (off := 27) (by decide +kernel) (by decide), ?_⟩
  refine ⟨ok_iload (by decide +kernel), ?_⟩
  refine ⟨ok_iflt (off := 22) (by decide +kernel) (by decide), ?_⟩
  refine ⟨ok_iload (by decide +kernel), ?_⟩
  refine ⟨ok_iconst (z := 2) (by decide +kernel) (by decide +kernel), ?_⟩
  refine ⟨ok_icmpgt (off := 16) (by decide +kernel) (by decide), ?_⟩
  refine ⟨ok_aload_n (z := 0) (by decide +kernel) rfl, ?_⟩
  refine ⟨ok_getf (ix := 7) hc_12 (by decide) hi_12 tw_898 (Or.inl rfl) (by decide +kernel), ?_⟩
  refine ⟨ok_iconst (z := 2) (by decide +kernel) (by decide +kernel), ?_⟩
  refine ⟨ok_iload_n (z := 1) (by decide +kernel) rfl, ?_⟩
  refine ⟨ok_imul (by decide +kernel), ?_⟩
  refine ⟨ok_iald rfl (by decide +kernel), ?_⟩
  refine ⟨ok_bipush (z := 12) (by decide +kernel) (by decide +kernel), ?_⟩
  refine ⟨ok_icmplt (off := 5) (by decide +kernel) (by decide), ?_⟩
  refine ⟨ok_iconst (z := 0) (by decide +kernel) (by decide +kernel), ?_⟩
  refine ⟨ok_zret rfl (by decide +kernel), ?_⟩
  refine ⟨ok_iload (by decide +kernel), ?_⟩
  refine ⟨ok_ifne (off := 16) (by decide +kernel) (by decide), ?_⟩
  refine ⟨ok_aload_n (z := 0) (by decide +kernel) rfl, ?_⟩
  refine ⟨ok_getf (ix := 48) hc_12 (by decide) hi_12 tw_920 (Or.inl rfl) (by decide +kernel), ?_⟩
  refine ⟨ok_iload_n (z := 1) (by decide +kernel) rfl, ?_⟩
  refine ⟨ok_iald rfl (by decide +kernel), ?_⟩
  refine ⟨ok_iconst (z := 2) (by decide +kernel) (by decide +kernel), ?_⟩
  refine ⟨ok_icmpeq (off := 18) (by decide +kernel) (by decide), ?_⟩
  refine ⟨ok_goto (off := 13) (by decide +kernel) (by decide), ?_⟩
  refine ⟨ok_aload_n (z := 0) (by decide +kernel) rfl, ?_⟩
  refine ⟨ok_getf (ix := 51) hc_12 (by decide) hi_12 tw_921 (Or.inl rfl) (by decide +kernel), ?_⟩
  refine ⟨ok_iload_n (z := 1) (by decide +kernel) rfl, ?_⟩
  refine ⟨ok_iald rfl (by decide +kernel), ?_⟩
  refine ⟨ok_iconst (z := 4) (by decide +kernel) (by decide +kernel), ?_⟩
  refine ⟨ok_icmpne (off := 5) (by decide +kernel) (by decide), ?_⟩
  refine ⟨ok_iconst (z := 0) (by decide +kernel) (by decide +kernel), ?_⟩
  refine ⟨ok_zret rfl (by decide +kernel), ?_⟩
  refine ⟨ok_lload_n (z := 2) (by decide +kernel) rfl, ?_⟩
  refine ⟨ok_callS (ix := 351) ms_Z_plain (tb_cwS tw_1129 tw_1130 tw_11 tw_1131 (by decide +kernel) (by decide) (by decide)) (by decide +kernel), ?_⟩
  refine ⟨ok_lstore (by decide) (by decide +kernel), ?_⟩
  refine ⟨ok_iload (by decide +kernel), ?_⟩
  refine ⟨ok_ifne (off := 28) (by decide +kernel) (by decide), ?_⟩
  refine ⟨ok_aload_n (z := 0) (by decide +kernel) rfl, ?_⟩
  refine ⟨ok_iconst (z := 2) (by decide +kernel) (by decide +kernel), ?_⟩
  refine ⟨ok_iload_n (z := 1) (by decide +kernel) rfl, ?_⟩
  refine ⟨ok_imul (by decide +kernel), ?_⟩
  refine ⟨ok_lload (by decide +kernel), ?_⟩
  refine ⟨ok_iload (by decide +kernel), ?_⟩
  refine ⟨ok_iconst (z := 0) (by decide +kernel) (by decide +kernel), ?_⟩
  refine ⟨ok_iconst (z := 0) (by decide +kernel) (by decide +kernel), ?_⟩
  refine ⟨ok_callV (ix := 235) hc_12 ms_Z_sendPublish (tb_cwV tw_1173 tw_1175 tv_34 tw_11 tw_1176 (by decide +kernel) (by decide) (by decide)) (by decide +kernel), ?_⟩
  refine ⟨ok_aload_n (z := 0) (by decide +kernel) rfl, ?_⟩
  refine ⟨ok_iconst (z := 2) (by decide +kernel) (by decide +kernel), ?_⟩
  refine ⟨ok_iload_n (z := 1) (by decide +kernel) rfl, ?_⟩
  refine ⟨ok_imul (by decide +kernel), ?_⟩
  refine ⟨ok_iconst (z := 0) (by decide +kernel) (by decide +kernel), ?_⟩
  refine ⟨ok_iload (by decide +kernel), ?_⟩
  refine ⟨ok_callV (ix := 239) hc_12 ms_Z_marked (tb_cwV tw_1177 tw_1179 tv_35 tw_11 tw_1180 (by decide +kernel) (by decide) (by decide)) (by decide +kernel), ?_⟩
  exact trivial
set_option maxHeartbeats 4000000 in
set_option maxRecDepth 100000 in
theorem mg_Z_publish_1 : ev_AllG (ev_Good l vc_L vt_L (gw_G b Ls xs z) prog_14_method_55_code 10 (some .boolean) my_Z_publish.name my_Z_publish.cls tb_T 4 98) (mk_Z_publish_1 z) := by
  refine ⟨ok_iconst (z := 1) (by decide +kernel) (by decide +kernel), ?_⟩
  refine ⟨ok_zret rfl (by decide +kernel), ?_⟩
  refine ⟨ok_iconst (z := 4) (by decide +kernel) (by decide +kernel), ?_⟩
  refine ⟨ok_iload_n (z := 1) (by decide +kernel) rfl, ?_⟩
  refine ⟨ok_imul (by decide +kernel), ?_⟩
  refine ⟨ok_aload_n (z := 0) (by decide +kernel) rfl, ?_⟩
  refine ⟨ok_getf (ix := 51) hc_12 (by decide) hi_12 tw_921 (Or.inl rfl) (by decide +kernel), ?_⟩
  refine ⟨ok_iload_n (z := 1) (by decide +kernel) rfl, ?_⟩
  refine ⟨ok_iald rfl (by decide +kernel), ?_⟩
  refine ⟨ok_iadd (by decide +kernel), ?_⟩
  refine ⟨ok_istore (by decide) (by decide +kernel), ?_⟩
  refine ⟨ok_aload_n (z := 0) (by decide +kernel) rfl, ?_⟩
  refine ⟨ok_getf (ix := 54) hc_12 (by decide) hi_12 tw_922 (Or.inl rfl) (by decide +kernel), ?_⟩
  refine ⟨ok_iload (by decide +kernel), ?_⟩
  refine ⟨ok_lload (by decide +kernel), ?_⟩
  refine ⟨ok_last rfl (by decide +kernel), ?_⟩
  refine ⟨ok_aload_n (z := 0) (by decide +kernel) rfl, ?_⟩
  refine ⟨ok_getf (ix := 57) hc_12 (by decide) hi_12 tw_923 (Or.inl rfl) (by decide +kernel), ?_⟩
  refine ⟨ok_iload (by decide +kernel), ?_⟩
  refine ⟨ok_iload (by decide +kernel), ?_⟩
  refine ⟨ok_iast rfl (by decide +kernel), ?_⟩
  refine ⟨ok_aload_n (z := 0) (by decide +kernel) rfl, ?_⟩
  refine ⟨ok_getf (ix := 60) hc_12 (by decide) hi_12 tw_924 (Or.inl rfl) (by decide +kernel), ?_⟩
  refine ⟨ok_iload (by decide +kernel), ?_⟩
  refine ⟨ok_iload (by decide +kernel), ?_⟩
  refine ⟨ok_iast rfl (by decide +kernel), ?_⟩
  refine ⟨ok_aload_n (z := 0) (by decide +kernel) rfl, ?_⟩
  refine ⟨ok_getf (ix := 63) hc_12 (by decide) hi_12 tw_925 (Or.inl rfl) (by decide +kernel), ?_⟩
  refine ⟨ok_iload (by decide +kernel), ?_⟩
  refine ⟨ok_iload (by decide +kernel), ?_⟩
  refine ⟨ok_zast rfl (by decide +kernel), ?_⟩
  refine ⟨ok_aload_n (z := 0) (by decide +kernel) rfl, ?_⟩
  refine ⟨ok_getf (ix := 66) hc_12 (by decide) hi_12 tw_926 (Or.inl rfl) (by decide +kernel), ?_⟩
  refine ⟨ok_iload (by decide +kernel), ?_⟩
  refine ⟨ok_iconst (z := 0) (by decide +kernel) (by decide +kernel), ?_⟩
  refine ⟨ok_iast rfl (by decide +kernel), ?_⟩
  refine ⟨ok_aload_n (z := 0) (by decide +kernel) rfl, ?_⟩
  refine ⟨ok_getf (ix := 51) hc_12 (by decide) hi_12 tw_921 (Or.inl rfl) (by decide +kernel), ?_⟩
  refine ⟨ok_iload_n (z := 1) (by decide +kernel) rfl, ?_⟩
  refine ⟨ok_dup2 (by decide +kernel), ?_⟩
  refine ⟨ok_iald rfl (by decide +kernel), ?_⟩
  refine ⟨ok_iconst (z := 1) (by decide +kernel) (by decide +kernel), ?_⟩
  refine ⟨ok_iadd (by decide +kernel), ?_⟩
  refine ⟨ok_iast rfl (by decide +kernel), ?_⟩
  refine ⟨ok_aload_n (z := 0) (by decide +kernel) rfl, ?_⟩
  refine ⟨ok_iload_n (z := 1) (by decide +kernel) rfl, ?_⟩
  refine ⟨ok_callV (ix := 258) hc_12 ms_Z_pumpClient (tb_cwV tw_1181 tw_1183 tv_36 tw_11 tw_1184 (by decide +kernel) (by decide) (by decide)) (by decide +kernel), ?_⟩
  refine ⟨ok_iconst (z := 1) (by decide +kernel) (by decide +kernel), ?_⟩
  refine ⟨ok_zret rfl (by decide +kernel), ?_⟩
  exact trivial
theorem mg_Z_publish : ev_AllG (ev_Good l vc_L vt_L (gw_G b Ls xs z) prog_14_method_55_code 10 (some .boolean) my_Z_publish.name my_Z_publish.cls tb_T 4 98) (mk_Z_publish z) := ev_AllG.app mg_Z_publish_0 (mg_Z_publish_1)
theorem ms_Z_publish : ev_Met l vc_L vt_L (gw_G b Ls xs z) my_Z_publish (Cond.code my_Z_publish prog_14_method_55_code 10 (some .boolean) :: tb_T) 4 98 (mf_Z_publish z) := ev_sound (by decide +kernel) mg_Z_publish
end MT
