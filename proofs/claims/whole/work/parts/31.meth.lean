/-! Methods as lists of steps, and that the machine does what they do (written by wip/whole/gen.py). -/
section MT
variable {l : Launch} {b Ls : Nat} {xs : Nat → Int32} {z : Nat × Nat}
def my_H_connect : MethodName := ⟨"MessageHub", "connect", "(IZIII)Z"⟩
def mk_H_connect (z : Nat × Nat) : ev_C := [(0, ev_fn (ev_iload 1 1)), (1, ev_call (mf_H_isClient z) 1 4), (4, ev_fn (ev_ifeq 19 7)), (7, ev_fn (ev_aload 0 8)), (8, ev_fn (ev_getf 0 0 11)), (11, ev_fn (ev_iload 1 12)), (12, ev_fn (ev_aaldR 13)), (13, ev_fn (ev_getf 1 2 16)), (16, ev_fn (ev_ifeq 21 19)), (19, ev_fn (ev_ci 0 20)), (20, ev_fn (ev_zret .boolean)), (21, ev_fn (ev_iload 3 22)), (22, ev_fn (ev_ci 0 23)), (23, ev_fn (ev_ci 50 25)), (25, ev_call (mf_H_isWithin z) 3 28), (28, ev_fn (ev_ifeq 52 31)), (31, ev_fn (ev_iload 4 33)), (33, ev_fn (ev_ci 1 34)), (34, ev_fn (ev_ci 3 35)), (35, ev_call (mf_H_isWithin z) 3 38), (38, ev_fn (ev_ifeq 52 41)), (41, ev_fn (ev_iload 5 43)), (43, ev_fn (ev_ci 0 44)), (44, ev_fn (ev_ci 20 46)), (46, ev_call (mf_H_isWithin z) 3 49), (49, ev_fn (ev_ifne 54 52)), (52, ev_fn (ev_ci 0 53)), (53, ev_fn (ev_zret .boolean)), (54, ev_fn (ev_aload 0 55)), (55, ev_fn (ev_getf 0 1 58)), (58, ev_fn (ev_iload 1 59)), (59, ev_fn (ev_aaldR 60)), (60, ev_fn (ev_iload 2 61)), (61, ev_fn (ev_iload 3 62)), (62, ev_fn (ev_iload 4 64)), (64, ev_fn (ev_iload 5 66)), (66, ev_callR 3 (mf_C_openLink z) 5 69), (69, ev_fn (ev_ci 1 70)), (70, ev_fn (ev_zret .boolean))]
def mf_H_connect (z : Nat × Nat) : ev_F := ev_met (mk_H_connect z) 6
set_option maxHeartbeats 4000000 in
set_option maxRecDepth 100000 in
theorem mg_H_connect : ev_AllG (ev_Good l vc_L vt_L (gw_G b Ls xs z) prog_1_method_3_code 6 (some .boolean) my_H_connect.name my_H_connect.cls tb_T 8 200) (mk_H_connect z) := by
  refine ⟨ok_iload_n (z := 1) (by decide +kernel) rfl, ?_⟩
  refine ⟨ok_callS (ix := 40) ms_H_isClient (tb_cwS tw_247 tw_248 tw_1 tw_249 (by decide +kernel) (by decide) (by decide)) (by decide +kernel), ?_⟩
  refine ⟨ok_ifeq (off := 15) (by decide +kernel) (by decide), ?_⟩
  refine ⟨ok_aload_n (z := 0) (by decide +kernel) rfl, ?_⟩
  refine ⟨ok_getf (ix := 11) hc_0 (by decide) hi_0 tw_224 (Or.inl rfl) (by decide +kernel), ?_⟩
  refine ⟨ok_iload_n (z := 1) (by decide +kernel) rfl, ?_⟩
  refine ⟨ok_aaldR (by decide +kernel), ?_⟩
  refine ⟨ok_getf (ix := 52) hc_1 (by decide) hi_1 tw_74 (Or.inl rfl) (by decide +kernel), ?_⟩
  refine ⟨ok_ifeq (off := 5) (by decide +kernel) (by decide), ?_⟩
  refine ⟨ok_iconst (z := 0) (by decide +kernel) (by decide +kernel), ?_⟩
  refine ⟨ok_zret rfl (by decide +kernel), ?_⟩
  refine ⟨ok_iload_n (z := 3) (by decide +kernel) rfl, ?_⟩
  refine ⟨ok_iconst (z := 0) (by decide +kernel) (by decide +kernel), ?_⟩
  refine ⟨ok_bipush (z := 50) (by decide +kernel) (by decide +kernel), ?_⟩
  refine ⟨ok_callS (ix := 56) ms_H_isWithin (tb_cwS tw_250 tw_245 tw_1 tw_246 (by decide +kernel) (by decide) (by decide)) (by decide +kernel), ?_⟩
  refine ⟨ok_ifeq (off := 24) (by decide +kernel) (by decide), ?_⟩
  refine ⟨ok_iload (by decide +kernel), ?_⟩
  refine ⟨ok_iconst (z := 1) (by decide +kernel) (by decide +kernel), ?_⟩
  refine ⟨ok_iconst (z := 3) (by decide +kernel) (by decide +kernel), ?_⟩
  refine ⟨ok_callS (ix := 56) ms_H_isWithin (tb_cwS tw_250 tw_245 tw_1 tw_246 (by decide +kernel) (by decide) (by decide)) (by decide +kernel), ?_⟩
  refine ⟨ok_ifeq (off := 14) (by decide +kernel) (by decide), ?_⟩
  refine ⟨ok_iload (by decide +kernel), ?_⟩
  refine ⟨ok_iconst (z := 0) (by decide +kernel) (by decide +kernel), ?_⟩
  refine ⟨ok_bipush (z := 20) (by decide +kernel) (by decide +kernel), ?_⟩
  refine ⟨ok_callS (ix := 56) ms_H_isWithin (tb_cwS tw_250 tw_245 tw_1 tw_246 (by decide +kernel) (by decide) (by decide)) (by decide +kernel), ?_⟩
  refine ⟨ok_ifne (off := 5) (by decide +kernel) (by decide), ?_⟩
  refine ⟨ok_iconst (z := 0) (by decide +kernel) (by decide +kernel), ?_⟩
  refine ⟨ok_zret rfl (by decide +kernel), ?_⟩
  refine ⟨ok_aload_n (z := 0) (by decide +kernel) rfl, ?_⟩
  refine ⟨ok_getf (ix := 17) hc_0 (by decide) hi_0 tw_225 (Or.inl rfl) (by decide +kernel), ?_⟩
  refine ⟨ok_iload_n (z := 1) (by decide +kernel) rfl, ?_⟩
  refine ⟨ok_aaldR (by decide +kernel), ?_⟩
  refine ⟨ok_iload_n (z := 2) (by decide +kernel) rfl, ?_⟩
  refine ⟨ok_iload_n (z := 3) (by decide +kernel) rfl, ?_⟩
  refine ⟨ok_iload (by decide +kernel), ?_⟩
  refine ⟨ok_iload (by decide +kernel), ?_⟩
  refine ⟨ok_callV (ix := 60) hc_3 ms_C_openLink (tb_cwV tw_265 tw_266 tw_267 tw_6 tw_268 (by decide +kernel) (by decide) (by decide)) (by decide +kernel), ?_⟩
  refine ⟨ok_iconst (z := 1) (by decide +kernel) (by decide +kernel), ?_⟩
  refine ⟨ok_zret rfl (by decide +kernel), ?_⟩
  exact trivial
theorem ms_H_connect : ev_Met l vc_L vt_L (gw_G b Ls xs z) my_H_connect (Cond.code my_H_connect prog_1_method_3_code 6 (some .boolean) :: tb_T) 8 200 (mf_H_connect z) := ev_sound (by decide +kernel) mg_H_connect
def my_A_clear : MethodName := ⟨"java/util/ArrayList", "clear", "()V"⟩
def mk_A_clear (z : Nat × Nat) : ev_C := [(0, ev_fn (ev_aload 0 1)), (1, ev_fn (ev_dup 2)), (2, ev_fn (ev_getf 2 2 5)), (5, ev_fn (ev_ci 1 6)), (6, ev_fn (ev_iadd 7)), (7, ev_fn (ev_putf 2 2 .int 10)), (10, ev_fn (ev_aload 0 11)), (11, ev_fn (ev_getf 2 0 14)), (14, ev_fn (ev_astore 1 15)), (15, ev_fn (ev_aload 0 16)), (16, ev_fn (ev_getf 2 1 19)), (19, ev_fn (ev_istore 2 20)), (20, ev_fn (ev_aload 0 21)), (21, ev_fn (ev_ci 0 22)), (22, ev_fn (ev_dup_x1 23)), (23, ev_fn (ev_putf 2 1 .int 26)), (26, ev_fn (ev_istore 3 27)), (27, ev_fn (ev_iload 3 28)), (28, ev_fn (ev_iload 2 29)), (29, ev_fn (ev_icmpge 42 32)), (32, ev_fn (ev_aload 1 33)), (33, ev_fn (ev_iload 3 34)), (34, ev_fn (ev_null 35)), (35, ev_fn (ev_aastR 36)), (36, ev_fn (ev_iinc 3 1 39)), (39, ev_fn (ev_goto 27)), (42, ev_fn ev_vret)]
def mf_A_clear (z : Nat × Nat) : ev_F := ev_met (mk_A_clear z) 4
set_option maxHeartbeats 4000000 in
set_option maxRecDepth 100000 in
theorem mg_A_clear : ev_AllG (ev_Good l vc_L vt_L (gw_G b Ls xs z) prog_23_method_40_code 4 none my_A_clear.name my_A_clear.cls tb_T 0 0) (mk_A_clear z) := by
  refine ⟨ok_aload_n (z := 0) (by decide +kernel) rfl, ?_⟩
  refine ⟨ok_dup (by decide +kernel), ?_⟩
  refine ⟨ok_getf (ix := 63) hc_2 (by decide) hi_2 tw_58 (Or.inr tw_59) (by decide +kernel), ?_⟩
  refine ⟨ok_iconst (z := 1) (by decide +kernel) (by decide +kernel), ?_⟩
  refine ⟨ok_iadd (by decide +kernel), ?_⟩
  refine ⟨ok_putf (ix := 63) hc_2 (by decide) hi_2 ht_2 hn_2 tw_58 (Or.inr tw_59) rfl (by decide +kernel) (by decide +kernel), ?_⟩
  refine ⟨ok_aload_n (z := 0) (by decide +kernel) rfl, ?_⟩
  refine ⟨ok_getf (ix := 9) hc_2 (by decide) hi_2 tw_55 (Or.inl rfl) (by decide +kernel), ?_⟩
  refine ⟨ok_astore_n (z := 1) (by decide) (by decide +kernel) rfl, ?_⟩
  refine ⟨ok_aload_n (z := 0) (by decide +kernel) rfl, ?_⟩
  refine ⟨ok_getf (ix := 48) hc_2 (by decide) hi_2 tw_56 (Or.inl rfl) (by decide +kernel), ?_⟩
  refine ⟨ok_istore_n (z := 2) (by decide) (by decide +kernel) rfl, ?_⟩
  refine ⟨ok_aload_n (z := 0) (by decide +kernel) rfl, ?_⟩
  refine ⟨ok_iconst (z := 0) (by decide +kernel) (by decide +kernel), ?_⟩
  refine ⟨ok_dup_x1 (by decide +kernel), ?_⟩
  refine ⟨ok_putf (ix := 48) hc_2 (by decide) hi_2 ht_2 hn_2 tw_56 (Or.inl rfl) rfl (by decide +kernel) (by decide +kernel), ?_⟩
  refine ⟨ok_istore_n (z := 3) (by decide) (by decide +kernel) rfl, ?_⟩
  refine ⟨ok_iload_n (z := 3) (by decide +kernel) rfl, ?_⟩
  refine ⟨ok_iload_n (z := 2) (by decide +kernel) rfl, ?_⟩
  refine ⟨ok_icmpge (off := 13) (by decide +kernel) (by decide), ?_⟩
  refine ⟨ok_aload_n (z := 1) (by decide +kernel) rfl, ?_⟩
  refine ⟨ok_iload_n (z := 3) (by decide +kernel) rfl, ?_⟩
  refine ⟨ok_null (by decide +kernel), ?_⟩
  refine ⟨ok_aastR (by decide +kernel), ?_⟩
  refine ⟨ok_iinc (z := 1) (by decide) (by decide +kernel) (by decide +kernel), ?_⟩
  refine ⟨ok_goto (off := (-12)) (by decide +kernel) (by decide), ?_⟩
  refine ⟨ok_vret rfl (by decide +kernel), ?_⟩
  exact trivial
theorem ms_A_clear : ev_Met l vc_L vt_L (gw_G b Ls xs z) my_A_clear (Cond.code my_A_clear prog_23_method_40_code 4 none :: tb_T) 0 0 (mf_A_clear z) := ev_sound (by decide +kernel) mg_A_clear
def my_L_close : MethodName := ⟨"MessageHub$Link", "close", "()V"⟩
def mk_L_close (z : Nat × Nat) : ev_C := [(0, ev_fn (ev_aload 0 1)), (1, ev_fn (ev_getf 1 0 4)), (4, ev_callR 2 (mf_A_clear z) 1 7), (7, ev_fn (ev_aload 0 8)), (8, ev_fn (ev_getf 1 1 11)), (11, ev_callR 2 (mf_A_clear z) 1 14), (14, ev_fn (ev_aload 0 15)), (15, ev_fn (ev_ci 0 16)), (16, ev_fn (ev_putf 1 2 .int 19)), (19, ev_fn (ev_aload 0 20)), (20, ev_fn (ev_ci 0 21)), (21, ev_fn (ev_putf 1 3 .boolean 24)), (24, ev_fn ev_vret)]
def mf_L_close (z : Nat × Nat) : ev_F := ev_met (mk_L_close z) 1
set_option maxHeartbeats 4000000 in
set_option maxRecDepth 100000 in
theorem mg_L_close : ev_AllG (ev_Good l vc_L vt_L (gw_G b Ls xs z) prog_6_method_3_code 1 none my_L_close.name my_L_close.cls tb_T 1 23) (mk_L_close z) := by
  refine ⟨ok_aload_n (z := 0) (by decide +kernel) rfl, ?_⟩
  refine ⟨ok_getf (ix := 12) hc_1 (by decide) hi_1 tw_67 (Or.inl rfl) (by decide +kernel), ?_⟩
  refine ⟨ok_callV (ix := 25) hc_2 ms_A_clear (tb_cwV tw_392 tw_393 tw_394 tw_5 tw_395 (by decide +kernel) (by decide) (by decide)) (by decide +kernel), ?_⟩
  refine ⟨ok_aload_n (z := 0) (by decide +kernel) rfl, ?_⟩
  refine ⟨ok_getf (ix := 18) hc_1 (by decide) hi_1 tw_70 (Or.inl rfl) (by decide +kernel), ?_⟩
  refine ⟨ok_callV (ix := 25) hc_2 ms_A_clear (tb_cwV tw_392 tw_393 tw_394 tw_5 tw_395 (by decide +kernel) (by decide) (by decide)) (by decide +kernel), ?_⟩
  refine ⟨ok_aload_n (z := 0) (by decide +kernel) rfl, ?_⟩
  refine ⟨ok_iconst (z := 0) (by decide +kernel) (by decide +kernel), ?_⟩
  refine ⟨ok_putf (ix := 21) hc_1 (by decide) hi_1 ht_1 hn_1 tw_72 (Or.inl rfl) rfl (by decide +kernel) (by decide +kernel), ?_⟩
  refine ⟨ok_aload_n (z := 0) (by decide +kernel) rfl, ?_⟩
  refine ⟨ok_iconst (z := 0) (by decide +kernel) (by decide +kernel), ?_⟩
  refine ⟨ok_putf (ix := 28) hc_1 (by decide) hi_1 ht_1 hn_1 tw_75 (Or.inl rfl) rfl (by decide +kernel) (by decide +kernel), ?_⟩
  refine ⟨ok_vret rfl (by decide +kernel), ?_⟩
  exact trivial
theorem ms_L_close : ev_Met l vc_L vt_L (gw_G b Ls xs z) my_L_close (Cond.code my_L_close prog_6_method_3_code 1 none :: tb_T) 1 23 (mf_L_close z) := ev_sound (by decide +kernel) mg_L_close
def my_H_drop : MethodName := ⟨"MessageHub", "drop", "(I)Z"⟩
def mk_H_drop (z : Nat × Nat) : ev_C := [(0, ev_fn (ev_iload 1 1)), (1, ev_call (mf_H_isClient z) 1 4), (4, ev_fn (ev_ifeq 19 7)), (7, ev_fn (ev_aload 0 8)), (8, ev_fn (ev_getf 0 0 11)), (11, ev_fn (ev_iload 1 12)), (12, ev_fn (ev_aaldR 13)), (13, ev_fn (ev_getf 1 2 16)), (16, ev_fn (ev_ifne 21 19)), (19, ev_fn (ev_ci 0 20)), (20, ev_fn (ev_zret .boolean)), (21, ev_fn (ev_aload 0 22)), (22, ev_fn (ev_getf 0 0 25)), (25, ev_fn (ev_iload 1 26)), (26, ev_fn (ev_aaldR 27)), (27, ev_callR 1 (mf_L_close z) 1 30), (30, ev_fn (ev_ci 1 31)), (31, ev_fn (ev_zret .boolean))]
def mf_H_drop (z : Nat × Nat) : ev_F := ev_met (mk_H_drop z) 2
set_option maxHeartbeats 4000000 in
set_option maxRecDepth 100000 in
theorem mg_H_drop : ev_AllG (ev_Good l vc_L vt_L (gw_G b Ls xs z) prog_1_method_4_code 2 (some .boolean) my_H_drop.name my_H_drop.cls tb_T 2 43) (mk_H_drop z) := by
  refine ⟨ok_iload_n (z := 1) (by decide +kernel) rfl, ?_⟩
  refine ⟨ok_callS (ix := 40) ms_H_isClient (tb_cwS tw_247 tw_248 tw_1 tw_249 (by decide +kernel) (by decide) (by decide)) (by decide +kernel), ?_⟩
  refine ⟨ok_ifeq (off := 15) (by decide +kernel) (by decide), ?_⟩
  refine ⟨ok_aload_n (z := 0) (by decide +kernel) rfl, ?_⟩
  refine ⟨ok_getf (ix := 11) hc_0 (by decide) hi_0 tw_224 (Or.inl rfl) (by decide +kernel), ?_⟩
  refine ⟨ok_iload_n (z := 1) (by decide +kernel) rfl, ?_⟩
  refine ⟨ok_aaldR (by decide +kernel), ?_⟩
  refine ⟨ok_getf (ix := 52) hc_1 (by decide) hi_1 tw_74 (Or.inl rfl) (by decide +kernel), ?_⟩
  refine ⟨ok_ifne (off := 5) (by decide +kernel) (by decide), ?_⟩
  refine ⟨ok_iconst (z := 0) (by decide +kernel) (by decide +kernel), ?_⟩
  refine ⟨ok_zret rfl (by decide +kernel), ?_⟩
  refine ⟨ok_aload_n (z := 0) (by decide +kernel) rfl, ?_⟩
  refine ⟨ok_getf (ix := 11) hc_0 (by decide) hi_0 tw_224 (Or.inl rfl) (by decide +kernel), ?_⟩
  refine ⟨ok_iload_n (z := 1) (by decide +kernel) rfl, ?_⟩
  refine ⟨ok_aaldR (by decide +kernel), ?_⟩
  refine ⟨ok_callV (ix := 64) hc_1 ms_L_close (tb_cwV tw_388 tw_389 tw_390 tw_2 tw_391 (by decide +kernel) (by decide) (by decide)) (by decide +kernel), ?_⟩
  refine ⟨ok_iconst (z := 1) (by decide +kernel) (by decide +kernel), ?_⟩
  refine ⟨ok_zret rfl (by decide +kernel), ?_⟩
  exact trivial
theorem ms_H_drop : ev_Met l vc_L vt_L (gw_G b Ls xs z) my_H_drop (Cond.code my_H_drop prog_1_method_4_code 2 (some .boolean) :: tb_T) 2 43 (mf_H_drop z) := ev_sound (by decide +kernel) mg_H_drop
def my_A_size : MethodName := ⟨"java/util/ArrayList", "size", "()I"⟩
def mk_A_size (z : Nat × Nat) : ev_C := [(0, ev_fn (ev_aload 0 1)), (1, ev_fn (ev_getf 2 1 4)), (4, ev_fn ev_iret)]
def mf_A_size (z : Nat × Nat) : ev_F := ev_met (mk_A_size z) 1
set_option maxHeartbeats 4000000 in
set_option maxRecDepth 100000 in
theorem mg_A_size : ev_AllG (ev_Good l vc_L vt_L (gw_G b Ls xs z) prog_23_method_8_code 1 (some .int) my_A_size.name my_A_size.cls tb_T 0 0) (mk_A_size z) := by
  refine ⟨ok_aload_n (z := 0) (by decide +kernel) rfl, ?_⟩
  refine ⟨ok_getf (ix := 48) hc_2 (by decide) hi_2 tw_56 (Or.inl rfl) (by decide +kernel), ?_⟩
  refine ⟨ok_iret rfl (by decide +kernel), ?_⟩
  exact trivial
theorem ms_A_size : ev_Met l vc_L vt_L (gw_G b Ls xs z) my_A_size (Cond.code my_A_size prog_23_method_8_code 1 (some .int) :: tb_T) 0 0 (mf_A_size z) := ev_sound (by decide +kernel) mg_A_size
def my_H_canSend : MethodName := ⟨"MessageHub", "canSend", "(I)Z"⟩
def mk_H_canSend (z : Nat × Nat) : ev_C := [(0, ev_fn (ev_iload 1 1)), (1, ev_call (mf_H_isClient z) 1 4), (4, ev_fn (ev_ifeq 41 7)), (7, ev_fn (ev_aload 0 8)), (8, ev_fn (ev_getf 0 0 11)), (11, ev_fn (ev_iload 1 12)), (12, ev_fn (ev_aaldR 13)), (13, ev_fn (ev_getf 1 2 16)), (16, ev_fn (ev_ci 2 17)), (17, ev_fn (ev_icmpne 41 20)), (20, ev_fn (ev_aload 0 21)), (21, ev_fn (ev_getf 0 0 24)), (24, ev_fn (ev_iload 1 25)), (25, ev_fn (ev_aaldR 26)), (26, ev_fn (ev_getf 1 0 29)), (29, ev_callR 2 (mf_A_size z) 1 32), (32, ev_fn (ev_ci 12 34)), (34, ev_fn (ev_icmpge 41 37)), (37, ev_fn (ev_ci 1 38)), (38, ev_fn (ev_goto 42)), (41, ev_fn (ev_ci 0 42)), (42, ev_fn (ev_zret .boolean))]
def mf_H_canSend (z : Nat × Nat) : ev_F := ev_met (mk_H_canSend z) 2
set_option maxHeartbeats 4000000 in
set_option maxRecDepth 100000 in
theorem mg_H_canSend : ev_AllG (ev_Good l vc_L vt_L (gw_G b Ls xs z) prog_1_method_24_code 2 (some .boolean) my_H_canSend.name my_H_canSend.cls tb_T 2 42) (mk_H_canSend z) := by
  refine ⟨ok_iload_n (z := 1) (by decide +kernel) rfl, ?_⟩
  refine ⟨ok_callS (ix := 40) ms_H_isClient (tb_cwS tw_247 tw_248 tw_1 tw_249 (by decide +kernel) (by decide) (by decide)) (by decide +kernel), ?_⟩
  refine ⟨ok_ifeq (off := 37) (by decide +kernel) (by decide), ?_⟩
  refine ⟨ok_aload_n (z := 0) (by decide +kernel) rfl, ?_⟩
  refine ⟨ok_getf (ix := 11) hc_0 (by decide) hi_0 tw_224 (Or.inl rfl) (by decide +kernel), ?_⟩
  refine ⟨ok_iload_n (z := 1) (by decide +kernel) rfl, ?_⟩
  refine ⟨ok_aaldR (by decide +kernel), ?_⟩
  refine ⟨ok_getf (ix := 52) hc_1 (by decide) hi_1 tw_74 (Or.inl rfl) (by decide +kernel), ?_⟩
  refine ⟨ok_iconst (z := 2) (by decide +kernel) (by decide +kernel), ?_⟩
  refine ⟨ok_icmpne (off := 24) (by decide +kernel) (by decide), ?_⟩
  refine ⟨ok_aload_n (z := 0) (by decide +kernel) rfl, ?_⟩
  refine ⟨ok_getf (ix := 11) hc_0 (by decide) hi_0 tw_224 (Or.inl rfl) (by decide +kernel), ?_⟩
  refine ⟨ok_iload_n (z := 1) (by decide +kernel) rfl, ?_⟩
  refine ⟨ok_aaldR (by decide +kernel), ?_⟩
  refine ⟨ok_getf (ix := 70) hc_1 (by decide) hi_1 tw_69 (Or.inl rfl) (by decide +kernel), ?_⟩
  refine ⟨ok_callV (ix := 116) hc_2 ms_A_size (tb_cwV tw_404 tw_405 tw_406 tw_5 tw_407 (by decide +kernel) (by decide) (by decide)) (by decide +kernel), ?_⟩
  refine ⟨ok_bipush (z := 12) (by decide +kernel) (by decide +kernel), ?_⟩
  refine ⟨ok_icmpge (off := 7) (by decide +kernel) (by decide), ?_⟩
  refine ⟨ok_iconst (z := 1) (by decide +kernel) (by decide +kernel), ?_⟩
  refine ⟨ok_goto (off := 4) (by decide +kernel) (by decide), ?_⟩
  refine ⟨ok_iconst (z := 0) (by decide +kernel) (by decide +kernel), ?_⟩
  refine ⟨ok_zret rfl (by decide +kernel), ?_⟩
  exact trivial
theorem ms_H_canSend : ev_Met l vc_L vt_L (gw_G b Ls xs z) my_H_canSend (Cond.code my_H_canSend prog_1_method_24_code 2 (some .boolean) :: tb_T) 2 42 (mf_H_canSend z) := ev_sound (by decide +kernel) mg_H_canSend
def my_H_leave : MethodName := ⟨"MessageHub", "leave", "(I)Z"⟩
def mk_H_leave (z : Nat × Nat) : ev_C := [(0, ev_fn (ev_aload 0 1)), (1, ev_fn (ev_iload 1 2)), (2, ev_callR 0 (mf_H_canSend z) 2 5), (5, ev_fn (ev_ifne 10 8)), (8, ev_fn (ev_ci 0 9)), (9, ev_fn (ev_zret .boolean)), (10, ev_fn (ev_aload 0 11)), (11, ev_fn (ev_getf 0 0 14)), (14, ev_fn (ev_iload 1 15)), (15, ev_fn (ev_aaldR 16)), (16, ev_fn (ev_getf 1 0 19)), (19, ev_fn (ev_newo 8 10 ff_8 22)), (22, ev_fn (ev_dup 23)), (23, ev_fn (ev_ci 14 25)), (25, ev_fn (ev_ci 0 26)), (26, ev_fn (ev_ci 0 27)), (27, ev_callI (mf_P_init z) 4 30), (30, ev_callR 2 (mf_A_add z) 2 33), (33, ev_fn (ev_pop 34)), (34, ev_fn (ev_aload 0 35)), (35, ev_fn (ev_getf 0 0 38)), (38, ev_fn (ev_iload 1 39)), (39, ev_fn (ev_aaldR 40)), (40, ev_fn (ev_ci 3 41)), (41, ev_fn (ev_putf 1 2 .int 44)), (44, ev_fn (ev_ci 1 45)), (45, ev_fn (ev_zret .boolean))]
def mf_H_leave (z : Nat × Nat) : ev_F := ev_met (mk_H_leave z) 2
set_option maxHeartbeats 4000000 in
set_option maxRecDepth 100000 in
theorem mg_H_leave : ev_AllG (ev_Good l vc_L vt_L (gw_G b Ls xs z) prog_1_method_5_code 2 (some .boolean) my_H_leave.name my_H_leave.cls tb_T 7 176) (mk_H_leave z) := by
  refine ⟨ok_aload_n (z := 0) (by decide +kernel) rfl, ?_⟩
  refine ⟨ok_iload_n (z := 1) (by decide +kernel) rfl, ?_⟩
  refine ⟨ok_callV (ix := 67) hc_0 ms_H_canSend (tb_cwV tw_400 tw_402 tv_3 tw_1 tw_403 (by decide +kernel) (by decide) (by decide)) (by decide +kernel), ?_⟩
  refine ⟨ok_ifne (off := 5) (by decide +kernel) (by decide), ?_⟩
  refine ⟨ok_iconst (z := 0) (by decide +kernel) (by decide +kernel), ?_⟩
  refine ⟨ok_zret rfl (by decide +kernel), ?_⟩
  refine ⟨ok_aload_n (z := 0) (by decide +kernel) rfl, ?_⟩
  refine ⟨ok_getf (ix := 11) hc_0 (by decide) hi_0 tw_224 (Or.inl rfl) (by decide +kernel), ?_⟩
  refine ⟨ok_iload_n (z := 1) (by decide +kernel) rfl, ?_⟩
  refine ⟨ok_aaldR (by decide +kernel), ?_⟩
  refine ⟨ok_getf (ix := 70) hc_1 (by decide) hi_1 tw_69 (Or.inl rfl) (by decide +kernel), ?_⟩
  refine ⟨ok_newo (ix := 74) hc_8 hi_8 ht_8 hf_8 tw_408 tw_273 tw_13 (by decide +kernel), ?_⟩
  refine ⟨ok_dup (by decide +kernel), ?_⟩
  refine ⟨ok_bipush (z := 14) (by decide +kernel) (by decide +kernel), ?_⟩
  refine ⟨ok_iconst (z := 0) (by decide +kernel) (by decide +kernel), ?_⟩
  refine ⟨ok_iconst (z := 0) (by decide +kernel) (by decide +kernel), ?_⟩
  refine ⟨ok_callI (ix := 76) ms_P_init (tb_cwI tw_409 tw_275 tw_13 tw_276 rfl (by decide +kernel) (by decide) (by decide)) (by decide +kernel), ?_⟩
  refine ⟨ok_callV (ix := 79) hc_2 ms_A_add (tb_cwV tw_410 tw_325 tw_326 tw_5 tw_327 (by decide +kernel) (by decide) (by decide)) (by decide +kernel), ?_⟩
  refine ⟨ok_pop (by decide +kernel), ?_⟩
  refine ⟨ok_aload_n (z := 0) (by decide +kernel) rfl, ?_⟩
  refine ⟨ok_getf (ix := 11) hc_0 (by decide) hi_0 tw_224 (Or.inl rfl) (by decide +kernel), ?_⟩
  refine ⟨ok_iload_n (z := 1) (by decide +kernel) rfl, ?_⟩
  refine ⟨ok_aaldR (by decide +kernel), ?_⟩
  refine ⟨ok_iconst (z := 3) (by decide +kernel) (by decide +kernel), ?_⟩
  refine ⟨ok_putf (ix := 52) hc_1 (by decide) hi_1 ht_1 hn_1 tw_74 (Or.inl rfl) rfl (by decide +kernel) (by decide +kernel), ?_⟩
  refine ⟨ok_iconst (z := 1) (by decide +kernel) (by decide +kernel), ?_⟩
  refine ⟨ok_zret rfl (by decide +kernel), ?_⟩
  exact trivial
theorem ms_H_leave : ev_Met l vc_L vt_L (gw_G b Ls xs z) my_H_leave (Cond.code my_H_leave prog_1_method_5_code 2 (some .boolean) :: tb_T) 7 176 (mf_H_leave z) := ev_sound (by decide +kernel) mg_H_leave
def my_H_ping : MethodName := ⟨"MessageHub", "ping", "(I)Z"⟩
def mk_H_ping (z : Nat × Nat) : ev_C := [(0, ev_fn (ev_aload 0 1)), (1, ev_fn (ev_iload 1 2)), (2, ev_callR 0 (mf_H_canSend z) 2 5), (5, ev_fn (ev_ifne 10 8)), (8, ev_fn (ev_ci 0 9)), (9, ev_fn (ev_zret .boolean)), (10, ev_fn (ev_aload 0 11)), (11, ev_fn (ev_getf 0 0 14)), (14, ev_fn (ev_iload 1 15)), (15, ev_fn (ev_aaldR 16)), (16, ev_fn (ev_getf 1 0 19)), (19, ev_fn (ev_newo 8 10 ff_8 22)), (22, ev_fn (ev_dup 23)), (23, ev_fn (ev_ci 12 25)), (25, ev_fn (ev_ci 0 26)), (26, ev_fn (ev_ci 0 27)), (27, ev_callI (mf_P_init z) 4 30), (30, ev_callR 2 (mf_A_add z) 2 33), (33, ev_fn (ev_pop 34)), (34, ev_fn (ev_ci 1 35)), (35, ev_fn (ev_zret .boolean))]
def mf_H_ping (z : Nat × Nat) : ev_F := ev_met (mk_H_ping z) 2
set_option maxHeartbeats 4000000 in
set_option maxRecDepth 100000 in
theorem mg_H_ping : ev_AllG (ev_Good l vc_L vt_L (gw_G b Ls xs z) prog_1_method_6_code 2 (some .boolean) my_H_ping.name my_H_ping.cls tb_T 7 176) (mk_H_ping z) := by
  refine ⟨ok_aload_n (z := 0) (by decide +kernel) rfl, ?_⟩
  refine ⟨ok_iload_n (z := 1) (by decide +kernel) rfl, ?_⟩
  refine ⟨ok_callV (ix := 67) hc_0 ms_H_canSend (tb_cwV tw_400 tw_402 tv_3 tw_1 tw_403 (by decide +kernel) (by decide) (by decide)) (by decide +kernel), ?_⟩
  refine ⟨ok_ifne (off := 5) (by decide +kernel) (by decide), ?_⟩
  refine ⟨ok_iconst (z := 0) (by decide +kernel) (by decide +kernel), ?_⟩
  refine ⟨ok_zret rfl (by decide +kernel), ?_⟩
  refine ⟨ok_aload_n (z := 0) (by decide +kernel) rfl, ?_⟩
  refine ⟨ok_getf (ix := 11) hc_0 (by decide) hi_0 tw_224 (Or.inl rfl) (by decide +kernel), ?_⟩
  refine ⟨ok_iload_n (z := 1) (by decide +kernel) rfl, ?_⟩
  refine ⟨ok_aaldR (by decide +kernel), ?_⟩
  refine ⟨ok_getf (ix := 70) hc_1 (by decide) hi_1 tw_69 (Or.inl rfl) (by decide +kernel), ?_⟩
  refine ⟨ok_newo (ix := 74) hc_8 hi_8 ht_8 hf_8 tw_408 tw_273 tw_13 (by decide +kernel), ?_⟩
  refine ⟨ok_dup (by decide +kernel), ?_⟩
  refine ⟨ok_bipush (z := 12) (by decide +kernel) (by decide +kernel), ?_⟩
  refine ⟨ok_iconst (z := 0) (by decide +kernel) (by decide +kernel), ?_⟩
  refine ⟨ok_iconst (z := 0) (by decide +kernel) (by decide +kernel), ?_⟩
  refine ⟨ok_callI (ix := 76) ms_P_init (tb_cwI tw_409 tw_275 tw_13 tw_276 rfl (by decide +kernel) (by decide) (by decide)) (by decide +kernel), ?_⟩
  refine ⟨ok_callV (ix := 79) hc_2 ms_A_add (tb_cwV tw_410 tw_325 tw_326 tw_5 tw_327 (by decide +kernel) (by decide) (by decide)) (by decide +kernel), ?_⟩
  refine ⟨ok_pop (by decide +kernel), ?_⟩
  refine ⟨ok_iconst (z := 1) (by decide +kernel) (by decide +kernel), ?_⟩
  refine ⟨ok_zret rfl (by decide +kernel), ?_⟩
  exact trivial
theorem ms_H_ping : ev_Met l vc_L vt_L (gw_G b Ls xs z) my_H_ping (Cond.code my_H_ping prog_1_method_6_code 2 (some .boolean) :: tb_T) 7 176 (mf_H_ping z) := ev_sound (by decide +kernel) mg_H_ping
def my_T_isJokerInPlace : MethodName := ⟨"MessageHub$Text", "isJokerInPlace", "(JI)Z"⟩
def mk_T_isJokerInPlace (z : Nat × Nat) : ev_C := [(0, ev_fn (ev_lload 0 1)), (1, ev_fn (ev_iload 2 2)), (2, ev_fn (ev_ci 1 3)), (3, ev_fn (ev_isub 4)), (4, ev_call (mf_T_letterAt z) 2 7), (7, ev_fn (ev_istore 3 8)), (8, ev_fn (ev_lload 0 9)), (9, ev_fn (ev_iload 2 10)), (10, ev_fn (ev_ci 1 11)), (11, ev_fn (ev_iadd 12)), (12, ev_call (mf_T_letterAt z) 2 15), (15, ev_fn (ev_istore 4 17)), (17, ev_fn (ev_iload 3 18)), (18, ev_fn (ev_ifeq 29 21)), (21, ev_fn (ev_iload 3 22)), (22, ev_fn (ev_ci 47 24)), (24, ev_fn (ev_icmpeq 29 27)), (27, ev_fn (ev_ci 0 28)), (28, ev_fn (ev_zret .boolean)), (29, ev_fn (ev_lload 0 30)), (30, ev_fn (ev_iload 2 31)), (31, ev_call (mf_T_letterAt z) 2 34), (34, ev_fn (ev_istore 5 36)), (36, ev_fn (ev_iload 5 38)), (38, ev_fn (ev_ci 43 40)), (40, ev_fn (ev_icmpne 55 43)), (43, ev_fn (ev_iload 4 45)), (45, ev_fn (ev_ifeq 67 48)), (48, ev_fn (ev_iload 4 50)), (50, ev_fn (ev_ci 47 52)), (52, ev_fn (ev_icmpeq 67 55)), (55, ev_fn (ev_iload 5 57)), (57, ev_fn (ev_ci 35 59)), (59, ev_fn (ev_icmpne 71 62)), (62, ev_fn (ev_iload 4 64)), (64, ev_fn (ev_ifne 71 67)), (67, ev_fn (ev_ci 1 68)), (68, ev_fn (ev_goto 72)), (71, ev_fn (ev_ci 0 72)), (72, ev_fn (ev_zret .boolean))]
def mf_T_isJokerInPlace (z : Nat × Nat) : ev_F := ev_met (mk_T_isJokerInPlace z) 6
set_option maxHeartbeats 4000000 in
set_option maxRecDepth 100000 in
theorem mg_T_isJokerInPlace : ev_AllG (ev_Good l vc_L vt_L (gw_G b Ls xs z) prog_12_method_7_code 6 (some .boolean) my_T_isJokerInPlace.name my_T_isJokerInPlace.cls tb_T 2 44) (mk_T_isJokerInPlace z) := by
  refine ⟨ok_lload_n (z := 0) (by decide +kernel) rfl, ?_⟩
  refine ⟨ok_iload_n (z := 2) (by decide +kernel) rfl, ?_⟩
  refine ⟨ok_iconst (z := 1) (by decide +kernel) (by decide +kernel), ?_⟩
  refine ⟨ok_isub (by decide +kernel), ?_⟩
  refine ⟨ok_callS (ix := 9) ms_T_letterAt (tb_cwS tw_241 tw_242 tw_12 tw_243 (by decide +kernel) (by decide) (by decide)) (by decide +kernel), ?_⟩
  refine ⟨ok_istore_n (z := 3) (by decide) (by decide +kernel) rfl, ?_⟩
  refine ⟨ok_lload_n (z := 0) (by decide +kernel) rfl, ?_⟩
  refine ⟨ok_iload_n (z := 2) (by decide +kernel) rfl, ?_⟩
  refine ⟨ok_iconst (z := 1) (by decide +kernel) (by decide +kernel), ?_⟩
  refine ⟨ok_iadd (by decide +kernel), ?_⟩
  refine ⟨ok_callS (ix := 9) ms_T_letterAt (tb_cwS tw_241 tw_242 tw_12 tw_243 (by decide +kernel) (by decide) (by decide)) (by decide +kernel), ?_⟩
  refine ⟨ok_istore (by decide) (by decide +kernel), ?_⟩
  refine ⟨ok_iload_n (z := 3) (by decide +kernel) rfl, ?_⟩
  refine ⟨ok_ifeq (off := 11) (by decide +kernel) (by decide), ?_⟩
  refine ⟨ok_iload_n (z := 3) (by decide +kernel) rfl, ?_⟩
  refine ⟨ok_bipush (z := 47) (by decide +kernel) (by decide +kernel), ?_⟩
  refine ⟨ok_icmpeq (off := 5) (by decide +kernel) (by decide), ?_⟩
  refine ⟨ok_iconst (z := 0) (by decide +kernel) (by decide +kernel), ?_⟩
  refine ⟨ok_zret rfl (by decide +kernel), ?_⟩
  refine ⟨ok_lload_n (z := 0) (by decide +kernel) rfl, ?_⟩
  refine ⟨ok_iload_n (z := 2) (by decide +kernel) rfl, ?_⟩
  refine ⟨ok_callS (ix := 9) ms_T_letterAt (tb_cwS tw_241 tw_242 tw_12 tw_243 (by decide +kernel) (by decide) (by decide)) (by decide +kernel), ?_⟩
  refine ⟨ok_istore (by decide) (by decide +kernel), ?_⟩
  refine ⟨ok_iload (by decide +kernel), ?_⟩
  refine ⟨ok_bipush (z := 43) (by decide +kernel) (by decide +kernel), ?_⟩
  refine ⟨ok_icmpne (off := 15) (by decide +kernel) (by decide), ?_⟩
  refine ⟨ok_iload (by decide +kernel), ?_⟩
  refine ⟨ok_ifeq (off := 22) (by decide +kernel) (by decide), ?_⟩
  refine ⟨ok_iload (by decide +kernel), ?_⟩
  refine ⟨ok_bipush (z := 47) (by decide +kernel) (by decide +kernel), ?_⟩
  refine ⟨ok_icmpeq (off := 15) (by decide +kernel) (by decide), ?_⟩
  refine ⟨ok_iload (by decide +kernel), ?_⟩
  refine ⟨ok_bipush (z := 35) (by decide +kernel) (by decide +kernel), ?_⟩
  refine ⟨ok_icmpne (off := 12) (by decide +kernel) (by decide), ?_⟩
  refine ⟨ok_iload (by decide +kernel), ?_⟩
  refine ⟨ok_ifne (off := 7) (by decide +kernel) (by decide), ?_⟩
  refine ⟨ok_iconst (z := 1) (by decide +kernel) (by decide +kernel), ?_⟩
  refine ⟨ok_goto (off := 4) (by decide +kernel) (by decide), ?_⟩
  refine ⟨ok_iconst (z := 0) (by decide +kernel) (by decide +kernel), ?_⟩
  refine ⟨ok_zret rfl (by decide +kernel), ?_⟩
  exact trivial
theorem ms_T_isJokerInPlace : ev_Met l vc_L vt_L (gw_G b Ls xs z) my_T_isJokerInPlace (Cond.code my_T_isJokerInPlace prog_12_method_7_code 6 (some .boolean) :: tb_T) 2 44 (mf_T_isJokerInPlace z) := ev_sound (by decide +kernel) mg_T_isJokerInPlace
def my_T_isFilter : MethodName := ⟨"MessageHub$Text", "isFilter", "(J)Z"⟩
def mk_T_isFilter (z : Nat × Nat) : ev_C := [(0, ev_fn (ev_ci 0 1)), (1, ev_fn (ev_istore 2 2)), (2, ev_fn (ev_iload 2 3)), (3, ev_fn (ev_ci 8 5)), (5, ev_fn (ev_icmpge 41 8)), (8, ev_fn (ev_lload 0 9)), (9, ev_fn (ev_iload 2 10)), (10, ev_call (mf_T_letterAt z) 2 13), (13, ev_fn (ev_istore 3 14)), (14, ev_fn (ev_iload 3 15)), (15, ev_fn (ev_ifeq 35 18)), (18, ev_fn (ev_iload 3 19)), (19, ev_call (mf_T_isPlain z) 1 22), (22, ev_fn (ev_ifne 35 25)), (25, ev_fn (ev_lload 0 26)), (26, ev_fn (ev_iload 2 27)), (27, ev_call (mf_T_isJokerInPlace z) 2 30), (30, ev_fn (ev_ifne 35 33)), (33, ev_fn (ev_ci 0 34)), (34, ev_fn (ev_zret .boolean)), (35, ev_fn (ev_iinc 2 1 38)), (38, ev_fn (ev_goto 2)), (41, ev_fn (ev_lload 0 42)), (42, ev_fn (ev_cl 0 43)), (43, ev_fn (ev_lcmp 44)), (44, ev_fn (ev_ifeq 51 47)), (47, ev_fn (ev_ci 1 48)), (48, ev_fn (ev_goto 52)), (51, ev_fn (ev_ci 0 52)), (52, ev_fn (ev_zret .boolean))]
def mf_T_isFilter (z : Nat × Nat) : ev_F := ev_met (mk_T_isFilter z) 4
set_option maxHeartbeats 4000000 in
set_option maxRecDepth 100000 in
theorem mg_T_isFilter : ev_AllG (ev_Good l vc_L vt_L (gw_G b Ls xs z) prog_12_method_4_code 4 (some .boolean) my_T_isFilter.name my_T_isFilter.cls tb_T 3 69) (mk_T_isFilter z) := by
  refine ⟨ok_iconst (z := 0) (by decide +kernel) (by decide +kernel), ?_⟩
  refine ⟨ok_istore_n (z := 2) (by decide) (by decide +kernel) rfl, ?_⟩
  refine ⟨ok_iload_n (z := 2) (by decide +kernel) rfl, ?_⟩
  refine ⟨ok_bipush (z := 8) (by decide +kernel) (by decide +kernel), ?_⟩
  refine ⟨ok_icmpge (off := 36) (by decide +kernel) (by decide), ?_⟩
  refine ⟨ok_lload_n (z := 0) (by decide +kernel) rfl, ?_⟩
  refine ⟨ok_iload_n (z := 2) (by decide +kernel) rfl, ?_⟩
  refine ⟨ok_callS (ix := 9) ms_T_letterAt (tb_cwS tw_241 tw_242 tw_12 tw_243 (by decide +kernel) (by decide) (by decide)) (by decide +kernel), ?_⟩
  refine ⟨ok_istore_n (z := 3) (by decide) (by decide +kernel) rfl, ?_⟩
  refine ⟨ok_iload_n (z := 3) (by decide +kernel) rfl, ?_⟩
  refine ⟨ok_ifeq (off := 20) (by decide +kernel) (by decide), ?_⟩
  refine ⟨ok_iload_n (z := 3) (by decide +kernel) rfl, ?_⟩
  refine ⟨ok_callS (ix := 15) ms_T_isPlain (tb_cwS tw_254 tw_255 tw_12 tw_256 (by decide +kernel) (by decide) (by decide)) (by decide +kernel), ?_⟩
  refine ⟨ok_ifne (off := 13) (by decide +kernel) (by decide), ?_⟩
  refine ⟨ok_lload_n (z := 0) (by decide +kernel) rfl, ?_⟩
  refine ⟨ok_iload_n (z := 2) (by decide +kernel) rfl, ?_⟩
  refine ⟨ok_callS (ix := 19) ms_T_isJokerInPlace (tb_cwS tw_422 tw_423 tw_12 tw_424 (by decide +kernel) (by decide) (by decide)) (by decide +kernel), ?_⟩
  refine ⟨ok_ifne (off := 5) (by decide +kernel) (by decide), ?_⟩
  refine ⟨ok_iconst (z := 0) (by decide +kernel) (by decide +kernel), ?_⟩
  refine ⟨ok_zret rfl (by decide +kernel), ?_⟩
  refine ⟨ok_iinc (z := 1) (by decide) (by decide +kernel) (by decide +kernel), ?_⟩
  refine ⟨ok_goto (off := (-36)) (by decide +kernel) (by decide), ?_⟩
  refine ⟨ok_lload_n (z := 0) (by decide +kernel) rfl, ?_⟩
  refine ⟨ok_lconst (z := 0) (by decide +kernel) (by decide +kernel), ?_⟩
  refine ⟨ok_lcmp (by decide +kernel), ?_⟩
  refine ⟨ok_ifeq (off := 7) (by decide +kernel) (by decide), ?_⟩
  refine ⟨ok_iconst (z := 1) (by decide +kernel) (by decide +kernel), ?_⟩
  refine ⟨ok_goto (off := 4) (by decide +kernel) (by decide), ?_⟩
  refine ⟨ok_iconst (z := 0) (by decide +kernel) (by decide +kernel), ?_⟩
  refine ⟨ok_zret rfl (by decide +kernel), ?_⟩
  exact trivial
theorem ms_T_isFilter : ev_Met l vc_L vt_L (gw_G b Ls xs z) my_T_isFilter (Cond.code my_T_isFilter prog_12_method_4_code 4 (some .boolean) :: tb_T) 3 69 (mf_T_isFilter z) := ev_sound (by decide +kernel) mg_T_isFilter
def my_P_ofFilter : MethodName := ⟨"MessageHub$Packet", "ofFilter", "(IJIZ)LMessageHub$Packet;"⟩
def mk_P_ofFilter (z : Nat × Nat) : ev_C := [(0, ev_fn (ev_newo 8 10 ff_8 3)), (3, ev_fn (ev_dup 4)), (4, ev_fn (ev_iload 0 5)), (5, ev_fn (ev_ci 0 6)), (6, ev_fn (ev_iload 3 7)), (7, ev_callI (mf_P_init z) 4 10), (10, ev_fn (ev_astore 5 12)), (12, ev_fn (ev_aload 5 14)), (14, ev_fn (ev_lload 1 15)), (15, ev_fn (ev_putf 8 3 .long 18)), (18, ev_fn (ev_aload 5 20)), (20, ev_fn (ev_iload 4 22)), (22, ev_fn (ev_putf 8 6 .boolean 25)), (25, ev_fn (ev_aload 5 27)), (27, ev_fn ev_aret)]
def mf_P_ofFilter (z : Nat × Nat) : ev_F := ev_met (mk_P_ofFilter z) 6
set_option maxHeartbeats 4000000 in
set_option maxRecDepth 100000 in
theorem mg_P_ofFilter : ev_AllG (ev_Good l vc_L vt_L (gw_G b Ls xs z) prog_8_method_3_code 6 (some (.object "MessageHub$Packet")) my_P_ofFilter.name my_P_ofFilter.cls tb_T 2 43) (mk_P_ofFilter z) := by
  refine ⟨ok_newo (ix := 10) hc_8 hi_8 ht_8 hf_8 tw_272 tw_273 tw_13 (by decide +kernel), ?_⟩
  refine ⟨ok_dup (by decide +kernel), ?_⟩
  refine ⟨ok_iload_n (z := 0) (by decide +kernel) rfl, ?_⟩
  refine ⟨ok_iconst (z := 0) (by decide +kernel) (by decide +kernel), ?_⟩
  refine ⟨ok_iload_n (z := 3) (by decide +kernel) rfl, ?_⟩
  refine ⟨ok_callI (ix := 24) ms_P_init (tb_cwI tw_274 tw_275 tw_13 tw_276 rfl (by decide +kernel) (by decide) (by decide)) (by decide +kernel), ?_⟩
  refine ⟨ok_astore (by decide) (by decide +kernel), ?_⟩
  refine ⟨ok_aload (by decide +kernel), ?_⟩
  refine ⟨ok_lload_n (z := 1) (by decide +kernel) rfl, ?_⟩
  refine ⟨ok_putf (ix := 31) hc_8 (by decide) hi_8 ht_8 hn_8 tw_288 (Or.inl rfl) rfl (by decide +kernel) (by decide +kernel), ?_⟩
  refine ⟨ok_aload (by decide +kernel), ?_⟩
  refine ⟨ok_iload (by decide +kernel), ?_⟩
  refine ⟨ok_putf (ix := 45) hc_8 (by decide) hi_8 ht_8 hn_8 tw_295 (Or.inl rfl) rfl (by decide +kernel) (by decide +kernel), ?_⟩
  refine ⟨ok_aload (by decide +kernel), ?_⟩
  refine ⟨ok_aret rfl (Or.inl ⟨_, rfl⟩) (by decide +kernel), ?_⟩
  exact trivial
theorem ms_P_ofFilter : ev_Met l vc_L vt_L (gw_G b Ls xs z) my_P_ofFilter (Cond.code my_P_ofFilter prog_8_method_3_code 6 (some (.object "MessageHub$Packet")) :: tb_T) 2 43 (mf_P_ofFilter z) := ev_sound (by decide +kernel) mg_P_ofFilter
def my_H_subscribe : MethodName := ⟨"MessageHub", "subscribe", "(IJIZ)Z"⟩
def mk_H_subscribe (z : Nat × Nat) : ev_C := [(0, ev_fn (ev_lload 2 1)), (1, ev_call (mf_T_read z) 1 4), (4, ev_fn (ev_lstore 6 6)), (6, ev_fn (ev_aload 0 7)), (7, ev_fn (ev_iload 1 8)), (8, ev_callR 0 (mf_H_canSend z) 2 11), (11, ev_fn (ev_ifeq 32 14)), (14, ev_fn (ev_lload 6 16)), (16, ev_call (mf_T_isFilter z) 1 19), (19, ev_fn (ev_ifeq 32 22)), (22, ev_fn (ev_iload 4 24)), (24, ev_fn (ev_ci 0 25)), (25, ev_fn (ev_ci 2 26)), (26, ev_call (mf_H_isWithin z) 3 29), (29, ev_fn (ev_ifne 34 32)), (32, ev_fn (ev_ci 0 33)), (33, ev_fn (ev_zret .boolean)), (34, ev_fn (ev_aload 0 35)), (35, ev_fn (ev_getf 0 0 38)), (38, ev_fn (ev_iload 1 39)), (39, ev_fn (ev_aaldR 40)), (40, ev_fn (ev_getf 1 0 43)), (43, ev_fn (ev_ci 8 45)), (45, ev_fn (ev_lload 6 47)), (47, ev_fn (ev_iload 4 49)), (49, ev_fn (ev_iload 5 51)), (51, ev_call (mf_P_ofFilter z) 4 54), (54, ev_callR 2 (mf_A_add z) 2 57), (57, ev_fn (ev_pop 58)), (58, ev_fn (ev_ci 1 59)), (59, ev_fn (ev_zret .boolean))]
def mf_H_subscribe (z : Nat × Nat) : ev_F := ev_met (mk_H_subscribe z) 8
set_option maxHeartbeats 4000000 in
set_option maxRecDepth 100000 in
theorem mg_H_subscribe : ev_AllG (ev_Good l vc_L vt_L (gw_G b Ls xs z) prog_1_method_7_code 8 (some .boolean) my_H_subscribe.name my_H_subscribe.cls tb_T 7 176) (mk_H_subscribe z) := by
  refine ⟨ok_lload_n (z := 2) (by decide +kernel) rfl, ?_⟩
  refine ⟨ok_callS (ix := 34) ms_T_read (tb_cwS tw_238 tw_239 tw_12 tw_240 (by decide +kernel) (by decide) (by decide)) (by decide +kernel), ?_⟩
  refine ⟨ok_lstore (by decide) (by decide +kernel), ?_⟩
  refine ⟨ok_aload_n (z := 0) (by decide +kernel) rfl, ?_⟩
  refine ⟨ok_iload_n (z := 1) (by decide +kernel) rfl, ?_⟩
  refine ⟨ok_callV (ix := 67) hc_0 ms_H_canSend (tb_cwV tw_400 tw_402 tv_3 tw_1 tw_403 (by decide +kernel) (by decide) (by decide)) (by decide +kernel), ?_⟩
  refine ⟨ok_ifeq (off := 21) (by decide +kernel) (by decide), ?_⟩
  refine ⟨ok_lload (by decide +kernel), ?_⟩
  refine ⟨ok_callS (ix := 85) ms_T_isFilter (tb_cwS tw_419 tw_420 tw_12 tw_421 (by decide +kernel) (by decide) (by decide)) (by decide +kernel), ?_⟩
  refine ⟨ok_ifeq (off := 13) (by decide +kernel) (by decide), ?_⟩
  refine ⟨ok_iload (by decide +kernel), ?_⟩
  refine ⟨ok_iconst (z := 0) (by decide +kernel) (by decide +kernel), ?_⟩
  refine ⟨ok_iconst (z := 2) (by decide +kernel) (by decide +kernel), ?_⟩
  refine ⟨ok_callS (ix := 56) ms_H_isWithin (tb_cwS tw_250 tw_245 tw_1 tw_246 (by decide +kernel) (by decide) (by decide)) (by decide +kernel), ?_⟩
  refine ⟨ok_ifne (off := 5) (by decide +kernel) (by decide), ?_⟩
  refine ⟨ok_iconst (z := 0) (by decide +kernel) (by decide +kernel), ?_⟩
  refine ⟨ok_zret rfl (by decide +kernel), ?_⟩
  refine ⟨ok_aload_n (z := 0) (by decide +kernel) rfl, ?_⟩
  refine ⟨ok_getf (ix := 11) hc_0 (by decide) hi_0 tw_224 (Or.inl rfl) (by decide +kernel), ?_⟩
  refine ⟨ok_iload_n (z := 1) (by decide +kernel) rfl, ?_⟩
  refine ⟨ok_aaldR (by decide +kernel), ?_⟩
  refine ⟨ok_getf (ix := 70) hc_1 (by decide) hi_1 tw_69 (Or.inl rfl) (by decide +kernel), ?_⟩
  refine ⟨ok_bipush (z := 8) (by decide +kernel) (by decide +kernel), ?_⟩
  refine ⟨ok_lload (by decide +kernel), ?_⟩
  refine ⟨ok_iload (by decide +kernel), ?_⟩
  refine ⟨ok_iload (by decide +kernel), ?_⟩
  refine ⟨ok_callS (ix := 88) ms_P_ofFilter (tb_cwS tw_425 tw_426 tw_13 tw_427 (by decide +kernel) (by decide) (by decide)) (by decide +kernel), ?_⟩
  refine ⟨ok_callV (ix := 79) hc_2 ms_A_add (tb_cwV tw_410 tw_325 tw_326 tw_5 tw_327 (by decide +kernel) (by decide) (by decide)) (by decide +kernel), ?_⟩
  refine ⟨ok_pop (by decide +kernel), ?_⟩
  refine ⟨ok_iconst (z := 1) (by decide +kernel) (by decide +kernel), ?_⟩
  refine ⟨ok_zret rfl (by decide +kernel), ?_⟩
  exact trivial
theorem ms_H_subscribe : ev_Met l vc_L vt_L (gw_G b Ls xs z) my_H_subscribe (Cond.code my_H_subscribe prog_1_method_7_code 8 (some .boolean) :: tb_T) 7 176 (mf_H_subscribe z) := ev_sound (by decide +kernel) mg_H_subscribe
def my_H_unsubscribe : MethodName := ⟨"MessageHub", "unsubscribe", "(IJ)Z"⟩
def mk_H_unsubscribe (z : Nat × Nat) : ev_C := [(0, ev_fn (ev_lload 2 1)), (1, ev_call (mf_T_read z) 1 4), (4, ev_fn (ev_lstore 4 6)), (6, ev_fn (ev_aload 0 7)), (7, ev_fn (ev_iload 1 8)), (8, ev_callR 0 (mf_H_canSend z) 2 11), (11, ev_fn (ev_ifeq 22 14)), (14, ev_fn (ev_lload 4 16)), (16, ev_call (mf_T_isFilter z) 1 19), (19, ev_fn (ev_ifne 24 22)), (22, ev_fn (ev_ci 0 23)), (23, ev_fn (ev_zret .boolean)), (24, ev_fn (ev_aload 0 25)), (25, ev_fn (ev_getf 0 0 28)), (28, ev_fn (ev_iload 1 29)), (29, ev_fn (ev_aaldR 30)), (30, ev_fn (ev_getf 1 0 33)), (33, ev_fn (ev_ci 10 35)), (35, ev_fn (ev_lload 4 37)), (37, ev_fn (ev_ci 0 38)), (38, ev_fn (ev_ci 0 39)), (39, ev_call (mf_P_ofFilter z) 4 42), (42, ev_callR 2 (mf_A_add z) 2 45), (45, ev_fn (ev_pop 46)), (46, ev_fn (ev_ci 1 47)), (47, ev_fn (ev_zret .boolean))]
def mf_H_unsubscribe (z : Nat × Nat) : ev_F := ev_met (mk_H_unsubscribe z) 6
set_option maxHeartbeats 4000000 in
set_option maxRecDepth 100000 in
theorem mg_H_unsubscribe : ev_AllG (ev_Good l vc_L vt_L (gw_G b Ls xs z) prog_1_method_8_code 6 (some .boolean) my_H_unsubscribe.name my_H_unsubscribe.cls tb_T 7 176) (mk_H_unsubscribe z) := by
  refine ⟨ok_lload_n (z := 2) (by decide +kernel) rfl, ?_⟩
  refine ⟨ok_callS (ix := 34) ms_T_read (tb_cwS tw_238 tw_239 tw_12 tw_240 (by decide +kernel) (by decide) (by decide)) (by decide +kernel), ?_⟩
  refine ⟨ok_lstore (by decide) (by decide +kernel), ?_⟩
  refine ⟨ok_aload_n (z := 0) (by decide +kernel) rfl, ?_⟩
  refine ⟨ok_iload_n (z := 1) (by decide +kernel) rfl, ?_⟩
  refine ⟨ok_callV (ix := 67) hc_0 ms_H_canSend (tb_cwV tw_400 tw_402 tv_3 tw_1 tw_403 (by decide +kernel) (by decide) (by decide)) (by decide +kernel), ?_⟩
  refine ⟨ok_ifeq (off := 11) (by decide +kernel) (by decide), ?_⟩
  refine ⟨ok_lload (by decide +kernel), ?_⟩
  refine ⟨ok_callS (ix := 85) ms_T_isFilter (tb_cwS tw_419 tw_420 tw_12 tw_421 (by decide +kernel) (by decide) (by decide)) (by decide +kernel), ?_⟩
  refine ⟨ok_ifne (off := 5) (by decide +kernel) (by decide), ?_⟩
  refine ⟨ok_iconst (z := 0) (by decide +kernel) (by decide +kernel), ?_⟩
  refine ⟨ok_zret rfl (by decide +kernel), ?_⟩
  refine ⟨ok_aload_n (z := 0) (by decide +kernel) rfl, ?_⟩
  refine ⟨ok_getf (ix := 11) hc_0 (by decide) hi_0 tw_224 (Or.inl rfl) (by decide +kernel), ?_⟩
  refine ⟨ok_iload_n (z := 1) (by decide +kernel) rfl, ?_⟩
  refine ⟨ok_aaldR (by decide +kernel), ?_⟩
  refine ⟨ok_getf (ix := 70) hc_1 (by decide) hi_1 tw_69 (Or.inl rfl) (by decide +kernel), ?_⟩
  refine ⟨ok_bipush (z := 10) (by decide +kernel) (by decide +kernel), ?_⟩
  refine ⟨ok_lload (by decide +kernel), ?_⟩
  refine ⟨ok_iconst (z := 0) (by decide +kernel) (by decide +kernel), ?_⟩
  refine ⟨ok_iconst (z := 0) (by decide +kernel) (by decide +kernel), ?_⟩
  refine ⟨ok_callS (ix := 88) ms_P_ofFilter (tb_cwS tw_425 tw_426 tw_13 tw_427 (by decide +kernel) (by decide) (by decide)) (by decide +kernel), ?_⟩
  refine ⟨ok_callV (ix := 79) hc_2 ms_A_add (tb_cwV tw_410 tw_325 tw_326 tw_5 tw_327 (by decide +kernel) (by decide) (by decide)) (by decide +kernel), ?_⟩
  refine ⟨ok_pop (by decide +kernel), ?_⟩
  refine ⟨ok_iconst (z := 1) (by decide +kernel) (by decide +kernel), ?_⟩
  refine ⟨ok_zret rfl (by decide +kernel), ?_⟩
  exact trivial
theorem ms_H_unsubscribe : ev_Met l vc_L vt_L (gw_G b Ls xs z) my_H_unsubscribe (Cond.code my_H_unsubscribe prog_1_method_8_code 6 (some .boolean) :: tb_T) 7 176 (mf_H_unsubscribe z) := ev_sound (by decide +kernel) mg_H_unsubscribe
def my_H_canKeep : MethodName := ⟨"MessageHub", "canKeep", "(I)Z"⟩
def mk_H_canKeep (z : Nat × Nat) : ev_C := [(0, ev_fn (ev_iload 1 1)), (1, ev_call (mf_H_isClient z) 1 4), (4, ev_fn (ev_ifeq 44 7)), (7, ev_fn (ev_aload 0 8)), (8, ev_fn (ev_getf 0 1 11)), (11, ev_fn (ev_iload 1 12)), (12, ev_fn (ev_aaldR 13)), (13, ev_fn (ev_getf 3 1 16)), (16, ev_callR 2 (mf_A_size z) 1 19), (19, ev_fn (ev_ci 4 20)), (20, ev_fn (ev_icmpge 44 23)), (23, ev_fn (ev_aload 0 24)), (24, ev_fn (ev_getf 0 0 27)), (27, ev_fn (ev_iload 1 28)), (28, ev_fn (ev_aaldR 29)), (29, ev_fn (ev_getf 1 0 32)), (32, ev_callR 2 (mf_A_size z) 1 35), (35, ev_fn (ev_ci 12 37)), (37, ev_fn (ev_icmpge 44 40)), (40, ev_fn (ev_ci 1 41)), (41, ev_fn (ev_goto 45)), (44, ev_fn (ev_ci 0 45)), (45, ev_fn (ev_zret .boolean))]
def mf_H_canKeep (z : Nat × Nat) : ev_F := ev_met (mk_H_canKeep z) 2
set_option maxHeartbeats 4000000 in
set_option maxRecDepth 100000 in
theorem mg_H_canKeep : ev_AllG (ev_Good l vc_L vt_L (gw_G b Ls xs z) prog_1_method_25_code 2 (some .boolean) my_H_canKeep.name my_H_canKeep.cls tb_T 2 42) (mk_H_canKeep z) := by
  refine ⟨ok_iload_n (z := 1) (by decide +kernel) rfl, ?_⟩
  refine ⟨ok_callS (ix := 40) ms_H_isClient (tb_cwS tw_247 tw_248 tw_1 tw_249 (by decide +kernel) (by decide) (by decide)) (by decide +kernel), ?_⟩
  refine ⟨ok_ifeq (off := 40) (by decide +kernel) (by decide), ?_⟩
  refine ⟨ok_aload_n (z := 0) (by decide +kernel) rfl, ?_⟩
  refine ⟨ok_getf (ix := 17) hc_0 (by decide) hi_0 tw_225 (Or.inl rfl) (by decide +kernel), ?_⟩
  refine ⟨ok_iload_n (z := 1) (by decide +kernel) rfl, ?_⟩
  refine ⟨ok_aaldR (by decide +kernel), ?_⟩
  refine ⟨ok_getf (ix := 188) hc_3 (by decide) hi_3 tw_106 (Or.inl rfl) (by decide +kernel), ?_⟩
  refine ⟨ok_callV (ix := 116) hc_2 ms_A_size (tb_cwV tw_404 tw_405 tw_406 tw_5 tw_407 (by decide +kernel) (by decide) (by decide)) (by decide +kernel), ?_⟩
  refine ⟨ok_iconst (z := 4) (by decide +kernel) (by decide +kernel), ?_⟩
  refine ⟨ok_icmpge (off := 24) (by decide +kernel) (by decide), ?_⟩
  refine ⟨ok_aload_n (z := 0) (by decide +kernel) rfl, ?_⟩
  refine ⟨ok_getf (ix := 11) hc_0 (by decide) hi_0 tw_224 (Or.inl rfl) (by decide +kernel), ?_⟩
  refine ⟨ok_iload_n (z := 1) (by decide +kernel) rfl, ?_⟩
  refine ⟨ok_aaldR (by decide +kernel), ?_⟩
  refine ⟨ok_getf (ix := 70) hc_1 (by decide) hi_1 tw_69 (Or.inl rfl) (by decide +kernel), ?_⟩
  refine ⟨ok_callV (ix := 116) hc_2 ms_A_size (tb_cwV tw_404 tw_405 tw_406 tw_5 tw_407 (by decide +kernel) (by decide) (by decide)) (by decide +kernel), ?_⟩
  refine ⟨ok_bipush (z := 12) (by decide +kernel) (by decide +kernel), ?_⟩
  refine ⟨ok_icmpge (off := 7) (by decide +kernel) (by decide), ?_⟩
  refine ⟨ok_iconst (z := 1) (by decide +kernel) (by decide +kernel), ?_⟩
  refine ⟨ok_goto (off := 4) (by decide +kernel) (by decide), ?_⟩
  refine ⟨ok_iconst (z := 0) (by decide +kernel) (by decide +kernel), ?_⟩
  refine ⟨ok_zret rfl (by decide +kernel), ?_⟩
  exact trivial
theorem ms_H_canKeep : ev_Met l vc_L vt_L (gw_G b Ls xs z) my_H_canKeep (Cond.code my_H_canKeep prog_1_method_25_code 2 (some .boolean) :: tb_T) 2 42 (mf_H_canKeep z) := ev_sound (by decide +kernel) mg_H_canKeep
def my_M_init : MethodName := ⟨"MessageHub$Message", "<init>", "(JIIZ)V"⟩
def mk_M_init (z : Nat × Nat) : ev_C := [(0, ev_fn (ev_aload 0 1)), (1, ev_fn (ev_obji 4)), (4, ev_fn (ev_aload 0 5)), (5, ev_fn (ev_lload 1 6)), (6, ev_fn (ev_putf 9 0 .long 9)), (9, ev_fn (ev_aload 0 10)), (10, ev_fn (ev_iload 3 11)), (11, ev_fn (ev_putf 9 1 .int 14)), (14, ev_fn (ev_aload 0 15)), (15, ev_fn (ev_iload 4 17)), (17, ev_fn (ev_putf 9 2 .int 20)), (20, ev_fn (ev_aload 0 21)), (21, ev_fn (ev_iload 5 23)), (23, ev_fn (ev_putf 9 3 .boolean 26)), (26, ev_fn ev_vret)]
def mf_M_init (z : Nat × Nat) : ev_F := ev_met (mk_M_init z) 6
set_option maxHeartbeats 4000000 in
set_option maxRecDepth 100000 in
theorem mg_M_init : ev_AllG (ev_Good l vc_L vt_L (gw_G b Ls xs z) prog_7_method_1_code 6 none my_M_init.name my_M_init.cls tb_T 1 20) (mk_M_init z) := by
  refine ⟨ok_aload_n (z := 0) (by decide +kernel) rfl, ?_⟩
  refine ⟨ok_obji (ix := 1) (by decide) (by decide) tw_445 tw_30 tw_31 (by decide +kernel), ?_⟩
  refine ⟨ok_aload_n (z := 0) (by decide +kernel) rfl, ?_⟩
  refine ⟨ok_lload_n (z := 1) (by decide +kernel) rfl, ?_⟩
  refine ⟨ok_putF (ix := 7) hc_9 (by decide) hi_9 ht_9 hn_9 tw_446 rfl rfl rfl rfl (by decide +kernel) (by decide +kernel), ?_⟩
  refine ⟨ok_aload_n (z := 0) (by decide +kernel) rfl, ?_⟩
  refine ⟨ok_iload_n (z := 3) (by decide +kernel) rfl, ?_⟩
  refine ⟨ok_putF (ix := 13) hc_9 (by decide) hi_9 ht_9 hn_9 tw_450 rfl rfl rfl rfl (by decide +kernel) (by decide +kernel), ?_⟩
  refine ⟨ok_aload_n (z := 0) (by decide +kernel) rfl, ?_⟩
  refine ⟨ok_iload (by decide +kernel), ?_⟩
  refine ⟨ok_putF (ix := 17) hc_9 (by decide) hi_9 ht_9 hn_9 tw_453 rfl rfl rfl rfl (by decide +kernel) (by decide +kernel), ?_⟩
  refine ⟨ok_aload_n (z := 0) (by decide +kernel) rfl, ?_⟩
  refine ⟨ok_iload (by decide +kernel), ?_⟩
  refine ⟨ok_putF (ix := 20) hc_9 (by decide) hi_9 ht_9 hn_9 tw_458 rfl rfl rfl rfl (by decide +kernel) (by decide +kernel), ?_⟩
  refine ⟨ok_vret rfl (by decide +kernel), ?_⟩
  exact trivial
theorem ms_M_init : ev_Met l vc_L vt_L (gw_G b Ls xs z) my_M_init (Cond.code my_M_init prog_7_method_1_code 6 none :: tb_T) 1 20 (mf_M_init z) := ev_sound (by decide +kernel) mg_M_init
def my_P_ofMessage : MethodName := ⟨"MessageHub$Packet", "ofMessage", "(LMessageHub$Message;IZ)LMessageHub$Packet;"⟩
def mk_P_ofMessage (z : Nat × Nat) : ev_C := [(0, ev_fn (ev_newo 8 10 ff_8 3)), (3, ev_fn (ev_dup 4)), (4, ev_fn (ev_ci 3 5)), (5, ev_fn (ev_iload 1 6)), (6, ev_fn (ev_aload 0 7)), (7, ev_fn (ev_getf 9 1 10)), (10, ev_callI (mf_P_init z) 4 13), (13, ev_fn (ev_astore 3 14)), (14, ev_fn (ev_aload 3 15)), (15, ev_fn (ev_aload 0 16)), (16, ev_fn (ev_getf 9 0 19)), (19, ev_fn (ev_putf 8 3 .long 22)), (22, ev_fn (ev_aload 3 23)), (23, ev_fn (ev_aload 0 24)), (24, ev_fn (ev_getf 9 2 27)), (27, ev_fn (ev_putf 8 4 .int 30)), (30, ev_fn (ev_aload 3 31)), (31, ev_fn (ev_iload 2 32)), (32, ev_fn (ev_putf 8 5 .boolean 35)), (35, ev_fn (ev_aload 3 36)), (36, ev_fn (ev_aload 0 37)), (37, ev_fn (ev_getf 9 3 40)), (40, ev_fn (ev_putf 8 6 .boolean 43)), (43, ev_fn (ev_aload 3 44)), (44, ev_fn ev_aret)]
def mf_P_ofMessage (z : Nat × Nat) : ev_F := ev_met (mk_P_ofMessage z) 4
set_option maxHeartbeats 4000000 in
set_option maxRecDepth 100000 in
theorem mg_P_ofMessage : ev_AllG (ev_Good l vc_L vt_L (gw_G b Ls xs z) prog_8_method_2_code 4 (some (.object "MessageHub$Packet")) my_P_ofMessage.name my_P_ofMessage.cls tb_T 2 43) (mk_P_ofMessage z) := by
  refine ⟨ok_newo (ix := 10) hc_8 hi_8 ht_8 hf_8 tw_272 tw_273 tw_13 (by decide +kernel), ?_⟩
  refine ⟨ok_dup (by decide +kernel), ?_⟩
  refine ⟨ok_iconst (z := 3) (by decide +kernel) (by decide +kernel), ?_⟩
  refine ⟨ok_iload_n (z := 1) (by decide +kernel) rfl, ?_⟩
  refine ⟨ok_aload_n (z := 0) (by decide +kernel) rfl, ?_⟩
  refine ⟨ok_getf (ix := 21) hc_9 (by decide) hi_9 tw_451 (Or.inl rfl) (by decide +kernel), ?_⟩
  refine ⟨ok_callI (ix := 24) ms_P_init (tb_cwI tw_274 tw_275 tw_13 tw_276 rfl (by decide +kernel) (by decide) (by decide)) (by decide +kernel), ?_⟩
  refine ⟨ok_astore_n (z := 3) (by decide) (by decide +kernel) rfl, ?_⟩
  refine ⟨ok_aload_n (z := 3) (by decide +kernel) rfl, ?_⟩
  refine ⟨ok_aload_n (z := 0) (by decide +kernel) rfl, ?_⟩
  refine ⟨ok_getf (ix := 27) hc_9 (by decide) hi_9 tw_447 (Or.inl rfl) (by decide +kernel), ?_⟩
  refine ⟨ok_putf (ix := 31) hc_8 (by decide) hi_8 ht_8 hn_8 tw_288 (Or.inl rfl) rfl (by decide +kernel) (by decide +kernel), ?_⟩
  refine ⟨ok_aload_n (z := 3) (by decide +kernel) rfl, ?_⟩
  refine ⟨ok_aload_n (z := 0) (by decide +kernel) rfl, ?_⟩
  refine ⟨ok_getf (ix := 34) hc_9 (by decide) hi_9 tw_454 (Or.inl rfl) (by decide +kernel), ?_⟩
  refine ⟨ok_putf (ix := 37) hc_8 (by decide) hi_8 ht_8 hn_8 tw_291 (Or.inl rfl) rfl (by decide +kernel) (by decide +kernel), ?_⟩
  refine ⟨ok_aload_n (z := 3) (by decide +kernel) rfl, ?_⟩
  refine ⟨ok_iload_n (z := 2) (by decide +kernel) rfl, ?_⟩
  refine ⟨ok_putf (ix := 38) hc_8 (by decide) hi_8 ht_8 hn_8 tw_294 (Or.inl rfl) rfl (by decide +kernel) (by decide +kernel), ?_⟩
  refine ⟨ok_aload_n (z := 3) (by decide +kernel) rfl, ?_⟩
  refine ⟨ok_aload_n (z := 0) (by decide +kernel) rfl, ?_⟩
  refine ⟨ok_getf (ix := 42) hc_9 (by decide) hi_9 tw_459 (Or.inl rfl) (by decide +kernel), ?_⟩
  refine ⟨ok_putf (ix := 45) hc_8 (by decide) hi_8 ht_8 hn_8 tw_295 (Or.inl rfl) rfl (by decide +kernel) (by decide +kernel), ?_⟩
  refine ⟨ok_aload_n (z := 3) (by decide +kernel) rfl, ?_⟩
  refine ⟨ok_aret rfl (Or.inl ⟨_, rfl⟩) (by decide +kernel), ?_⟩
  exact trivial
theorem ms_P_ofMessage : ev_Met l vc_L vt_L (gw_G b Ls xs z) my_P_ofMessage (Cond.code my_P_ofMessage prog_8_method_2_code 4 (some (.object "MessageHub$Packet")) :: tb_T) 2 43 (mf_P_ofMessage z) := ev_sound (by decide +kernel) mg_P_ofMessage
def my_R_init : MethodName := ⟨"MessageHub$Parcel", "<init>", "(LMessageHub$Message;)V"⟩
def mk_R_init (z : Nat × Nat) : ev_C := [(0, ev_fn (ev_aload 0 1)), (1, ev_fn (ev_obji 4)), (4, ev_fn (ev_aload 0 5)), (5, ev_fn (ev_ci 0 6)), (6, ev_fn (ev_putf 10 1 .int 9)), (9, ev_fn (ev_aload 0 10)), (10, ev_fn (ev_aload 1 11)), (11, ev_fn (ev_putf 10 0 (.object "MessageHub$Message") 14)), (14, ev_fn ev_vret)]
def mf_R_init (z : Nat × Nat) : ev_F := ev_met (mk_R_init z) 2
set_option maxHeartbeats 4000000 in
set_option maxRecDepth 100000 in
theorem mg_R_init : ev_AllG (ev_Good l vc_L vt_L (gw_G b Ls xs z) prog_9_method_1_code 2 none my_R_init.name my_R_init.cls tb_T 1 20) (mk_R_init z) := by
  refine ⟨ok_aload_n (z := 0) (by decide +kernel) rfl, ?_⟩
  refine ⟨ok_obji (ix := 3) (by decide) (by decide) tw_482 tw_30 tw_31 (by decide +kernel), ?_⟩
  refine ⟨ok_aload_n (z := 0) (by decide +kernel) rfl, ?_⟩
  refine ⟨ok_iconst (z := 0) (by decide +kernel) (by decide +kernel), ?_⟩
  refine ⟨ok_putf (ix := 9) hc_10 (by decide) hi_10 ht_10 hn_10 tw_486 (Or.inl rfl) rfl (by decide +kernel) (by decide +kernel), ?_⟩
  refine ⟨ok_aload_n (z := 0) (by decide +kernel) rfl, ?_⟩
  refine ⟨ok_aload_n (z := 1) (by decide +kernel) rfl, ?_⟩
  refine ⟨ok_putF (ix := 15) hc_10 (by decide) hi_10 ht_10 hn_10 tw_483 rfl rfl rfl rfl (by decide +kernel) (by decide +kernel), ?_⟩
  refine ⟨ok_vret rfl (by decide +kernel), ?_⟩
  exact trivial
theorem ms_R_init : ev_Met l vc_L vt_L (gw_G b Ls xs z) my_R_init (Cond.code my_R_init prog_9_method_1_code 2 none :: tb_T) 1 20 (mf_R_init z) := ev_sound (by decide +kernel) mg_R_init
def my_JP_checkIndex : MethodName := ⟨"jdk/internal/util/Preconditions", "checkIndex", "(IILjava/util/function/BiFunction;)I"⟩
def mk_JP_checkIndex (z : Nat × Nat) : ev_C := [(0, ev_fn (ev_iload 0 1)), (1, ev_fn (ev_iflt 9 4)), (4, ev_fn (ev_iload 0 5)), (5, ev_fn (ev_iload 1 6)), (6, ev_fn (ev_icmplt 16 9)), (9, ev_fn (ev_aload 2 10)), (10, ev_fn (ev_iload 0 11)), (11, ev_fn (ev_iload 1 12)), (16, ev_fn (ev_iload 0 17)), (17, ev_fn ev_iret)]
def mf_JP_checkIndex (z : Nat × Nat) : ev_F := ev_met (mk_JP_checkIndex z) 3
set_option maxHeartbeats 4000000 in
set_option maxRecDepth 100000 in
theorem mg_JP_checkIndex : ev_AllG (ev_Good l vc_L vt_L (gw_G b Ls xs z) prog_31_method_11_code 3 (some .int) my_JP_checkIndex.name my_JP_checkIndex.cls tb_T 0 0) (mk_JP_checkIndex z) := by
  refine ⟨ok_iload_n (z := 0) (by decide +kernel) rfl, ?_⟩
  refine ⟨ok_iflt (off := 8) (by decide +kernel) (by decide), ?_⟩
  refine ⟨ok_iload_n (z := 0) (by decide +kernel) rfl, ?_⟩
  refine ⟨ok_iload_n (z := 1) (by decide +kernel) rfl, ?_⟩
  refine ⟨ok_icmplt (off := 10) (by decide +kernel) (by decide), ?_⟩
  refine ⟨ok_aload_n (z := 2) (by decide +kernel) rfl, ?_⟩
  refine ⟨ok_iload_n (z := 0) (by decide +kernel) rfl, ?_⟩
  refine ⟨ok_iload_n (z := 1) (by decide +kernel) rfl, ?_⟩
  refine ⟨ok_iload_n (z := 0) (by decide +kernel) rfl, ?_⟩
  refine ⟨ok_iret rfl (by decide +kernel), ?_⟩
  exact trivial
theorem ms_JP_checkIndex : ev_Met l vc_L vt_L (gw_G b Ls xs z) my_JP_checkIndex (Cond.code my_JP_checkIndex prog_31_method_11_code 3 (some .int) :: tb_T) 0 0 (mf_JP_checkIndex z) := ev_sound (by decide +kernel) mg_JP_checkIndex
def my_JO_checkIndex : MethodName := ⟨"java/util/Objects", "checkIndex", "(II)I"⟩
def mk_JO_checkIndex (z : Nat × Nat) : ev_C := [(0, ev_fn (ev_iload 0 1)), (1, ev_fn (ev_iload 1 2)), (2, ev_fn (ev_null 3)), (3, ev_call (mf_JP_checkIndex z) 3 6), (6, ev_fn ev_iret)]
def mf_JO_checkIndex (z : Nat × Nat) : ev_F := ev_met (mk_JO_checkIndex z) 2
set_option maxHeartbeats 4000000 in
set_option maxRecDepth 100000 in
theorem mg_JO_checkIndex : ev_AllG (ev_Good l vc_L vt_L (gw_G b Ls xs z) prog_27_method_17_code 2 (some .int) my_JO_checkIndex.name my_JO_checkIndex.cls tb_T 1 22) (mk_JO_checkIndex z) := by
  refine ⟨ok_iload_n (z := 0) (by decide +kernel) rfl, ?_⟩
  refine ⟨ok_iload_n (z := 1) (by decide +kernel) rfl, ?_⟩
  refine ⟨ok_null (by decide +kernel), ?_⟩
  refine ⟨ok_callS (ix := 105) ms_JP_checkIndex (tb_cwS tw_513 tw_514 tw_21 tw_515 (by decide +kernel) (by decide) (by decide)) (by decide +kernel), ?_⟩
  refine ⟨ok_iret rfl (by decide +kernel), ?_⟩
  exact trivial
theorem ms_JO_checkIndex : ev_Met l vc_L vt_L (gw_G b Ls xs z) my_JO_checkIndex (Cond.code my_JO_checkIndex prog_27_method_17_code 2 (some .int) :: tb_T) 1 22 (mf_JO_checkIndex z) := ev_sound (by decide +kernel) mg_JO_checkIndex
def my_A_elementData : MethodName := ⟨"java/util/ArrayList", "elementData", "(I)Ljava/lang/Object;"⟩
def mk_A_elementData (z : Nat × Nat) : ev_C := [(0, ev_fn (ev_aload 0 1)), (1, ev_fn (ev_getf 2 0 4)), (4, ev_fn (ev_iload 1 5)), (5, ev_fn (ev_aaldR 6)), (6, ev_fn ev_aret)]
def mf_A_elementData (z : Nat × Nat) : ev_F := ev_met (mk_A_elementData z) 2
set_option maxHeartbeats 4000000 in
set_option maxRecDepth 100000 in
theorem mg_A_elementData : ev_AllG (ev_Good l vc_L vt_L (gw_G b Ls xs z) prog_23_method_18_code 2 (some (.object "java/lang/Object")) my_A_elementData.name my_A_elementData.cls tb_T 0 0) (mk_A_elementData z) := by
  refine ⟨ok_aload_n (z := 0) (by decide +kernel) rfl, ?_⟩
  refine ⟨ok_getf (ix := 9) hc_2 (by decide) hi_2 tw_55 (Or.inl rfl) (by decide +kernel), ?_⟩
  refine ⟨ok_iload_n (z := 1) (by decide +kernel) rfl, ?_⟩
  refine ⟨ok_aaldR (by decide +kernel), ?_⟩
  refine ⟨ok_aret rfl (Or.inl ⟨_, rfl⟩) (by decide +kernel), ?_⟩
  exact trivial
theorem ms_A_elementData : ev_Met l vc_L vt_L (gw_G b Ls xs z) my_A_elementData (Cond.code my_A_elementData prog_23_method_18_code 2 (some (.object "java/lang/Object")) :: tb_T) 0 0 (mf_A_elementData z) := ev_sound (by decide +kernel) mg_A_elementData
def my_A_get : MethodName := ⟨"java/util/ArrayList", "get", "(I)Ljava/lang/Object;"⟩
def mk_A_get (z : Nat × Nat) : ev_C := [(0, ev_fn (ev_iload 1 1)), (1, ev_fn (ev_aload 0 2)), (2, ev_fn (ev_getf 2 1 5)), (5, ev_call (mf_JO_checkIndex z) 2 8), (8, ev_fn (ev_pop 9)), (9, ev_fn (ev_aload 0 10)), (10, ev_fn (ev_iload 1 11)), (11, ev_callR 2 (mf_A_elementData z) 2 14), (14, ev_fn ev_aret)]
def mf_A_get (z : Nat × Nat) : ev_F := ev_met (mk_A_get z) 2
set_option maxHeartbeats 4000000 in
set_option maxRecDepth 100000 in
theorem mg_A_get : ev_AllG (ev_Good l vc_L vt_L (gw_G b Ls xs z) prog_23_method_20_code 2 (some (.object "java/lang/Object")) my_A_get.name my_A_get.cls tb_T 2 43) (mk_A_get z) := by
  refine ⟨ok_iload_n (z := 1) (by decide +kernel) rfl, ?_⟩
  refine ⟨ok_aload_n (z := 0) (by decide +kernel) rfl, ?_⟩
  refine ⟨ok_getf (ix := 48) hc_2 (by decide) hi_2 tw_56 (Or.inl rfl) (by decide +kernel), ?_⟩
  refine ⟨ok_callS (ix := 118) ms_JO_checkIndex (tb_cwS tw_510 tw_511 tw_20 tw_512 (by decide +kernel) (by decide) (by decide)) (by decide +kernel), ?_⟩
  refine ⟨ok_pop (by decide +kernel), ?_⟩
  refine ⟨ok_aload_n (z := 0) (by decide +kernel) rfl, ?_⟩
  refine ⟨ok_iload_n (z := 1) (by decide +kernel) rfl, ?_⟩
  refine ⟨ok_callV (ix := 123) hc_2 ms_A_elementData (tb_cwV tw_516 tw_517 tw_518 tw_5 tw_519 (by decide +kernel) (by decide) (by decide)) (by decide +kernel), ?_⟩
  refine ⟨ok_aret rfl (Or.inl ⟨_, rfl⟩) (by decide +kernel), ?_⟩
  exact trivial
theorem ms_A_get : ev_Met l vc_L vt_L (gw_G b Ls xs z) my_A_get (Cond.code my_A_get prog_23_method_20_code 2 (some (.object "java/lang/Object")) :: tb_T) 2 43 (mf_A_get z) := ev_sound (by decide +kernel) mg_A_get
def my_R_countUnderWay : MethodName := ⟨"MessageHub$Parcel", "countUnderWay", "(Ljava/util/ArrayList;)I"⟩
def mk_R_countUnderWay (z : Nat × Nat) : ev_C := [(0, ev_fn (ev_ci 0 1)), (1, ev_fn (ev_istore 1 2)), (2, ev_fn (ev_ci 0 3)), (3, ev_fn (ev_istore 2 4)), (4, ev_fn (ev_iload 2 5)), (5, ev_fn (ev_aload 0 6)), (6, ev_callR 2 (mf_A_size z) 1 9), (9, ev_fn (ev_icmpge 35 12)), (12, ev_fn (ev_aload 0 13)), (13, ev_fn (ev_iload 2 14)), (14, ev_callR 2 (mf_A_get z) 2 17), (17, ev_fn (ev_castS 10 20)), (20, ev_fn (ev_getf 10 1 23)), (23, ev_fn (ev_ifeq 29 26)), (26, ev_fn (ev_iinc 1 1 29)), (29, ev_fn (ev_iinc 2 1 32)), (32, ev_fn (ev_goto 4)), (35, ev_fn (ev_iload 1 36)), (36, ev_fn ev_iret)]
def mf_R_countUnderWay (z : Nat × Nat) : ev_F := ev_met (mk_R_countUnderWay z) 3
set_option maxHeartbeats 4000000 in
set_option maxRecDepth 100000 in
theorem mg_R_countUnderWay : ev_AllG (ev_Good l vc_L vt_L (gw_G b Ls xs z) prog_9_method_5_code 3 (some .int) my_R_countUnderWay.name my_R_countUnderWay.cls tb_T 3 64) (mk_R_countUnderWay z) := by
  refine ⟨ok_iconst (z := 0) (by decide +kernel) (by decide +kernel), ?_⟩
  refine ⟨ok_istore_n (z := 1) (by decide) (by decide +kernel) rfl, ?_⟩
  refine ⟨ok_iconst (z := 0) (by decide +kernel) (by decide +kernel), ?_⟩
  refine ⟨ok_istore_n (z := 2) (by decide) (by decide +kernel) rfl, ?_⟩
  refine ⟨ok_iload_n (z := 2) (by decide +kernel) rfl, ?_⟩
  refine ⟨ok_aload_n (z := 0) (by decide +kernel) rfl, ?_⟩
  refine ⟨ok_callV (ix := 31) hc_2 ms_A_size (tb_cwV tw_505 tw_405 tw_406 tw_5 tw_407 (by decide +kernel) (by decide) (by decide)) (by decide +kernel), ?_⟩
  refine ⟨ok_icmpge (off := 26) (by decide +kernel) (by decide), ?_⟩
  refine ⟨ok_aload_n (z := 0) (by decide +kernel) rfl, ?_⟩
  refine ⟨ok_iload_n (z := 2) (by decide +kernel) rfl, ?_⟩
  refine ⟨ok_callV (ix := 37) hc_2 ms_A_get (tb_cwV tw_506 tw_507 tw_508 tw_5 tw_509 (by decide +kernel) (by decide) (by decide)) (by decide +kernel), ?_⟩
  refine ⟨ok_castS (ix := 10) hc_10 tw_520 (by decide +kernel), ?_⟩
  refine ⟨ok_getf (ix := 9) hc_10 (by decide) hi_10 tw_486 (Or.inl rfl) (by decide +kernel), ?_⟩
  refine ⟨ok_ifeq (off := 6) (by decide +kernel) (by decide), ?_⟩
  refine ⟨ok_iinc (z := 1) (by decide) (by decide +kernel) (by decide +kernel), ?_⟩
  refine ⟨ok_iinc (z := 1) (by decide) (by decide +kernel) (by decide +kernel), ?_⟩
  refine ⟨ok_goto (off := (-28)) (by decide +kernel) (by decide), ?_⟩
  refine ⟨ok_iload_n (z := 1) (by decide +kernel) rfl, ?_⟩
  refine ⟨ok_iret rfl (by decide +kernel), ?_⟩
  exact trivial
theorem ms_R_countUnderWay : ev_Met l vc_L vt_L (gw_G b Ls xs z) my_R_countUnderWay (Cond.code my_R_countUnderWay prog_9_method_5_code 3 (some .int) :: tb_T) 3 64 (mf_R_countUnderWay z) := ev_sound (by decide +kernel) mg_R_countUnderWay
def my_R_leastFreeId : MethodName := ⟨"MessageHub$Parcel", "leastFreeId", "(Ljava/util/ArrayList;)I"⟩
def mk_R_leastFreeId (z : Nat × Nat) : ev_C := [(0, ev_fn (ev_ci 0 1)), (1, ev_fn (ev_istore 1 2)), (2, ev_fn (ev_ci 0 3)), (3, ev_fn (ev_istore 2 4)), (4, ev_fn (ev_iload 2 5)), (5, ev_fn (ev_aload 0 6)), (6, ev_callR 2 (mf_A_size z) 1 9), (9, ev_fn (ev_icmpge 34 12)), (12, ev_fn (ev_iload 1 13)), (13, ev_fn (ev_ci 1 14)), (14, ev_fn (ev_aload 0 15)), (15, ev_fn (ev_iload 2 16)), (16, ev_callR 2 (mf_A_get z) 2 19), (19, ev_fn (ev_castS 10 22)), (22, ev_fn (ev_getf 10 2 25)), (25, ev_fn (ev_ishl 26)), (26, ev_fn (ev_ior 27)), (27, ev_fn (ev_istore 1 28)), (28, ev_fn (ev_iinc 2 1 31)), (31, ev_fn (ev_goto 4)), (34, ev_fn (ev_ci 1 35)), (35, ev_fn (ev_istore 2 36)), (36, ev_fn (ev_iload 2 37)), (37, ev_fn (ev_ci 8 39)), (39, ev_fn (ev_icmpge 58 42)), (42, ev_fn (ev_iload 1 43)), (43, ev_fn (ev_ci 1 44)), (44, ev_fn (ev_iload 2 45)), (45, ev_fn (ev_ishl 46)), (46, ev_fn (ev_iand 47)), (47, ev_fn (ev_ifne 52 50)), (50, ev_fn (ev_iload 2 51)), (51, ev_fn ev_iret), (52, ev_fn (ev_iinc 2 1 55)), (55, ev_fn (ev_goto 36)), (58, ev_fn (ev_ci 8 60)), (60, ev_fn ev_iret)]
def mf_R_leastFreeId (z : Nat × Nat) : ev_F := ev_met (mk_R_leastFreeId z) 3
set_option maxHeartbeats 4000000 in
set_option maxRecDepth 100000 in
theorem mg_R_leastFreeId : ev_AllG (ev_Good l vc_L vt_L (gw_G b Ls xs z) prog_9_method_6_code 3 (some .int) my_R_leastFreeId.name my_R_leastFreeId.cls tb_T 3 64) (mk_R_leastFreeId z) := by
  refine ⟨ok_iconst (z := 0) (by decide +kernel) (by decide +kernel), ?_⟩
  refine ⟨ok_istore_n (z := 1) (by decide) (by decide +kernel) rfl, ?_⟩
  refine ⟨ok_iconst (z := 0) (by decide +kernel) (by decide +kernel), ?_⟩
  refine ⟨ok_istore_n (z := 2) (by decide) (by decide +kernel) rfl, ?_⟩
  refine ⟨ok_iload_n (z := 2) (by decide +kernel) rfl, ?_⟩
  refine ⟨ok_aload_n (z := 0) (by decide +kernel) rfl, ?_⟩
  refine ⟨ok_callV (ix := 31) hc_2 ms_A_size (tb_cwV tw_505 tw_405 tw_406 tw_5 tw_407 (by decide +kernel) (by decide) (by decide)) (by decide +kernel), ?_⟩
  refine ⟨ok_icmpge (off := 25) (by decide +kernel) (by decide), ?_⟩
  refine ⟨ok_iload_n (z := 1) (by decide +kernel) rfl, ?_⟩
  refine ⟨ok_iconst (z := 1) (by decide +kernel) (by decide +kernel), ?_⟩
  refine ⟨ok_aload_n (z := 0) (by decide +kernel) rfl, ?_⟩
  refine ⟨ok_iload_n (z := 2) (by decide +kernel) rfl, ?_⟩
  refine ⟨ok_callV (ix := 37) hc_2 ms_A_get (tb_cwV tw_506 tw_507 tw_508 tw_5 tw_509 (by decide +kernel) (by decide) (by decide)) (by decide +kernel), ?_⟩
  refine ⟨ok_castS (ix := 10) hc_10 tw_520 (by decide +kernel), ?_⟩
  refine ⟨ok_getf (ix := 19) hc_10 (by decide) hi_10 tw_488 (Or.inl rfl) (by decide +kernel), ?_⟩
  refine ⟨ok_ishl (by decide +kernel), ?_⟩
  refine ⟨ok_ior (by decide +kernel), ?_⟩
  refine ⟨ok_istore_n (z := 1) (by decide) (by decide +kernel) rfl, ?_⟩
  refine ⟨ok_iinc (z := 1) (by decide) (by decide +kernel) (by decide +kernel), ?_⟩
  refine ⟨ok_goto (off := (-27)) (by decide +kernel) (by decide), ?_⟩
  refine ⟨ok_iconst (z := 1) (by decide +kernel) (by decide +kernel), ?_⟩
  refine ⟨ok_istore_n (z := 2) (by decide) (by decide +kernel) rfl, ?_⟩
  refine ⟨ok_iload_n (z := 2) (by decide +kernel) rfl, ?_⟩
  refine ⟨ok_bipush (z := 8) (by decide +kernel) (by decide +kernel), ?_⟩
  refine ⟨ok_icmpge (off := 19) (by decide +kernel) (by decide), ?_⟩
  refine ⟨ok_iload_n (z := 1) (by decide +kernel) rfl, ?_⟩
  refine ⟨ok_iconst (z := 1) (by decide +kernel) (by decide +kernel), ?_⟩
  refine ⟨ok_iload_n (z := 2) (by decide +kernel) rfl, ?_⟩
  refine ⟨ok_ishl (by decide +kernel), ?_⟩
  refine ⟨ok_iand (by decide +kernel), ?_⟩
  refine ⟨ok_ifne (off := 5) (by decide +kernel) (by decide), ?_⟩
  refine ⟨ok_iload_n (z := 2) (by decide +kernel) rfl, ?_⟩
  refine ⟨ok_iret rfl (by decide +kernel), ?_⟩
  refine ⟨ok_iinc (z := 1) (by decide) (by decide +kernel) (by decide +kernel), ?_⟩
  refine ⟨ok_goto (off := (-19)) (by decide +kernel) (by decide), ?_⟩
  refine ⟨ok_bipush (z := 8) (by decide +kernel) (by decide +kernel), ?_⟩
  refine ⟨ok_iret rfl (by decide +kernel), ?_⟩
  exact trivial
theorem ms_R_leastFreeId : ev_Met l vc_L vt_L (gw_G b Ls xs z) my_R_leastFreeId (Cond.code my_R_leastFreeId prog_9_method_6_code 3 (some .int) :: tb_T) 3 64 (mf_R_leastFreeId z) := ev_sound (by decide +kernel) mg_R_leastFreeId
def my_R_start : MethodName := ⟨"MessageHub$Parcel", "start", "(I)V"⟩
def mk_R_start (z : Nat × Nat) : ev_C := [(0, ev_fn (ev_aload 0 1)), (1, ev_fn (ev_ci 1 2)), (2, ev_fn (ev_putf 10 1 .int 5)), (5, ev_fn (ev_aload 0 6)), (6, ev_fn (ev_iload 1 7)), (7, ev_fn (ev_putf 10 2 .int 10)), (10, ev_fn ev_vret)]
def mf_R_start (z : Nat × Nat) : ev_F := ev_met (mk_R_start z) 2
set_option maxHeartbeats 4000000 in
set_option maxRecDepth 100000 in
theorem mg_R_start : ev_AllG (ev_Good l vc_L vt_L (gw_G b Ls xs z) prog_9_method_2_code 2 none my_R_start.name my_R_start.cls tb_T 0 0) (mk_R_start z) := by
  refine ⟨ok_aload_n (z := 0) (by decide +kernel) rfl, ?_⟩
  refine ⟨ok_iconst (z := 1) (by decide +kernel) (by decide +kernel), ?_⟩
  refine ⟨ok_putf (ix := 9) hc_10 (by decide) hi_10 ht_10 hn_10 tw_486 (Or.inl rfl) rfl (by decide +kernel) (by decide +kernel), ?_⟩
  refine ⟨ok_aload_n (z := 0) (by decide +kernel) rfl, ?_⟩
  refine ⟨ok_iload_n (z := 1) (by decide +kernel) rfl, ?_⟩
  refine ⟨ok_putf (ix := 19) hc_10 (by decide) hi_10 ht_10 hn_10 tw_488 (Or.inl rfl) rfl (by decide +kernel) (by decide +kernel), ?_⟩
  refine ⟨ok_vret rfl (by decide +kernel), ?_⟩
  exact trivial
theorem ms_R_start : ev_Met l vc_L vt_L (gw_G b Ls xs z) my_R_start (Cond.code my_R_start prog_9_method_2_code 2 none :: tb_T) 0 0 (mf_R_start z) := ev_sound (by decide +kernel) mg_R_start
end MT
